section
-- ===== PART A: goes FIRST, ahead of the names: the tables' words, and 'selects' of the private methods out of them =====
/-- a private method of a class that the tables say can be made, by its rows of tables_1 -/
def lw_okq (q : MethodName × Nat) : Prop := (q.1.cls ≠ "java/lang/invoke/MethodHandle" ∧ q.1.cls ≠ "java/lang/invoke/VarHandle") ∧ Cond.instantiable q.1.cls q.2 ∈ tables_1 ∧ Cond.privateMethod q.1 ∈ tables_1 ∧ Cond.instanceMethod q.1 ∈ tables_1
theorem lw_p0 : lw_okq (⟨"java/lang/Throwable", "fillInStackTrace", "(I)Ljava/lang/Throwable;"⟩, 6) := ⟨⟨by decide +kernel, by decide +kernel⟩, List.mem_of_getElem? (i := 428) (by decide +kernel), List.mem_of_getElem? (i := 426) (by decide +kernel), List.mem_of_getElem? (i := 427) (by decide +kernel)⟩
theorem lw_p1 : lw_okq (⟨"SnapForge$Engine", "perform", "(LSnapForge$Strand;LSnapForge$Frame;I)I"⟩, 5) := ⟨⟨by decide +kernel, by decide +kernel⟩, List.mem_of_getElem? (i := 72) (by decide +kernel), List.mem_of_getElem? (i := 566) (by decide +kernel), List.mem_of_getElem? (i := 567) (by decide +kernel)⟩
theorem lw_p2 : lw_okq (⟨"SnapForge$Engine", "branch", "(LSnapForge$Frame;I)I"⟩, 5) := ⟨⟨by decide +kernel, by decide +kernel⟩, List.mem_of_getElem? (i := 72) (by decide +kernel), List.mem_of_getElem? (i := 576) (by decide +kernel), List.mem_of_getElem? (i := 577) (by decide +kernel)⟩
theorem lw_p3 : lw_okq (⟨"SnapForge$Engine", "enter", "(LSnapForge$Strand;LSnapForge$Frame;II)I"⟩, 5) := ⟨⟨by decide +kernel, by decide +kernel⟩, List.mem_of_getElem? (i := 72) (by decide +kernel), List.mem_of_getElem? (i := 584) (by decide +kernel), List.mem_of_getElem? (i := 585) (by decide +kernel)⟩
theorem lw_p4 : lw_okq (⟨"SnapForge$Engine", "applyClosure", "(LSnapForge$Strand;LSnapForge$Frame;)I"⟩, 5) := ⟨⟨by decide +kernel, by decide +kernel⟩, List.mem_of_getElem? (i := 72) (by decide +kernel), List.mem_of_getElem? (i := 596) (by decide +kernel), List.mem_of_getElem? (i := 597) (by decide +kernel)⟩
theorem lw_p5 : lw_okq (⟨"SnapForge$Engine", "leave", "(LSnapForge$Strand;LSnapForge$Frame;)I"⟩, 5) := ⟨⟨by decide +kernel, by decide +kernel⟩, List.mem_of_getElem? (i := 72) (by decide +kernel), List.mem_of_getElem? (i := 603) (by decide +kernel), List.mem_of_getElem? (i := 604) (by decide +kernel)⟩
theorem lw_p6 : lw_okq (⟨"SnapForge$Engine", "performOnObjects", "(LSnapForge$Frame;III)I"⟩, 5) := ⟨⟨by decide +kernel, by decide +kernel⟩, List.mem_of_getElem? (i := 72) (by decide +kernel), List.mem_of_getElem? (i := 617) (by decide +kernel), List.mem_of_getElem? (i := 618) (by decide +kernel)⟩
theorem lw_p7 : lw_okq (⟨"SnapForge$Engine", "makeRecord", "(LSnapForge$Frame;)I"⟩, 5) := ⟨⟨by decide +kernel, by decide +kernel⟩, List.mem_of_getElem? (i := 72) (by decide +kernel), List.mem_of_getElem? (i := 645) (by decide +kernel), List.mem_of_getElem? (i := 646) (by decide +kernel)⟩
theorem lw_p8 : lw_okq (⟨"SnapForge$Engine", "getField", "(LSnapForge$Frame;I)I"⟩, 5) := ⟨⟨by decide +kernel, by decide +kernel⟩, List.mem_of_getElem? (i := 72) (by decide +kernel), List.mem_of_getElem? (i := 660) (by decide +kernel), List.mem_of_getElem? (i := 661) (by decide +kernel)⟩
theorem lw_p9 : lw_okq (⟨"SnapForge$Engine", "putField", "(LSnapForge$Frame;I)I"⟩, 5) := ⟨⟨by decide +kernel, by decide +kernel⟩, List.mem_of_getElem? (i := 72) (by decide +kernel), List.mem_of_getElem? (i := 665) (by decide +kernel), List.mem_of_getElem? (i := 666) (by decide +kernel)⟩
theorem lw_p10 : lw_okq (⟨"SnapForge$Engine", "makeClosure", "(LSnapForge$Frame;II)I"⟩, 5) := ⟨⟨by decide +kernel, by decide +kernel⟩, List.mem_of_getElem? (i := 72) (by decide +kernel), List.mem_of_getElem? (i := 669) (by decide +kernel), List.mem_of_getElem? (i := 670) (by decide +kernel)⟩
theorem lw_p11 : lw_okq (⟨"SnapForge$Engine", "pushHeld", "(LSnapForge$Frame;I)I"⟩, 5) := ⟨⟨by decide +kernel, by decide +kernel⟩, List.mem_of_getElem? (i := 72) (by decide +kernel), List.mem_of_getElem? (i := 673) (by decide +kernel), List.mem_of_getElem? (i := 674) (by decide +kernel)⟩
theorem lw_p12 : lw_okq (⟨"SnapForge$Engine", "performInLine", "(LSnapForge$Frame;III)I"⟩, 5) := ⟨⟨by decide +kernel, by decide +kernel⟩, List.mem_of_getElem? (i := 72) (by decide +kernel), List.mem_of_getElem? (i := 680) (by decide +kernel), List.mem_of_getElem? (i := 681) (by decide +kernel)⟩
theorem lw_p13 : lw_okq (⟨"SnapForge$Engine", "compute", "(LSnapForge$Frame;I)I"⟩, 5) := ⟨⟨by decide +kernel, by decide +kernel⟩, List.mem_of_getElem? (i := 72) (by decide +kernel), List.mem_of_getElem? (i := 684) (by decide +kernel), List.mem_of_getElem? (i := 685) (by decide +kernel)⟩
theorem lw_p14 : lw_okq (⟨"SnapForge$Engine", "compare", "(LSnapForge$Frame;)I"⟩, 5) := ⟨⟨by decide +kernel, by decide +kernel⟩, List.mem_of_getElem? (i := 72) (by decide +kernel), List.mem_of_getElem? (i := 695) (by decide +kernel), List.mem_of_getElem? (i := 696) (by decide +kernel)⟩
theorem lw_p15 : lw_okq (⟨"SnapForge$Engine", "answer", "(LSnapForge$Frame;Z)I"⟩, 5) := ⟨⟨by decide +kernel, by decide +kernel⟩, List.mem_of_getElem? (i := 72) (by decide +kernel), List.mem_of_getElem? (i := 699) (by decide +kernel), List.mem_of_getElem? (i := 700) (by decide +kernel)⟩
def lw_privs_1 : List (MethodName × Nat) := [(⟨"java/lang/Throwable", "fillInStackTrace", "(I)Ljava/lang/Throwable;"⟩, 6), (⟨"SnapForge$Engine", "perform", "(LSnapForge$Strand;LSnapForge$Frame;I)I"⟩, 5), (⟨"SnapForge$Engine", "branch", "(LSnapForge$Frame;I)I"⟩, 5), (⟨"SnapForge$Engine", "enter", "(LSnapForge$Strand;LSnapForge$Frame;II)I"⟩, 5), (⟨"SnapForge$Engine", "applyClosure", "(LSnapForge$Strand;LSnapForge$Frame;)I"⟩, 5), (⟨"SnapForge$Engine", "leave", "(LSnapForge$Strand;LSnapForge$Frame;)I"⟩, 5), (⟨"SnapForge$Engine", "performOnObjects", "(LSnapForge$Frame;III)I"⟩, 5), (⟨"SnapForge$Engine", "makeRecord", "(LSnapForge$Frame;)I"⟩, 5), (⟨"SnapForge$Engine", "getField", "(LSnapForge$Frame;I)I"⟩, 5), (⟨"SnapForge$Engine", "putField", "(LSnapForge$Frame;I)I"⟩, 5), (⟨"SnapForge$Engine", "makeClosure", "(LSnapForge$Frame;II)I"⟩, 5), (⟨"SnapForge$Engine", "pushHeld", "(LSnapForge$Frame;I)I"⟩, 5), (⟨"SnapForge$Engine", "performInLine", "(LSnapForge$Frame;III)I"⟩, 5), (⟨"SnapForge$Engine", "compute", "(LSnapForge$Frame;I)I"⟩, 5), (⟨"SnapForge$Engine", "compare", "(LSnapForge$Frame;)I"⟩, 5), (⟨"SnapForge$Engine", "answer", "(LSnapForge$Frame;Z)I"⟩, 5)]
theorem lw_r1 : ∀ q ∈ lw_privs_1, lw_okq q := List.forall_mem_cons.mpr ⟨lw_p0, List.forall_mem_cons.mpr ⟨lw_p1, List.forall_mem_cons.mpr ⟨lw_p2, List.forall_mem_cons.mpr ⟨lw_p3, List.forall_mem_cons.mpr ⟨lw_p4, List.forall_mem_cons.mpr ⟨lw_p5, List.forall_mem_cons.mpr ⟨lw_p6, List.forall_mem_cons.mpr ⟨lw_p7, List.forall_mem_cons.mpr ⟨lw_p8, List.forall_mem_cons.mpr ⟨lw_p9, List.forall_mem_cons.mpr ⟨lw_p10, List.forall_mem_cons.mpr ⟨lw_p11, List.forall_mem_cons.mpr ⟨lw_p12, List.forall_mem_cons.mpr ⟨lw_p13, List.forall_mem_cons.mpr ⟨lw_p14, List.forall_mem_cons.mpr ⟨lw_p15, fun _ h => absurd h List.not_mem_nil⟩⟩⟩⟩⟩⟩⟩⟩⟩⟩⟩⟩⟩⟩⟩⟩
theorem lw_p16 : lw_okq (⟨"SnapForge$Engine", "throwNumber", "(LSnapForge$Frame;)I"⟩, 5) := ⟨⟨by decide +kernel, by decide +kernel⟩, List.mem_of_getElem? (i := 72) (by decide +kernel), List.mem_of_getElem? (i := 707) (by decide +kernel), List.mem_of_getElem? (i := 708) (by decide +kernel)⟩
theorem lw_p17 : lw_okq (⟨"SnapForge$Engine", "say", "(LSnapForge$Frame;)I"⟩, 5) := ⟨⟨by decide +kernel, by decide +kernel⟩, List.mem_of_getElem? (i := 72) (by decide +kernel), List.mem_of_getElem? (i := 712) (by decide +kernel), List.mem_of_getElem? (i := 713) (by decide +kernel)⟩
theorem lw_p18 : lw_okq (⟨"SnapForge$Engine", "fork", "(LSnapForge$Frame;I)I"⟩, 5) := ⟨⟨by decide +kernel, by decide +kernel⟩, List.mem_of_getElem? (i := 72) (by decide +kernel), List.mem_of_getElem? (i := 716) (by decide +kernel), List.mem_of_getElem? (i := 717) (by decide +kernel)⟩
theorem lw_p19 : lw_okq (⟨"SnapForge$Engine", "raise", "(LSnapForge$Strand;I)V"⟩, 5) := ⟨⟨by decide +kernel, by decide +kernel⟩, List.mem_of_getElem? (i := 72) (by decide +kernel), List.mem_of_getElem? (i := 720) (by decide +kernel), List.mem_of_getElem? (i := 721) (by decide +kernel)⟩
theorem lw_p20 : lw_okq (⟨"SnapForge", "toldOfAll", "(I)I"⟩, 6) := ⟨⟨by decide +kernel, by decide +kernel⟩, List.mem_of_getElem? (i := 22) (by decide +kernel), List.mem_of_getElem? (i := 786) (by decide +kernel), List.mem_of_getElem? (i := 787) (by decide +kernel)⟩
theorem lw_p21 : lw_okq (⟨"SnapForge$Writer", "writeStrand", "(LSnapForge$Strand;LSnapForge$Heap;)V"⟩, 1) := ⟨⟨by decide +kernel, by decide +kernel⟩, List.mem_of_getElem? (i := 316) (by decide +kernel), List.mem_of_getElem? (i := 817) (by decide +kernel), List.mem_of_getElem? (i := 818) (by decide +kernel)⟩
theorem lw_p22 : lw_okq (⟨"SnapForge$Writer", "writeValues", "(LSnapForge$Cells;IILSnapForge$Heap;)V"⟩, 1) := ⟨⟨by decide +kernel, by decide +kernel⟩, List.mem_of_getElem? (i := 316) (by decide +kernel), List.mem_of_getElem? (i := 821) (by decide +kernel), List.mem_of_getElem? (i := 822) (by decide +kernel)⟩
theorem lw_p23 : lw_okq (⟨"SnapForge$Writer", "writeNumber", "(JI)V"⟩, 1) := ⟨⟨by decide +kernel, by decide +kernel⟩, List.mem_of_getElem? (i := 316) (by decide +kernel), List.mem_of_getElem? (i := 825) (by decide +kernel), List.mem_of_getElem? (i := 826) (by decide +kernel)⟩
theorem lw_p24 : lw_okq (⟨"SnapForge$Writer", "writeFrame", "(LSnapForge$Frame;LSnapForge$Heap;)V"⟩, 1) := ⟨⟨by decide +kernel, by decide +kernel⟩, List.mem_of_getElem? (i := 316) (by decide +kernel), List.mem_of_getElem? (i := 829) (by decide +kernel), List.mem_of_getElem? (i := 830) (by decide +kernel)⟩
theorem lw_p25 : lw_okq (⟨"SnapForge$Writer", "writeObjects", "(LSnapForge$Heap;)V"⟩, 1) := ⟨⟨by decide +kernel, by decide +kernel⟩, List.mem_of_getElem? (i := 316) (by decide +kernel), List.mem_of_getElem? (i := 833) (by decide +kernel), List.mem_of_getElem? (i := 834) (by decide +kernel)⟩
theorem lw_p26 : lw_okq (⟨"SnapForge$Reader", "readByte", "(II)I"⟩, 6) := ⟨⟨by decide +kernel, by decide +kernel⟩, List.mem_of_getElem? (i := 326) (by decide +kernel), List.mem_of_getElem? (i := 854) (by decide +kernel), List.mem_of_getElem? (i := 855) (by decide +kernel)⟩
theorem lw_p27 : lw_okq (⟨"SnapForge$Reader", "readStrand", "(LSnapForge$Strand;)V"⟩, 6) := ⟨⟨by decide +kernel, by decide +kernel⟩, List.mem_of_getElem? (i := 326) (by decide +kernel), List.mem_of_getElem? (i := 858) (by decide +kernel), List.mem_of_getElem? (i := 859) (by decide +kernel)⟩
theorem lw_p28 : lw_okq (⟨"SnapForge$Reader", "readValues", "(LSnapForge$Cells;II)V"⟩, 6) := ⟨⟨by decide +kernel, by decide +kernel⟩, List.mem_of_getElem? (i := 326) (by decide +kernel), List.mem_of_getElem? (i := 863) (by decide +kernel), List.mem_of_getElem? (i := 864) (by decide +kernel)⟩
theorem lw_p29 : lw_okq (⟨"SnapForge$Reader", "readNumber", "(I)J"⟩, 6) := ⟨⟨by decide +kernel, by decide +kernel⟩, List.mem_of_getElem? (i := 326) (by decide +kernel), List.mem_of_getElem? (i := 867) (by decide +kernel), List.mem_of_getElem? (i := 868) (by decide +kernel)⟩
theorem lw_p30 : lw_okq (⟨"SnapForge$Reader", "readObjectNumber", "(I)I"⟩, 6) := ⟨⟨by decide +kernel, by decide +kernel⟩, List.mem_of_getElem? (i := 326) (by decide +kernel), List.mem_of_getElem? (i := 872) (by decide +kernel), List.mem_of_getElem? (i := 873) (by decide +kernel)⟩
theorem lw_p31 : lw_okq (⟨"SnapForge$Reader", "refuseByte", "()V"⟩, 6) := ⟨⟨by decide +kernel, by decide +kernel⟩, List.mem_of_getElem? (i := 326) (by decide +kernel), List.mem_of_getElem? (i := 879) (by decide +kernel), List.mem_of_getElem? (i := 880) (by decide +kernel)⟩
def lw_privs_2 : List (MethodName × Nat) := [(⟨"SnapForge$Engine", "throwNumber", "(LSnapForge$Frame;)I"⟩, 5), (⟨"SnapForge$Engine", "say", "(LSnapForge$Frame;)I"⟩, 5), (⟨"SnapForge$Engine", "fork", "(LSnapForge$Frame;I)I"⟩, 5), (⟨"SnapForge$Engine", "raise", "(LSnapForge$Strand;I)V"⟩, 5), (⟨"SnapForge", "toldOfAll", "(I)I"⟩, 6), (⟨"SnapForge$Writer", "writeStrand", "(LSnapForge$Strand;LSnapForge$Heap;)V"⟩, 1), (⟨"SnapForge$Writer", "writeValues", "(LSnapForge$Cells;IILSnapForge$Heap;)V"⟩, 1), (⟨"SnapForge$Writer", "writeNumber", "(JI)V"⟩, 1), (⟨"SnapForge$Writer", "writeFrame", "(LSnapForge$Frame;LSnapForge$Heap;)V"⟩, 1), (⟨"SnapForge$Writer", "writeObjects", "(LSnapForge$Heap;)V"⟩, 1), (⟨"SnapForge$Reader", "readByte", "(II)I"⟩, 6), (⟨"SnapForge$Reader", "readStrand", "(LSnapForge$Strand;)V"⟩, 6), (⟨"SnapForge$Reader", "readValues", "(LSnapForge$Cells;II)V"⟩, 6), (⟨"SnapForge$Reader", "readNumber", "(I)J"⟩, 6), (⟨"SnapForge$Reader", "readObjectNumber", "(I)I"⟩, 6), (⟨"SnapForge$Reader", "refuseByte", "()V"⟩, 6)]
theorem lw_r2 : ∀ q ∈ lw_privs_2, lw_okq q := List.forall_mem_cons.mpr ⟨lw_p16, List.forall_mem_cons.mpr ⟨lw_p17, List.forall_mem_cons.mpr ⟨lw_p18, List.forall_mem_cons.mpr ⟨lw_p19, List.forall_mem_cons.mpr ⟨lw_p20, List.forall_mem_cons.mpr ⟨lw_p21, List.forall_mem_cons.mpr ⟨lw_p22, List.forall_mem_cons.mpr ⟨lw_p23, List.forall_mem_cons.mpr ⟨lw_p24, List.forall_mem_cons.mpr ⟨lw_p25, List.forall_mem_cons.mpr ⟨lw_p26, List.forall_mem_cons.mpr ⟨lw_p27, List.forall_mem_cons.mpr ⟨lw_p28, List.forall_mem_cons.mpr ⟨lw_p29, List.forall_mem_cons.mpr ⟨lw_p30, List.forall_mem_cons.mpr ⟨lw_p31, fun _ h => absurd h List.not_mem_nil⟩⟩⟩⟩⟩⟩⟩⟩⟩⟩⟩⟩⟩⟩⟩⟩
theorem lw_p32 : lw_okq (⟨"SnapForge$Reader", "readError", "()I"⟩, 6) := ⟨⟨by decide +kernel, by decide +kernel⟩, List.mem_of_getElem? (i := 326) (by decide +kernel), List.mem_of_getElem? (i := 883) (by decide +kernel), List.mem_of_getElem? (i := 884) (by decide +kernel)⟩
theorem lw_p33 : lw_okq (⟨"SnapForge$Reader", "readFrame", "(LSnapForge$Frame;)V"⟩, 6) := ⟨⟨by decide +kernel, by decide +kernel⟩, List.mem_of_getElem? (i := 326) (by decide +kernel), List.mem_of_getElem? (i := 888) (by decide +kernel), List.mem_of_getElem? (i := 889) (by decide +kernel)⟩
theorem lw_p34 : lw_okq (⟨"SnapForge$Reader", "readClosure", "(LSnapForge$Cells;)V"⟩, 6) := ⟨⟨by decide +kernel, by decide +kernel⟩, List.mem_of_getElem? (i := 326) (by decide +kernel), List.mem_of_getElem? (i := 892) (by decide +kernel), List.mem_of_getElem? (i := 893) (by decide +kernel)⟩
theorem lw_p35 : lw_okq (⟨"SnapForge$Reader", "readObjects", "()V"⟩, 6) := ⟨⟨by decide +kernel, by decide +kernel⟩, List.mem_of_getElem? (i := 326) (by decide +kernel), List.mem_of_getElem? (i := 896) (by decide +kernel), List.mem_of_getElem? (i := 897) (by decide +kernel)⟩
theorem lw_p36 : lw_okq (⟨"SnapForge$Reader", "readObject", "(I)V"⟩, 6) := ⟨⟨by decide +kernel, by decide +kernel⟩, List.mem_of_getElem? (i := 326) (by decide +kernel), List.mem_of_getElem? (i := 900) (by decide +kernel), List.mem_of_getElem? (i := 901) (by decide +kernel)⟩
theorem lw_p37 : lw_okq (⟨"SnapForge$Reader", "readEnd", "()V"⟩, 6) := ⟨⟨by decide +kernel, by decide +kernel⟩, List.mem_of_getElem? (i := 326) (by decide +kernel), List.mem_of_getElem? (i := 906) (by decide +kernel), List.mem_of_getElem? (i := 907) (by decide +kernel)⟩
theorem lw_p38 : lw_okq (⟨"SnapForge$Reader", "testTurn", "()V"⟩, 6) := ⟨⟨by decide +kernel, by decide +kernel⟩, List.mem_of_getElem? (i := 326) (by decide +kernel), List.mem_of_getElem? (i := 911) (by decide +kernel), List.mem_of_getElem? (i := 912) (by decide +kernel)⟩
theorem lw_p39 : lw_okq (⟨"SnapForgeModel", "fail", "(I)I"⟩, 55) := ⟨⟨by decide +kernel, by decide +kernel⟩, List.mem_of_getElem? (i := 942) (by decide +kernel), List.mem_of_getElem? (i := 1126) (by decide +kernel), List.mem_of_getElem? (i := 1127) (by decide +kernel)⟩
theorem lw_p40 : lw_okq (⟨"SnapForgeModel", "begin", "(III)V"⟩, 55) := ⟨⟨by decide +kernel, by decide +kernel⟩, List.mem_of_getElem? (i := 942) (by decide +kernel), List.mem_of_getElem? (i := 1148) (by decide +kernel), List.mem_of_getElem? (i := 1149) (by decide +kernel)⟩
theorem lw_p41 : lw_okq (⟨"SnapForgeModel", "set", "(IIJ)V"⟩, 55) := ⟨⟨by decide +kernel, by decide +kernel⟩, List.mem_of_getElem? (i := 942) (by decide +kernel), List.mem_of_getElem? (i := 1152) (by decide +kernel), List.mem_of_getElem? (i := 1153) (by decide +kernel)⟩
theorem lw_p42 : lw_okq (⟨"SnapForgeModel", "isRunning", "()Z"⟩, 55) := ⟨⟨by decide +kernel, by decide +kernel⟩, List.mem_of_getElem? (i := 942) (by decide +kernel), List.mem_of_getElem? (i := 1160) (by decide +kernel), List.mem_of_getElem? (i := 1161) (by decide +kernel)⟩
theorem lw_p43 : lw_okq (⟨"SnapForgeModel", "top", "()I"⟩, 55) := ⟨⟨by decide +kernel, by decide +kernel⟩, List.mem_of_getElem? (i := 942) (by decide +kernel), List.mem_of_getElem? (i := 1164) (by decide +kernel), List.mem_of_getElem? (i := 1165) (by decide +kernel)⟩
theorem lw_p44 : lw_okq (⟨"SnapForgeModel", "step", "(I)I"⟩, 55) := ⟨⟨by decide +kernel, by decide +kernel⟩, List.mem_of_getElem? (i := 942) (by decide +kernel), List.mem_of_getElem? (i := 1168) (by decide +kernel), List.mem_of_getElem? (i := 1169) (by decide +kernel)⟩
theorem lw_p45 : lw_okq (⟨"SnapForgeModel", "enter", "(III)I"⟩, 55) := ⟨⟨by decide +kernel, by decide +kernel⟩, List.mem_of_getElem? (i := 942) (by decide +kernel), List.mem_of_getElem? (i := 1175) (by decide +kernel), List.mem_of_getElem? (i := 1176) (by decide +kernel)⟩
theorem lw_p46 : lw_okq (⟨"SnapForgeModel", "pass", "(III)V"⟩, 55) := ⟨⟨by decide +kernel, by decide +kernel⟩, List.mem_of_getElem? (i := 942) (by decide +kernel), List.mem_of_getElem? (i := 1179) (by decide +kernel), List.mem_of_getElem? (i := 1180) (by decide +kernel)⟩
theorem lw_p47 : lw_okq (⟨"SnapForgeModel", "item", "(II)I"⟩, 55) := ⟨⟨by decide +kernel, by decide +kernel⟩, List.mem_of_getElem? (i := 942) (by decide +kernel), List.mem_of_getElem? (i := 1183) (by decide +kernel), List.mem_of_getElem? (i := 1184) (by decide +kernel)⟩
def lw_privs_3 : List (MethodName × Nat) := [(⟨"SnapForge$Reader", "readError", "()I"⟩, 6), (⟨"SnapForge$Reader", "readFrame", "(LSnapForge$Frame;)V"⟩, 6), (⟨"SnapForge$Reader", "readClosure", "(LSnapForge$Cells;)V"⟩, 6), (⟨"SnapForge$Reader", "readObjects", "()V"⟩, 6), (⟨"SnapForge$Reader", "readObject", "(I)V"⟩, 6), (⟨"SnapForge$Reader", "readEnd", "()V"⟩, 6), (⟨"SnapForge$Reader", "testTurn", "()V"⟩, 6), (⟨"SnapForgeModel", "fail", "(I)I"⟩, 55), (⟨"SnapForgeModel", "begin", "(III)V"⟩, 55), (⟨"SnapForgeModel", "set", "(IIJ)V"⟩, 55), (⟨"SnapForgeModel", "isRunning", "()Z"⟩, 55), (⟨"SnapForgeModel", "top", "()I"⟩, 55), (⟨"SnapForgeModel", "step", "(I)I"⟩, 55), (⟨"SnapForgeModel", "enter", "(III)I"⟩, 55), (⟨"SnapForgeModel", "pass", "(III)V"⟩, 55), (⟨"SnapForgeModel", "item", "(II)I"⟩, 55)]
theorem lw_r3 : ∀ q ∈ lw_privs_3, lw_okq q := List.forall_mem_cons.mpr ⟨lw_p32, List.forall_mem_cons.mpr ⟨lw_p33, List.forall_mem_cons.mpr ⟨lw_p34, List.forall_mem_cons.mpr ⟨lw_p35, List.forall_mem_cons.mpr ⟨lw_p36, List.forall_mem_cons.mpr ⟨lw_p37, List.forall_mem_cons.mpr ⟨lw_p38, List.forall_mem_cons.mpr ⟨lw_p39, List.forall_mem_cons.mpr ⟨lw_p40, List.forall_mem_cons.mpr ⟨lw_p41, List.forall_mem_cons.mpr ⟨lw_p42, List.forall_mem_cons.mpr ⟨lw_p43, List.forall_mem_cons.mpr ⟨lw_p44, List.forall_mem_cons.mpr ⟨lw_p45, List.forall_mem_cons.mpr ⟨lw_p46, List.forall_mem_cons.mpr ⟨lw_p47, fun _ h => absurd h List.not_mem_nil⟩⟩⟩⟩⟩⟩⟩⟩⟩⟩⟩⟩⟩⟩⟩⟩
theorem lw_p48 : lw_okq (⟨"SnapForgeModel", "copy", "(II)V"⟩, 55) := ⟨⟨by decide +kernel, by decide +kernel⟩, List.mem_of_getElem? (i := 942) (by decide +kernel), List.mem_of_getElem? (i := 1187) (by decide +kernel), List.mem_of_getElem? (i := 1188) (by decide +kernel)⟩
theorem lw_p49 : lw_okq (⟨"SnapForgeModel", "apply", "(I)I"⟩, 55) := ⟨⟨by decide +kernel, by decide +kernel⟩, List.mem_of_getElem? (i := 942) (by decide +kernel), List.mem_of_getElem? (i := 1191) (by decide +kernel), List.mem_of_getElem? (i := 1192) (by decide +kernel)⟩
theorem lw_p50 : lw_okq (⟨"SnapForgeModel", "back", "(I)I"⟩, 55) := ⟨⟨by decide +kernel, by decide +kernel⟩, List.mem_of_getElem? (i := 942) (by decide +kernel), List.mem_of_getElem? (i := 1195) (by decide +kernel), List.mem_of_getElem? (i := 1196) (by decide +kernel)⟩
theorem lw_p51 : lw_okq (⟨"SnapForgeModel", "push", "(IIJ)V"⟩, 55) := ⟨⟨by decide +kernel, by decide +kernel⟩, List.mem_of_getElem? (i := 942) (by decide +kernel), List.mem_of_getElem? (i := 1199) (by decide +kernel), List.mem_of_getElem? (i := 1200) (by decide +kernel)⟩
theorem lw_p52 : lw_okq (⟨"SnapForgeModel", "plain", "(IIII)I"⟩, 55) := ⟨⟨by decide +kernel, by decide +kernel⟩, List.mem_of_getElem? (i := 942) (by decide +kernel), List.mem_of_getElem? (i := 1203) (by decide +kernel), List.mem_of_getElem? (i := 1204) (by decide +kernel)⟩
theorem lw_p53 : lw_okq (⟨"SnapForgeModel", "sum", "(II)I"⟩, 55) := ⟨⟨by decide +kernel, by decide +kernel⟩, List.mem_of_getElem? (i := 942) (by decide +kernel), List.mem_of_getElem? (i := 1207) (by decide +kernel), List.mem_of_getElem? (i := 1208) (by decide +kernel)⟩
theorem lw_p54 : lw_okq (⟨"SnapForgeModel", "onRecord", "(III)I"⟩, 55) := ⟨⟨by decide +kernel, by decide +kernel⟩, List.mem_of_getElem? (i := 942) (by decide +kernel), List.mem_of_getElem? (i := 1214) (by decide +kernel), List.mem_of_getElem? (i := 1215) (by decide +kernel)⟩
theorem lw_p55 : lw_okq (⟨"SnapForgeModel", "close", "(III)I"⟩, 55) := ⟨⟨by decide +kernel, by decide +kernel⟩, List.mem_of_getElem? (i := 942) (by decide +kernel), List.mem_of_getElem? (i := 1218) (by decide +kernel), List.mem_of_getElem? (i := 1219) (by decide +kernel)⟩
theorem lw_p56 : lw_okq (⟨"SnapForgeModel", "isFull", "()Z"⟩, 55) := ⟨⟨by decide +kernel, by decide +kernel⟩, List.mem_of_getElem? (i := 942) (by decide +kernel), List.mem_of_getElem? (i := 1222) (by decide +kernel), List.mem_of_getElem? (i := 1223) (by decide +kernel)⟩
theorem lw_p57 : lw_okq (⟨"SnapForgeModel", "collect", "()V"⟩, 55) := ⟨⟨by decide +kernel, by decide +kernel⟩, List.mem_of_getElem? (i := 942) (by decide +kernel), List.mem_of_getElem? (i := 1226) (by decide +kernel), List.mem_of_getElem? (i := 1227) (by decide +kernel)⟩
theorem lw_p58 : lw_okq (⟨"SnapForgeModel", "mark", "(I)Z"⟩, 55) := ⟨⟨by decide +kernel, by decide +kernel⟩, List.mem_of_getElem? (i := 942) (by decide +kernel), List.mem_of_getElem? (i := 1230) (by decide +kernel), List.mem_of_getElem? (i := 1231) (by decide +kernel)⟩
theorem lw_p59 : lw_okq (⟨"SnapForgeModel", "markAll", "()Z"⟩, 55) := ⟨⟨by decide +kernel, by decide +kernel⟩, List.mem_of_getElem? (i := 942) (by decide +kernel), List.mem_of_getElem? (i := 1234) (by decide +kernel), List.mem_of_getElem? (i := 1235) (by decide +kernel)⟩
theorem lw_p60 : lw_okq (⟨"SnapForgeModel", "make", "(I)I"⟩, 55) := ⟨⟨by decide +kernel, by decide +kernel⟩, List.mem_of_getElem? (i := 942) (by decide +kernel), List.mem_of_getElem? (i := 1238) (by decide +kernel), List.mem_of_getElem? (i := 1239) (by decide +kernel)⟩
theorem lw_p61 : lw_okq (⟨"SnapForgeModel", "say", "(I)I"⟩, 55) := ⟨⟨by decide +kernel, by decide +kernel⟩, List.mem_of_getElem? (i := 942) (by decide +kernel), List.mem_of_getElem? (i := 1243) (by decide +kernel), List.mem_of_getElem? (i := 1244) (by decide +kernel)⟩
theorem lw_p62 : lw_okq (⟨"SnapForgeModel", "fork", "(II)I"⟩, 55) := ⟨⟨by decide +kernel, by decide +kernel⟩, List.mem_of_getElem? (i := 942) (by decide +kernel), List.mem_of_getElem? (i := 1247) (by decide +kernel), List.mem_of_getElem? (i := 1248) (by decide +kernel)⟩
theorem lw_p63 : lw_okq (⟨"SnapForgeModel", "give", "(IIII)I"⟩, 55) := ⟨⟨by decide +kernel, by decide +kernel⟩, List.mem_of_getElem? (i := 942) (by decide +kernel), List.mem_of_getElem? (i := 1251) (by decide +kernel), List.mem_of_getElem? (i := 1252) (by decide +kernel)⟩
def lw_privs_4 : List (MethodName × Nat) := [(⟨"SnapForgeModel", "copy", "(II)V"⟩, 55), (⟨"SnapForgeModel", "apply", "(I)I"⟩, 55), (⟨"SnapForgeModel", "back", "(I)I"⟩, 55), (⟨"SnapForgeModel", "push", "(IIJ)V"⟩, 55), (⟨"SnapForgeModel", "plain", "(IIII)I"⟩, 55), (⟨"SnapForgeModel", "sum", "(II)I"⟩, 55), (⟨"SnapForgeModel", "onRecord", "(III)I"⟩, 55), (⟨"SnapForgeModel", "close", "(III)I"⟩, 55), (⟨"SnapForgeModel", "isFull", "()Z"⟩, 55), (⟨"SnapForgeModel", "collect", "()V"⟩, 55), (⟨"SnapForgeModel", "mark", "(I)Z"⟩, 55), (⟨"SnapForgeModel", "markAll", "()Z"⟩, 55), (⟨"SnapForgeModel", "make", "(I)I"⟩, 55), (⟨"SnapForgeModel", "say", "(I)I"⟩, 55), (⟨"SnapForgeModel", "fork", "(II)I"⟩, 55), (⟨"SnapForgeModel", "give", "(IIII)I"⟩, 55)]
theorem lw_r4 : ∀ q ∈ lw_privs_4, lw_okq q := List.forall_mem_cons.mpr ⟨lw_p48, List.forall_mem_cons.mpr ⟨lw_p49, List.forall_mem_cons.mpr ⟨lw_p50, List.forall_mem_cons.mpr ⟨lw_p51, List.forall_mem_cons.mpr ⟨lw_p52, List.forall_mem_cons.mpr ⟨lw_p53, List.forall_mem_cons.mpr ⟨lw_p54, List.forall_mem_cons.mpr ⟨lw_p55, List.forall_mem_cons.mpr ⟨lw_p56, List.forall_mem_cons.mpr ⟨lw_p57, List.forall_mem_cons.mpr ⟨lw_p58, List.forall_mem_cons.mpr ⟨lw_p59, List.forall_mem_cons.mpr ⟨lw_p60, List.forall_mem_cons.mpr ⟨lw_p61, List.forall_mem_cons.mpr ⟨lw_p62, List.forall_mem_cons.mpr ⟨lw_p63, fun _ h => absurd h List.not_mem_nil⟩⟩⟩⟩⟩⟩⟩⟩⟩⟩⟩⟩⟩⟩⟩⟩
theorem lw_p64 : lw_okq (⟨"SnapForgeModel", "raise", "(I)V"⟩, 55) := ⟨⟨by decide +kernel, by decide +kernel⟩, List.mem_of_getElem? (i := 942) (by decide +kernel), List.mem_of_getElem? (i := 1255) (by decide +kernel), List.mem_of_getElem? (i := 1256) (by decide +kernel)⟩
theorem lw_p65 : lw_okq (⟨"SnapForgeModel", "put", "(I)V"⟩, 55) := ⟨⟨by decide +kernel, by decide +kernel⟩, List.mem_of_getElem? (i := 942) (by decide +kernel), List.mem_of_getElem? (i := 1275) (by decide +kernel), List.mem_of_getElem? (i := 1276) (by decide +kernel)⟩
theorem lw_p66 : lw_okq (⟨"SnapForgeModel", "codeSum", "()I"⟩, 55) := ⟨⟨by decide +kernel, by decide +kernel⟩, List.mem_of_getElem? (i := 942) (by decide +kernel), List.mem_of_getElem? (i := 1279) (by decide +kernel), List.mem_of_getElem? (i := 1280) (by decide +kernel)⟩
theorem lw_p67 : lw_okq (⟨"SnapForgeModel", "putFrame", "(I)V"⟩, 55) := ⟨⟨by decide +kernel, by decide +kernel⟩, List.mem_of_getElem? (i := 942) (by decide +kernel), List.mem_of_getElem? (i := 1283) (by decide +kernel), List.mem_of_getElem? (i := 1284) (by decide +kernel)⟩
theorem lw_p68 : lw_okq (⟨"SnapForgeModel", "putValue", "(IJ)V"⟩, 55) := ⟨⟨by decide +kernel, by decide +kernel⟩, List.mem_of_getElem? (i := 942) (by decide +kernel), List.mem_of_getElem? (i := 1287) (by decide +kernel), List.mem_of_getElem? (i := 1288) (by decide +kernel)⟩
theorem lw_p69 : lw_okq (⟨"SnapForgeModel", "putMany", "(JI)V"⟩, 55) := ⟨⟨by decide +kernel, by decide +kernel⟩, List.mem_of_getElem? (i := 942) (by decide +kernel), List.mem_of_getElem? (i := 1291) (by decide +kernel), List.mem_of_getElem? (i := 1292) (by decide +kernel)⟩
theorem lw_p70 : lw_okq (⟨"SnapForgeModel", "comes", "(I)I"⟩, 55) := ⟨⟨by decide +kernel, by decide +kernel⟩, List.mem_of_getElem? (i := 942) (by decide +kernel), List.mem_of_getElem? (i := 1295) (by decide +kernel), List.mem_of_getElem? (i := 1296) (by decide +kernel)⟩
theorem lw_p71 : lw_okq (⟨"SnapForgeModel", "putObject", "(I)V"⟩, 55) := ⟨⟨by decide +kernel, by decide +kernel⟩, List.mem_of_getElem? (i := 942) (by decide +kernel), List.mem_of_getElem? (i := 1299) (by decide +kernel), List.mem_of_getElem? (i := 1300) (by decide +kernel)⟩
theorem lw_p72 : lw_okq (⟨"SnapForgeModel", "sumTo", "(I)I"⟩, 55) := ⟨⟨by decide +kernel, by decide +kernel⟩, List.mem_of_getElem? (i := 942) (by decide +kernel), List.mem_of_getElem? (i := 1303) (by decide +kernel), List.mem_of_getElem? (i := 1304) (by decide +kernel)⟩
theorem lw_p73 : lw_okq (⟨"SnapForgeModel", "takeAll", "()I"⟩, 55) := ⟨⟨by decide +kernel, by decide +kernel⟩, List.mem_of_getElem? (i := 942) (by decide +kernel), List.mem_of_getElem? (i := 1311) (by decide +kernel), List.mem_of_getElem? (i := 1312) (by decide +kernel)⟩
theorem lw_p74 : lw_okq (⟨"SnapForgeModel", "take", "(III)I"⟩, 55) := ⟨⟨by decide +kernel, by decide +kernel⟩, List.mem_of_getElem? (i := 942) (by decide +kernel), List.mem_of_getElem? (i := 1315) (by decide +kernel), List.mem_of_getElem? (i := 1316) (by decide +kernel)⟩
theorem lw_p75 : lw_okq (⟨"SnapForgeModel", "wrong", "(II)V"⟩, 55) := ⟨⟨by decide +kernel, by decide +kernel⟩, List.mem_of_getElem? (i := 942) (by decide +kernel), List.mem_of_getElem? (i := 1319) (by decide +kernel), List.mem_of_getElem? (i := 1320) (by decide +kernel)⟩
theorem lw_p76 : lw_okq (⟨"SnapForgeModel", "takeThread", "(I)V"⟩, 55) := ⟨⟨by decide +kernel, by decide +kernel⟩, List.mem_of_getElem? (i := 942) (by decide +kernel), List.mem_of_getElem? (i := 1323) (by decide +kernel), List.mem_of_getElem? (i := 1324) (by decide +kernel)⟩
theorem lw_p77 : lw_okq (⟨"SnapForgeModel", "takeFrame", "(I)V"⟩, 55) := ⟨⟨by decide +kernel, by decide +kernel⟩, List.mem_of_getElem? (i := 942) (by decide +kernel), List.mem_of_getElem? (i := 1327) (by decide +kernel), List.mem_of_getElem? (i := 1328) (by decide +kernel)⟩
theorem lw_p78 : lw_okq (⟨"SnapForgeModel", "takeNumber", "(I)I"⟩, 55) := ⟨⟨by decide +kernel, by decide +kernel⟩, List.mem_of_getElem? (i := 942) (by decide +kernel), List.mem_of_getElem? (i := 1331) (by decide +kernel), List.mem_of_getElem? (i := 1332) (by decide +kernel)⟩
theorem lw_p79 : lw_okq (⟨"SnapForgeModel", "takeValue", "(I)V"⟩, 55) := ⟨⟨by decide +kernel, by decide +kernel⟩, List.mem_of_getElem? (i := 942) (by decide +kernel), List.mem_of_getElem? (i := 1335) (by decide +kernel), List.mem_of_getElem? (i := 1336) (by decide +kernel)⟩
def lw_privs_5 : List (MethodName × Nat) := [(⟨"SnapForgeModel", "raise", "(I)V"⟩, 55), (⟨"SnapForgeModel", "put", "(I)V"⟩, 55), (⟨"SnapForgeModel", "codeSum", "()I"⟩, 55), (⟨"SnapForgeModel", "putFrame", "(I)V"⟩, 55), (⟨"SnapForgeModel", "putValue", "(IJ)V"⟩, 55), (⟨"SnapForgeModel", "putMany", "(JI)V"⟩, 55), (⟨"SnapForgeModel", "comes", "(I)I"⟩, 55), (⟨"SnapForgeModel", "putObject", "(I)V"⟩, 55), (⟨"SnapForgeModel", "sumTo", "(I)I"⟩, 55), (⟨"SnapForgeModel", "takeAll", "()I"⟩, 55), (⟨"SnapForgeModel", "take", "(III)I"⟩, 55), (⟨"SnapForgeModel", "wrong", "(II)V"⟩, 55), (⟨"SnapForgeModel", "takeThread", "(I)V"⟩, 55), (⟨"SnapForgeModel", "takeFrame", "(I)V"⟩, 55), (⟨"SnapForgeModel", "takeNumber", "(I)I"⟩, 55), (⟨"SnapForgeModel", "takeValue", "(I)V"⟩, 55)]
theorem lw_r5 : ∀ q ∈ lw_privs_5, lw_okq q := List.forall_mem_cons.mpr ⟨lw_p64, List.forall_mem_cons.mpr ⟨lw_p65, List.forall_mem_cons.mpr ⟨lw_p66, List.forall_mem_cons.mpr ⟨lw_p67, List.forall_mem_cons.mpr ⟨lw_p68, List.forall_mem_cons.mpr ⟨lw_p69, List.forall_mem_cons.mpr ⟨lw_p70, List.forall_mem_cons.mpr ⟨lw_p71, List.forall_mem_cons.mpr ⟨lw_p72, List.forall_mem_cons.mpr ⟨lw_p73, List.forall_mem_cons.mpr ⟨lw_p74, List.forall_mem_cons.mpr ⟨lw_p75, List.forall_mem_cons.mpr ⟨lw_p76, List.forall_mem_cons.mpr ⟨lw_p77, List.forall_mem_cons.mpr ⟨lw_p78, List.forall_mem_cons.mpr ⟨lw_p79, fun _ h => absurd h List.not_mem_nil⟩⟩⟩⟩⟩⟩⟩⟩⟩⟩⟩⟩⟩⟩⟩⟩
theorem lw_p80 : lw_okq (⟨"SnapForgeModel", "takeObject", "(I)V"⟩, 55) := ⟨⟨by decide +kernel, by decide +kernel⟩, List.mem_of_getElem? (i := 942) (by decide +kernel), List.mem_of_getElem? (i := 1339) (by decide +kernel), List.mem_of_getElem? (i := 1340) (by decide +kernel)⟩
def lw_privs_6 : List (MethodName × Nat) := [(⟨"SnapForgeModel", "takeObject", "(I)V"⟩, 55)]
theorem lw_r6 : ∀ q ∈ lw_privs_6, lw_okq q := List.forall_mem_cons.mpr ⟨lw_p80, fun _ h => absurd h List.not_mem_nil⟩
def lw_privs : List (MethodName × Nat) := lw_privs_1 ++ (lw_privs_2 ++ (lw_privs_3 ++ (lw_privs_4 ++ (lw_privs_5 ++ (lw_privs_6)))))
def lw_tbl : List Cond := k2_sels lw_privs ++ tables_1
theorem lw_privs_ok : ∀ q ∈ lw_privs, lw_okq q := by
  show ∀ q ∈ lw_privs_1 ++ (lw_privs_2 ++ (lw_privs_3 ++ (lw_privs_4 ++ (lw_privs_5 ++ (lw_privs_6))))), lw_okq q
  exact List.forall_mem_append.mpr ⟨lw_r1, List.forall_mem_append.mpr ⟨lw_r2, List.forall_mem_append.mpr ⟨lw_r3, List.forall_mem_append.mpr ⟨lw_r4, List.forall_mem_append.mpr ⟨lw_r5, lw_r6⟩⟩⟩⟩⟩
end
section
-- TABLES of the evaluator, printed by wip/gen/tables.py out of the Statement. Methods by their numbers:
-- 0 SnapForge.<init>()V
-- 1 SnapForge.function(II)I
-- 2 SnapForge.add(IIII)I
-- 3 SnapForge.handle(IIII)I
-- 4 SnapForge.start(III)I
-- 5 SnapForge.run(I)I
-- 6 SnapForge.said(I)J
-- 7 SnapForge.value(I)J
-- 8 SnapForge.told(I)I
-- 9 SnapForge.snapshot()I
-- 10 SnapForge.load()I
-- 11 SnapForge.where()I
-- 12 SnapForge.image(I)I
-- 13 SnapForge.patch(IIZ)I
-- 14 SnapForge.cut(I)I
-- 15 SnapForge.isFunction(I)Z
-- 16 SnapForge.isCodePlace(I)Z
-- 17 SnapForge.fits(II)Z
-- 18 SnapForge.kept(II)I
-- 19 SnapForge.toldOfAll(I)I
-- 20 SnapForge.toldOfStrand(LSnapForge$Strand;I)I
-- 21 SnapForge.toldOfFrame(LSnapForge$Frame;I)I
-- 22 SnapForge$Cells.<init>(I)V
-- 23 SnapForge$Cells.put(IIJ)V
-- 24 SnapForge$Cells.copy(ILSnapForge$Cells;I)V
-- 25 SnapForge$Cells.putNulls(II)V
-- 26 SnapForge$Cells.isNumber(I)Z
-- 27 SnapForge$Cells.isSame(II)Z
-- 28 SnapForge$Engine.<init>(LSnapForge$Program;)V
-- 29 SnapForge$Engine.begin(III)V
-- 30 SnapForge$Engine.step()V
-- 31 SnapForge$Engine.raise(LSnapForge$Strand;I)V
-- 32 SnapForge$Engine.perform(LSnapForge$Strand;LSnapForge$Frame;I)I
-- 33 SnapForge$Engine.goOn(LSnapForge$Frame;I)I
-- 34 SnapForge$Engine.performInLine(LSnapForge$Frame;III)I
-- 35 SnapForge$Engine.performOnObjects(LSnapForge$Frame;III)I
-- 36 SnapForge$Engine.compute(LSnapForge$Frame;I)I
-- 37 SnapForge$Engine.combine(IJJ)J
-- 38 SnapForge$Engine.compare(LSnapForge$Frame;)I
-- 39 SnapForge$Engine.answer(LSnapForge$Frame;Z)I
-- 40 SnapForge$Engine.branch(LSnapForge$Frame;I)I
-- 41 SnapForge$Engine.throwNumber(LSnapForge$Frame;)I
-- 42 SnapForge$Engine.say(LSnapForge$Frame;)I
-- 43 SnapForge$Engine.fork(LSnapForge$Frame;I)I
-- 44 SnapForge$Engine.makeRecord(LSnapForge$Frame;)I
-- 45 SnapForge$Engine.makeClosure(LSnapForge$Frame;II)I
-- 46 SnapForge$Engine.testKind(LSnapForge$Cells;II)I
-- 47 SnapForge$Engine.getField(LSnapForge$Frame;I)I
-- 48 SnapForge$Engine.putField(LSnapForge$Frame;I)I
-- 49 SnapForge$Engine.pushHeld(LSnapForge$Frame;I)I
-- 50 SnapForge$Engine.enter(LSnapForge$Strand;LSnapForge$Frame;II)I
-- 51 SnapForge$Engine.applyClosure(LSnapForge$Strand;LSnapForge$Frame;)I
-- 52 SnapForge$Engine.leave(LSnapForge$Strand;LSnapForge$Frame;)I
-- 53 SnapForge$Frame.<init>()V
-- 54 SnapForge$Frame.top()I
-- 55 SnapForge$Frame.push(IJ)I
-- 56 SnapForge$Frame.pushCopy(LSnapForge$Cells;I)I
-- 57 SnapForge$Frame.takeArguments(LSnapForge$Frame;II)V
-- 58 SnapForge$Heap.<init>()V
-- 59 SnapForge$Heap.clear()V
-- 60 SnapForge$Heap.first(I)I
-- 61 SnapForge$Heap.make(III)I
-- 62 SnapForge$Heap.shape(IIII)V
-- 63 SnapForge$Heap.beginSearch()V
-- 64 SnapForge$Heap.meet(LSnapForge$Cells;I)V
-- 65 SnapForge$Heap.dropOthers()V
-- 66 SnapForge$Image.<init>()V
-- 67 SnapForge$Image.append(I)V
-- 68 SnapForge$Image.change(IIZ)I
-- 69 SnapForge$Image.sumOf(I)I
-- 70 SnapForge$Program.<init>()V
-- 71 SnapForge$Program.reset(II)V
-- 72 SnapForge$Program.append(IIII)V
-- 73 SnapForge$Program.appendHandler(IIII)V
-- 74 SnapForge$Program.find(II)I
-- 75 SnapForge$Program.findHandler(II)I
-- 76 SnapForge$Program.taken(I)I
-- 77 SnapForge$Program.codeSum()I
-- 78 SnapForge$Reader.<init>(LSnapForge$Image;)V
-- 79 SnapForge$Reader.read(LSnapForge$World;I)V
-- 80 SnapForge$Reader.readByte(II)I
-- 81 SnapForge$Reader.refuseByte()V
-- 82 SnapForge$Reader.readStrand(LSnapForge$Strand;)V
-- 83 SnapForge$Reader.readError()I
-- 84 SnapForge$Reader.readFrame(LSnapForge$Frame;)V
-- 85 SnapForge$Reader.readClosure(LSnapForge$Cells;)V
-- 86 SnapForge$Reader.readValues(LSnapForge$Cells;II)V
-- 87 SnapForge$Reader.readNumber(I)J
-- 88 SnapForge$Reader.readObjectNumber(I)I
-- 89 SnapForge$Reader.readObjects()V
-- 90 SnapForge$Reader.readObject(I)V
-- 91 SnapForge$Reader.readEnd()V
-- 92 SnapForge$Reader.testTurn()V
-- 93 SnapForge$Strand.<init>()V
-- 94 SnapForge$Strand.become(II)V
-- 95 SnapForge$Strand.open(I)LSnapForge$Frame;
-- 96 SnapForge$Strand.top()LSnapForge$Frame;
-- 97 SnapForge$World.<init>()V
-- 98 SnapForge$World.isEmpty()Z
-- 99 SnapForge$World.someRuns()Z
-- 100 SnapForge$World.passTurn()V
-- 101 SnapForge$World.findObjects()V
-- 102 SnapForge$World.hasRoom()Z
-- 103 SnapForge$Writer.<init>(LSnapForge$Image;)V
-- 104 SnapForge$Writer.write(LSnapForge$World;I)V
-- 105 SnapForge$Writer.writeStrand(LSnapForge$Strand;LSnapForge$Heap;)V
-- 106 SnapForge$Writer.writeFrame(LSnapForge$Frame;LSnapForge$Heap;)V
-- 107 SnapForge$Writer.writeObjects(LSnapForge$Heap;)V
-- 108 SnapForge$Writer.writeValues(LSnapForge$Cells;IILSnapForge$Heap;)V
-- 109 SnapForge$Writer.writeNumber(JI)V
-- 110 SnapForgeModel.<init>()V
-- 111 SnapForgeModel.thrown()I
-- 112 SnapForgeModel.in(III)Z
-- 113 SnapForgeModel.fail(I)I
-- 114 SnapForgeModel.function(II)I
-- 115 SnapForgeModel.mostA(I)I
-- 116 SnapForgeModel.mostB(I)I
-- 117 SnapForgeModel.add(IIII)I
-- 118 SnapForgeModel.handle(IIII)I
-- 119 SnapForgeModel.codeSum()I
-- 120 SnapForgeModel.set(IIJ)V
-- 121 SnapForgeModel.copy(II)V
-- 122 SnapForgeModel.top()I
-- 123 SnapForgeModel.item(II)I
-- 124 SnapForgeModel.push(IIJ)V
-- 125 SnapForgeModel.begin(III)V
-- 126 SnapForgeModel.pass(III)V
-- 127 SnapForgeModel.start(III)I
-- 128 SnapForgeModel.mark(I)Z
-- 129 SnapForgeModel.markAll()Z
-- 130 SnapForgeModel.collect()V
-- 131 SnapForgeModel.isFull()Z
-- 132 SnapForgeModel.make(I)I
-- 133 SnapForgeModel.isNumber(I)Z
-- 134 SnapForgeModel.sum(II)I
-- 135 SnapForgeModel.onRecord(III)I
-- 136 SnapForgeModel.close(III)I
-- 137 SnapForgeModel.enter(III)I
-- 138 SnapForgeModel.apply(I)I
-- 139 SnapForgeModel.fork(II)I
-- 140 SnapForgeModel.back(I)I
-- 141 SnapForgeModel.taken(III)I
-- 142 SnapForgeModel.give(IIII)I
-- 143 SnapForgeModel.say(I)I
-- 144 SnapForgeModel.plain(IIII)I
-- 145 SnapForgeModel.step(I)I
-- 146 SnapForgeModel.raise(I)V
-- 147 SnapForgeModel.isRunning()Z
-- 148 SnapForgeModel.run(I)I
-- 149 SnapForgeModel.said(I)J
-- 150 SnapForgeModel.value(I)J
-- 151 SnapForgeModel.told(I)I
-- 152 SnapForgeModel.put(I)V
-- 153 SnapForgeModel.putMany(JI)V
-- 154 SnapForgeModel.comes(I)I
-- 155 SnapForgeModel.putValue(IJ)V
-- 156 SnapForgeModel.putFrame(I)V
-- 157 SnapForgeModel.putObject(I)V
-- 158 SnapForgeModel.sumTo(I)I
-- 159 SnapForgeModel.snapshot()I
-- 160 SnapForgeModel.wrong(II)V
-- 161 SnapForgeModel.take(III)I
-- 162 SnapForgeModel.takeNumber(I)I
-- 163 SnapForgeModel.takeValue(I)V
-- 164 SnapForgeModel.takeFrame(I)V
-- 165 SnapForgeModel.takeThread(I)V
-- 166 SnapForgeModel.takeObject(I)V
-- 167 SnapForgeModel.takeAll()I
-- 168 SnapForgeModel.load()I
-- 169 SnapForgeModel.where()I
-- 170 SnapForgeModel.image(I)I
-- 171 SnapForgeModel.patch(IIZ)I
-- 172 SnapForgeModel.cut(I)I
-- 173 SnapForgeLaw.function(LSnapForge;II[J)I
-- 174 SnapForgeLaw.add(LSnapForge;IIII[J)I
-- 175 SnapForgeLaw.handle(LSnapForge;IIII[J)I
-- 176 SnapForgeLaw.start(LSnapForge;III[J)I
-- 177 SnapForgeLaw.run(LSnapForge;I[J)I
-- 178 SnapForgeLaw.said(LSnapForge;I[J)I
-- 179 SnapForgeLaw.value(LSnapForge;I[J)I
-- 180 SnapForgeLaw.told(LSnapForge;I[J)I
-- 181 SnapForgeLaw.snapshot(LSnapForge;[J)I
-- 182 SnapForgeLaw.load(LSnapForge;[J)I
-- 183 SnapForgeLaw.image(LSnapForge;I[J)I
-- 184 SnapForgeLaw.patch(LSnapForge;IIZ[J)I
-- 185 SnapForgeLaw.cut(LSnapForge;I[J)I
-- 186 SnapForgeLaw.law([I)Z
def xcT_0 : u_T := fun k => match k with
  | 0 => ("SnapForge", "program", "LSnapForge$Program;", true)
  | 1 => ("SnapForge", "engine", "LSnapForge$Engine;", true)
  | 2 => ("SnapForge", "image", "LSnapForge$Image;", true)
  | 3 => ("SnapForge", "writer", "LSnapForge$Writer;", true)
  | 4 => ("SnapForge", "reader", "LSnapForge$Reader;", true)
  | _ => ("SnapForge", "spare", "LSnapForge$World;", false)
def xcT_1 : u_T := fun k => match k with
  | 0 => ("SnapForge$Cells", "kinds", "[I", true)
  | _ => ("SnapForge$Cells", "numbers", "[J", true)
def xcT_2 : u_T := fun k => match k with
  | 0 => ("SnapForge$Engine", "program", "LSnapForge$Program;", true)
  | 1 => ("SnapForge$Engine", "world", "LSnapForge$World;", false)
  | 2 => ("SnapForge$Engine", "numbersSaid", "[J", true)
  | 3 => ("SnapForge$Engine", "saidCount", "I", false)
  | _ => ("SnapForge$Engine", "steps", "I", false)
def xcT_3 : u_T := fun k => match k with
  | 0 => ("SnapForge$Frame", "cells", "LSnapForge$Cells;", true)
  | 1 => ("SnapForge$Frame", "function", "I", false)
  | 2 => ("SnapForge$Frame", "place", "I", false)
  | _ => ("SnapForge$Frame", "size", "I", false)
def xcT_4 : u_T := fun k => match k with
  | 0 => ("SnapForge$Heap", "kinds", "[I", true)
  | 1 => ("SnapForge$Heap", "functions", "[I", true)
  | 2 => ("SnapForge$Heap", "sizes", "[I", true)
  | 3 => ("SnapForge$Heap", "cells", "LSnapForge$Cells;", true)
  | 4 => ("SnapForge$Heap", "count", "I", false)
  | 5 => ("SnapForge$Heap", "foundAs", "[I", true)
  | 6 => ("SnapForge$Heap", "found", "[I", true)
  | _ => ("SnapForge$Heap", "foundCount", "I", false)
def xcT_5 : u_T := fun k => match k with
  | 0 => ("SnapForge$Image", "bytes", "[I", true)
  | _ => ("SnapForge$Image", "size", "I", false)
def xcT_6 : u_T := fun k => match k with
  | 0 => ("SnapForge$Program", "arguments", "[I", true)
  | 1 => ("SnapForge$Program", "counts", "[I", true)
  | 2 => ("SnapForge$Program", "ops", "[I", true)
  | 3 => ("SnapForge$Program", "as", "[I", true)
  | 4 => ("SnapForge$Program", "bs", "[I", true)
  | 5 => ("SnapForge$Program", "handlerCounts", "[I", true)
  | 6 => ("SnapForge$Program", "froms", "[I", true)
  | 7 => ("SnapForge$Program", "tos", "[I", true)
  | _ => ("SnapForge$Program", "ats", "[I", true)
def xcT_7 : u_T := fun k => match k with
  | 0 => ("SnapForge$Reader", "image", "LSnapForge$Image;", true)
  | 1 => ("SnapForge$Reader", "world", "LSnapForge$World;", false)
  | 2 => ("SnapForge$Reader", "fault", "I", false)
  | 3 => ("SnapForge$Reader", "unknown", "Z", false)
  | 4 => ("SnapForge$Reader", "place", "I", false)
  | _ => ("SnapForge$Reader", "objectLimit", "I", false)
def xcT_8 : u_T := fun k => match k with
  | 0 => ("SnapForge$Strand", "frames", "[LSnapForge$Frame;", true)
  | 1 => ("SnapForge$Strand", "result", "LSnapForge$Cells;", true)
  | 2 => ("SnapForge$Strand", "status", "I", false)
  | 3 => ("SnapForge$Strand", "depth", "I", false)
  | _ => ("SnapForge$Strand", "error", "I", false)
def xcT_9 : u_T := fun k => match k with
  | 0 => ("SnapForge$World", "strands", "[LSnapForge$Strand;", true)
  | 1 => ("SnapForge$World", "heap", "LSnapForge$Heap;", true)
  | 2 => ("SnapForge$World", "count", "I", false)
  | 3 => ("SnapForge$World", "turn", "I", false)
  | _ => ("SnapForge$World", "done", "I", false)
def xcT_10 : u_T := fun k => match k with
  | _ => ("SnapForge$Writer", "image", "LSnapForge$Image;", true)
def xcT_11 : u_T := fun k => match k with
  | 0 => ("SnapForgeModel", "takes", "[I", true)
  | 1 => ("SnapForgeModel", "many", "[I", true)
  | 2 => ("SnapForgeModel", "rows", "[I", true)
  | 3 => ("SnapForgeModel", "op", "[I", true)
  | 4 => ("SnapForgeModel", "one", "[I", true)
  | 5 => ("SnapForgeModel", "two", "[I", true)
  | 6 => ("SnapForgeModel", "from", "[I", true)
  | 7 => ("SnapForgeModel", "to", "[I", true)
  | 8 => ("SnapForgeModel", "at", "[I", true)
  | 9 => ("SnapForgeModel", "threads", "I", false)
  | 10 => ("SnapForgeModel", "turn", "I", false)
  | 11 => ("SnapForgeModel", "done", "I", false)
  | 12 => ("SnapForgeModel", "steps", "I", false)
  | 13 => ("SnapForgeModel", "saidMany", "I", false)
  | 14 => ("SnapForgeModel", "thrown", "I", false)
  | 15 => ("SnapForgeModel", "objects", "I", false)
  | 16 => ("SnapForgeModel", "started", "Z", false)
  | 17 => ("SnapForgeModel", "state", "[I", true)
  | 18 => ("SnapForgeModel", "error", "[I", true)
  | 19 => ("SnapForgeModel", "frames", "[I", true)
  | 20 => ("SnapForgeModel", "function", "[I", true)
  | 21 => ("SnapForgeModel", "place", "[I", true)
  | 22 => ("SnapForgeModel", "closure", "[I", true)
  | 23 => ("SnapForgeModel", "depth", "[I", true)
  | 24 => ("SnapForgeModel", "sort", "[I", true)
  | 25 => ("SnapForgeModel", "number", "[J", true)
  | 26 => ("SnapForgeModel", "there", "[Z", true)
  | 27 => ("SnapForgeModel", "found", "[Z", true)
  | 28 => ("SnapForgeModel", "kind", "[I", true)
  | 29 => ("SnapForgeModel", "code", "[I", true)
  | 30 => ("SnapForgeModel", "holds", "[I", true)
  | 31 => ("SnapForgeModel", "said", "[J", true)
  | 32 => ("SnapForgeModel", "image", "[I", true)
  | 33 => ("SnapForgeModel", "numberOf", "[I", true)
  | 34 => ("SnapForgeModel", "order", "[I", true)
  | 35 => ("SnapForgeModel", "size", "I", false)
  | 36 => ("SnapForgeModel", "ordered", "I", false)
  | 37 => ("SnapForgeModel", "where", "I", false)
  | 38 => ("SnapForgeModel", "fault", "I", false)
  | 39 => ("SnapForgeModel", "next", "I", false)
  | 40 => ("SnapForgeModel", "count", "I", false)
  | 41 => ("SnapForgeModel", "newState", "[I", true)
  | 42 => ("SnapForgeModel", "newError", "[I", true)
  | 43 => ("SnapForgeModel", "newFrames", "[I", true)
  | 44 => ("SnapForgeModel", "newFunction", "[I", true)
  | 45 => ("SnapForgeModel", "newPlace", "[I", true)
  | 46 => ("SnapForgeModel", "newClosure", "[I", true)
  | 47 => ("SnapForgeModel", "newDepth", "[I", true)
  | 48 => ("SnapForgeModel", "newSort", "[I", true)
  | 49 => ("SnapForgeModel", "newKind", "[I", true)
  | 50 => ("SnapForgeModel", "newCode", "[I", true)
  | 51 => ("SnapForgeModel", "newHolds", "[I", true)
  | 52 => ("SnapForgeModel", "newNumber", "[J", true)
  | 53 => ("SnapForgeModel", "cameUp", "I", false)
  | _ => ("SnapForgeModel", "inObjects", "Z", false)
def xcY_0 : Nat → FieldType := fun k => match k with
  | 0 => .object "SnapForge$Program"
  | 1 => .object "SnapForge$Engine"
  | 2 => .object "SnapForge$Image"
  | 3 => .object "SnapForge$Writer"
  | 4 => .object "SnapForge$Reader"
  | _ => .object "SnapForge$World"
def xcY_1 : Nat → FieldType := fun k => match k with
  | 0 => .array (.int)
  | _ => .array (.long)
def xcY_2 : Nat → FieldType := fun k => match k with
  | 0 => .object "SnapForge$Program"
  | 1 => .object "SnapForge$World"
  | 2 => .array (.long)
  | 3 => .int
  | _ => .int
def xcY_3 : Nat → FieldType := fun k => match k with
  | 0 => .object "SnapForge$Cells"
  | 1 => .int
  | 2 => .int
  | _ => .int
def xcY_4 : Nat → FieldType := fun k => match k with
  | 0 => .array (.int)
  | 1 => .array (.int)
  | 2 => .array (.int)
  | 3 => .object "SnapForge$Cells"
  | 4 => .int
  | 5 => .array (.int)
  | 6 => .array (.int)
  | _ => .int
def xcY_5 : Nat → FieldType := fun k => match k with
  | 0 => .array (.int)
  | _ => .int
def xcY_6 : Nat → FieldType := fun k => match k with
  | 0 => .array (.int)
  | 1 => .array (.int)
  | 2 => .array (.int)
  | 3 => .array (.int)
  | 4 => .array (.int)
  | 5 => .array (.int)
  | 6 => .array (.int)
  | 7 => .array (.int)
  | _ => .array (.int)
def xcY_7 : Nat → FieldType := fun k => match k with
  | 0 => .object "SnapForge$Image"
  | 1 => .object "SnapForge$World"
  | 2 => .int
  | 3 => .boolean
  | 4 => .int
  | _ => .int
def xcY_8 : Nat → FieldType := fun k => match k with
  | 0 => .array (.object "SnapForge$Frame")
  | 1 => .object "SnapForge$Cells"
  | 2 => .int
  | 3 => .int
  | _ => .int
def xcY_9 : Nat → FieldType := fun k => match k with
  | 0 => .array (.object "SnapForge$Strand")
  | 1 => .object "SnapForge$Heap"
  | 2 => .int
  | 3 => .int
  | _ => .int
def xcY_10 : Nat → FieldType := fun k => match k with
  | _ => .object "SnapForge$Image"
def xcY_11 : Nat → FieldType := fun k => match k with
  | 0 => .array (.int)
  | 1 => .array (.int)
  | 2 => .array (.int)
  | 3 => .array (.int)
  | 4 => .array (.int)
  | 5 => .array (.int)
  | 6 => .array (.int)
  | 7 => .array (.int)
  | 8 => .array (.int)
  | 9 => .int
  | 10 => .int
  | 11 => .int
  | 12 => .int
  | 13 => .int
  | 14 => .int
  | 15 => .int
  | 16 => .boolean
  | 17 => .array (.int)
  | 18 => .array (.int)
  | 19 => .array (.int)
  | 20 => .array (.int)
  | 21 => .array (.int)
  | 22 => .array (.int)
  | 23 => .array (.int)
  | 24 => .array (.int)
  | 25 => .array (.long)
  | 26 => .array (.boolean)
  | 27 => .array (.boolean)
  | 28 => .array (.int)
  | 29 => .array (.int)
  | 30 => .array (.int)
  | 31 => .array (.long)
  | 32 => .array (.int)
  | 33 => .array (.int)
  | 34 => .array (.int)
  | 35 => .int
  | 36 => .int
  | 37 => .int
  | 38 => .int
  | 39 => .int
  | 40 => .int
  | 41 => .array (.int)
  | 42 => .array (.int)
  | 43 => .array (.int)
  | 44 => .array (.int)
  | 45 => .array (.int)
  | 46 => .array (.int)
  | 47 => .array (.int)
  | 48 => .array (.int)
  | 49 => .array (.int)
  | 50 => .array (.int)
  | 51 => .array (.int)
  | 52 => .array (.long)
  | 53 => .int
  | _ => .boolean
def xc_cl : List vw_C := [("SnapForge", xcT_0, 6), ("SnapForge$Cells", xcT_1, 2), ("SnapForge$Engine", xcT_2, 5), ("SnapForge$Frame", xcT_3, 4), ("SnapForge$Heap", xcT_4, 8), ("SnapForge$Image", xcT_5, 2), ("SnapForge$Program", xcT_6, 9), ("SnapForge$Reader", xcT_7, 6), ("SnapForge$Strand", xcT_8, 5), ("SnapForge$World", xcT_9, 5), ("SnapForge$Writer", xcT_10, 1), ("SnapForgeModel", xcT_11, 55)]
def xc_cy : List (Nat → FieldType) := [xcY_0, xcY_1, xcY_2, xcY_3, xcY_4, xcY_5, xcY_6, xcY_7, xcY_8, xcY_9, xcY_10, xcY_11]
def xc_ons : List String := ["SnapForge", "SnapForge$Cells", "SnapForge$Engine", "SnapForge$Frame", "SnapForge$Heap", "SnapForge$Image", "SnapForge$Program", "SnapForge$Reader", "SnapForge$Strand", "SnapForge$World", "SnapForge$Writer", "SnapForgeModel", "SnapForgeLaw"]
def xc_on (c : Nat) : String := xc_ons.getD c ""
def xc_fks : List (List Nat) := [[2, 2, 2, 2, 2, 2], [2, 2], [2, 2, 2, 0, 0], [2, 0, 0, 0], [2, 2, 2, 2, 0, 2, 2, 0], [2, 0], [2, 2, 2, 2, 2, 2, 2, 2, 2], [2, 2, 0, 3, 0, 0], [2, 2, 0, 0, 0], [2, 2, 0, 0, 0], [2], [2, 2, 2, 2, 2, 2, 2, 2, 2, 0, 0, 0, 0, 0, 0, 0, 3, 2, 2, 2, 2, 2, 2, 2, 2, 2, 2, 2, 2, 2, 2, 2, 2, 2, 2, 0, 0, 0, 0, 0, 0, 2, 2, 2, 2, 2, 2, 2, 2, 2, 2, 2, 2, 0, 3]]
def xc_fk (ci : Nat) : List Nat := xc_fks.getD ci []
def xc_fins : List (List Bool) := [[true, true, true, true, true, false], [true, true], [true, false, true, false, false], [true, false, false, false], [true, true, true, true, false, true, true, false], [true, false], [true, true, true, true, true, true, true, true, true], [true, false, false, false, false, false], [true, true, false, false, false], [true, true, false, false, false], [true], [true, true, true, true, true, true, true, true, true, false, false, false, false, false, false, false, false, true, true, true, true, true, true, true, true, true, true, true, true, true, true, true, true, true, true, false, false, false, false, false, false, true, true, true, true, true, true, true, true, true, true, true, true, false, false]]
def xc_na : Nat := 5
def xc_ac (j : Nat) : Nat := if j = 3 then 8 else 3
def xc_tys (dA : Nat → ClassId) : List (ClassId × FieldType) := [(dA 0, .int), (dA 1, .long), (dA 2, .boolean), (dA 3, .object "SnapForge$Strand"), (dA 4, .object "SnapForge$Frame")]
def xc_owns : List Nat := [0, 0, 0, 0, 0, 0, 0, 0, 0, 0, 0, 0, 0, 0, 0, 0, 0, 0, 0, 0, 0, 0, 1, 1, 1, 1, 1, 1, 2, 2, 2, 2, 2, 2, 2, 2, 2, 2, 2, 2, 2, 2, 2, 2, 2, 2, 2, 2, 2, 2, 2, 2, 2, 3, 3, 3, 3, 3, 4, 4, 4, 4, 4, 4, 4, 4, 5, 5, 5, 5, 6, 6, 6, 6, 6, 6, 6, 6, 7, 7, 7, 7, 7, 7, 7, 7, 7, 7, 7, 7, 7, 7, 7, 8, 8, 8, 8, 9, 9, 9, 9, 9, 9, 10, 10, 10, 10, 10, 10, 10, 11, 11, 11, 11, 11, 11, 11, 11, 11, 11, 11, 11, 11, 11, 11, 11, 11, 11, 11, 11, 11, 11, 11, 11, 11, 11, 11, 11, 11, 11, 11, 11, 11, 11, 11, 11, 11, 11, 11, 11, 11, 11, 11, 11, 11, 11, 11, 11, 11, 11, 11, 11, 11, 11, 11, 11, 11, 11, 11, 11, 11, 11, 11, 12, 12, 12, 12, 12, 12, 12, 12, 12, 12, 12, 12, 12, 12]
def xc_own (y : Nat) : Nat := xc_owns.getD y 99
def xc_nls : List Nat := [1, 3, 5, 5, 4, 3, 2, 3, 3, 1, 2, 1, 2, 4, 3, 1, 1, 2, 2, 2, 2, 2, 2, 5, 4, 4, 2, 3, 2, 5, 6, 6, 7, 2, 5, 5, 9, 5, 5, 3, 3, 2, 2, 5, 2, 7, 3, 6, 6, 5, 6, 5, 5, 1, 1, 4, 3, 6, 1, 2, 2, 5, 5, 2, 4, 2, 1, 2, 6, 4, 1, 3, 6, 6, 3, 5, 2, 5, 2, 5, 3, 1, 4, 2, 2, 3, 6, 5, 4, 3, 6, 2, 3, 2, 3, 3, 1, 2, 1, 2, 3, 5, 1, 2, 4, 4, 3, 5, 6, 5, 1, 1, 3, 2, 3, 1, 1, 6, 6, 4, 5, 3, 1, 3, 5, 6, 5, 5, 2, 4, 4, 1, 4, 1, 12, 6, 6, 6, 5, 4, 3, 3, 6, 3, 7, 7, 5, 2, 9, 2, 2, 5, 2, 5, 2, 4, 3, 3, 4, 3, 3, 4, 4, 6, 5, 4, 5, 7, 3, 1, 2, 5, 3, 5, 7, 7, 6, 4, 4, 4, 4, 3, 3, 4, 6, 4, 8]
def xc_nl (y : Nat) : Nat := xc_nls.getD y 0
def xc_levs : List Nat := [6, 7, 7, 7, 7, 8, 7, 7, 7, 7, 7, 1, 7, 7, 7, 1, 1, 1, 1, 1, 2, 1, 1, 1, 1, 1, 1, 1, 5, 3, 7, 3, 6, 1, 5, 5, 3, 1, 4, 3, 2, 2, 2, 3, 3, 3, 1, 2, 2, 4, 3, 4, 4, 2, 1, 2, 3, 2, 2, 1, 1, 2, 1, 1, 1, 1, 1, 1, 1, 1, 1, 1, 1, 1, 1, 1, 1, 1, 1, 6, 1, 1, 5, 2, 4, 3, 3, 2, 2, 5, 4, 2, 2, 3, 1, 2, 1, 4, 1, 1, 1, 2, 3, 1, 6, 5, 4, 4, 3, 2, 1, 1, 1, 1, 2, 1, 1, 2, 2, 1, 1, 2, 1, 1, 2, 2, 3, 3, 1, 2, 3, 4, 2, 1, 2, 3, 5, 4, 5, 4, 3, 1, 5, 2, 6, 7, 3, 1, 8, 2, 2, 2, 1, 2, 1, 3, 4, 4, 1, 5, 1, 2, 3, 4, 5, 6, 5, 7, 8, 1, 2, 2, 2, 8, 8, 8, 8, 9, 8, 8, 8, 8, 8, 8, 8, 8, 10]
def xc_lev (y : Nat) : Nat := xc_levs.getD y 0
def xc_mcs : List Nat := [188, 1, 1, 1, 1, 1, 1, 1, 1, 1, 1, 0, 1, 1, 1, 0, 0, 0, 0, 0, 0, 0, 2, 0, 0, 0, 0, 0, 87, 0, 0, 0, 0, 0, 0, 0, 0, 0, 0, 0, 0, 0, 0, 0, 0, 0, 0, 0, 0, 0, 0, 0, 0, 3, 0, 0, 0, 0, 8, 0, 0, 0, 0, 0, 0, 0, 1, 0, 0, 0, 9, 0, 0, 0, 0, 0, 0, 0, 0, 0, 0, 0, 0, 0, 0, 0, 0, 0, 0, 0, 0, 0, 0, 24, 0, 0, 0, 85, 0, 0, 0, 0, 0, 0, 0, 0, 0, 0, 0, 0, 39, 0, 0, 0, 0, 0, 0, 0, 0, 0, 0, 0, 0, 0, 0, 0, 0, 0, 0, 0, 0, 0, 0, 0, 0, 0, 0, 0, 0, 0, 0, 0, 0, 0, 0, 0, 0, 0, 0, 0, 0, 0, 0, 0, 0, 0, 0, 0, 0, 0, 0, 0, 0, 0, 0, 0, 0, 0, 0, 0, 0, 0, 0, 1, 1, 1, 1, 1, 1, 1, 1, 1, 1, 1, 1, 1, 601024]
def xc_mc (y : Nat) : Nat := xc_mcs.getD y 0
def xc_mss : List Nat := [9075, 6, 6, 6, 6, 6, 6, 6, 6, 6, 6, 0, 6, 6, 6, 0, 0, 0, 0, 0, 0, 0, 144, 0, 0, 0, 0, 0, 3040, 0, 0, 0, 0, 0, 0, 0, 0, 0, 0, 0, 0, 0, 0, 0, 0, 0, 0, 0, 0, 0, 0, 0, 0, 146, 0, 0, 0, 0, 266, 0, 0, 0, 0, 0, 0, 0, 2400, 0, 0, 0, 612, 0, 0, 0, 0, 0, 0, 0, 0, 0, 0, 0, 0, 0, 0, 0, 0, 0, 0, 0, 0, 0, 0, 901, 0, 0, 0, 2995, 0, 0, 0, 0, 0, 0, 0, 0, 0, 0, 0, 0, 9000, 0, 0, 0, 0, 0, 0, 0, 0, 0, 0, 0, 0, 0, 0, 0, 0, 0, 0, 0, 0, 0, 0, 0, 0, 0, 0, 0, 0, 0, 0, 0, 0, 0, 0, 0, 0, 0, 0, 0, 0, 0, 0, 0, 0, 0, 0, 0, 0, 0, 0, 0, 0, 0, 0, 0, 0, 0, 0, 0, 0, 0, 0, 6, 6, 6, 6, 6, 6, 6, 6, 6, 6, 6, 6, 6, 7293034]
def xc_ms (y : Nat) : Nat := xc_mss.getD y 0
def xc_kinds : List Nat := [2, 1, 1, 1, 1, 1, 1, 1, 1, 1, 1, 1, 1, 1, 1, 0, 0, 0, 0, 1, 0, 0, 2, 1, 1, 1, 1, 1, 2, 1, 1, 1, 1, 0, 1, 1, 1, 0, 1, 1, 1, 1, 1, 1, 1, 1, 0, 1, 1, 1, 1, 1, 1, 2, 1, 1, 1, 1, 2, 1, 1, 1, 1, 1, 1, 1, 2, 1, 1, 1, 2, 1, 1, 1, 1, 1, 1, 1, 2, 1, 1, 1, 1, 1, 1, 1, 1, 1, 1, 1, 1, 1, 1, 2, 1, 1, 1, 2, 1, 1, 1, 1, 1, 2, 1, 1, 1, 1, 1, 1, 2, 1, 0, 1, 1, 0, 0, 1, 1, 1, 1, 1, 1, 1, 1, 1, 1, 1, 1, 1, 1, 1, 1, 0, 1, 1, 1, 1, 1, 1, 1, 0, 1, 1, 1, 1, 1, 1, 1, 1, 1, 1, 1, 1, 1, 1, 1, 1, 1, 1, 1, 1, 1, 1, 1, 1, 1, 1, 1, 1, 1, 1, 1, 0, 0, 0, 0, 0, 0, 0, 0, 0, 0, 0, 0, 0, 0]
def xc_kind (y : Nat) : Nat := xc_kinds.getD y 9
def xc_rets : List Nat := [0, 1, 1, 1, 1, 1, 3, 3, 1, 1, 1, 1, 1, 1, 1, 2, 2, 2, 1, 1, 1, 1, 0, 0, 0, 0, 2, 2, 0, 0, 0, 0, 1, 1, 1, 1, 1, 3, 1, 1, 1, 1, 1, 1, 1, 1, 1, 1, 1, 1, 1, 1, 1, 0, 1, 1, 1, 0, 0, 0, 1, 1, 0, 0, 0, 0, 0, 0, 1, 1, 0, 0, 0, 0, 1, 1, 1, 1, 0, 0, 1, 0, 0, 1, 0, 0, 0, 3, 1, 0, 0, 0, 0, 0, 0, 4, 4, 0, 2, 2, 0, 0, 2, 0, 0, 0, 0, 0, 0, 0, 0, 1, 2, 1, 1, 1, 1, 1, 1, 1, 0, 0, 1, 1, 0, 0, 0, 1, 2, 2, 0, 2, 1, 2, 1, 1, 1, 1, 1, 1, 1, 1, 1, 1, 1, 1, 0, 2, 1, 3, 3, 1, 0, 0, 1, 0, 0, 0, 1, 1, 0, 1, 1, 0, 0, 0, 0, 1, 1, 1, 1, 1, 1, 1, 1, 1, 1, 1, 1, 1, 1, 1, 1, 1, 1, 1, 2]
def xc_ret (y : Nat) : Nat := xc_rets.getD y 9
def xc_yc (y : Nat) : Nat := xc_own y
/-- a field that the method may write: not final, or of its own class in a constructor -/
def xc_may (y ci f : Nat) : Bool := !((xc_fins.getD ci []).getD f true) || (decide (xc_kind y = 2) && decide (xc_own y = ci))
def xc_flds : List (List (Nat × (Nat × Nat) × Nat)) := [[(10, ((0, 0), 354)), (21, ((0, 1), 355)), (28, ((0, 2), 356)), (37, ((0, 3), 357)), (44, ((0, 4), 358)), (51, ((0, 5), 359)), (77, ((6, 1), 39)), (94, ((6, 5), 47)), (104, ((6, 0), 37)), (107, ((2, 1), 279)), (120, ((2, 3), 283)), (127, ((2, 2), 281)), (131, ((9, 2), 255)), (134, ((9, 0), 245)), (138, ((8, 2), 220)), (143, ((8, 1), 213)), (155, ((1, 1), 106)), (174, ((5, 1), 309)), (180, ((7, 3), 336)), (184, ((7, 2), 334)), (187, ((5, 0), 305)), (197, ((9, 3), 260)), (200, ((9, 4), 265)), (203, ((9, 1), 250)), (207, ((4, 4), 132)), (210, ((2, 4), 285)), (213, ((8, 3), 225)), (216, ((8, 4), 229)), (227, ((3, 3), 195)), (230, ((3, 2), 188)), (233, ((3, 1), 183))], [(9, ((1, 0), 97)), (15, ((1, 1), 102))], [(12, ((2, 1), 278)), (18, ((2, 2), 280)), (22, ((2, 0), 277)), (26, ((2, 3), 282)), (30, ((2, 4), 284)), (33, ((9, 2), 252)), (36, ((9, 3), 256)), (39, ((9, 4), 261)), (42, ((9, 1), 248)), (51, ((9, 0), 242)), (65, ((6, 0), 36)), (71, ((3, 0), 175)), (87, ((3, 1), 181)), (90, ((3, 2), 185)), (105, ((6, 2), 41)), (108, ((8, 2), 218)), (114, ((8, 3), 223)), (117, ((8, 0), 207)), (124, ((3, 3), 192)), (131, ((6, 3), 43)), (134, ((6, 4), 45)), (225, ((1, 1), 107)), (232, ((1, 0), 101)), (245, ((4, 3), 128)), (253, ((4, 2), 123)), (256, ((4, 1), 119)), (259, ((8, 1), 214))], [(14, ((3, 0), 174)), (20, ((3, 3), 189)), (28, ((1, 0), 98)), (32, ((1, 1), 103))], [(9, ((4, 0), 114)), (15, ((4, 1), 117)), (18, ((4, 2), 120)), (26, ((4, 3), 124)), (30, ((4, 5), 133)), (33, ((4, 6), 135)), (36, ((4, 4), 129)), (52, ((4, 7), 140)), (55, ((1, 0), 100)), (56, ((1, 1), 105))], [(9, ((5, 0), 303)), (15, ((5, 1), 306))], [(9, ((6, 0), 35)), (15, ((6, 1), 38)), (18, ((6, 2), 40)), (21, ((6, 3), 42)), (24, ((6, 4), 44)), (27, ((6, 5), 46)), (30, ((6, 6), 48)), (33, ((6, 7), 49)), (36, ((6, 8), 50))], [(9, ((7, 2), 333)), (15, ((7, 0), 331)), (19, ((7, 1), 332)), (23, ((7, 4), 337)), (26, ((7, 5), 338)), (29, ((9, 1), 247)), (44, ((5, 1), 308)), (49, ((7, 3), 335)), (53, ((9, 3), 258)), (56, ((9, 4), 263)), (59, ((9, 2), 254)), (62, ((9, 0), 244)), (79, ((5, 0), 304)), (89, ((8, 2), 219)), (92, ((8, 1), 211)), (104, ((8, 4), 228)), (118, ((3, 2), 187)), (121, ((3, 0), 179)), (128, ((3, 3), 194)), (143, ((4, 4), 131)), (149, ((4, 0), 116)), (160, ((4, 3), 127))], [(11, ((8, 0), 205)), (22, ((8, 1), 209)), (27, ((8, 2), 215)), (31, ((8, 4), 226)), (34, ((8, 3), 221)), (37, ((3, 1), 180)), (40, ((3, 2), 184)), (43, ((3, 3), 190)), (46, ((3, 0), 176))], [(11, ((9, 0), 241)), (20, ((9, 1), 246)), (25, ((9, 2), 251)), (29, ((8, 2), 217)), (32, ((9, 4), 264)), (35, ((9, 3), 259)), (41, ((8, 1), 212)), (49, ((8, 3), 224)), (52, ((8, 0), 208)), (56, ((3, 3), 193)), (61, ((3, 0), 178)), (64, ((4, 7), 139)), (67, ((4, 6), 137)), (71, ((4, 2), 122)), (74, ((4, 3), 126)), (79, ((4, 4), 130))], [(9, ((10, 0), 321)), (20, ((5, 1), 307)), (30, ((9, 3), 257)), (33, ((9, 4), 262)), (36, ((9, 2), 253)), (39, ((9, 0), 243)), (43, ((9, 1), 249)), (59, ((8, 2), 216)), (64, ((8, 1), 210)), (72, ((8, 4), 227)), (75, ((8, 3), 222)), (78, ((8, 0), 206)), (86, ((3, 1), 182)), (91, ((3, 2), 186)), (94, ((3, 0), 177)), (97, ((3, 3), 191)), (98, ((4, 7), 138)), (103, ((4, 6), 136)), (107, ((4, 0), 115)), (110, ((4, 1), 118)), (113, ((4, 2), 121)), (119, ((4, 3), 125)), (120, ((1, 0), 99)), (123, ((1, 1), 104)), (131, ((4, 5), 134))], [(7, ((11, 0), 947)), (13, ((11, 1), 948)), (16, ((11, 2), 949)), (19, ((11, 3), 950)), (22, ((11, 4), 951)), (25, ((11, 5), 952)), (28, ((11, 6), 953)), (31, ((11, 7), 954)), (34, ((11, 8), 955)), (37, ((11, 17), 964)), (40, ((11, 18), 965)), (43, ((11, 19), 966)), (46, ((11, 20), 967)), (49, ((11, 21), 968)), (52, ((11, 22), 969)), (55, ((11, 23), 970)), (58, ((11, 24), 971)), (61, ((11, 25), 972)), (65, ((11, 26), 973)), (69, ((11, 27), 974)), (72, ((11, 28), 975)), (75, ((11, 29), 976)), (78, ((11, 30), 977)), (81, ((11, 31), 978)), (84, ((11, 32), 979)), (87, ((11, 33), 980)), (90, ((11, 34), 981)), (93, ((11, 37), 984)), (97, ((11, 41), 988)), (100, ((11, 42), 989)), (103, ((11, 43), 990)), (106, ((11, 44), 991)), (109, ((11, 45), 992)), (112, ((11, 46), 993)), (115, ((11, 47), 994)), (118, ((11, 48), 995)), (121, ((11, 49), 996)), (124, ((11, 50), 997)), (127, ((11, 51), 998)), (130, ((11, 52), 999)), (133, ((11, 14), 961)), (154, ((11, 10), 957)), (165, ((11, 16), 963)), (169, ((11, 9), 956)), (172, ((11, 11), 958)), (175, ((11, 12), 959)), (178, ((11, 13), 960)), (181, ((11, 15), 962)), (265, ((11, 35), 982)), (271, ((11, 36), 983)), (297, ((11, 38), 985)), (300, ((11, 39), 986)), (309, ((11, 53), 1000)), (312, ((11, 54), 1001)), (315, ((11, 40), 987))], []]
def xc_at {α : Type} (L : List (List (Nat × α))) (own x : Nat) : Option α := ((L.getD own []).find? (fun e => e.1 == x)).map (fun e => e.2)
def xc_fld (own x : Nat) : Option (Nat × Nat) := (xc_at xc_flds own x).map (fun e => e.1)
def xc_stas : List (List (Nat × Nat × Nat)) := [[(66, (0, 464)), (74, (1, 469))], [], [], [], [], [], [(39, (2, 573))], [], [], [], [], [], []]
def xc_sta (own x : Nat) : Option Nat := (xc_at xc_stas own x).map (fun e => e.1)
def xc_ros : List (List Int32) := [[(-1), (-2), (-2), (-1), 3, 3, (-1), (-1), (-1), (-1), (-1), (-1), (-1), (-1), (-1), (-1), (-1), 2, 2, 5, 1, 5, (-1), (-1), (-1), (-1), 5, (-1)], [(-1), (-1), (-2), (-1), (-1), (-1), (-1), (-1), (-1), (-1), (-1), (-1), (-1), (-1), 29, 29, (-1), (-1), (-1), 2, (-1), (-1), (-1), (-1), (-1), (-1), (-1), (-1)], [0, 0, 0, 0, 0, 1, 1, 1, 2, 2, 2, 2, 2, 2, 0, 1, 0, 1, 2, 0, 0, 0, 1, 1, 1, 1, 0, 0]]
def xc_ro (j : Nat) : Option (List Int32) := xc_ros[j]?
def xc_vrts : List (List (Nat × (Nat × Nat) × Nat)) := [[(62, ((71, 3), 452)), (87, ((72, 5), 489)), (97, ((73, 5), 503)), (100, ((29, 4), 514)), (110, ((98, 1), 545)), (114, ((99, 1), 549)), (117, ((30, 1), 553)), (147, ((26, 2), 762)), (158, ((19, 2), 785)), (166, ((77, 1), 803)), (170, ((104, 3), 807)), (177, ((79, 3), 848)), (190, ((67, 2), 929)), (193, ((68, 4), 930)), (219, ((96, 1), 792))], [], [(46, ((59, 1), 518)), (55, ((94, 3), 522)), (61, ((95, 2), 526)), (77, ((23, 4), 534)), (83, ((96, 1), 557)), (93, ((74, 3), 561)), (97, ((32, 4), 565)), (101, ((31, 3), 719)), (111, ((100, 1), 727)), (121, ((75, 3), 723)), (127, ((55, 3), 658)), (137, ((76, 2), 569)), (141, ((40, 3), 575)), (145, ((50, 5), 583)), (149, ((51, 3), 595)), (153, ((52, 3), 602)), (156, ((35, 5), 616)), (163, ((34, 5), 679)), (166, ((56, 3), 607)), (170, ((54, 1), 579)), (173, ((24, 4), 606)), (177, ((36, 3), 683)), (180, ((38, 2), 694)), (184, ((27, 3), 702)), (188, ((39, 3), 698)), (192, ((41, 2), 706)), (195, ((42, 2), 711)), (198, ((43, 3), 715)), (201, ((102, 1), 620)), (205, ((44, 2), 644)), (208, ((47, 3), 659)), (211, ((48, 3), 664)), (214, ((45, 4), 668)), (218, ((49, 3), 672)), (221, ((26, 2), 687)), (237, ((57, 4), 587)), (241, ((61, 4), 648)), (246, ((60, 2), 663))], [(24, ((23, 4), 615)), (36, ((55, 3), 611)), (40, ((24, 4), 591))], [(40, ((62, 5), 652)), (44, ((60, 2), 656)), (48, ((25, 3), 657))], [], [], [(35, ((59, 1), 852)), (40, ((80, 3), 853)), (66, ((82, 2), 857)), (70, ((89, 1), 895)), (73, ((91, 1), 905)), (76, ((92, 1), 910)), (83, ((94, 3), 861)), (96, ((86, 4), 862)), (100, ((83, 1), 882)), (107, ((95, 2), 886)), (111, ((84, 2), 887)), (115, ((81, 1), 878)), (124, ((85, 2), 891)), (129, ((88, 2), 871)), (133, ((23, 4), 870)), (139, ((87, 2), 866)), (152, ((90, 2), 899)), (156, ((62, 5), 903)), (161, ((60, 2), 904)), (164, ((69, 2), 909)), (167, ((99, 1), 914))], [(49, ((25, 3), 530))], [(38, ((63, 1), 628)), (45, ((64, 3), 632)), (75, ((60, 2), 636)), (80, ((101, 1), 624)), (83, ((65, 1), 640))], [(15, ((101, 1), 811)), (26, ((67, 2), 812)), (47, ((105, 3), 816)), (51, ((107, 2), 832)), (55, ((69, 2), 837)), (68, ((108, 5), 820)), (82, ((106, 3), 828)), (116, ((60, 2), 836)), (127, ((109, 3), 824))], [(140, ((113, 2), 1125)), (150, ((120, 4), 1151)), (157, ((123, 3), 1182)), (161, ((121, 3), 1186)), (184, ((125, 4), 1147)), (188, ((128, 2), 1229)), (192, ((129, 1), 1233)), (196, ((130, 1), 1225)), (202, ((131, 1), 1221)), (205, ((132, 2), 1237)), (208, ((124, 4), 1198)), (211, ((126, 4), 1178)), (214, ((137, 4), 1174)), (218, ((134, 3), 1206)), (221, ((135, 4), 1213)), (224, ((136, 4), 1217)), (229, ((143, 2), 1242)), (232, ((139, 3), 1246)), (235, ((142, 5), 1250)), (242, ((138, 2), 1190)), (245, ((140, 2), 1194)), (248, ((144, 5), 1202)), (251, ((122, 1), 1163)), (255, ((147, 1), 1159)), (258, ((145, 2), 1167)), (261, ((146, 2), 1254)), (268, ((152, 2), 1274)), (274, ((153, 3), 1290)), (278, ((154, 2), 1294)), (281, ((155, 3), 1286)), (285, ((119, 1), 1278)), (288, ((156, 2), 1282)), (291, ((157, 2), 1298)), (294, ((158, 2), 1302)), (303, ((160, 3), 1318)), (306, ((161, 4), 1314)), (318, ((162, 2), 1330)), (321, ((163, 2), 1334)), (324, ((164, 2), 1326)), (327, ((165, 2), 1322)), (330, ((166, 2), 1338)), (333, ((167, 1), 1310))], [(7, ((1, 3), 381)), (15, ((2, 5), 460)), (21, ((3, 5), 496)), (24, ((4, 4), 510)), (28, ((5, 2), 541)), (32, ((6, 2), 735)), (38, ((7, 2), 758)), (43, ((8, 2), 781)), (46, ((9, 1), 799)), (50, ((10, 1), 844)), (53, ((12, 2), 918)), (56, ((13, 4), 925)), (60, ((14, 2), 937)), (72, ((114, 3), 1118)), (73, ((111, 1), 1114)), (79, ((117, 5), 1129)), (82, ((118, 5), 1139)), (86, ((127, 4), 1143)), (90, ((148, 2), 1155)), (93, ((149, 2), 1258)), (96, ((150, 2), 1262)), (99, ((151, 2), 1266)), (103, ((159, 1), 1270)), (106, ((168, 1), 1306)), (107, ((11, 1), 373)), (110, ((169, 1), 1342)), (113, ((170, 2), 1346)), (117, ((171, 4), 1350)), (120, ((172, 2), 1354))]]
def xc_spcs : List (List (Nat × (Nat × Nat) × Bool × Nat)) := [[(9, ((70, 1), true, 31)), (18, ((28, 2), false, 73)), (27, ((66, 1), true, 299)), (34, ((103, 2), false, 317)), (43, ((78, 2), false, 327)), (50, ((97, 1), false, 353))], [], [(11, ((97, 1), false, 79))], [(11, ((22, 2), false, 173))], [(23, ((22, 2), false, 93))], [], [], [], [(19, ((22, 2), false, 166)), (26, ((53, 1), true, 168))], [(19, ((58, 1), true, 87)), (24, ((93, 1), false, 159))], [], [], [(63, ((0, 1), false, 23)), (66, ((110, 1), false, 943))]]
def xc_stts : List (List (Nat × (Nat × Nat) × Nat)) := [[(55, ((15, 1), 385)), (70, ((17, 2), 466)), (83, ((18, 2), 486)), (91, ((16, 1), 500)), (162, ((20, 2), 789)), (223, ((21, 2), 793))], [], [(160, ((33, 2), 676)), (228, ((37, 3), 691)), (249, ((46, 3), 599))], [], [], [], [], [], [], [], [], [(136, ((112, 3), 1122)), (144, ((115, 1), 1133)), (147, ((116, 1), 1136)), (199, ((133, 1), 1210)), (239, ((141, 3), 1171))], []]
def xc_vrt (own x : Nat) : Option (Nat × Nat) := (xc_at xc_vrts own x).map (fun e => e.1)
def xc_spc (own x : Nat) : Option (Nat × Nat) := (xc_at xc_spcs own x).map (fun e => e.1)
def xc_stt (own x : Nat) : Option (Nat × Nat) := (xc_at xc_stts own x).map (fun e => e.1)
/-- the law's calls of its wrappers -/
def xc_stws : List (Nat × (Nat × Nat) × Nat) := [(67, ((173, 4), 377)), (76, ((174, 6), 456)), (80, ((175, 6), 493)), (83, ((176, 5), 507)), (87, ((177, 3), 538)), (91, ((178, 3), 731)), (94, ((179, 3), 754)), (97, ((180, 3), 778)), (100, ((181, 2), 796)), (104, ((182, 2), 841)), (111, ((183, 3), 915)), (114, ((184, 5), 922)), (118, ((185, 3), 934))]
def xc_objs : List (List (Nat × Nat)) := [[(1, 26)], [(3, 96)], [(3, 76)], [(3, 171)], [(3, 90)], [(3, 302)], [(3, 34)], [(3, 330)], [(3, 162)], [(3, 82)], [(3, 320)], [(1, 946)], []]
def xc_obj (own x : Nat) : Bool := (xc_at xc_objs own x).isSome
def xc_mins : List (List (Nat × Nat)) := [[], [], [], [], [], [], [], [(144, 875)], [], [], [], [], []]
def xc_min (own x : Nat) : Bool := (xc_at xc_mins own x).isSome
def xc_news : List (List (Nat × Nat × Nat)) := [[(7, (6, 29)), (16, (2, 71)), (25, (5, 297)), (32, (10, 315)), (41, (7, 325)), (48, (9, 352))], [], [(9, (9, 77))], [(9, (1, 172))], [(21, (1, 91))], [], [], [], [(9, (3, 163)), (17, (1, 165))], [(9, (8, 83)), (17, (4, 85))], [], [], [(8, (0, 21)), (64, (11, 941))]]
def xc_new (own x : Nat) : Option Nat := (xc_at xc_news own x).map (fun e => e.1)
def xc_anews : List (List (Nat × Nat × Nat)) := [[], [], [], [], [], [], [], [], [(9, (4, 163))], [(9, (3, 83))], [], [], []]
def xc_anew (own x : Nat) : Option Nat := (xc_at xc_anews own x).map (fun e => e.1)
def xc_excs : List (List (Nat × (Nat × Nat) × Nat)) := [[(59, ((0, 6), 388)), (80, ((1, 6), 471)), (124, ((2, 6), 739)), (152, ((3, 6), 763))], [], [], [], [], [], [], [], [], [], [], [], []]
def xc_exc (own x : Nat) : Option (Nat × Nat) := (xc_at xc_excs own x).map (fun e => e.1)
def xc_longs : List (List (Nat × Int64 × Nat)) := [[], [], [(235, (15, 710))], [], [], [], [], [], [], [], [], [(227, (15, 1241))], []]
def xc_long (own x : Nat) : Option Int64 := (xc_at xc_longs own x).map (fun e => e.1)
def xc_int (_ _ : Nat) : Option Int32 := none
def xc_ys : List MethodName := [⟨"SnapForge", "<init>", "()V"⟩, ⟨"SnapForge", "function", "(II)I"⟩, ⟨"SnapForge", "add", "(IIII)I"⟩, ⟨"SnapForge", "handle", "(IIII)I"⟩, ⟨"SnapForge", "start", "(III)I"⟩, ⟨"SnapForge", "run", "(I)I"⟩, ⟨"SnapForge", "said", "(I)J"⟩, ⟨"SnapForge", "value", "(I)J"⟩, ⟨"SnapForge", "told", "(I)I"⟩, ⟨"SnapForge", "snapshot", "()I"⟩, ⟨"SnapForge", "load", "()I"⟩, ⟨"SnapForge", "where", "()I"⟩, ⟨"SnapForge", "image", "(I)I"⟩, ⟨"SnapForge", "patch", "(IIZ)I"⟩, ⟨"SnapForge", "cut", "(I)I"⟩, ⟨"SnapForge", "isFunction", "(I)Z"⟩, ⟨"SnapForge", "isCodePlace", "(I)Z"⟩, ⟨"SnapForge", "fits", "(II)Z"⟩, ⟨"SnapForge", "kept", "(II)I"⟩, ⟨"SnapForge", "toldOfAll", "(I)I"⟩, ⟨"SnapForge", "toldOfStrand", "(LSnapForge$Strand;I)I"⟩, ⟨"SnapForge", "toldOfFrame", "(LSnapForge$Frame;I)I"⟩, ⟨"SnapForge$Cells", "<init>", "(I)V"⟩, ⟨"SnapForge$Cells", "put", "(IIJ)V"⟩, ⟨"SnapForge$Cells", "copy", "(ILSnapForge$Cells;I)V"⟩, ⟨"SnapForge$Cells", "putNulls", "(II)V"⟩, ⟨"SnapForge$Cells", "isNumber", "(I)Z"⟩, ⟨"SnapForge$Cells", "isSame", "(II)Z"⟩, ⟨"SnapForge$Engine", "<init>", "(LSnapForge$Program;)V"⟩, ⟨"SnapForge$Engine", "begin", "(III)V"⟩, ⟨"SnapForge$Engine", "step", "()V"⟩, ⟨"SnapForge$Engine", "raise", "(LSnapForge$Strand;I)V"⟩, ⟨"SnapForge$Engine", "perform", "(LSnapForge$Strand;LSnapForge$Frame;I)I"⟩, ⟨"SnapForge$Engine", "goOn", "(LSnapForge$Frame;I)I"⟩, ⟨"SnapForge$Engine", "performInLine", "(LSnapForge$Frame;III)I"⟩, ⟨"SnapForge$Engine", "performOnObjects", "(LSnapForge$Frame;III)I"⟩, ⟨"SnapForge$Engine", "compute", "(LSnapForge$Frame;I)I"⟩, ⟨"SnapForge$Engine", "combine", "(IJJ)J"⟩, ⟨"SnapForge$Engine", "compare", "(LSnapForge$Frame;)I"⟩, ⟨"SnapForge$Engine", "answer", "(LSnapForge$Frame;Z)I"⟩, ⟨"SnapForge$Engine", "branch", "(LSnapForge$Frame;I)I"⟩, ⟨"SnapForge$Engine", "throwNumber", "(LSnapForge$Frame;)I"⟩, ⟨"SnapForge$Engine", "say", "(LSnapForge$Frame;)I"⟩, ⟨"SnapForge$Engine", "fork", "(LSnapForge$Frame;I)I"⟩, ⟨"SnapForge$Engine", "makeRecord", "(LSnapForge$Frame;)I"⟩, ⟨"SnapForge$Engine", "makeClosure", "(LSnapForge$Frame;II)I"⟩, ⟨"SnapForge$Engine", "testKind", "(LSnapForge$Cells;II)I"⟩, ⟨"SnapForge$Engine", "getField", "(LSnapForge$Frame;I)I"⟩, ⟨"SnapForge$Engine", "putField", "(LSnapForge$Frame;I)I"⟩, ⟨"SnapForge$Engine", "pushHeld", "(LSnapForge$Frame;I)I"⟩, ⟨"SnapForge$Engine", "enter", "(LSnapForge$Strand;LSnapForge$Frame;II)I"⟩, ⟨"SnapForge$Engine", "applyClosure", "(LSnapForge$Strand;LSnapForge$Frame;)I"⟩, ⟨"SnapForge$Engine", "leave", "(LSnapForge$Strand;LSnapForge$Frame;)I"⟩, ⟨"SnapForge$Frame", "<init>", "()V"⟩, ⟨"SnapForge$Frame", "top", "()I"⟩, ⟨"SnapForge$Frame", "push", "(IJ)I"⟩, ⟨"SnapForge$Frame", "pushCopy", "(LSnapForge$Cells;I)I"⟩, ⟨"SnapForge$Frame", "takeArguments", "(LSnapForge$Frame;II)V"⟩, ⟨"SnapForge$Heap", "<init>", "()V"⟩, ⟨"SnapForge$Heap", "clear", "()V"⟩, ⟨"SnapForge$Heap", "first", "(I)I"⟩, ⟨"SnapForge$Heap", "make", "(III)I"⟩, ⟨"SnapForge$Heap", "shape", "(IIII)V"⟩, ⟨"SnapForge$Heap", "beginSearch", "()V"⟩, ⟨"SnapForge$Heap", "meet", "(LSnapForge$Cells;I)V"⟩, ⟨"SnapForge$Heap", "dropOthers", "()V"⟩, ⟨"SnapForge$Image", "<init>", "()V"⟩, ⟨"SnapForge$Image", "append", "(I)V"⟩, ⟨"SnapForge$Image", "change", "(IIZ)I"⟩, ⟨"SnapForge$Image", "sumOf", "(I)I"⟩, ⟨"SnapForge$Program", "<init>", "()V"⟩, ⟨"SnapForge$Program", "reset", "(II)V"⟩, ⟨"SnapForge$Program", "append", "(IIII)V"⟩, ⟨"SnapForge$Program", "appendHandler", "(IIII)V"⟩, ⟨"SnapForge$Program", "find", "(II)I"⟩, ⟨"SnapForge$Program", "findHandler", "(II)I"⟩, ⟨"SnapForge$Program", "taken", "(I)I"⟩, ⟨"SnapForge$Program", "codeSum", "()I"⟩, ⟨"SnapForge$Reader", "<init>", "(LSnapForge$Image;)V"⟩, ⟨"SnapForge$Reader", "read", "(LSnapForge$World;I)V"⟩, ⟨"SnapForge$Reader", "readByte", "(II)I"⟩, ⟨"SnapForge$Reader", "refuseByte", "()V"⟩, ⟨"SnapForge$Reader", "readStrand", "(LSnapForge$Strand;)V"⟩, ⟨"SnapForge$Reader", "readError", "()I"⟩, ⟨"SnapForge$Reader", "readFrame", "(LSnapForge$Frame;)V"⟩, ⟨"SnapForge$Reader", "readClosure", "(LSnapForge$Cells;)V"⟩, ⟨"SnapForge$Reader", "readValues", "(LSnapForge$Cells;II)V"⟩, ⟨"SnapForge$Reader", "readNumber", "(I)J"⟩, ⟨"SnapForge$Reader", "readObjectNumber", "(I)I"⟩, ⟨"SnapForge$Reader", "readObjects", "()V"⟩, ⟨"SnapForge$Reader", "readObject", "(I)V"⟩, ⟨"SnapForge$Reader", "readEnd", "()V"⟩, ⟨"SnapForge$Reader", "testTurn", "()V"⟩, ⟨"SnapForge$Strand", "<init>", "()V"⟩, ⟨"SnapForge$Strand", "become", "(II)V"⟩, ⟨"SnapForge$Strand", "open", "(I)LSnapForge$Frame;"⟩, ⟨"SnapForge$Strand", "top", "()LSnapForge$Frame;"⟩, ⟨"SnapForge$World", "<init>", "()V"⟩, ⟨"SnapForge$World", "isEmpty", "()Z"⟩, ⟨"SnapForge$World", "someRuns", "()Z"⟩, ⟨"SnapForge$World", "passTurn", "()V"⟩, ⟨"SnapForge$World", "findObjects", "()V"⟩, ⟨"SnapForge$World", "hasRoom", "()Z"⟩, ⟨"SnapForge$Writer", "<init>", "(LSnapForge$Image;)V"⟩, ⟨"SnapForge$Writer", "write", "(LSnapForge$World;I)V"⟩, ⟨"SnapForge$Writer", "writeStrand", "(LSnapForge$Strand;LSnapForge$Heap;)V"⟩, ⟨"SnapForge$Writer", "writeFrame", "(LSnapForge$Frame;LSnapForge$Heap;)V"⟩, ⟨"SnapForge$Writer", "writeObjects", "(LSnapForge$Heap;)V"⟩, ⟨"SnapForge$Writer", "writeValues", "(LSnapForge$Cells;IILSnapForge$Heap;)V"⟩, ⟨"SnapForge$Writer", "writeNumber", "(JI)V"⟩, ⟨"SnapForgeModel", "<init>", "()V"⟩, ⟨"SnapForgeModel", "thrown", "()I"⟩, ⟨"SnapForgeModel", "in", "(III)Z"⟩, ⟨"SnapForgeModel", "fail", "(I)I"⟩, ⟨"SnapForgeModel", "function", "(II)I"⟩, ⟨"SnapForgeModel", "mostA", "(I)I"⟩, ⟨"SnapForgeModel", "mostB", "(I)I"⟩, ⟨"SnapForgeModel", "add", "(IIII)I"⟩, ⟨"SnapForgeModel", "handle", "(IIII)I"⟩, ⟨"SnapForgeModel", "codeSum", "()I"⟩, ⟨"SnapForgeModel", "set", "(IIJ)V"⟩, ⟨"SnapForgeModel", "copy", "(II)V"⟩, ⟨"SnapForgeModel", "top", "()I"⟩, ⟨"SnapForgeModel", "item", "(II)I"⟩, ⟨"SnapForgeModel", "push", "(IIJ)V"⟩, ⟨"SnapForgeModel", "begin", "(III)V"⟩, ⟨"SnapForgeModel", "pass", "(III)V"⟩, ⟨"SnapForgeModel", "start", "(III)I"⟩, ⟨"SnapForgeModel", "mark", "(I)Z"⟩, ⟨"SnapForgeModel", "markAll", "()Z"⟩, ⟨"SnapForgeModel", "collect", "()V"⟩, ⟨"SnapForgeModel", "isFull", "()Z"⟩, ⟨"SnapForgeModel", "make", "(I)I"⟩, ⟨"SnapForgeModel", "isNumber", "(I)Z"⟩, ⟨"SnapForgeModel", "sum", "(II)I"⟩, ⟨"SnapForgeModel", "onRecord", "(III)I"⟩, ⟨"SnapForgeModel", "close", "(III)I"⟩, ⟨"SnapForgeModel", "enter", "(III)I"⟩, ⟨"SnapForgeModel", "apply", "(I)I"⟩, ⟨"SnapForgeModel", "fork", "(II)I"⟩, ⟨"SnapForgeModel", "back", "(I)I"⟩, ⟨"SnapForgeModel", "taken", "(III)I"⟩, ⟨"SnapForgeModel", "give", "(IIII)I"⟩, ⟨"SnapForgeModel", "say", "(I)I"⟩, ⟨"SnapForgeModel", "plain", "(IIII)I"⟩, ⟨"SnapForgeModel", "step", "(I)I"⟩, ⟨"SnapForgeModel", "raise", "(I)V"⟩, ⟨"SnapForgeModel", "isRunning", "()Z"⟩, ⟨"SnapForgeModel", "run", "(I)I"⟩, ⟨"SnapForgeModel", "said", "(I)J"⟩, ⟨"SnapForgeModel", "value", "(I)J"⟩, ⟨"SnapForgeModel", "told", "(I)I"⟩, ⟨"SnapForgeModel", "put", "(I)V"⟩, ⟨"SnapForgeModel", "putMany", "(JI)V"⟩, ⟨"SnapForgeModel", "comes", "(I)I"⟩, ⟨"SnapForgeModel", "putValue", "(IJ)V"⟩, ⟨"SnapForgeModel", "putFrame", "(I)V"⟩, ⟨"SnapForgeModel", "putObject", "(I)V"⟩, ⟨"SnapForgeModel", "sumTo", "(I)I"⟩, ⟨"SnapForgeModel", "snapshot", "()I"⟩, ⟨"SnapForgeModel", "wrong", "(II)V"⟩, ⟨"SnapForgeModel", "take", "(III)I"⟩, ⟨"SnapForgeModel", "takeNumber", "(I)I"⟩, ⟨"SnapForgeModel", "takeValue", "(I)V"⟩, ⟨"SnapForgeModel", "takeFrame", "(I)V"⟩, ⟨"SnapForgeModel", "takeThread", "(I)V"⟩, ⟨"SnapForgeModel", "takeObject", "(I)V"⟩, ⟨"SnapForgeModel", "takeAll", "()I"⟩, ⟨"SnapForgeModel", "load", "()I"⟩, ⟨"SnapForgeModel", "where", "()I"⟩, ⟨"SnapForgeModel", "image", "(I)I"⟩, ⟨"SnapForgeModel", "patch", "(IIZ)I"⟩, ⟨"SnapForgeModel", "cut", "(I)I"⟩, ⟨"SnapForgeLaw", "function", "(LSnapForge;II[J)I"⟩, ⟨"SnapForgeLaw", "add", "(LSnapForge;IIII[J)I"⟩, ⟨"SnapForgeLaw", "handle", "(LSnapForge;IIII[J)I"⟩, ⟨"SnapForgeLaw", "start", "(LSnapForge;III[J)I"⟩, ⟨"SnapForgeLaw", "run", "(LSnapForge;I[J)I"⟩, ⟨"SnapForgeLaw", "said", "(LSnapForge;I[J)I"⟩, ⟨"SnapForgeLaw", "value", "(LSnapForge;I[J)I"⟩, ⟨"SnapForgeLaw", "told", "(LSnapForge;I[J)I"⟩, ⟨"SnapForgeLaw", "snapshot", "(LSnapForge;[J)I"⟩, ⟨"SnapForgeLaw", "load", "(LSnapForge;[J)I"⟩, ⟨"SnapForgeLaw", "image", "(LSnapForge;I[J)I"⟩, ⟨"SnapForgeLaw", "patch", "(LSnapForge;IIZ[J)I"⟩, ⟨"SnapForgeLaw", "cut", "(LSnapForge;I[J)I"⟩, ⟨"SnapForgeLaw", "law", "([I)Z"⟩]
def xc_y (y : Nat) : MethodName := xc_ys.getD y ⟨"", "", ""⟩
def xc_bs : List ByteArray := [prog_1_method_1_code, prog_1_method_2_code, prog_1_method_3_code, prog_1_method_4_code, prog_1_method_5_code, prog_1_method_6_code, prog_1_method_7_code, prog_1_method_8_code, prog_1_method_9_code, prog_1_method_10_code, prog_1_method_11_code, prog_1_method_12_code, prog_1_method_13_code, prog_1_method_14_code, prog_1_method_15_code, prog_1_method_16_code, prog_1_method_17_code, prog_1_method_18_code, prog_1_method_19_code, prog_1_method_20_code, prog_1_method_21_code, prog_1_method_22_code, prog_2_method_1_code, prog_2_method_2_code, prog_2_method_3_code, prog_2_method_4_code, prog_2_method_5_code, prog_2_method_6_code, prog_3_method_1_code, prog_3_method_2_code, prog_3_method_3_code, prog_3_method_4_code, prog_3_method_5_code, prog_3_method_6_code, prog_3_method_7_code, prog_3_method_8_code, prog_3_method_9_code, prog_3_method_10_code, prog_3_method_11_code, prog_3_method_12_code, prog_3_method_13_code, prog_3_method_14_code, prog_3_method_15_code, prog_3_method_16_code, prog_3_method_17_code, prog_3_method_18_code, prog_3_method_19_code, prog_3_method_20_code, prog_3_method_21_code, prog_3_method_22_code, prog_3_method_23_code, prog_3_method_24_code, prog_3_method_25_code, prog_4_method_1_code, prog_4_method_2_code, prog_4_method_3_code, prog_4_method_4_code, prog_4_method_5_code, prog_5_method_1_code, prog_5_method_2_code, prog_5_method_3_code, prog_5_method_4_code, prog_5_method_5_code, prog_5_method_6_code, prog_5_method_7_code, prog_5_method_8_code, prog_6_method_1_code, prog_6_method_2_code, prog_6_method_3_code, prog_6_method_4_code, prog_7_method_1_code, prog_7_method_2_code, prog_7_method_3_code, prog_7_method_4_code, prog_7_method_5_code, prog_7_method_6_code, prog_7_method_7_code, prog_7_method_8_code, prog_8_method_1_code, prog_8_method_2_code, prog_8_method_3_code, prog_8_method_4_code, prog_8_method_5_code, prog_8_method_6_code, prog_8_method_7_code, prog_8_method_8_code, prog_8_method_9_code, prog_8_method_10_code, prog_8_method_11_code, prog_8_method_12_code, prog_8_method_13_code, prog_8_method_14_code, prog_8_method_15_code, prog_9_method_1_code, prog_9_method_2_code, prog_9_method_3_code, prog_9_method_4_code, prog_10_method_1_code, prog_10_method_2_code, prog_10_method_3_code, prog_10_method_4_code, prog_10_method_5_code, prog_10_method_6_code, prog_11_method_1_code, prog_11_method_2_code, prog_11_method_3_code, prog_11_method_4_code, prog_11_method_5_code, prog_11_method_6_code, prog_11_method_7_code, prog_13_method_1_code, prog_13_method_2_code, prog_13_method_3_code, prog_13_method_4_code, prog_13_method_5_code, prog_13_method_6_code, prog_13_method_7_code, prog_13_method_8_code, prog_13_method_9_code, prog_13_method_10_code, prog_13_method_11_code, prog_13_method_12_code, prog_13_method_13_code, prog_13_method_14_code, prog_13_method_15_code, prog_13_method_16_code, prog_13_method_17_code, prog_13_method_18_code, prog_13_method_19_code, prog_13_method_20_code, prog_13_method_21_code, prog_13_method_22_code, prog_13_method_23_code, prog_13_method_24_code, prog_13_method_25_code, prog_13_method_26_code, prog_13_method_27_code, prog_13_method_28_code, prog_13_method_29_code, prog_13_method_30_code, prog_13_method_31_code, prog_13_method_32_code, prog_13_method_33_code, prog_13_method_34_code, prog_13_method_35_code, prog_13_method_36_code, prog_13_method_37_code, prog_13_method_38_code, prog_13_method_39_code, prog_13_method_40_code, prog_13_method_41_code, prog_13_method_42_code, prog_13_method_43_code, prog_13_method_44_code, prog_13_method_45_code, prog_13_method_46_code, prog_13_method_47_code, prog_13_method_48_code, prog_13_method_49_code, prog_13_method_50_code, prog_13_method_51_code, prog_13_method_52_code, prog_13_method_53_code, prog_13_method_54_code, prog_13_method_55_code, prog_13_method_56_code, prog_13_method_57_code, prog_13_method_58_code, prog_13_method_59_code, prog_13_method_60_code, prog_13_method_61_code, prog_13_method_62_code, prog_13_method_63_code, method_3_code, method_4_code, method_5_code, method_6_code, method_7_code, method_8_code, method_9_code, method_10_code, method_11_code, method_12_code, method_13_code, method_14_code, method_15_code, code]
def xc_b (y : Nat) : ByteArray := xc_bs.getD y ⟨#[]⟩
def xc_rts : List (Option FieldType) := [none, some .int, some .int, some .int, some .int, some .int, some .long, some .long, some .int, some .int, some .int, some .int, some .int, some .int, some .int, some .boolean, some .boolean, some .boolean, some .int, some .int, some .int, some .int, none, none, none, none, some .boolean, some .boolean, none, none, none, none, some .int, some .int, some .int, some .int, some .int, some .long, some .int, some .int, some .int, some .int, some .int, some .int, some .int, some .int, some .int, some .int, some .int, some .int, some .int, some .int, some .int, none, some .int, some .int, some .int, none, none, none, some .int, some .int, none, none, none, none, none, none, some .int, some .int, none, none, none, none, some .int, some .int, some .int, some .int, none, none, some .int, none, none, some .int, none, none, none, some .long, some .int, none, none, none, none, none, none, some (.object "SnapForge$Frame"), some (.object "SnapForge$Frame"), none, some .boolean, some .boolean, none, none, some .boolean, none, none, none, none, none, none, none, none, some .int, some .boolean, some .int, some .int, some .int, some .int, some .int, some .int, some .int, none, none, some .int, some .int, none, none, none, some .int, some .boolean, some .boolean, none, some .boolean, some .int, some .boolean, some .int, some .int, some .int, some .int, some .int, some .int, some .int, some .int, some .int, some .int, some .int, some .int, none, some .boolean, some .int, some .long, some .long, some .int, none, none, some .int, none, none, none, some .int, some .int, none, some .int, some .int, none, none, none, none, some .int, some .int, some .int, some .int, some .int, some .int, some .int, some .int, some .int, some .int, some .int, some .int, some .int, some .int, some .int, some .int, some .int, some .int, some .int, some .boolean]
def xc_rt (y : Nat) : Option FieldType := xc_rts.getD y none
def xc_cps : List Nat := [25, 384, 463, 499, 513, 544, 738, 761, 784, 802, 847, 376, 921, 928, 940, 387, 502, 468, 488, 788, 791, 795, 95, 537, 594, 533, 690, 705, 75, 517, 556, 722, 568, 678, 682, 619, 686, 693, 697, 701, 578, 709, 714, 718, 647, 671, 601, 662, 667, 675, 586, 598, 605, 170, 582, 614, 610, 590, 89, 521, 639, 651, 655, 631, 635, 643, 301, 815, 933, 840, 33, 455, 492, 506, 564, 726, 572, 806, 329, 851, 856, 881, 860, 885, 890, 894, 865, 869, 874, 898, 902, 908, 913, 161, 525, 529, 560, 81, 548, 552, 730, 627, 623, 319, 810, 819, 831, 835, 823, 827, 945, 1117, 1124, 1128, 1121, 1135, 1138, 1132, 1142, 1281, 1154, 1189, 1166, 1185, 1201, 1150, 1181, 1146, 1232, 1236, 1228, 1224, 1240, 1212, 1209, 1216, 1220, 1177, 1193, 1249, 1197, 1173, 1253, 1245, 1205, 1170, 1257, 1162, 1158, 1261, 1265, 1269, 1277, 1293, 1297, 1289, 1285, 1301, 1305, 1273, 1321, 1317, 1333, 1337, 1329, 1325, 1341, 1313, 1309, 1345, 1349, 1353, 1357]
def xc_hnds : List (List (Nat × Nat × Nat × Nat × Nat)) := [[], [], [], [], [], [], [], [], [], [], [], [], [], [], [], [], [], [], [], [], [], [], [], [], [], [], [], [], [], [], [], [], [], [], [], [], [], [], [], [], [], [], [], [], [], [], [], [], [], [], [], [], [], [], [], [], [], [], [], [], [], [], [], [], [], [], [], [], [], [], [], [], [], [], [], [], [], [], [], [], [], [], [], [], [], [], [], [], [], [], [], [], [], [], [], [], [], [], [], [], [], [], [], [], [], [], [], [], [], [], [], [], [], [], [], [], [], [], [], [], [], [], [], [], [], [], [], [], [], [], [], [], [], [], [], [], [], [], [], [], [], [], [], [], [], [], [], [], [], [], [], [], [], [], [], [], [], [], [], [], [], [], [], [], [], [], [], [], [], [], [], [], [], [(0, 10, 13, 13, 0)], [(0, 14, 17, 13, 0), (0, 14, 21, 19, 1)], [(0, 14, 17, 13, 0), (0, 14, 21, 19, 1)], [(0, 12, 15, 13, 0)], [(0, 9, 12, 13, 0), (0, 9, 15, 19, 1)], [(0, 8, 11, 36, 2)], [(0, 8, 11, 36, 2), (0, 8, 14, 19, 1), (0, 8, 17, 41, 3)], [(0, 9, 12, 13, 0)], [(0, 8, 11, 19, 1)], [(0, 8, 11, 13, 0), (0, 8, 14, 41, 3)], [(0, 9, 12, 36, 2)], [(0, 12, 15, 13, 0), (0, 12, 19, 36, 2)], [(0, 9, 12, 13, 0)], []]
/-- where an exception that came at this place goes on -/
def xc_hnd (y pc ex : Nat) : Option Nat := ((xc_hnds.getD y []).find? (fun e => decide (e.1 ≤ pc) && decide (pc < e.2.1) && e.2.2.2.2 == ex)).map (fun e => e.2.2.1)
def xc_ips : List Nat := [24, 382, 461, 497, 511, 542, 736, 759, 782, 800, 845, 374, 919, 926, 938, 386, 501, 467, 487, 787, 790, 794, 94, 535, 592, 531, 688, 703, 74, 515, 554, 721, 567, 677, 681, 618, 685, 692, 696, 700, 577, 708, 713, 717, 646, 670, 600, 661, 666, 674, 585, 597, 604, 169, 580, 612, 608, 588, 88, 519, 637, 649, 653, 629, 633, 641, 300, 813, 931, 838, 32, 453, 490, 504, 562, 724, 570, 804, 328, 849, 855, 880, 859, 884, 889, 893, 864, 868, 873, 897, 901, 907, 912, 160, 523, 527, 558, 80, 546, 550, 728, 625, 621, 318, 808, 818, 830, 834, 822, 826, 944, 1115, 1123, 1127, 1119, 1134, 1137, 1130, 1140, 1280, 1153, 1188, 1165, 1184, 1200, 1149, 1180, 1144, 1231, 1235, 1227, 1223, 1239, 1211, 1208, 1215, 1219, 1176, 1192, 1248, 1196, 1172, 1252, 1244, 1204, 1169, 1256, 1161, 1156, 1259, 1263, 1267, 1276, 1292, 1296, 1288, 1284, 1300, 1304, 1271, 1320, 1316, 1332, 1336, 1328, 1324, 1340, 1312, 1307, 1343, 1347, 1351, 1355]
def xq_0 : List (Nat × Instr) := [(0, .aload_n 0), (1, .invokespecial 1), (4, .aload_n 0), (5, .new 7), (8, .dup), (9, .invokespecial 9), (12, .putfield 10), (15, .aload_n 0), (16, .new 16), (19, .dup), (20, .aload_n 0), (21, .getfield 10), (24, .invokespecial 18), (27, .putfield 21), (30, .aload_n 0), (31, .new 25), (34, .dup), (35, .invokespecial 27), (38, .putfield 28), (41, .aload_n 0), (42, .new 32), (45, .dup), (46, .aload_n 0), (47, .getfield 28), (50, .invokespecial 34), (53, .putfield 37), (56, .aload_n 0), (57, .new 41), (60, .dup), (61, .aload_n 0), (62, .getfield 28), (65, .invokespecial 43), (68, .putfield 44), (71, .aload_n 0), (72, .new 48), (75, .dup), (76, .invokespecial 50), (79, .putfield 51), (82, .return_)]
def xq_1 : List (Nat × Instr) := [(0, .iload_n 1), (1, .invokestatic 55), (4, .ifCond .eq 12), (7, .iload_n 2), (8, .ifCond .lt 8), (11, .iload_n 2), (12, .iconst 2), (13, .if_icmp .le 11), (16, .new 59), (19, .dup), (20, .invokespecial 61), (23, .athrow), (24, .aload_n 0), (25, .getfield 10), (28, .iload_n 1), (29, .iload_n 2), (30, .invokevirtual 62), (33, .iload_n 2), (34, .ireturn)]
def xq_2 : List (Nat × Instr) := [(0, .iload_n 1), (1, .invokestatic 55), (4, .ifCond .eq 38), (7, .iload_n 2), (8, .ifCond .lt 34), (11, .iload_n 2), (12, .bipush 27), (14, .if_icmp .gt 28), (17, .getstatic 66), (20, .iload_n 2), (21, .iaload), (22, .iload_n 3), (23, .invokestatic 70), (26, .ifCond .eq 16), (29, .getstatic 74), (32, .iload_n 2), (33, .iaload), (34, .iload 4), (36, .invokestatic 70), (39, .ifCond .ne 11), (42, .new 59), (45, .dup), (46, .invokespecial 61), (49, .athrow), (50, .aload_n 0), (51, .getfield 10), (54, .getfield 77), (57, .iload_n 1), (58, .iaload), (59, .bipush 30), (61, .if_icmp .ne 11), (64, .new 80), (67, .dup), (68, .invokespecial 82), (71, .athrow), (72, .aload_n 0), (73, .getfield 10), (76, .iload_n 1), (77, .iload_n 2), (78, .getstatic 66), (81, .iload_n 2), (82, .iaload), (83, .iload_n 3), (84, .invokestatic 83), (87, .getstatic 74), (90, .iload_n 2), (91, .iaload), (92, .iload 4), (94, .invokestatic 83), (97, .invokevirtual 87), (100, .aload_n 0), (101, .getfield 10), (104, .getfield 77), (107, .iload_n 1), (108, .iaload), (109, .ireturn)]
def xq_3 : List (Nat × Instr) := [(0, .iload_n 1), (1, .invokestatic 55), (4, .ifCond .eq 29), (7, .iload_n 2), (8, .invokestatic 91), (11, .ifCond .eq 22), (14, .iload 4), (16, .invokestatic 91), (19, .ifCond .eq 14), (22, .iload_n 3), (23, .iload_n 2), (24, .if_icmp .le 9), (27, .iload_n 3), (28, .bipush 30), (30, .if_icmp .le 11), (33, .new 59), (36, .dup), (37, .invokespecial 61), (40, .athrow), (41, .aload_n 0), (42, .getfield 10), (45, .getfield 94), (48, .iload_n 1), (49, .iaload), (50, .iconst 3), (51, .if_icmp .ne 11), (54, .new 80), (57, .dup), (58, .invokespecial 82), (61, .athrow), (62, .aload_n 0), (63, .getfield 10), (66, .iload_n 1), (67, .iload_n 2), (68, .iload_n 3), (69, .iload 4), (71, .invokevirtual 97), (74, .aload_n 0), (75, .getfield 10), (78, .getfield 94), (81, .iload_n 1), (82, .iaload), (83, .ireturn)]
def xq_4 : List (Nat × Instr) := [(0, .iload_n 1), (1, .invokestatic 55), (4, .ifCond .ne 11), (7, .new 59), (10, .dup), (11, .invokespecial 61), (14, .athrow), (15, .aload_n 0), (16, .getfield 21), (19, .iload_n 1), (20, .iload_n 2), (21, .iload_n 3), (22, .invokevirtual 100), (25, .aload_n 0), (26, .getfield 10), (29, .getfield 104), (32, .iload_n 1), (33, .iaload), (34, .ireturn)]
def xq_5 : List (Nat × Instr) := [(0, .iload_n 1), (1, .ifCond .lt 10), (4, .iload_n 1), (5, .sipush 300), (8, .if_icmp .le 11), (11, .new 59), (14, .dup), (15, .invokespecial 61), (18, .athrow), (19, .aload_n 0), (20, .getfield 21), (23, .getfield 107), (26, .invokevirtual 110), (29, .ifCond .eq 11), (32, .new 80), (35, .dup), (36, .invokespecial 82), (39, .athrow), (40, .iconst 0), (41, .istore_n 2), (42, .iload_n 2), (43, .iload_n 1), (44, .if_icmp .ge 29), (47, .aload_n 0), (48, .getfield 21), (51, .getfield 107), (54, .invokevirtual 114), (57, .ifCond .eq 16), (60, .aload_n 0), (61, .getfield 21), (64, .invokevirtual 117), (67, .iinc 2 1), (70, .goto (-28)), (73, .aload_n 0), (74, .getfield 21), (77, .getfield 107), (80, .invokevirtual 114), (83, .ifCond .eq 7), (86, .iconst 1), (87, .goto 4), (90, .iconst 0), (91, .ireturn)]
def xq_6 : List (Nat × Instr) := [(0, .iload_n 1), (1, .ifCond .lt 20), (4, .iload_n 1), (5, .bipush 40), (7, .if_icmp .ge 14), (10, .iload_n 1), (11, .aload_n 0), (12, .getfield 21), (15, .getfield 120), (18, .if_icmp .lt 11), (21, .new 124), (24, .dup), (25, .invokespecial 126), (28, .athrow), (29, .aload_n 0), (30, .getfield 21), (33, .getfield 127), (36, .iload_n 1), (37, .laload), (38, .lreturn)]
def xq_7 : List (Nat × Instr) := [(0, .iload_n 1), (1, .ifCond .lt 17), (4, .iload_n 1), (5, .aload_n 0), (6, .getfield 21), (9, .getfield 107), (12, .getfield 131), (15, .if_icmp .lt 11), (18, .new 124), (21, .dup), (22, .invokespecial 126), (25, .athrow), (26, .aload_n 0), (27, .getfield 21), (30, .getfield 107), (33, .getfield 134), (36, .iload_n 1), (37, .aaload), (38, .astore_n 2), (39, .aload_n 2), (40, .getfield 138), (43, .iconst 1), (44, .if_icmp .eq 11), (47, .new 80), (50, .dup), (51, .invokespecial 82), (54, .athrow), (55, .aload_n 2), (56, .getfield 143), (59, .iconst 0), (60, .invokevirtual 147), (63, .ifCond .ne 11), (66, .new 152), (69, .dup), (70, .invokespecial 154), (73, .athrow), (74, .aload_n 2), (75, .getfield 143), (78, .getfield 155), (81, .iconst 0), (82, .laload), (83, .lreturn)]
def xq_8 : List (Nat × Instr) := [(0, .iload_n 1), (1, .ifCond .lt 14), (4, .iload_n 1), (5, .iconst 5), (6, .if_icmp .gt 9), (9, .aload_n 0), (10, .iload_n 1), (11, .invokevirtual 158), (14, .ireturn), (15, .iload_n 1), (16, .bipush 10), (18, .irem), (19, .istore_n 2), (20, .iload_n 1), (21, .bipush 10), (23, .if_icmp .lt 14), (26, .iload_n 1), (27, .bipush 70), (29, .if_icmp .ge 8), (32, .iload_n 2), (33, .iconst 3), (34, .if_icmp .lt 11), (37, .new 59), (40, .dup), (41, .invokespecial 61), (44, .athrow), (45, .iload_n 2), (46, .aload_n 0), (47, .getfield 21), (50, .getfield 107), (53, .getfield 131), (56, .if_icmp .lt 5), (59, .iconst (-1)), (60, .ireturn), (61, .aload_n 0), (62, .getfield 21), (65, .getfield 107), (68, .getfield 134), (71, .iload_n 2), (72, .aaload), (73, .iload_n 1), (74, .bipush 10), (76, .idiv), (77, .invokestatic 162), (80, .ireturn)]
def xq_9 : List (Nat × Instr) := [(0, .aload_n 0), (1, .getfield 21), (4, .getfield 107), (7, .invokevirtual 110), (10, .ifCond .eq 11), (13, .new 80), (16, .dup), (17, .invokespecial 82), (20, .athrow), (21, .aload_n 0), (22, .getfield 37), (25, .aload_n 0), (26, .getfield 21), (29, .getfield 107), (32, .aload_n 0), (33, .getfield 10), (36, .invokevirtual 166), (39, .invokevirtual 170), (42, .aload_n 0), (43, .getfield 28), (46, .getfield 174), (49, .ireturn)]
def xq_10 : List (Nat × Instr) := [(0, .aload_n 0), (1, .getfield 44), (4, .aload_n 0), (5, .getfield 51), (8, .aload_n 0), (9, .getfield 10), (12, .invokevirtual 166), (15, .invokevirtual 177), (18, .aload_n 0), (19, .getfield 44), (22, .getfield 180), (25, .ifCond .eq 11), (28, .new 152), (31, .dup), (32, .invokespecial 154), (35, .athrow), (36, .aload_n 0), (37, .getfield 44), (40, .getfield 184), (43, .bipush (-2)), (45, .if_icmp .eq 11), (48, .new 59), (51, .dup), (52, .invokespecial 61), (55, .athrow), (56, .aload_n 0), (57, .getfield 51), (60, .astore_n 1), (61, .aload_n 0), (62, .aload_n 0), (63, .getfield 21), (66, .getfield 107), (69, .putfield 51), (72, .aload_n 0), (73, .getfield 21), (76, .aload_n 1), (77, .putfield 107), (80, .aload_n 1), (81, .getfield 131), (84, .ireturn)]
def xq_11 : List (Nat × Instr) := [(0, .aload_n 0), (1, .getfield 44), (4, .getfield 184), (7, .ireturn)]
def xq_12 : List (Nat × Instr) := [(0, .iload_n 1), (1, .iconst (-1)), (2, .if_icmp .ne 11), (5, .aload_n 0), (6, .getfield 28), (9, .getfield 174), (12, .ireturn), (13, .iload_n 1), (14, .ifCond .lt 14), (17, .iload_n 1), (18, .aload_n 0), (19, .getfield 28), (22, .getfield 174), (25, .if_icmp .lt 11), (28, .new 124), (31, .dup), (32, .invokespecial 126), (35, .athrow), (36, .aload_n 0), (37, .getfield 28), (40, .getfield 187), (43, .iload_n 1), (44, .iaload), (45, .ireturn)]
def xq_13 : List (Nat × Instr) := [(0, .iload_n 2), (1, .ifCond .lt 10), (4, .iload_n 2), (5, .sipush 255), (8, .if_icmp .le 11), (11, .new 59), (14, .dup), (15, .invokespecial 61), (18, .athrow), (19, .iload_n 1), (20, .ifCond .lt 27), (23, .iload_n 1), (24, .aload_n 0), (25, .getfield 28), (28, .getfield 174), (31, .if_icmp .gt 16), (34, .aload_n 0), (35, .getfield 28), (38, .getfield 174), (41, .sipush 2400), (44, .if_icmp .ne 11), (47, .new 124), (50, .dup), (51, .invokespecial 126), (54, .athrow), (55, .iload_n 1), (56, .aload_n 0), (57, .getfield 28), (60, .getfield 174), (63, .if_icmp .ne 13), (66, .aload_n 0), (67, .getfield 28), (70, .iload_n 2), (71, .invokevirtual 190), (74, .iconst (-1)), (75, .ireturn), (76, .aload_n 0), (77, .getfield 28), (80, .iload_n 1), (81, .iload_n 2), (82, .iload_n 3), (83, .invokevirtual 193), (86, .ireturn)]
def xq_14 : List (Nat × Instr) := [(0, .iload_n 1), (1, .ifCond .lt 14), (4, .iload_n 1), (5, .aload_n 0), (6, .getfield 28), (9, .getfield 174), (12, .if_icmp .le 11), (15, .new 59), (18, .dup), (19, .invokespecial 61), (22, .athrow), (23, .aload_n 0), (24, .getfield 28), (27, .getfield 174), (30, .iload_n 1), (31, .isub), (32, .istore_n 2), (33, .aload_n 0), (34, .getfield 28), (37, .iload_n 1), (38, .putfield 174), (41, .iload_n 2), (42, .ireturn)]
def xq_15 : List (Nat × Instr) := [(0, .iload_n 0), (1, .ifCond .lt 13), (4, .iload_n 0), (5, .bipush 6), (7, .if_icmp .ge 7), (10, .iconst 1), (11, .goto 4), (14, .iconst 0), (15, .ireturn)]
def xq_16 : List (Nat × Instr) := [(0, .iload_n 0), (1, .ifCond .lt 13), (4, .iload_n 0), (5, .bipush 30), (7, .if_icmp .ge 7), (10, .iconst 1), (11, .goto 4), (14, .iconst 0), (15, .ireturn)]
def xq_17 : List (Nat × Instr) := [(0, .iload_n 0), (1, .ifCond .lt 12), (4, .iload_n 1), (5, .ifCond .lt 12), (8, .iload_n 1), (9, .iload_n 0), (10, .if_icmp .gt 7), (13, .iconst 1), (14, .goto 4), (17, .iconst 0), (18, .ireturn)]
def xq_18 : List (Nat × Instr) := [(0, .iload_n 0), (1, .iconst (-1)), (2, .if_icmp .ne 7), (5, .iconst 0), (6, .goto 4), (9, .iload_n 1), (10, .ireturn)]
def xq_19 : List (Nat × Instr) := [(0, .iload_n 1), (1, .tableswitch 90 0 4 #[35, 46, 57, 68, 82]), (36, .aload_n 0), (37, .getfield 21), (40, .getfield 107), (43, .getfield 131), (46, .ireturn), (47, .aload_n 0), (48, .getfield 21), (51, .getfield 107), (54, .getfield 197), (57, .ireturn), (58, .aload_n 0), (59, .getfield 21), (62, .getfield 107), (65, .getfield 200), (68, .ireturn), (69, .aload_n 0), (70, .getfield 21), (73, .getfield 107), (76, .getfield 203), (79, .getfield 207), (82, .ireturn), (83, .aload_n 0), (84, .getfield 21), (87, .getfield 210), (90, .ireturn), (91, .aload_n 0), (92, .getfield 21), (95, .getfield 120), (98, .ireturn)]
def xq_20 : List (Nat × Instr) := [(0, .iload_n 1), (1, .tableswitch 42 1 3 #[27, 32, 37]), (28, .aload_n 0), (29, .getfield 138), (32, .ireturn), (33, .aload_n 0), (34, .getfield 213), (37, .ireturn), (38, .aload_n 0), (39, .getfield 216), (42, .ireturn), (43, .aload_n 0), (44, .getfield 138), (47, .ifCond .ne 14), (50, .aload_n 0), (51, .invokevirtual 219), (54, .iload_n 1), (55, .invokestatic 223), (58, .goto 4), (61, .iconst (-1)), (62, .ireturn)]
def xq_21 : List (Nat × Instr) := [(0, .iload_n 1), (1, .lookupswitch 37 #[(4, 27), (5, 32)]), (28, .aload_n 0), (29, .getfield 227), (32, .ireturn), (33, .aload_n 0), (34, .getfield 230), (37, .ireturn), (38, .aload_n 0), (39, .getfield 233), (42, .ireturn)]
def xq_22 : List (Nat × Instr) := [(0, .aload_n 0), (1, .invokespecial 3), (4, .aload_n 0), (5, .iload_n 1), (6, .newarray .int), (8, .putfield 9), (11, .aload_n 0), (12, .iload_n 1), (13, .newarray .long), (15, .putfield 15), (18, .return_)]
def xq_23 : List (Nat × Instr) := [(0, .aload_n 0), (1, .getfield 9), (4, .iload_n 1), (5, .iload_n 2), (6, .iastore), (7, .aload_n 0), (8, .getfield 15), (11, .iload_n 1), (12, .lload_n 3), (13, .lastore), (14, .return_)]
def xq_24 : List (Nat × Instr) := [(0, .aload_n 0), (1, .getfield 9), (4, .iload_n 1), (5, .aload_n 2), (6, .getfield 9), (9, .iload_n 3), (10, .iaload), (11, .iastore), (12, .aload_n 0), (13, .getfield 15), (16, .iload_n 1), (17, .aload_n 2), (18, .getfield 15), (21, .iload_n 3), (22, .laload), (23, .lastore), (24, .return_)]
def xq_25 : List (Nat × Instr) := [(0, .iload_n 1), (1, .istore_n 3), (2, .iload_n 3), (3, .iload_n 2), (4, .if_icmp .ge 23), (7, .aload_n 0), (8, .getfield 9), (11, .iload_n 3), (12, .iconst 0), (13, .iastore), (14, .aload_n 0), (15, .getfield 15), (18, .iload_n 3), (19, .lconst 0), (20, .lastore), (21, .iinc 3 1), (24, .goto (-22)), (27, .return_)]
def xq_26 : List (Nat × Instr) := [(0, .aload_n 0), (1, .getfield 9), (4, .iload_n 1), (5, .iaload), (6, .iconst 1), (7, .if_icmp .eq 13), (10, .aload_n 0), (11, .getfield 9), (14, .iload_n 1), (15, .iaload), (16, .iconst 2), (17, .if_icmp .ne 7), (20, .iconst 1), (21, .goto 4), (24, .iconst 0), (25, .ireturn)]
def xq_27 : List (Nat × Instr) := [(0, .aload_n 0), (1, .getfield 9), (4, .iload_n 1), (5, .iaload), (6, .aload_n 0), (7, .getfield 9), (10, .iload_n 2), (11, .iaload), (12, .if_icmp .ne 23), (15, .aload_n 0), (16, .getfield 15), (19, .iload_n 1), (20, .laload), (21, .aload_n 0), (22, .getfield 15), (25, .iload_n 2), (26, .laload), (27, .lcmp), (28, .ifCond .ne 7), (31, .iconst 1), (32, .goto 4), (35, .iconst 0), (36, .ireturn)]
def xq_28 : List (Nat × Instr) := [(0, .aload_n 0), (1, .invokespecial 3), (4, .aload_n 0), (5, .new 9), (8, .dup), (9, .invokespecial 11), (12, .putfield 12), (15, .aload_n 0), (16, .bipush 40), (18, .newarray .long), (20, .putfield 18), (23, .aload_n 0), (24, .aload_n 1), (25, .putfield 22), (28, .return_)]
def xq_29 : List (Nat × Instr) := [(0, .aload_n 0), (1, .iconst 0), (2, .putfield 26), (5, .aload_n 0), (6, .iconst 0), (7, .putfield 30), (10, .aload_n 0), (11, .getfield 12), (14, .iconst 1), (15, .putfield 33), (18, .aload_n 0), (19, .getfield 12), (22, .iconst 0), (23, .putfield 36), (26, .aload_n 0), (27, .getfield 12), (30, .iconst 0), (31, .putfield 39), (34, .aload_n 0), (35, .getfield 12), (38, .getfield 42), (41, .invokevirtual 46), (44, .aload_n 0), (45, .getfield 12), (48, .getfield 51), (51, .iconst 0), (52, .aaload), (53, .iconst 0), (54, .iconst 0), (55, .invokevirtual 55), (58, .aload_n 0), (59, .getfield 12), (62, .getfield 51), (65, .iconst 0), (66, .aaload), (67, .iload_n 1), (68, .invokevirtual 61), (71, .astore 4), (73, .aload_n 0), (74, .getfield 22), (77, .getfield 65), (80, .iload_n 1), (81, .iaload), (82, .ifCond .le 15), (85, .aload 4), (87, .getfield 71), (90, .iconst 1), (91, .iconst 1), (92, .iload_n 2), (93, .i2l), (94, .invokevirtual 77), (97, .aload_n 0), (98, .getfield 22), (101, .getfield 65), (104, .iload_n 1), (105, .iaload), (106, .iconst 1), (107, .if_icmp .le 15), (110, .aload 4), (112, .getfield 71), (115, .iconst 2), (116, .iconst 1), (117, .iload_n 3), (118, .i2l), (119, .invokevirtual 77), (122, .return_)]
def xq_30 : List (Nat × Instr) := [(0, .aload_n 0), (1, .getfield 12), (4, .getfield 51), (7, .aload_n 0), (8, .getfield 12), (11, .getfield 36), (14, .aaload), (15, .astore_n 1), (16, .aload_n 1), (17, .invokevirtual 83), (20, .astore_n 2), (21, .aload_n 0), (22, .getfield 22), (25, .aload_n 2), (26, .getfield 87), (29, .aload_n 2), (30, .getfield 90), (33, .invokevirtual 93), (36, .istore_n 3), (37, .iload_n 3), (38, .iconst (-1)), (39, .if_icmp .ne 8), (42, .bipush 7), (44, .goto 10), (47, .aload_n 0), (48, .aload_n 1), (49, .aload_n 2), (50, .iload_n 3), (51, .invokevirtual 97), (54, .istore 4), (56, .iload 4), (58, .ifCond .eq 10), (61, .aload_n 0), (62, .aload_n 1), (63, .iload 4), (65, .invokevirtual 101), (68, .aload_n 0), (69, .dup), (70, .getfield 30), (73, .iconst 1), (74, .iadd), (75, .putfield 30), (78, .aload_n 0), (79, .getfield 12), (82, .dup), (83, .getfield 39), (86, .iconst 1), (87, .iadd), (88, .putfield 39), (91, .iload_n 3), (92, .iconst (-1)), (93, .if_icmp .eq 21), (96, .aload_n 0), (97, .getfield 22), (100, .getfield 105), (103, .iload_n 3), (104, .iaload), (105, .bipush 27), (107, .if_icmp .ne 7), (110, .iconst 1), (111, .goto 4), (114, .iconst 0), (115, .istore 5), (117, .iload 5), (119, .ifCond .ne 21), (122, .aload_n 0), (123, .getfield 12), (126, .getfield 39), (129, .iconst 4), (130, .if_icmp .ge 10), (133, .aload_n 1), (134, .getfield 108), (137, .ifCond .eq 10), (140, .aload_n 0), (141, .getfield 12), (144, .invokevirtual 111), (147, .return_)]
def xq_31 : List (Nat × Instr) := [(0, .aload_n 1), (1, .getfield 114), (4, .istore_n 3), (5, .iload_n 3), (6, .ifCond .le 72), (9, .aload_n 1), (10, .getfield 117), (13, .iload_n 3), (14, .iconst 1), (15, .isub), (16, .aaload), (17, .astore 4), (19, .aload_n 0), (20, .getfield 22), (23, .aload 4), (25, .getfield 87), (28, .aload 4), (30, .getfield 90), (33, .invokevirtual 121), (36, .istore 5), (38, .iload 5), (40, .iconst (-1)), (41, .if_icmp .eq 31), (44, .aload_n 1), (45, .iload_n 3), (46, .putfield 114), (49, .aload 4), (51, .iload 5), (53, .putfield 90), (56, .aload 4), (58, .iconst 0), (59, .putfield 124), (62, .aload 4), (64, .iconst 1), (65, .iload_n 2), (66, .i2l), (67, .invokevirtual 127), (70, .pop), (71, .return_), (72, .iinc 3 (-1)), (75, .goto (-70)), (78, .aload_n 1), (79, .iconst 2), (80, .iload_n 2), (81, .invokevirtual 55), (84, .return_)]
def xq_32 : List (Nat × Instr) := [(0, .aload_n 0), (1, .getfield 22), (4, .getfield 105), (7, .iload_n 3), (8, .iaload), (9, .istore 4), (11, .aload_n 0), (12, .getfield 22), (15, .getfield 131), (18, .iload_n 3), (19, .iaload), (20, .istore 5), (22, .aload_n 0), (23, .getfield 22), (26, .getfield 134), (29, .iload_n 3), (30, .iaload), (31, .istore 6), (33, .aload_n 2), (34, .getfield 124), (37, .aload_n 0), (38, .getfield 22), (41, .iload_n 3), (42, .invokevirtual 137), (45, .if_icmp .ge 6), (48, .bipush 6), (50, .ireturn), (51, .iload 4), (53, .tableswitch 111 14 23 #[55, 63, 95, 95, 95, 95, 95, 71, 81, 88]), (108, .aload_n 2), (109, .iload 6), (111, .putfield 90), (114, .iconst 0), (115, .ireturn), (116, .aload_n 0), (117, .aload_n 2), (118, .iload 6), (120, .invokevirtual 141), (123, .ireturn), (124, .aload_n 0), (125, .aload_n 1), (126, .aload_n 2), (127, .iload 5), (129, .iconst 0), (130, .invokevirtual 145), (133, .ireturn), (134, .aload_n 0), (135, .aload_n 1), (136, .aload_n 2), (137, .invokevirtual 149), (140, .ireturn), (141, .aload_n 0), (142, .aload_n 1), (143, .aload_n 2), (144, .invokevirtual 153), (147, .ireturn), (148, .aload_n 2), (149, .aload_n 0), (150, .aload_n 2), (151, .iload 4), (153, .iload 5), (155, .iload 6), (157, .invokevirtual 156), (160, .invokestatic 160), (163, .ireturn), (164, .aload_n 2), (165, .aload_n 0), (166, .aload_n 2), (167, .iload 4), (169, .iload 5), (171, .iload 6), (173, .invokevirtual 163), (176, .invokestatic 160), (179, .ireturn)]
def xq_33 : List (Nat × Instr) := [(0, .iload_n 1), (1, .ifCond .ne 13), (4, .aload_n 0), (5, .dup), (6, .getfield 90), (9, .iconst 1), (10, .iadd), (11, .putfield 90), (14, .iload_n 1), (15, .ireturn)]
def xq_34 : List (Nat × Instr) := [(0, .iload_n 2), (1, .tableswitch 271 1 26 #[119, 127, 142, 149, 161, 191, 203, 216, 216, 216, 216, 223, 229, 271, 271, 271, 271, 271, 271, 271, 271, 271, 271, 252, 258, 264]), (120, .aload_n 1), (121, .iconst 1), (122, .iload_n 3), (123, .i2l), (124, .invokevirtual 127), (127, .ireturn), (128, .aload_n 1), (129, .iconst 2), (130, .iload_n 3), (131, .i2l), (132, .bipush 32), (134, .lshl), (135, .iload 4), (137, .i2l), (138, .ladd), (139, .invokevirtual 127), (142, .ireturn), (143, .aload_n 1), (144, .iconst 0), (145, .lconst 0), (146, .invokevirtual 127), (149, .ireturn), (150, .aload_n 1), (151, .aload_n 1), (152, .getfield 71), (155, .iconst 1), (156, .iload_n 3), (157, .iadd), (158, .invokevirtual 166), (161, .ireturn), (162, .aload_n 1), (163, .getfield 71), (166, .iconst 1), (167, .iload_n 3), (168, .iadd), (169, .aload_n 1), (170, .getfield 71), (173, .aload_n 1), (174, .invokevirtual 170), (177, .invokevirtual 173), (180, .aload_n 1), (181, .dup), (182, .getfield 124), (185, .iconst 1), (186, .isub), (187, .putfield 124), (190, .iconst 0), (191, .ireturn), (192, .aload_n 1), (193, .dup), (194, .getfield 124), (197, .iconst 1), (198, .isub), (199, .putfield 124), (202, .iconst 0), (203, .ireturn), (204, .aload_n 1), (205, .aload_n 1), (206, .getfield 71), (209, .aload_n 1), (210, .invokevirtual 170), (213, .invokevirtual 166), (216, .ireturn), (217, .aload_n 0), (218, .aload_n 1), (219, .iload_n 2), (220, .invokevirtual 177), (223, .ireturn), (224, .aload_n 0), (225, .aload_n 1), (226, .invokevirtual 180), (229, .ireturn), (230, .aload_n 0), (231, .aload_n 1), (232, .aload_n 1), (233, .getfield 71), (236, .aload_n 1), (237, .invokevirtual 170), (240, .iconst 1), (241, .isub), (242, .aload_n 1), (243, .invokevirtual 170), (246, .invokevirtual 184), (249, .invokevirtual 188), (252, .ireturn), (253, .aload_n 0), (254, .aload_n 1), (255, .invokevirtual 192), (258, .ireturn), (259, .aload_n 0), (260, .aload_n 1), (261, .invokevirtual 195), (264, .ireturn), (265, .aload_n 0), (266, .aload_n 1), (267, .iload_n 3), (268, .invokevirtual 198), (271, .ireturn), (272, .iconst 0), (273, .ireturn)]
def xq_35 : List (Nat × Instr) := [(0, .iload_n 2), (1, .tableswitch 88 16 19 #[31, 51, 58, 65]), (32, .aload_n 0), (33, .getfield 12), (36, .invokevirtual 201), (39, .ifCond .eq 11), (42, .aload_n 0), (43, .aload_n 1), (44, .invokevirtual 205), (47, .goto 4), (50, .iconst 4), (51, .ireturn), (52, .aload_n 0), (53, .aload_n 1), (54, .iload_n 3), (55, .invokevirtual 208), (58, .ireturn), (59, .aload_n 0), (60, .aload_n 1), (61, .iload_n 3), (62, .invokevirtual 211), (65, .ireturn), (66, .aload_n 0), (67, .getfield 12), (70, .invokevirtual 201), (73, .ifCond .eq 14), (76, .aload_n 0), (77, .aload_n 1), (78, .iload_n 3), (79, .iload 4), (81, .invokevirtual 214), (84, .goto 4), (87, .iconst 4), (88, .ireturn), (89, .aload_n 0), (90, .aload_n 1), (91, .iload_n 3), (92, .invokevirtual 218), (95, .ireturn)]
def xq_36 : List (Nat × Instr) := [(0, .aload_n 1), (1, .getfield 71), (4, .astore_n 3), (5, .aload_n 1), (6, .invokevirtual 170), (9, .iconst 1), (10, .isub), (11, .istore 4), (13, .aload_n 1), (14, .invokevirtual 170), (17, .istore 5), (19, .aload_n 3), (20, .iload 4), (22, .invokevirtual 221), (25, .ifCond .eq 12), (28, .aload_n 3), (29, .iload 5), (31, .invokevirtual 221), (34, .ifCond .ne 5), (37, .iconst 2), (38, .ireturn), (39, .iload_n 2), (40, .bipush 11), (42, .if_icmp .ne 17), (45, .aload_n 3), (46, .getfield 225), (49, .iload 5), (51, .laload), (52, .lconst 0), (53, .lcmp), (54, .ifCond .ne 5), (57, .iconst 1), (58, .ireturn), (59, .iload_n 2), (60, .aload_n 3), (61, .getfield 225), (64, .iload 4), (66, .laload), (67, .aload_n 3), (68, .getfield 225), (71, .iload 5), (73, .laload), (74, .invokestatic 228), (77, .lstore 6), (79, .aload_n 3), (80, .getfield 232), (83, .iload 4), (85, .iaload), (86, .iconst 2), (87, .if_icmp .eq 14), (90, .aload_n 3), (91, .getfield 232), (94, .iload 5), (96, .iaload), (97, .iconst 2), (98, .if_icmp .ne 7), (101, .iconst 1), (102, .goto 4), (105, .iconst 0), (106, .istore 8), (108, .aload_n 1), (109, .dup), (110, .getfield 124), (113, .iconst 2), (114, .isub), (115, .putfield 124), (118, .iload 8), (120, .ifCond .eq 13), (123, .aload_n 1), (124, .iconst 2), (125, .lload 6), (127, .invokevirtual 127), (130, .goto 12), (133, .aload_n 1), (134, .iconst 1), (135, .lload 6), (137, .l2i), (138, .i2l), (139, .invokevirtual 127), (142, .ireturn)]
def xq_37 : List (Nat × Instr) := [(0, .iload_n 0), (1, .tableswitch 39 8 10 #[27, 31, 35]), (28, .lload_n 1), (29, .lload_n 3), (30, .ladd), (31, .lreturn), (32, .lload_n 1), (33, .lload_n 3), (34, .lsub), (35, .lreturn), (36, .lload_n 1), (37, .lload_n 3), (38, .lmul), (39, .lreturn), (40, .lload_n 3), (41, .lconst 0), (42, .lcmp), (43, .ifCond .ne 7), (46, .lconst 0), (47, .goto 6), (50, .lload_n 1), (51, .lload_n 3), (52, .ldiv), (53, .lreturn)]
def xq_38 : List (Nat × Instr) := [(0, .aload_n 1), (1, .getfield 71), (4, .astore_n 2), (5, .aload_n 1), (6, .invokevirtual 170), (9, .iconst 1), (10, .isub), (11, .istore_n 3), (12, .aload_n 1), (13, .invokevirtual 170), (16, .istore 4), (18, .aload_n 2), (19, .iload_n 3), (20, .invokevirtual 221), (23, .ifCond .eq 12), (26, .aload_n 2), (27, .iload 4), (29, .invokevirtual 221), (32, .ifCond .ne 5), (35, .iconst 2), (36, .ireturn), (37, .aload_n 0), (38, .aload_n 1), (39, .aload_n 2), (40, .getfield 225), (43, .iload_n 3), (44, .laload), (45, .aload_n 2), (46, .getfield 225), (49, .iload 4), (51, .laload), (52, .lcmp), (53, .ifCond .ge 7), (56, .iconst 1), (57, .goto 4), (60, .iconst 0), (61, .invokevirtual 188), (64, .ireturn)]
def xq_39 : List (Nat × Instr) := [(0, .aload_n 1), (1, .dup), (2, .getfield 124), (5, .iconst 2), (6, .isub), (7, .putfield 124), (10, .aload_n 1), (11, .iconst 1), (12, .iload_n 2), (13, .ifCond .eq 7), (16, .lconst 1), (17, .goto 4), (20, .lconst 0), (21, .invokevirtual 127), (24, .ireturn)]
def xq_40 : List (Nat × Instr) := [(0, .aload_n 1), (1, .getfield 71), (4, .getfield 232), (7, .aload_n 1), (8, .invokevirtual 170), (11, .iaload), (12, .iconst 1), (13, .if_icmp .eq 5), (16, .iconst 2), (17, .ireturn), (18, .aload_n 1), (19, .aload_n 1), (20, .getfield 71), (23, .getfield 225), (26, .aload_n 1), (27, .invokevirtual 170), (30, .laload), (31, .lconst 0), (32, .lcmp), (33, .ifCond .eq 7), (36, .iload_n 2), (37, .goto 9), (40, .aload_n 1), (41, .getfield 90), (44, .iconst 1), (45, .iadd), (46, .putfield 90), (49, .aload_n 1), (50, .dup), (51, .getfield 124), (54, .iconst 1), (55, .isub), (56, .putfield 124), (59, .iconst 0), (60, .ireturn)]
def xq_41 : List (Nat × Instr) := [(0, .aload_n 1), (1, .getfield 71), (4, .getfield 232), (7, .aload_n 1), (8, .invokevirtual 170), (11, .iaload), (12, .iconst 1), (13, .if_icmp .eq 5), (16, .iconst 2), (17, .ireturn), (18, .bipush 16), (20, .aload_n 1), (21, .getfield 71), (24, .getfield 225), (27, .aload_n 1), (28, .invokevirtual 170), (31, .laload), (32, .ldc2_w 235), (35, .land), (36, .l2i), (37, .iadd), (38, .ireturn)]
def xq_42 : List (Nat × Instr) := [(0, .aload_n 1), (1, .getfield 71), (4, .aload_n 1), (5, .invokevirtual 170), (8, .invokevirtual 221), (11, .ifCond .ne 5), (14, .iconst 2), (15, .ireturn), (16, .aload_n 0), (17, .getfield 26), (20, .bipush 40), (22, .if_icmp .ge 24), (25, .aload_n 0), (26, .getfield 18), (29, .aload_n 0), (30, .getfield 26), (33, .aload_n 1), (34, .getfield 71), (37, .getfield 225), (40, .aload_n 1), (41, .invokevirtual 170), (44, .laload), (45, .lastore), (46, .aload_n 0), (47, .dup), (48, .getfield 26), (51, .iconst 1), (52, .iadd), (53, .putfield 26), (56, .aload_n 1), (57, .dup), (58, .getfield 124), (61, .iconst 1), (62, .isub), (63, .putfield 124), (66, .iconst 0), (67, .ireturn)]
def xq_43 : List (Nat × Instr) := [(0, .aload_n 0), (1, .getfield 22), (4, .getfield 65), (7, .iload_n 2), (8, .iaload), (9, .istore_n 3), (10, .aload_n 0), (11, .getfield 12), (14, .getfield 33), (17, .iconst 3), (18, .if_icmp .ne 5), (21, .iconst 4), (22, .ireturn), (23, .aload_n 1), (24, .getfield 124), (27, .iload_n 3), (28, .isub), (29, .bipush 6), (31, .if_icmp .ne 6), (34, .bipush 6), (36, .ireturn), (37, .aload_n 0), (38, .getfield 12), (41, .getfield 51), (44, .aload_n 0), (45, .getfield 12), (48, .getfield 33), (51, .aaload), (52, .astore 4), (54, .aload 4), (56, .iconst 0), (57, .iconst 0), (58, .invokevirtual 55), (61, .aload 4), (63, .iload_n 2), (64, .invokevirtual 61), (67, .aload_n 1), (68, .iload_n 3), (69, .iconst 0), (70, .invokevirtual 237), (73, .aload_n 0), (74, .getfield 12), (77, .dup), (78, .getfield 33), (81, .iconst 1), (82, .iadd), (83, .putfield 33), (86, .aload_n 1), (87, .iconst 1), (88, .aload_n 0), (89, .getfield 12), (92, .getfield 33), (95, .iconst 1), (96, .isub), (97, .i2l), (98, .invokevirtual 127), (101, .ireturn)]
def xq_44 : List (Nat × Instr) := [(0, .aload_n 1), (1, .getfield 124), (4, .bipush 6), (6, .if_icmp .ne 6), (9, .bipush 6), (11, .ireturn), (12, .aload_n 1), (13, .iconst 3), (14, .aload_n 0), (15, .getfield 12), (18, .getfield 42), (21, .iconst 3), (22, .iconst 0), (23, .iconst 3), (24, .invokevirtual 241), (27, .i2l), (28, .invokevirtual 127), (31, .ireturn)]
def xq_45 : List (Nat × Instr) := [(0, .aload_n 1), (1, .getfield 124), (4, .iload_n 3), (5, .isub), (6, .bipush 6), (8, .if_icmp .ne 6), (11, .bipush 6), (13, .ireturn), (14, .aload_n 0), (15, .getfield 12), (18, .getfield 42), (21, .astore 4), (23, .aload 4), (25, .iconst 4), (26, .iload_n 2), (27, .iload_n 3), (28, .invokevirtual 241), (31, .istore 5), (33, .aload_n 1), (34, .dup), (35, .getfield 124), (38, .iload_n 3), (39, .isub), (40, .putfield 124), (43, .iconst 0), (44, .istore 6), (46, .iload 6), (48, .iload_n 3), (49, .if_icmp .ge 40), (52, .aload 4), (54, .getfield 245), (57, .aload 4), (59, .iload 5), (61, .invokevirtual 246), (64, .iload 6), (66, .iadd), (67, .aload_n 1), (68, .getfield 71), (71, .iconst 5), (72, .aload_n 1), (73, .getfield 124), (76, .iadd), (77, .iload 6), (79, .iadd), (80, .invokevirtual 173), (83, .iinc 6 1), (86, .goto (-40)), (89, .aload_n 1), (90, .iconst 4), (91, .iload 5), (93, .i2l), (94, .invokevirtual 127), (97, .ireturn)]
def xq_46 : List (Nat × Instr) := [(0, .aload_n 0), (1, .getfield 232), (4, .iload_n 1), (5, .iaload), (6, .ifCond .ne 5), (9, .iconst 3), (10, .ireturn), (11, .aload_n 0), (12, .getfield 232), (15, .iload_n 1), (16, .iaload), (17, .iload_n 2), (18, .if_icmp .ne 7), (21, .iconst 0), (22, .goto 4), (25, .iconst 2), (26, .ireturn)]
def xq_47 : List (Nat × Instr) := [(0, .aload_n 1), (1, .invokevirtual 170), (4, .istore_n 3), (5, .aload_n 1), (6, .getfield 71), (9, .iload_n 3), (10, .iconst 3), (11, .invokestatic 249), (14, .istore 4), (16, .iload 4), (18, .ifCond .eq 6), (21, .iload 4), (23, .ireturn), (24, .aload_n 0), (25, .getfield 12), (28, .getfield 42), (31, .astore 5), (33, .aload_n 1), (34, .getfield 71), (37, .iload_n 3), (38, .aload 5), (40, .getfield 245), (43, .aload 5), (45, .aload_n 1), (46, .getfield 71), (49, .getfield 225), (52, .iload_n 3), (53, .laload), (54, .l2i), (55, .invokevirtual 246), (58, .iload_n 2), (59, .iadd), (60, .invokevirtual 173), (63, .iconst 0), (64, .ireturn)]
def xq_48 : List (Nat × Instr) := [(0, .aload_n 1), (1, .invokevirtual 170), (4, .iconst 1), (5, .isub), (6, .istore_n 3), (7, .aload_n 1), (8, .getfield 71), (11, .iload_n 3), (12, .iconst 3), (13, .invokestatic 249), (16, .istore 4), (18, .iload 4), (20, .ifCond .eq 6), (23, .iload 4), (25, .ireturn), (26, .aload_n 0), (27, .getfield 12), (30, .getfield 42), (33, .astore 5), (35, .aload 5), (37, .getfield 245), (40, .aload 5), (42, .aload_n 1), (43, .getfield 71), (46, .getfield 225), (49, .iload_n 3), (50, .laload), (51, .l2i), (52, .invokevirtual 246), (55, .iload_n 2), (56, .iadd), (57, .aload_n 1), (58, .getfield 71), (61, .iload_n 3), (62, .iconst 1), (63, .iadd), (64, .invokevirtual 173), (67, .aload_n 1), (68, .dup), (69, .getfield 124), (72, .iconst 2), (73, .isub), (74, .putfield 124), (77, .iconst 0), (78, .ireturn)]
def xq_49 : List (Nat × Instr) := [(0, .aload_n 1), (1, .getfield 71), (4, .getfield 232), (7, .iconst 0), (8, .iaload), (9, .iconst 4), (10, .if_icmp .eq 5), (13, .iconst 3), (14, .ireturn), (15, .aload_n 0), (16, .getfield 12), (19, .getfield 42), (22, .astore_n 3), (23, .aload_n 1), (24, .getfield 71), (27, .getfield 225), (30, .iconst 0), (31, .laload), (32, .l2i), (33, .istore 4), (35, .iload_n 2), (36, .aload_n 3), (37, .getfield 253), (40, .iload 4), (42, .iaload), (43, .if_icmp .lt 5), (46, .iconst 3), (47, .ireturn), (48, .aload_n 1), (49, .aload_n 3), (50, .getfield 245), (53, .aload_n 3), (54, .iload 4), (56, .invokevirtual 246), (59, .iload_n 2), (60, .iadd), (61, .invokevirtual 166), (64, .ireturn)]
def xq_50 : List (Nat × Instr) := [(0, .aload_n 0), (1, .getfield 22), (4, .getfield 65), (7, .iload_n 3), (8, .iaload), (9, .istore 5), (11, .aload_n 2), (12, .getfield 124), (15, .iload 4), (17, .isub), (18, .iload 5), (20, .if_icmp .ge 6), (23, .bipush 6), (25, .ireturn), (26, .aload_n 1), (27, .getfield 114), (30, .iconst 5), (31, .if_icmp .ne 5), (34, .iconst 5), (35, .ireturn), (36, .aload_n 1), (37, .iload_n 3), (38, .invokevirtual 61), (41, .aload_n 2), (42, .iload 5), (44, .iload 4), (46, .invokevirtual 237), (49, .iconst 0), (50, .ireturn)]
def xq_51 : List (Nat × Instr) := [(0, .aload_n 2), (1, .getfield 71), (4, .aload_n 2), (5, .invokevirtual 170), (8, .iconst 4), (9, .invokestatic 249), (12, .istore_n 3), (13, .iload_n 3), (14, .ifCond .eq 5), (17, .iload_n 3), (18, .ireturn), (19, .aload_n 2), (20, .getfield 71), (23, .getfield 225), (26, .aload_n 2), (27, .invokevirtual 170), (30, .laload), (31, .l2i), (32, .istore 4), (34, .aload_n 0), (35, .aload_n 1), (36, .aload_n 2), (37, .aload_n 0), (38, .getfield 12), (41, .getfield 42), (44, .getfield 256), (47, .iload 4), (49, .iaload), (50, .iconst 1), (51, .invokevirtual 145), (54, .istore_n 3), (55, .iload_n 3), (56, .ifCond .ne 18), (59, .aload_n 1), (60, .invokevirtual 83), (63, .getfield 71), (66, .iconst 0), (67, .iconst 4), (68, .iload 4), (70, .i2l), (71, .invokevirtual 77), (74, .iload_n 3), (75, .ireturn)]
def xq_52 : List (Nat × Instr) := [(0, .aload_n 1), (1, .getfield 114), (4, .iconst 1), (5, .if_icmp .ne 27), (8, .aload_n 1), (9, .getfield 259), (12, .iconst 0), (13, .aload_n 2), (14, .getfield 71), (17, .aload_n 2), (18, .invokevirtual 170), (21, .invokevirtual 173), (24, .aload_n 1), (25, .iconst 1), (26, .iconst 0), (27, .invokevirtual 55), (30, .iconst 0), (31, .ireturn), (32, .aload_n 1), (33, .dup), (34, .getfield 114), (37, .iconst 1), (38, .isub), (39, .putfield 114), (42, .aload_n 1), (43, .invokevirtual 83), (46, .astore_n 3), (47, .aload_n 3), (48, .aload_n 2), (49, .getfield 71), (52, .aload_n 2), (53, .invokevirtual 170), (56, .invokevirtual 166), (59, .istore 4), (61, .iload 4), (63, .ifCond .ne 13), (66, .aload_n 3), (67, .dup), (68, .getfield 90), (71, .iconst 1), (72, .iadd), (73, .putfield 90), (76, .iload 4), (78, .ireturn)]
def xq_53 : List (Nat × Instr) := [(0, .aload_n 0), (1, .invokespecial 3), (4, .aload_n 0), (5, .new 9), (8, .dup), (9, .bipush 11), (11, .invokespecial 11), (14, .putfield 14), (17, .return_)]
def xq_54 : List (Nat × Instr) := [(0, .iconst 5), (1, .aload_n 0), (2, .getfield 20), (5, .iadd), (6, .iconst 1), (7, .isub), (8, .ireturn)]
def xq_55 : List (Nat × Instr) := [(0, .aload_n 0), (1, .getfield 20), (4, .bipush 6), (6, .if_icmp .lt 6), (9, .bipush 6), (11, .ireturn), (12, .aload_n 0), (13, .getfield 14), (16, .iconst 5), (17, .aload_n 0), (18, .getfield 20), (21, .iadd), (22, .iload_n 1), (23, .lload_n 2), (24, .invokevirtual 24), (27, .aload_n 0), (28, .dup), (29, .getfield 20), (32, .iconst 1), (33, .iadd), (34, .putfield 20), (37, .iconst 0), (38, .ireturn)]
def xq_56 : List (Nat × Instr) := [(0, .aload_n 0), (1, .aload_n 1), (2, .getfield 28), (5, .iload_n 2), (6, .iaload), (7, .aload_n 1), (8, .getfield 32), (11, .iload_n 2), (12, .laload), (13, .invokevirtual 36), (16, .ireturn)]
def xq_57 : List (Nat × Instr) := [(0, .iconst 5), (1, .aload_n 1), (2, .getfield 20), (5, .iadd), (6, .iload_n 3), (7, .isub), (8, .iload_n 2), (9, .isub), (10, .istore 4), (12, .iconst 0), (13, .istore 5), (15, .iload 5), (17, .iload_n 2), (18, .if_icmp .ge 29), (21, .aload_n 0), (22, .getfield 14), (25, .iconst 1), (26, .iload 5), (28, .iadd), (29, .aload_n 1), (30, .getfield 14), (33, .iload 4), (35, .iload 5), (37, .iadd), (38, .invokevirtual 40), (41, .iinc 5 1), (44, .goto (-29)), (47, .aload_n 1), (48, .dup), (49, .getfield 20), (52, .iload_n 2), (53, .iload_n 3), (54, .iadd), (55, .isub), (56, .putfield 20), (59, .return_)]
def xq_58 : List (Nat × Instr) := [(0, .aload_n 0), (1, .invokespecial 3), (4, .aload_n 0), (5, .bipush 24), (7, .newarray .int), (9, .putfield 9), (12, .aload_n 0), (13, .bipush 24), (15, .newarray .int), (17, .putfield 15), (20, .aload_n 0), (21, .bipush 24), (23, .newarray .int), (25, .putfield 18), (28, .aload_n 0), (29, .new 21), (32, .dup), (33, .bipush 72), (35, .invokespecial 23), (38, .putfield 26), (41, .aload_n 0), (42, .bipush 24), (44, .newarray .int), (46, .putfield 30), (49, .aload_n 0), (50, .bipush 24), (52, .newarray .int), (54, .putfield 33), (57, .return_)]
def xq_59 : List (Nat × Instr) := [(0, .iconst 0), (1, .istore_n 1), (2, .iload_n 1), (3, .bipush 24), (5, .if_icmp .ge 16), (8, .aload_n 0), (9, .getfield 9), (12, .iload_n 1), (13, .iconst 0), (14, .iastore), (15, .iinc 1 1), (18, .goto (-16)), (21, .aload_n 0), (22, .iconst 0), (23, .putfield 36), (26, .return_)]
def xq_60 : List (Nat × Instr) := [(0, .iload_n 1), (1, .iconst 3), (2, .imul), (3, .ireturn)]
def xq_61 : List (Nat × Instr) := [(0, .iconst 0), (1, .istore 4), (3, .iload 4), (5, .bipush 23), (7, .if_icmp .ge 19), (10, .aload_n 0), (11, .getfield 9), (14, .iload 4), (16, .iaload), (17, .ifCond .eq 9), (20, .iinc 4 1), (23, .goto (-20)), (26, .aload_n 0), (27, .iload 4), (29, .iload_n 1), (30, .iload_n 2), (31, .iload_n 3), (32, .invokevirtual 40), (35, .aload_n 0), (36, .getfield 26), (39, .aload_n 0), (40, .iload 4), (42, .invokevirtual 44), (45, .aload_n 0), (46, .iload 4), (48, .invokevirtual 44), (51, .iconst 3), (52, .iadd), (53, .invokevirtual 48), (56, .aload_n 0), (57, .dup), (58, .getfield 36), (61, .iconst 1), (62, .iadd), (63, .putfield 36), (66, .iload 4), (68, .ireturn)]
def xq_62 : List (Nat × Instr) := [(0, .aload_n 0), (1, .getfield 9), (4, .iload_n 1), (5, .iload_n 2), (6, .iastore), (7, .aload_n 0), (8, .getfield 15), (11, .iload_n 1), (12, .iload_n 3), (13, .iastore), (14, .aload_n 0), (15, .getfield 18), (18, .iload_n 1), (19, .iload 4), (21, .iastore), (22, .return_)]
def xq_63 : List (Nat × Instr) := [(0, .iconst 0), (1, .istore_n 1), (2, .iload_n 1), (3, .bipush 24), (5, .if_icmp .ge 16), (8, .aload_n 0), (9, .getfield 30), (12, .iload_n 1), (13, .iconst (-1)), (14, .iastore), (15, .iinc 1 1), (18, .goto (-16)), (21, .aload_n 0), (22, .iconst 0), (23, .putfield 52), (26, .return_)]
def xq_64 : List (Nat × Instr) := [(0, .aload_n 1), (1, .getfield 55), (4, .iload_n 2), (5, .iaload), (6, .iconst 3), (7, .if_icmp .eq 14), (10, .aload_n 1), (11, .getfield 55), (14, .iload_n 2), (15, .iaload), (16, .iconst 4), (17, .if_icmp .eq 4), (20, .return_), (21, .aload_n 1), (22, .getfield 56), (25, .iload_n 2), (26, .laload), (27, .l2i), (28, .istore_n 3), (29, .aload_n 0), (30, .getfield 30), (33, .iload_n 3), (34, .iaload), (35, .iconst (-1)), (36, .if_icmp .ne 33), (39, .aload_n 0), (40, .getfield 30), (43, .iload_n 3), (44, .aload_n 0), (45, .getfield 52), (48, .iastore), (49, .aload_n 0), (50, .getfield 33), (53, .aload_n 0), (54, .getfield 52), (57, .iload_n 3), (58, .iastore), (59, .aload_n 0), (60, .dup), (61, .getfield 52), (64, .iconst 1), (65, .iadd), (66, .putfield 52), (69, .return_)]
def xq_65 : List (Nat × Instr) := [(0, .iconst 0), (1, .istore_n 1), (2, .iload_n 1), (3, .bipush 24), (5, .if_icmp .ge 26), (8, .aload_n 0), (9, .getfield 30), (12, .iload_n 1), (13, .iaload), (14, .iconst (-1)), (15, .if_icmp .ne 10), (18, .aload_n 0), (19, .getfield 9), (22, .iload_n 1), (23, .iconst 0), (24, .iastore), (25, .iinc 1 1), (28, .goto (-26)), (31, .aload_n 0), (32, .aload_n 0), (33, .getfield 52), (36, .putfield 36), (39, .return_)]
def xq_66 : List (Nat × Instr) := [(0, .aload_n 0), (1, .invokespecial 3), (4, .aload_n 0), (5, .sipush 2400), (8, .newarray .int), (10, .putfield 9), (13, .return_)]
def xq_67 : List (Nat × Instr) := [(0, .aload_n 0), (1, .getfield 15), (4, .sipush 2400), (7, .if_icmp .ge 27), (10, .aload_n 0), (11, .getfield 9), (14, .aload_n 0), (15, .getfield 15), (18, .iload_n 1), (19, .sipush 255), (22, .iand), (23, .iastore), (24, .aload_n 0), (25, .dup), (26, .getfield 15), (29, .iconst 1), (30, .iadd), (31, .putfield 15), (34, .return_)]
def xq_68 : List (Nat × Instr) := [(0, .aload_n 0), (1, .getfield 9), (4, .iload_n 1), (5, .iaload), (6, .istore 4), (8, .aload_n 0), (9, .getfield 15), (12, .iconst 1), (13, .isub), (14, .istore 5), (16, .aload_n 0), (17, .getfield 9), (20, .iload_n 1), (21, .iload_n 2), (22, .iastore), (23, .iload_n 3), (24, .ifCond .eq 32), (27, .iload_n 1), (28, .iload 5), (30, .if_icmp .eq 26), (33, .aload_n 0), (34, .getfield 9), (37, .iload 5), (39, .aload_n 0), (40, .getfield 9), (43, .iload 5), (45, .iaload), (46, .iload_n 2), (47, .iadd), (48, .iload 4), (50, .isub), (51, .sipush 255), (54, .iand), (55, .iastore), (56, .iload 4), (58, .ireturn)]
def xq_69 : List (Nat × Instr) := [(0, .iconst 0), (1, .istore_n 2), (2, .iconst 0), (3, .istore_n 3), (4, .iload_n 3), (5, .iload_n 1), (6, .if_icmp .ge 18), (9, .iload_n 2), (10, .aload_n 0), (11, .getfield 9), (14, .iload_n 3), (15, .iaload), (16, .iadd), (17, .istore_n 2), (18, .iinc 3 1), (21, .goto (-17)), (24, .iload_n 2), (25, .sipush 255), (28, .iand), (29, .ireturn)]
def xq_70 : List (Nat × Instr) := [(0, .aload_n 0), (1, .invokespecial 3), (4, .aload_n 0), (5, .bipush 6), (7, .newarray .int), (9, .putfield 9), (12, .aload_n 0), (13, .bipush 6), (15, .newarray .int), (17, .putfield 15), (20, .aload_n 0), (21, .sipush 180), (24, .newarray .int), (26, .putfield 18), (29, .aload_n 0), (30, .sipush 180), (33, .newarray .int), (35, .putfield 21), (38, .aload_n 0), (39, .sipush 180), (42, .newarray .int), (44, .putfield 24), (47, .aload_n 0), (48, .bipush 6), (50, .newarray .int), (52, .putfield 27), (55, .aload_n 0), (56, .bipush 18), (58, .newarray .int), (60, .putfield 30), (63, .aload_n 0), (64, .bipush 18), (66, .newarray .int), (68, .putfield 33), (71, .aload_n 0), (72, .bipush 18), (74, .newarray .int), (76, .putfield 36), (79, .return_)]
def xq_71 : List (Nat × Instr) := [(0, .aload_n 0), (1, .getfield 9), (4, .iload_n 1), (5, .iload_n 2), (6, .iastore), (7, .aload_n 0), (8, .getfield 15), (11, .iload_n 1), (12, .iconst 0), (13, .iastore), (14, .aload_n 0), (15, .getfield 27), (18, .iload_n 1), (19, .iconst 0), (20, .iastore), (21, .return_)]
def xq_72 : List (Nat × Instr) := [(0, .iload_n 1), (1, .bipush 30), (3, .imul), (4, .aload_n 0), (5, .getfield 15), (8, .iload_n 1), (9, .iaload), (10, .iadd), (11, .istore 5), (13, .aload_n 0), (14, .getfield 18), (17, .iload 5), (19, .iload_n 2), (20, .iastore), (21, .aload_n 0), (22, .getfield 21), (25, .iload 5), (27, .iload_n 3), (28, .iastore), (29, .aload_n 0), (30, .getfield 24), (33, .iload 5), (35, .iload 4), (37, .iastore), (38, .aload_n 0), (39, .getfield 15), (42, .iload_n 1), (43, .dup2), (44, .iaload), (45, .iconst 1), (46, .iadd), (47, .iastore), (48, .return_)]
def xq_73 : List (Nat × Instr) := [(0, .iload_n 1), (1, .iconst 3), (2, .imul), (3, .aload_n 0), (4, .getfield 27), (7, .iload_n 1), (8, .iaload), (9, .iadd), (10, .istore 5), (12, .aload_n 0), (13, .getfield 30), (16, .iload 5), (18, .iload_n 2), (19, .iastore), (20, .aload_n 0), (21, .getfield 33), (24, .iload 5), (26, .iload_n 3), (27, .iastore), (28, .aload_n 0), (29, .getfield 36), (32, .iload 5), (34, .iload 4), (36, .iastore), (37, .aload_n 0), (38, .getfield 27), (41, .iload_n 1), (42, .dup2), (43, .iaload), (44, .iconst 1), (45, .iadd), (46, .iastore), (47, .return_)]
def xq_74 : List (Nat × Instr) := [(0, .iload_n 2), (1, .aload_n 0), (2, .getfield 15), (5, .iload_n 1), (6, .iaload), (7, .if_icmp .ge 12), (10, .iload_n 1), (11, .bipush 30), (13, .imul), (14, .iload_n 2), (15, .iadd), (16, .goto 4), (19, .iconst (-1)), (20, .ireturn)]
def xq_75 : List (Nat × Instr) := [(0, .iload_n 1), (1, .iconst 3), (2, .imul), (3, .istore_n 3), (4, .iload_n 3), (5, .istore 4), (7, .iload 4), (9, .iload_n 3), (10, .aload_n 0), (11, .getfield 27), (14, .iload_n 1), (15, .iaload), (16, .iadd), (17, .if_icmp .ge 39), (20, .aload_n 0), (21, .getfield 30), (24, .iload 4), (26, .iaload), (27, .iload_n 2), (28, .if_icmp .gt 22), (31, .iload_n 2), (32, .aload_n 0), (33, .getfield 33), (36, .iload 4), (38, .iaload), (39, .if_icmp .ge 11), (42, .aload_n 0), (43, .getfield 36), (46, .iload 4), (48, .iaload), (49, .ireturn), (50, .iinc 4 1), (53, .goto (-46)), (56, .iconst (-1)), (57, .ireturn)]
def xq_76 : List (Nat × Instr) := [(0, .aload_n 0), (1, .getfield 18), (4, .iload_n 1), (5, .iaload), (6, .lookupswitch 53 #[(19, 34), (21, 41), (26, 41)]), (40, .aload_n 0), (41, .getfield 24), (44, .iload_n 1), (45, .iaload), (46, .ireturn), (47, .aload_n 0), (48, .getfield 9), (51, .aload_n 0), (52, .getfield 21), (55, .iload_n 1), (56, .iaload), (57, .iaload), (58, .ireturn), (59, .getstatic 39), (62, .aload_n 0), (63, .getfield 18), (66, .iload_n 1), (67, .iaload), (68, .iaload), (69, .ireturn)]
def xq_77 : List (Nat × Instr) := [(0, .iconst 0), (1, .istore_n 1), (2, .iconst 0), (3, .istore_n 2), (4, .iload_n 2), (5, .bipush 6), (7, .if_icmp .ge 65), (10, .iload_n 2), (11, .bipush 30), (13, .imul), (14, .istore_n 3), (15, .iload_n 3), (16, .istore 4), (18, .iload 4), (20, .iload_n 3), (21, .aload_n 0), (22, .getfield 15), (25, .iload_n 2), (26, .iaload), (27, .iadd), (28, .if_icmp .ge 38), (31, .bipush 31), (33, .iload_n 1), (34, .imul), (35, .aload_n 0), (36, .getfield 18), (39, .iload 4), (41, .iaload), (42, .iadd), (43, .aload_n 0), (44, .getfield 21), (47, .iload 4), (49, .iaload), (50, .iadd), (51, .aload_n 0), (52, .getfield 24), (55, .iload 4), (57, .iaload), (58, .iadd), (59, .istore_n 1), (60, .iinc 4 1), (63, .goto (-45)), (66, .iinc 2 1), (69, .goto (-65)), (72, .iload_n 1), (73, .sipush 255), (76, .iand), (77, .ireturn)]
def xq_78 : List (Nat × Instr) := [(0, .aload_n 0), (1, .invokespecial 3), (4, .aload_n 0), (5, .bipush (-2)), (7, .putfield 9), (10, .aload_n 0), (11, .aload_n 1), (12, .putfield 15), (15, .return_)]
def xq_79 : List (Nat × Instr) := [(0, .aload_n 0), (1, .aload_n 1), (2, .putfield 19), (5, .aload_n 0), (6, .bipush (-2)), (8, .putfield 9), (11, .aload_n 0), (12, .iconst 0), (13, .putfield 23), (16, .aload_n 0), (17, .bipush 24), (19, .putfield 26), (22, .aload_n 0), (23, .getfield 19), (26, .getfield 29), (29, .invokevirtual 35), (32, .aload_n 0), (33, .bipush 83), (35, .bipush 83), (37, .invokevirtual 40), (40, .pop), (41, .aload_n 0), (42, .bipush 78), (44, .bipush 78), (46, .invokevirtual 40), (49, .pop), (50, .aload_n 0), (51, .iconst 1), (52, .iconst 1), (53, .invokevirtual 40), (56, .pop), (57, .aload_n 0), (58, .getfield 9), (61, .bipush (-2)), (63, .if_icmp .ne 18), (66, .aload_n 0), (67, .getfield 15), (70, .getfield 44), (73, .iconst 3), (74, .if_icmp .le 7), (77, .iconst 1), (78, .goto 4), (81, .iconst 0), (82, .istore_n 3), (83, .aload_n 0), (84, .iload_n 2), (85, .iload_n 2), (86, .invokevirtual 40), (89, .pop), (90, .aload_n 0), (91, .iload_n 3), (92, .ifCond .eq 16), (95, .aload_n 0), (96, .getfield 9), (99, .bipush (-2)), (101, .if_icmp .eq 7), (104, .iconst 1), (105, .goto 4), (108, .iconst 0), (109, .putfield 49), (112, .aload_n 0), (113, .getfield 19), (116, .aload_n 0), (117, .iconst 0), (118, .iconst 2), (119, .invokevirtual 40), (122, .putfield 53), (125, .aload_n 0), (126, .getfield 19), (129, .aload_n 0), (130, .iconst 0), (131, .iconst 3), (132, .invokevirtual 40), (135, .putfield 56), (138, .aload_n 0), (139, .getfield 19), (142, .aload_n 0), (143, .iconst 1), (144, .iconst 3), (145, .invokevirtual 40), (148, .putfield 59), (151, .iconst 0), (152, .istore 4), (154, .iload 4), (156, .aload_n 0), (157, .getfield 19), (160, .getfield 59), (163, .if_icmp .ge 23), (166, .aload_n 0), (167, .aload_n 0), (168, .getfield 19), (171, .getfield 62), (174, .iload 4), (176, .aaload), (177, .invokevirtual 66), (180, .iinc 4 1), (183, .goto (-29)), (186, .aload_n 0), (187, .invokevirtual 70), (190, .aload_n 0), (191, .invokevirtual 73), (194, .aload_n 0), (195, .invokevirtual 76), (198, .return_)]
def xq_80 : List (Nat × Instr) := [(0, .aload_n 0), (1, .getfield 9), (4, .bipush (-2)), (6, .if_icmp .eq 5), (9, .iload_n 1), (10, .ireturn), (11, .aload_n 0), (12, .getfield 23), (15, .aload_n 0), (16, .getfield 15), (19, .getfield 44), (22, .if_icmp .ge 35), (25, .aload_n 0), (26, .getfield 15), (29, .getfield 79), (32, .aload_n 0), (33, .getfield 23), (36, .iaload), (37, .iload_n 1), (38, .if_icmp .lt 19), (41, .aload_n 0), (42, .getfield 15), (45, .getfield 79), (48, .aload_n 0), (49, .getfield 23), (52, .iaload), (53, .iload_n 2), (54, .if_icmp .le 13), (57, .aload_n 0), (58, .aload_n 0), (59, .getfield 23), (62, .putfield 9), (65, .iload_n 1), (66, .ireturn), (67, .aload_n 0), (68, .dup), (69, .getfield 23), (72, .iconst 1), (73, .iadd), (74, .putfield 23), (77, .aload_n 0), (78, .getfield 15), (81, .getfield 79), (84, .aload_n 0), (85, .getfield 23), (88, .iconst 1), (89, .isub), (90, .iaload), (91, .ireturn)]
def xq_81 : List (Nat × Instr) := [(0, .aload_n 0), (1, .getfield 9), (4, .bipush (-2)), (6, .if_icmp .ne 13), (9, .aload_n 0), (10, .aload_n 0), (11, .getfield 23), (14, .iconst 1), (15, .isub), (16, .putfield 9), (19, .return_)]
def xq_82 : List (Nat × Instr) := [(0, .aload_n 1), (1, .aload_n 0), (2, .iconst 0), (3, .iconst 2), (4, .invokevirtual 40), (7, .iconst 0), (8, .invokevirtual 83), (11, .aload_n 1), (12, .getfield 89), (15, .iconst 1), (16, .if_icmp .ne 14), (19, .aload_n 0), (20, .aload_n 1), (21, .getfield 92), (24, .iconst 0), (25, .iconst 1), (26, .invokevirtual 96), (29, .return_), (30, .aload_n 1), (31, .getfield 89), (34, .iconst 2), (35, .if_icmp .ne 12), (38, .aload_n 1), (39, .aload_n 0), (40, .invokevirtual 100), (43, .putfield 104), (46, .return_), (47, .aload_n 0), (48, .iconst 1), (49, .iconst 5), (50, .invokevirtual 40), (53, .istore_n 2), (54, .iconst 0), (55, .istore_n 3), (56, .iload_n 3), (57, .iload_n 2), (58, .if_icmp .ge 23), (61, .aload_n 0), (62, .aload_n 1), (63, .aload_n 0), (64, .iconst 0), (65, .iconst 5), (66, .invokevirtual 40), (69, .invokevirtual 107), (72, .invokevirtual 111), (75, .iinc 3 1), (78, .goto (-22)), (81, .return_)]
def xq_83 : List (Nat × Instr) := [(0, .aload_n 0), (1, .iconst 1), (2, .bipush 31), (4, .invokevirtual 40), (7, .istore_n 1), (8, .iload_n 1), (9, .bipush 7), (11, .if_icmp .le 13), (14, .iload_n 1), (15, .bipush 16), (17, .if_icmp .ge 7), (20, .aload_n 0), (21, .invokevirtual 115), (24, .iload_n 1), (25, .ireturn)]
def xq_84 : List (Nat × Instr) := [(0, .aload_n 1), (1, .aload_n 0), (2, .iconst 0), (3, .bipush 30), (5, .invokevirtual 40), (8, .putfield 118), (11, .aload_n 0), (12, .aload_n 1), (13, .getfield 121), (16, .invokevirtual 124), (19, .aload_n 0), (20, .aload_n 1), (21, .getfield 121), (24, .iconst 1), (25, .iconst 5), (26, .invokevirtual 96), (29, .aload_n 1), (30, .aload_n 0), (31, .iconst 0), (32, .bipush 6), (34, .invokevirtual 40), (37, .putfield 128), (40, .aload_n 0), (41, .aload_n 1), (42, .getfield 121), (45, .iconst 5), (46, .iconst 5), (47, .aload_n 1), (48, .getfield 128), (51, .iadd), (52, .invokevirtual 96), (55, .return_)]
def xq_85 : List (Nat × Instr) := [(0, .aload_n 0), (1, .iconst 0), (2, .iconst 4), (3, .invokevirtual 40), (6, .istore_n 2), (7, .iload_n 2), (8, .ifCond .eq 12), (11, .iload_n 2), (12, .iconst 4), (13, .if_icmp .eq 7), (16, .aload_n 0), (17, .invokevirtual 115), (20, .aload_n 1), (21, .iconst 0), (22, .iload_n 2), (23, .iload_n 2), (24, .iconst 4), (25, .if_icmp .ne 12), (28, .aload_n 0), (29, .iconst 4), (30, .invokevirtual 129), (33, .i2l), (34, .goto 4), (37, .lconst 0), (38, .invokevirtual 133), (41, .return_)]
def xq_86 : List (Nat × Instr) := [(0, .iload_n 2), (1, .istore 4), (3, .iload 4), (5, .iload_n 3), (6, .if_icmp .ge 107), (9, .aload_n 0), (10, .iconst 0), (11, .iconst 4), (12, .invokevirtual 40), (15, .istore 5), (17, .iload 5), (19, .tableswitch 80 1 4 #[29, 46, 62, 62]), (48, .aload_n 1), (49, .iload 4), (51, .iconst 1), (52, .aload_n 0), (53, .iconst 4), (54, .invokevirtual 139), (57, .l2i), (58, .i2l), (59, .invokevirtual 133), (62, .goto 45), (65, .aload_n 1), (66, .iload 4), (68, .iconst 2), (69, .aload_n 0), (70, .bipush 8), (72, .invokevirtual 139), (75, .invokevirtual 133), (78, .goto 29), (81, .aload_n 1), (82, .iload 4), (84, .iload 5), (86, .aload_n 0), (87, .iload 5), (89, .invokevirtual 129), (92, .i2l), (93, .invokevirtual 133), (96, .goto 11), (99, .aload_n 1), (100, .iload 4), (102, .iconst 0), (103, .lconst 0), (104, .invokevirtual 133), (107, .iinc 4 1), (110, .goto (-107)), (113, .return_)]
def xq_87 : List (Nat × Instr) := [(0, .lconst 0), (1, .lstore_n 2), (2, .iconst 0), (3, .istore 4), (5, .iload 4), (7, .iload_n 1), (8, .if_icmp .ge 27), (11, .lload_n 2), (12, .aload_n 0), (13, .iconst 0), (14, .sipush 255), (17, .invokevirtual 40), (20, .i2l), (21, .bipush 8), (23, .iload 4), (25, .imul), (26, .lshl), (27, .lor), (28, .lstore_n 2), (29, .iinc 4 1), (32, .goto (-27)), (35, .lload_n 2), (36, .lreturn)]
def xq_88 : List (Nat × Instr) := [(0, .aload_n 0), (1, .getfield 19), (4, .getfield 29), (7, .astore_n 2), (8, .aload_n 0), (9, .iconst 0), (10, .aload_n 2), (11, .getfield 143), (14, .aload_n 0), (15, .getfield 26), (18, .iconst 1), (19, .isub), (20, .invokestatic 144), (23, .invokevirtual 40), (26, .istore_n 3), (27, .aload_n 0), (28, .getfield 9), (31, .bipush (-2)), (33, .if_icmp .eq 5), (36, .iconst 0), (37, .ireturn), (38, .iload_n 3), (39, .aload_n 2), (40, .getfield 143), (43, .if_icmp .ne 23), (46, .aload_n 2), (47, .getfield 149), (50, .iload_n 3), (51, .iload_n 1), (52, .iastore), (53, .aload_n 2), (54, .dup), (55, .getfield 143), (58, .iconst 1), (59, .iadd), (60, .putfield 143), (63, .goto 17), (66, .aload_n 2), (67, .getfield 149), (70, .iload_n 3), (71, .iaload), (72, .iload_n 1), (73, .if_icmp .eq 7), (76, .aload_n 0), (77, .invokevirtual 115), (80, .iload_n 3), (81, .ireturn)]
def xq_89 : List (Nat × Instr) := [(0, .aload_n 0), (1, .getfield 19), (4, .getfield 29), (7, .astore_n 1), (8, .aload_n 0), (9, .aload_n 0), (10, .aload_n 1), (11, .getfield 143), (14, .bipush 24), (16, .invokevirtual 40), (19, .putfield 26), (22, .iconst 0), (23, .istore_n 2), (24, .iload_n 2), (25, .aload_n 0), (26, .getfield 26), (29, .if_icmp .ge 42), (32, .aload_n 0), (33, .getfield 9), (36, .bipush (-2)), (38, .if_icmp .ne 33), (41, .iload_n 2), (42, .aload_n 1), (43, .getfield 143), (46, .if_icmp .ne 14), (49, .aload_n 0), (50, .aload_n 0), (51, .getfield 23), (54, .putfield 9), (57, .goto 8), (60, .aload_n 0), (61, .iload_n 2), (62, .invokevirtual 152), (65, .iinc 2 1), (68, .goto (-44)), (71, .return_)]
def xq_90 : List (Nat × Instr) := [(0, .aload_n 0), (1, .getfield 19), (4, .getfield 29), (7, .astore_n 2), (8, .aload_n 0), (9, .aload_n 2), (10, .getfield 149), (13, .iload_n 1), (14, .iaload), (15, .aload_n 2), (16, .getfield 149), (19, .iload_n 1), (20, .iaload), (21, .invokevirtual 40), (24, .istore_n 3), (25, .iload_n 3), (26, .iconst 4), (27, .if_icmp .ne 12), (30, .aload_n 0), (31, .iconst 0), (32, .iconst 5), (33, .invokevirtual 40), (36, .goto 4), (39, .iconst 0), (40, .istore 4), (42, .iload_n 3), (43, .iconst 4), (44, .if_icmp .ne 12), (47, .aload_n 0), (48, .iconst 0), (49, .iconst 2), (50, .invokevirtual 40), (53, .goto 4), (56, .iconst 3), (57, .istore 5), (59, .aload_n 2), (60, .iload_n 1), (61, .iload_n 3), (62, .iload 4), (64, .iload 5), (66, .invokevirtual 156), (69, .aload_n 0), (70, .aload_n 2), (71, .getfield 160), (74, .aload_n 2), (75, .iload_n 1), (76, .invokevirtual 161), (79, .aload_n 2), (80, .iload_n 1), (81, .invokevirtual 161), (84, .iload 5), (86, .iadd), (87, .invokevirtual 96), (90, .return_)]
def xq_91 : List (Nat × Instr) := [(0, .aload_n 0), (1, .getfield 15), (4, .aload_n 0), (5, .getfield 23), (8, .invokevirtual 164), (11, .istore_n 1), (12, .aload_n 0), (13, .iload_n 1), (14, .iload_n 1), (15, .invokevirtual 40), (18, .pop), (19, .aload_n 0), (20, .getfield 9), (23, .bipush (-2)), (25, .if_icmp .ne 25), (28, .aload_n 0), (29, .getfield 23), (32, .aload_n 0), (33, .getfield 15), (36, .getfield 44), (39, .if_icmp .ge 11), (42, .aload_n 0), (43, .aload_n 0), (44, .getfield 23), (47, .putfield 9), (50, .return_)]
def xq_92 : List (Nat × Instr) := [(0, .aload_n 0), (1, .getfield 19), (4, .getfield 53), (7, .aload_n 0), (8, .getfield 19), (11, .getfield 59), (14, .if_icmp .ge 7), (17, .iconst 1), (18, .goto 4), (21, .iconst 0), (22, .istore_n 1), (23, .iload_n 1), (24, .ifCond .eq 28), (27, .aload_n 0), (28, .getfield 19), (31, .getfield 62), (34, .aload_n 0), (35, .getfield 19), (38, .getfield 53), (41, .aaload), (42, .getfield 89), (45, .ifCond .ne 7), (48, .iconst 1), (49, .goto 4), (52, .iconst 0), (53, .istore_n 2), (54, .aload_n 0), (55, .getfield 9), (58, .bipush (-2)), (60, .if_icmp .ne 26), (63, .iload_n 1), (64, .ifCond .eq 17), (67, .iload_n 2), (68, .ifCond .ne 18), (71, .aload_n 0), (72, .getfield 19), (75, .invokevirtual 167), (78, .ifCond .eq 8), (81, .aload_n 0), (82, .iconst 4), (83, .putfield 9), (86, .return_)]
def xq_93 : List (Nat × Instr) := [(0, .aload_n 0), (1, .invokespecial 3), (4, .aload_n 0), (5, .iconst 5), (6, .anewarray 9), (9, .putfield 11), (12, .aload_n 0), (13, .new 17), (16, .dup), (17, .iconst 1), (18, .invokespecial 19), (21, .putfield 22), (24, .iconst 0), (25, .istore_n 1), (26, .iload_n 1), (27, .iconst 5), (28, .if_icmp .ge 22), (31, .aload_n 0), (32, .getfield 11), (35, .iload_n 1), (36, .new 9), (39, .dup), (40, .invokespecial 26), (43, .aastore), (44, .iinc 1 1), (47, .goto (-21)), (50, .return_)]
def xq_94 : List (Nat × Instr) := [(0, .aload_n 0), (1, .iload_n 1), (2, .putfield 27), (5, .aload_n 0), (6, .iload_n 2), (7, .putfield 31), (10, .aload_n 0), (11, .iconst 0), (12, .putfield 34), (15, .return_)]
def xq_95 : List (Nat × Instr) := [(0, .aload_n 0), (1, .getfield 11), (4, .aload_n 0), (5, .getfield 34), (8, .aaload), (9, .astore_n 2), (10, .aload_n 0), (11, .dup), (12, .getfield 34), (15, .iconst 1), (16, .iadd), (17, .putfield 34), (20, .aload_n 2), (21, .iload_n 1), (22, .putfield 37), (25, .aload_n 2), (26, .iconst 0), (27, .putfield 40), (30, .aload_n 2), (31, .iconst 0), (32, .putfield 43), (35, .aload_n 2), (36, .getfield 46), (39, .iconst 0), (40, .iconst 5), (41, .invokevirtual 49), (44, .aload_n 2), (45, .areturn)]
def xq_96 : List (Nat × Instr) := [(0, .aload_n 0), (1, .getfield 11), (4, .aload_n 0), (5, .getfield 34), (8, .iconst 1), (9, .isub), (10, .aaload), (11, .areturn)]
def xq_97 : List (Nat × Instr) := [(0, .aload_n 0), (1, .invokespecial 3), (4, .aload_n 0), (5, .iconst 3), (6, .anewarray 9), (9, .putfield 11), (12, .aload_n 0), (13, .new 17), (16, .dup), (17, .invokespecial 19), (20, .putfield 20), (23, .iconst 0), (24, .istore_n 1), (25, .iload_n 1), (26, .iconst 3), (27, .if_icmp .ge 22), (30, .aload_n 0), (31, .getfield 11), (34, .iload_n 1), (35, .new 9), (38, .dup), (39, .invokespecial 24), (42, .aastore), (43, .iinc 1 1), (46, .goto (-21)), (49, .return_)]
def xq_98 : List (Nat × Instr) := [(0, .aload_n 0), (1, .getfield 25), (4, .ifCond .ne 7), (7, .iconst 1), (8, .goto 4), (11, .iconst 0), (12, .ireturn)]
def xq_99 : List (Nat × Instr) := [(0, .iconst 0), (1, .istore_n 1), (2, .iload_n 1), (3, .aload_n 0), (4, .getfield 25), (7, .if_icmp .ge 23), (10, .aload_n 0), (11, .getfield 11), (14, .iload_n 1), (15, .aaload), (16, .getfield 29), (19, .ifCond .ne 5), (22, .iconst 1), (23, .ireturn), (24, .iinc 1 1), (27, .goto (-25)), (30, .iconst 0), (31, .ireturn)]
def xq_100 : List (Nat × Instr) := [(0, .aload_n 0), (1, .iconst 0), (2, .putfield 32), (5, .iconst 1), (6, .istore_n 1), (7, .iload_n 1), (8, .aload_n 0), (9, .getfield 25), (12, .if_icmp .gt 39), (15, .aload_n 0), (16, .getfield 35), (19, .iload_n 1), (20, .iadd), (21, .aload_n 0), (22, .getfield 25), (25, .irem), (26, .istore_n 2), (27, .aload_n 0), (28, .getfield 11), (31, .iload_n 2), (32, .aaload), (33, .getfield 29), (36, .ifCond .ne 9), (39, .aload_n 0), (40, .iload_n 2), (41, .putfield 35), (44, .return_), (45, .iinc 1 1), (48, .goto (-41)), (51, .return_)]
def xq_101 : List (Nat × Instr) := [(0, .aload_n 0), (1, .getfield 20), (4, .invokevirtual 38), (7, .iconst 0), (8, .istore_n 1), (9, .iload_n 1), (10, .aload_n 0), (11, .getfield 25), (14, .if_icmp .ge 105), (17, .aload_n 0), (18, .getfield 11), (21, .iload_n 1), (22, .aaload), (23, .getfield 29), (26, .iconst 1), (27, .if_icmp .ne 20), (30, .aload_n 0), (31, .getfield 20), (34, .aload_n 0), (35, .getfield 11), (38, .iload_n 1), (39, .aaload), (40, .getfield 41), (43, .iconst 0), (44, .invokevirtual 45), (47, .iconst 0), (48, .istore_n 2), (49, .iload_n 2), (50, .aload_n 0), (51, .getfield 11), (54, .iload_n 1), (55, .aaload), (56, .getfield 49), (59, .if_icmp .ge 54), (62, .aload_n 0), (63, .getfield 11), (66, .iload_n 1), (67, .aaload), (68, .getfield 52), (71, .iload_n 2), (72, .aaload), (73, .astore_n 3), (74, .iconst 0), (75, .istore 4), (77, .iload 4), (79, .iconst 5), (80, .aload_n 3), (81, .getfield 56), (84, .iadd), (85, .if_icmp .ge 22), (88, .aload_n 0), (89, .getfield 20), (92, .aload_n 3), (93, .getfield 61), (96, .iload 4), (98, .invokevirtual 45), (101, .iinc 4 1), (104, .goto (-27)), (107, .iinc 2 1), (110, .goto (-61)), (113, .iinc 1 1), (116, .goto (-107)), (119, .iconst 0), (120, .istore_n 1), (121, .iload_n 1), (122, .bipush 24), (124, .if_icmp .ge 75), (127, .iload_n 1), (128, .aload_n 0), (129, .getfield 20), (132, .getfield 64), (135, .if_icmp .ge 64), (138, .aload_n 0), (139, .getfield 20), (142, .getfield 67), (145, .iload_n 1), (146, .iaload), (147, .istore_n 2), (148, .iconst 0), (149, .istore_n 3), (150, .iload_n 3), (151, .aload_n 0), (152, .getfield 20), (155, .getfield 71), (158, .iload_n 2), (159, .iaload), (160, .if_icmp .ge 33), (163, .aload_n 0), (164, .getfield 20), (167, .aload_n 0), (168, .getfield 20), (171, .getfield 74), (174, .aload_n 0), (175, .getfield 20), (178, .iload_n 2), (179, .invokevirtual 75), (182, .iload_n 3), (183, .iadd), (184, .invokevirtual 45), (187, .iinc 3 1), (190, .goto (-40)), (193, .iinc 1 1), (196, .goto (-75)), (199, .return_)]
def xq_102 : List (Nat × Instr) := [(0, .aload_n 0), (1, .getfield 20), (4, .getfield 79), (7, .bipush 24), (9, .if_icmp .ne 14), (12, .aload_n 0), (13, .invokevirtual 80), (16, .aload_n 0), (17, .getfield 20), (20, .invokevirtual 83), (23, .aload_n 0), (24, .getfield 20), (27, .getfield 79), (30, .bipush 24), (32, .if_icmp .ge 7), (35, .iconst 1), (36, .goto 4), (39, .iconst 0), (40, .ireturn)]
def xq_103 : List (Nat × Instr) := [(0, .aload_n 0), (1, .invokespecial 3), (4, .aload_n 0), (5, .aload_n 1), (6, .putfield 9), (9, .return_)]
def xq_104 : List (Nat × Instr) := [(0, .aload_n 1), (1, .invokevirtual 15), (4, .aload_n 0), (5, .getfield 9), (8, .iconst 0), (9, .putfield 20), (12, .aload_n 0), (13, .getfield 9), (16, .bipush 83), (18, .invokevirtual 26), (21, .aload_n 0), (22, .getfield 9), (25, .bipush 78), (27, .invokevirtual 26), (30, .aload_n 0), (31, .getfield 9), (34, .iconst 1), (35, .invokevirtual 26), (38, .aload_n 0), (39, .getfield 9), (42, .iload_n 2), (43, .invokevirtual 26), (46, .aload_n 0), (47, .getfield 9), (50, .aload_n 1), (51, .getfield 30), (54, .invokevirtual 26), (57, .aload_n 0), (58, .getfield 9), (61, .aload_n 1), (62, .getfield 33), (65, .invokevirtual 26), (68, .aload_n 0), (69, .getfield 9), (72, .aload_n 1), (73, .getfield 36), (76, .invokevirtual 26), (79, .iconst 0), (80, .istore_n 3), (81, .iload_n 3), (82, .aload_n 1), (83, .getfield 36), (86, .if_icmp .ge 23), (89, .aload_n 0), (90, .aload_n 1), (91, .getfield 39), (94, .iload_n 3), (95, .aaload), (96, .aload_n 1), (97, .getfield 43), (100, .invokevirtual 47), (103, .iinc 3 1), (106, .goto (-25)), (109, .aload_n 0), (110, .aload_n 1), (111, .getfield 43), (114, .invokevirtual 51), (117, .aload_n 0), (118, .getfield 9), (121, .aload_n 0), (122, .getfield 9), (125, .aload_n 0), (126, .getfield 9), (129, .getfield 20), (132, .invokevirtual 55), (135, .invokevirtual 26), (138, .return_)]
def xq_105 : List (Nat × Instr) := [(0, .aload_n 0), (1, .getfield 9), (4, .aload_n 1), (5, .getfield 59), (8, .invokevirtual 26), (11, .aload_n 1), (12, .getfield 59), (15, .iconst 1), (16, .if_icmp .ne 15), (19, .aload_n 0), (20, .aload_n 1), (21, .getfield 64), (24, .iconst 0), (25, .iconst 1), (26, .aload_n 2), (27, .invokevirtual 68), (30, .return_), (31, .aload_n 1), (32, .getfield 59), (35, .iconst 2), (36, .if_icmp .ne 15), (39, .aload_n 0), (40, .getfield 9), (43, .aload_n 1), (44, .getfield 72), (47, .invokevirtual 26), (50, .return_), (51, .aload_n 0), (52, .getfield 9), (55, .aload_n 1), (56, .getfield 75), (59, .invokevirtual 26), (62, .iconst 0), (63, .istore_n 3), (64, .iload_n 3), (65, .aload_n 1), (66, .getfield 75), (69, .if_icmp .ge 20), (72, .aload_n 0), (73, .aload_n 1), (74, .getfield 78), (77, .iload_n 3), (78, .aaload), (79, .aload_n 2), (80, .invokevirtual 82), (83, .iinc 3 1), (86, .goto (-22)), (89, .return_)]
def xq_106 : List (Nat × Instr) := [(0, .aload_n 0), (1, .getfield 9), (4, .aload_n 1), (5, .getfield 86), (8, .invokevirtual 26), (11, .aload_n 0), (12, .getfield 9), (15, .aload_n 1), (16, .getfield 91), (19, .invokevirtual 26), (22, .aload_n 0), (23, .aload_n 1), (24, .getfield 94), (27, .iconst 0), (28, .iconst 5), (29, .aload_n 2), (30, .invokevirtual 68), (33, .aload_n 0), (34, .getfield 9), (37, .aload_n 1), (38, .getfield 97), (41, .invokevirtual 26), (44, .aload_n 0), (45, .aload_n 1), (46, .getfield 94), (49, .iconst 5), (50, .iconst 5), (51, .aload_n 1), (52, .getfield 97), (55, .iadd), (56, .aload_n 2), (57, .invokevirtual 68), (60, .return_)]
def xq_107 : List (Nat × Instr) := [(0, .aload_n 0), (1, .getfield 9), (4, .aload_n 1), (5, .getfield 98), (8, .invokevirtual 26), (11, .iconst 0), (12, .istore_n 2), (13, .iload_n 2), (14, .aload_n 1), (15, .getfield 98), (18, .if_icmp .ge 92), (21, .aload_n 1), (22, .getfield 103), (25, .iload_n 2), (26, .iaload), (27, .istore_n 3), (28, .aload_n 0), (29, .getfield 9), (32, .aload_n 1), (33, .getfield 107), (36, .iload_n 3), (37, .iaload), (38, .invokevirtual 26), (41, .aload_n 1), (42, .getfield 107), (45, .iload_n 3), (46, .iaload), (47, .iconst 4), (48, .if_icmp .ne 29), (51, .aload_n 0), (52, .getfield 9), (55, .aload_n 1), (56, .getfield 110), (59, .iload_n 3), (60, .iaload), (61, .invokevirtual 26), (64, .aload_n 0), (65, .getfield 9), (68, .aload_n 1), (69, .getfield 113), (72, .iload_n 3), (73, .iaload), (74, .invokevirtual 26), (77, .aload_n 1), (78, .iload_n 3), (79, .invokevirtual 116), (82, .istore 4), (84, .aload_n 0), (85, .aload_n 1), (86, .getfield 119), (89, .iload 4), (91, .iload 4), (93, .aload_n 1), (94, .getfield 113), (97, .iload_n 3), (98, .iaload), (99, .iadd), (100, .aload_n 1), (101, .invokevirtual 68), (104, .iinc 2 1), (107, .goto (-94)), (110, .return_)]
def xq_108 : List (Nat × Instr) := [(0, .iload_n 2), (1, .istore 5), (3, .iload 5), (5, .iload_n 3), (6, .if_icmp .ge 115), (9, .aload_n 0), (10, .getfield 9), (13, .aload_n 1), (14, .getfield 120), (17, .iload 5), (19, .iaload), (20, .invokevirtual 26), (23, .aload_n 1), (24, .getfield 120), (27, .iload 5), (29, .iaload), (30, .tableswitch 85 1 4 #[30, 45, 61, 61]), (60, .aload_n 0), (61, .aload_n 1), (62, .getfield 123), (65, .iload 5), (67, .laload), (68, .iconst 4), (69, .invokevirtual 127), (72, .goto 43), (75, .aload_n 0), (76, .aload_n 1), (77, .getfield 123), (80, .iload 5), (82, .laload), (83, .bipush 8), (85, .invokevirtual 127), (88, .goto 27), (91, .aload_n 0), (92, .getfield 9), (95, .aload 4), (97, .getfield 131), (100, .aload_n 1), (101, .getfield 123), (104, .iload 5), (106, .laload), (107, .l2i), (108, .iaload), (109, .invokevirtual 26), (112, .goto 3), (115, .iinc 5 1), (118, .goto (-115)), (121, .return_)]
def xq_109 : List (Nat × Instr) := [(0, .iconst 0), (1, .istore 4), (3, .iload 4), (5, .iload_n 3), (6, .if_icmp .ge 24), (9, .aload_n 0), (10, .getfield 9), (13, .lload_n 1), (14, .bipush 8), (16, .iload 4), (18, .imul), (19, .lshr), (20, .l2i), (21, .invokevirtual 26), (24, .iinc 4 1), (27, .goto (-24)), (30, .return_)]
def xq_110 : List (Nat × Instr) := [(0, .aload_n 0), (1, .invokespecial 1), (4, .aload_n 0), (5, .bipush 6), (7, .newarray .int), (9, .putfield 7), (12, .aload_n 0), (13, .bipush 6), (15, .newarray .int), (17, .putfield 13), (20, .aload_n 0), (21, .bipush 6), (23, .newarray .int), (25, .putfield 16), (28, .aload_n 0), (29, .sipush 180), (32, .newarray .int), (34, .putfield 19), (37, .aload_n 0), (38, .sipush 180), (41, .newarray .int), (43, .putfield 22), (46, .aload_n 0), (47, .sipush 180), (50, .newarray .int), (52, .putfield 25), (55, .aload_n 0), (56, .bipush 18), (58, .newarray .int), (60, .putfield 28), (63, .aload_n 0), (64, .bipush 18), (66, .newarray .int), (68, .putfield 31), (71, .aload_n 0), (72, .bipush 18), (74, .newarray .int), (76, .putfield 34), (79, .aload_n 0), (80, .iconst 3), (81, .newarray .int), (83, .putfield 37), (86, .aload_n 0), (87, .iconst 3), (88, .newarray .int), (90, .putfield 40), (93, .aload_n 0), (94, .iconst 3), (95, .newarray .int), (97, .putfield 43), (100, .aload_n 0), (101, .bipush 15), (103, .newarray .int), (105, .putfield 46), (108, .aload_n 0), (109, .bipush 15), (111, .newarray .int), (113, .putfield 49), (116, .aload_n 0), (117, .bipush 15), (119, .newarray .int), (121, .putfield 52), (124, .aload_n 0), (125, .bipush 15), (127, .newarray .int), (129, .putfield 55), (132, .aload_n 0), (133, .sipush 240), (136, .newarray .int), (138, .putfield 58), (141, .aload_n 0), (142, .sipush 240), (145, .newarray .long), (147, .putfield 61), (150, .aload_n 0), (151, .bipush 24), (153, .newarray .boolean), (155, .putfield 65), (158, .aload_n 0), (159, .bipush 24), (161, .newarray .boolean), (163, .putfield 69), (166, .aload_n 0), (167, .bipush 24), (169, .newarray .int), (171, .putfield 72), (174, .aload_n 0), (175, .bipush 24), (177, .newarray .int), (179, .putfield 75), (182, .aload_n 0), (183, .bipush 24), (185, .newarray .int), (187, .putfield 78), (190, .aload_n 0), (191, .bipush 40), (193, .newarray .long), (195, .putfield 81), (198, .aload_n 0), (199, .sipush 2400), (202, .newarray .int), (204, .putfield 84), (207, .aload_n 0), (208, .bipush 24), (210, .newarray .int), (212, .putfield 87), (215, .aload_n 0), (216, .bipush 24), (218, .newarray .int), (220, .putfield 90), (223, .aload_n 0), (224, .bipush (-2)), (226, .putfield 93), (229, .aload_n 0), (230, .iconst 3), (231, .newarray .int), (233, .putfield 97), (236, .aload_n 0), (237, .iconst 3), (238, .newarray .int), (240, .putfield 100), (243, .aload_n 0), (244, .iconst 3), (245, .newarray .int), (247, .putfield 103), (250, .aload_n 0), (251, .bipush 15), (253, .newarray .int), (255, .putfield 106), (258, .aload_n 0), (259, .bipush 15), (261, .newarray .int), (263, .putfield 109), (266, .aload_n 0), (267, .bipush 15), (269, .newarray .int), (271, .putfield 112), (274, .aload_n 0), (275, .bipush 15), (277, .newarray .int), (279, .putfield 115), (282, .aload_n 0), (283, .sipush 240), (286, .newarray .int), (288, .putfield 118), (291, .aload_n 0), (292, .bipush 24), (294, .newarray .int), (296, .putfield 121), (299, .aload_n 0), (300, .bipush 24), (302, .newarray .int), (304, .putfield 124), (307, .aload_n 0), (308, .bipush 24), (310, .newarray .int), (312, .putfield 127), (315, .aload_n 0), (316, .sipush 240), (319, .newarray .long), (321, .putfield 130), (324, .return_)]
def xq_111 : List (Nat × Instr) := [(0, .aload_n 0), (1, .getfield 133), (4, .ireturn)]
def xq_112 : List (Nat × Instr) := [(0, .iload_n 0), (1, .iload_n 1), (2, .if_icmp .lt 12), (5, .iload_n 0), (6, .iload_n 2), (7, .if_icmp .gt 7), (10, .iconst 1), (11, .goto 4), (14, .iconst 0), (15, .ireturn)]
def xq_113 : List (Nat × Instr) := [(0, .aload_n 0), (1, .iload_n 1), (2, .putfield 133), (5, .iconst 0), (6, .ireturn)]
def xq_114 : List (Nat × Instr) := [(0, .iload_n 1), (1, .iconst 0), (2, .iconst 5), (3, .invokestatic 136), (6, .ifCond .eq 12), (9, .iload_n 2), (10, .iconst 0), (11, .iconst 2), (12, .invokestatic 136), (15, .ifCond .ne 9), (18, .aload_n 0), (19, .iconst 1), (20, .invokevirtual 140), (23, .ireturn), (24, .aload_n 0), (25, .iconst 0), (26, .putfield 133), (29, .aload_n 0), (30, .getfield 7), (33, .iload_n 1), (34, .iload_n 2), (35, .iastore), (36, .aload_n 0), (37, .getfield 13), (40, .iload_n 1), (41, .iconst 0), (42, .iastore), (43, .aload_n 0), (44, .getfield 16), (47, .iload_n 1), (48, .iconst 0), (49, .iastore), (50, .iload_n 2), (51, .ireturn)]
def xq_115 : List (Nat × Instr) := [(0, .iload_n 0), (1, .iconst 4), (2, .if_icmp .eq 8), (5, .iload_n 0), (6, .iconst 5), (7, .if_icmp .ne 7), (10, .iconst 3), (11, .goto 52), (14, .iload_n 0), (15, .bipush 17), (17, .if_icmp .eq 9), (20, .iload_n 0), (21, .bipush 18), (23, .if_icmp .ne 7), (26, .iconst 2), (27, .goto 36), (30, .iload_n 0), (31, .bipush 19), (33, .if_icmp .eq 15), (36, .iload_n 0), (37, .bipush 21), (39, .if_icmp .eq 9), (42, .iload_n 0), (43, .bipush 26), (45, .if_icmp .ne 7), (48, .iconst 5), (49, .goto 14), (52, .iload_n 0), (53, .bipush 20), (55, .if_icmp .ne 7), (58, .iconst 1), (59, .goto 4), (62, .iconst (-1)), (63, .ireturn)]
def xq_116 : List (Nat × Instr) := [(0, .iload_n 0), (1, .bipush 14), (3, .if_icmp .eq 9), (6, .iload_n 0), (7, .bipush 15), (9, .if_icmp .ne 8), (12, .bipush 29), (14, .goto 14), (17, .iload_n 0), (18, .bipush 19), (20, .if_icmp .ne 7), (23, .iconst 2), (24, .goto 4), (27, .iconst (-1)), (28, .ireturn)]
def xq_117 : List (Nat × Instr) := [(0, .iload_n 1), (1, .iconst 0), (2, .iconst 5), (3, .invokestatic 136), (6, .ifCond .eq 52), (9, .iload_n 2), (10, .iconst 0), (11, .bipush 27), (13, .invokestatic 136), (16, .ifCond .eq 42), (19, .iload_n 2), (20, .invokestatic 144), (23, .ifCond .lt 15), (26, .iload_n 3), (27, .iconst 0), (28, .iload_n 2), (29, .invokestatic 144), (32, .invokestatic 136), (35, .ifCond .eq 23), (38, .iload_n 2), (39, .invokestatic 147), (42, .ifCond .lt 22), (45, .iload 4), (47, .iconst 0), (48, .iload_n 2), (49, .invokestatic 147), (52, .invokestatic 136), (55, .ifCond .ne 9), (58, .aload_n 0), (59, .iconst 1), (60, .invokevirtual 140), (63, .ireturn), (64, .aload_n 0), (65, .getfield 13), (68, .iload_n 1), (69, .iaload), (70, .bipush 30), (72, .if_icmp .ne 9), (75, .aload_n 0), (76, .iconst 2), (77, .invokevirtual 140), (80, .ireturn), (81, .aload_n 0), (82, .iconst 0), (83, .putfield 133), (86, .bipush 30), (88, .iload_n 1), (89, .imul), (90, .aload_n 0), (91, .getfield 13), (94, .iload_n 1), (95, .iaload), (96, .iadd), (97, .istore 5), (99, .aload_n 0), (100, .getfield 19), (103, .iload 5), (105, .iload_n 2), (106, .iastore), (107, .aload_n 0), (108, .getfield 22), (111, .iload 5), (113, .iload_n 2), (114, .invokestatic 144), (117, .ifCond .ge 13), (120, .iload_n 2), (121, .iconst 1), (122, .if_icmp .eq 8), (125, .iload_n 2), (126, .iconst 2), (127, .if_icmp .ne 7), (130, .iload_n 3), (131, .goto 4), (134, .iconst 0), (135, .iastore), (136, .aload_n 0), (137, .getfield 25), (140, .iload 5), (142, .iload_n 2), (143, .invokestatic 147), (146, .ifCond .ge 8), (149, .iload_n 2), (150, .iconst 2), (151, .if_icmp .ne 8), (154, .iload 4), (156, .goto 4), (159, .iconst 0), (160, .iastore), (161, .aload_n 0), (162, .getfield 13), (165, .iload_n 1), (166, .dup2), (167, .iaload), (168, .iconst 1), (169, .iadd), (170, .iastore), (171, .aload_n 0), (172, .getfield 13), (175, .iload_n 1), (176, .iaload), (177, .ireturn)]
def xq_118 : List (Nat × Instr) := [(0, .iload_n 1), (1, .iconst 0), (2, .iconst 5), (3, .invokestatic 136), (6, .ifCond .eq 36), (9, .iload_n 2), (10, .iconst 0), (11, .bipush 29), (13, .invokestatic 136), (16, .ifCond .eq 26), (19, .iload 4), (21, .iconst 0), (22, .bipush 29), (24, .invokestatic 136), (27, .ifCond .eq 15), (30, .iload_n 3), (31, .iload_n 2), (32, .iconst 1), (33, .iadd), (34, .bipush 30), (36, .invokestatic 136), (39, .ifCond .ne 9), (42, .aload_n 0), (43, .iconst 1), (44, .invokevirtual 140), (47, .ireturn), (48, .aload_n 0), (49, .getfield 16), (52, .iload_n 1), (53, .iaload), (54, .iconst 3), (55, .if_icmp .ne 9), (58, .aload_n 0), (59, .iconst 2), (60, .invokevirtual 140), (63, .ireturn), (64, .aload_n 0), (65, .iconst 0), (66, .putfield 133), (69, .iconst 3), (70, .iload_n 1), (71, .imul), (72, .aload_n 0), (73, .getfield 16), (76, .iload_n 1), (77, .iaload), (78, .iadd), (79, .istore 5), (81, .aload_n 0), (82, .getfield 28), (85, .iload 5), (87, .iload_n 2), (88, .iastore), (89, .aload_n 0), (90, .getfield 31), (93, .iload 5), (95, .iload_n 3), (96, .iastore), (97, .aload_n 0), (98, .getfield 34), (101, .iload 5), (103, .iload 4), (105, .iastore), (106, .aload_n 0), (107, .getfield 16), (110, .iload_n 1), (111, .dup2), (112, .iaload), (113, .iconst 1), (114, .iadd), (115, .iastore), (116, .aload_n 0), (117, .getfield 16), (120, .iload_n 1), (121, .iaload), (122, .ireturn)]
def xq_119 : List (Nat × Instr) := [(0, .iconst 0), (1, .istore_n 1), (2, .iconst 0), (3, .istore_n 2), (4, .iload_n 2), (5, .bipush 6), (7, .if_icmp .ge 61), (10, .bipush 30), (12, .iload_n 2), (13, .imul), (14, .istore_n 3), (15, .iload_n 3), (16, .bipush 30), (18, .iload_n 2), (19, .imul), (20, .aload_n 0), (21, .getfield 13), (24, .iload_n 2), (25, .iaload), (26, .iadd), (27, .if_icmp .ge 35), (30, .bipush 31), (32, .iload_n 1), (33, .imul), (34, .aload_n 0), (35, .getfield 19), (38, .iload_n 3), (39, .iaload), (40, .iadd), (41, .aload_n 0), (42, .getfield 22), (45, .iload_n 3), (46, .iaload), (47, .iadd), (48, .aload_n 0), (49, .getfield 25), (52, .iload_n 3), (53, .iaload), (54, .iadd), (55, .istore_n 1), (56, .iinc 3 1), (59, .goto (-44)), (62, .iinc 2 1), (65, .goto (-61)), (68, .iload_n 1), (69, .sipush 255), (72, .iand), (73, .ireturn)]
def xq_120 : List (Nat × Instr) := [(0, .aload_n 0), (1, .getfield 58), (4, .iload_n 1), (5, .iload_n 2), (6, .iastore), (7, .aload_n 0), (8, .getfield 61), (11, .iload_n 1), (12, .lload_n 3), (13, .lastore), (14, .return_)]
def xq_121 : List (Nat × Instr) := [(0, .aload_n 0), (1, .iload_n 1), (2, .aload_n 0), (3, .getfield 58), (6, .iload_n 2), (7, .iaload), (8, .aload_n 0), (9, .getfield 61), (12, .iload_n 2), (13, .laload), (14, .invokevirtual 150), (17, .return_)]
def xq_122 : List (Nat × Instr) := [(0, .iconst 5), (1, .aload_n 0), (2, .getfield 154), (5, .imul), (6, .aload_n 0), (7, .getfield 43), (10, .aload_n 0), (11, .getfield 154), (14, .iaload), (15, .iadd), (16, .iconst 1), (17, .isub), (18, .ireturn)]
def xq_123 : List (Nat × Instr) := [(0, .bipush 10), (2, .iload_n 1), (3, .imul), (4, .iconst 3), (5, .iadd), (6, .aload_n 0), (7, .getfield 55), (10, .iload_n 1), (11, .iaload), (12, .iadd), (13, .iload_n 2), (14, .isub), (15, .ireturn)]
def xq_124 : List (Nat × Instr) := [(0, .aload_n 0), (1, .getfield 55), (4, .iload_n 1), (5, .dup2), (6, .iaload), (7, .iconst 1), (8, .iadd), (9, .iastore), (10, .aload_n 0), (11, .aload_n 0), (12, .iload_n 1), (13, .iconst 0), (14, .invokevirtual 157), (17, .iload_n 2), (18, .lload_n 3), (19, .invokevirtual 150), (22, .return_)]
def xq_125 : List (Nat × Instr) := [(0, .iconst 5), (1, .iload_n 1), (2, .imul), (3, .aload_n 0), (4, .getfield 43), (7, .iload_n 1), (8, .iaload), (9, .iadd), (10, .istore 4), (12, .aload_n 0), (13, .getfield 43), (16, .iload_n 1), (17, .dup2), (18, .iaload), (19, .iconst 1), (20, .iadd), (21, .iastore), (22, .aload_n 0), (23, .getfield 46), (26, .iload 4), (28, .iload_n 2), (29, .iastore), (30, .aload_n 0), (31, .getfield 49), (34, .iload 4), (36, .iconst 0), (37, .iastore), (38, .aload_n 0), (39, .getfield 52), (42, .iload 4), (44, .iload_n 3), (45, .iastore), (46, .aload_n 0), (47, .getfield 55), (50, .iload 4), (52, .iconst 0), (53, .iastore), (54, .iconst 0), (55, .istore 5), (57, .iload 5), (59, .iconst 4), (60, .if_icmp .ge 23), (63, .aload_n 0), (64, .bipush 10), (66, .iload 4), (68, .imul), (69, .iload 5), (71, .iadd), (72, .iconst 0), (73, .lconst 0), (74, .invokevirtual 150), (77, .iinc 5 1), (80, .goto (-23)), (83, .return_)]
def xq_126 : List (Nat × Instr) := [(0, .iload_n 3), (1, .iconst 1), (2, .isub), (3, .istore 4), (5, .iload 4), (7, .ifCond .lt 36), (10, .aload_n 0), (11, .bipush 10), (13, .iload_n 2), (14, .imul), (15, .iload 4), (17, .iadd), (18, .aload_n 0), (19, .iload_n 1), (20, .iconst 0), (21, .invokevirtual 157), (24, .invokevirtual 161), (27, .aload_n 0), (28, .getfield 55), (31, .iload_n 1), (32, .dup2), (33, .iaload), (34, .iconst 1), (35, .isub), (36, .iastore), (37, .iinc 4 (-1)), (40, .goto (-35)), (43, .return_)]
def xq_127 : List (Nat × Instr) := [(0, .iload_n 1), (1, .iconst 0), (2, .iconst 5), (3, .invokestatic 136), (6, .ifCond .ne 9), (9, .aload_n 0), (10, .iconst 1), (11, .invokevirtual 140), (14, .ireturn), (15, .aload_n 0), (16, .iconst 0), (17, .putfield 133), (20, .aload_n 0), (21, .iconst 1), (22, .putfield 165), (25, .aload_n 0), (26, .iconst 1), (27, .putfield 169), (30, .aload_n 0), (31, .iconst 0), (32, .putfield 154), (35, .aload_n 0), (36, .iconst 0), (37, .putfield 172), (40, .aload_n 0), (41, .iconst 0), (42, .putfield 175), (45, .aload_n 0), (46, .iconst 0), (47, .putfield 178), (50, .aload_n 0), (51, .iconst 0), (52, .putfield 181), (55, .iconst 0), (56, .istore 4), (58, .iload 4), (60, .bipush 24), (62, .if_icmp .ge 17), (65, .aload_n 0), (66, .getfield 65), (69, .iload 4), (71, .iconst 0), (72, .bastore), (73, .iinc 4 1), (76, .goto (-18)), (79, .aload_n 0), (80, .getfield 37), (83, .iconst 0), (84, .iconst 0), (85, .iastore), (86, .aload_n 0), (87, .getfield 40), (90, .iconst 0), (91, .iconst 0), (92, .iastore), (93, .aload_n 0), (94, .getfield 43), (97, .iconst 0), (98, .iconst 0), (99, .iastore), (100, .aload_n 0), (101, .iconst 0), (102, .iload_n 1), (103, .iconst (-1)), (104, .invokevirtual 184), (107, .aload_n 0), (108, .getfield 7), (111, .iload_n 1), (112, .iaload), (113, .ifCond .le 11), (116, .aload_n 0), (117, .iconst 0), (118, .iconst 1), (119, .iload_n 2), (120, .i2l), (121, .invokevirtual 150), (124, .aload_n 0), (125, .getfield 7), (128, .iload_n 1), (129, .iaload), (130, .iconst 1), (131, .if_icmp .le 11), (134, .aload_n 0), (135, .iconst 1), (136, .iconst 1), (137, .iload_n 3), (138, .i2l), (139, .invokevirtual 150), (142, .aload_n 0), (143, .getfield 7), (146, .iload_n 1), (147, .iaload), (148, .ireturn)]
def xq_128 : List (Nat × Instr) := [(0, .aload_n 0), (1, .getfield 58), (4, .iload_n 1), (5, .iaload), (6, .iconst 3), (7, .if_icmp .lt 18), (10, .aload_n 0), (11, .getfield 69), (14, .aload_n 0), (15, .getfield 61), (18, .iload_n 1), (19, .laload), (20, .l2i), (21, .baload), (22, .ifCond .eq 5), (25, .iconst 0), (26, .ireturn), (27, .aload_n 0), (28, .getfield 69), (31, .aload_n 0), (32, .getfield 61), (35, .iload_n 1), (36, .laload), (37, .l2i), (38, .iconst 1), (39, .bastore), (40, .iconst 1), (41, .ireturn)]
def xq_129 : List (Nat × Instr) := [(0, .iconst 0), (1, .istore_n 1), (2, .iconst 0), (3, .istore_n 2), (4, .iload_n 2), (5, .bipush 24), (7, .if_icmp .ge 68), (10, .iconst 0), (11, .istore_n 3), (12, .iload_n 3), (13, .aload_n 0), (14, .getfield 72), (17, .iload_n 2), (18, .iaload), (19, .iconst 3), (20, .if_icmp .ne 7), (23, .iconst 3), (24, .goto 9), (27, .aload_n 0), (28, .getfield 78), (31, .iload_n 2), (32, .iaload), (33, .if_icmp .ge 36), (36, .aload_n 0), (37, .getfield 69), (40, .iload_n 2), (41, .baload), (42, .ifCond .eq 27), (45, .aload_n 0), (46, .sipush 160), (49, .iconst 3), (50, .iload_n 2), (51, .imul), (52, .iadd), (53, .iload_n 3), (54, .iadd), (55, .invokevirtual 188), (58, .ifCond .eq 5), (61, .iconst 1), (62, .istore_n 1), (63, .iinc 3 1), (66, .goto (-54)), (69, .iinc 2 1), (72, .goto (-68)), (75, .iload_n 1), (76, .ireturn)]
def xq_130 : List (Nat × Instr) := [(0, .iconst 0), (1, .istore_n 1), (2, .iload_n 1), (3, .bipush 24), (5, .if_icmp .ge 16), (8, .aload_n 0), (9, .getfield 69), (12, .iload_n 1), (13, .iconst 0), (14, .bastore), (15, .iinc 1 1), (18, .goto (-16)), (21, .iconst 0), (22, .istore_n 1), (23, .iload_n 1), (24, .aload_n 0), (25, .getfield 169), (28, .if_icmp .ge 114), (31, .aload_n 0), (32, .getfield 37), (35, .iload_n 1), (36, .iaload), (37, .iconst 1), (38, .if_icmp .ne 13), (41, .aload_n 0), (42, .sipush 150), (45, .iload_n 1), (46, .iadd), (47, .invokevirtual 188), (50, .pop), (51, .iconst 5), (52, .iload_n 1), (53, .imul), (54, .istore_n 2), (55, .iload_n 2), (56, .iconst 5), (57, .iload_n 1), (58, .imul), (59, .aload_n 0), (60, .getfield 43), (63, .iload_n 1), (64, .iaload), (65, .iadd), (66, .if_icmp .ge 70), (69, .aload_n 0), (70, .getfield 37), (73, .iload_n 1), (74, .iaload), (75, .ifCond .ne 61), (78, .aload_n 0), (79, .getfield 52), (82, .iload_n 2), (83, .iaload), (84, .ifCond .lt 15), (87, .aload_n 0), (88, .getfield 69), (91, .aload_n 0), (92, .getfield 52), (95, .iload_n 2), (96, .iaload), (97, .iconst 1), (98, .bastore), (99, .iconst 0), (100, .istore_n 3), (101, .iload_n 3), (102, .iconst 4), (103, .aload_n 0), (104, .getfield 55), (107, .iload_n 2), (108, .iaload), (109, .iadd), (110, .if_icmp .ge 20), (113, .aload_n 0), (114, .bipush 10), (116, .iload_n 2), (117, .imul), (118, .iload_n 3), (119, .iadd), (120, .invokevirtual 188), (123, .pop), (124, .iinc 3 1), (127, .goto (-26)), (130, .iinc 2 1), (133, .goto (-78)), (136, .iinc 1 1), (139, .goto (-116)), (142, .iconst 1), (143, .istore_n 1), (144, .iload_n 1), (145, .ifCond .eq 11), (148, .aload_n 0), (149, .invokevirtual 192), (152, .istore_n 1), (153, .goto (-9)), (156, .aload_n 0), (157, .iconst 0), (158, .putfield 181), (161, .iconst 0), (162, .istore_n 2), (163, .iload_n 2), (164, .bipush 24), (166, .if_icmp .ge 40), (169, .aload_n 0), (170, .getfield 65), (173, .iload_n 2), (174, .aload_n 0), (175, .getfield 69), (178, .iload_n 2), (179, .baload), (180, .bastore), (181, .aload_n 0), (182, .getfield 65), (185, .iload_n 2), (186, .baload), (187, .ifCond .eq 13), (190, .aload_n 0), (191, .dup), (192, .getfield 181), (195, .iconst 1), (196, .iadd), (197, .putfield 181), (200, .iinc 2 1), (203, .goto (-40)), (206, .return_)]
def xq_131 : List (Nat × Instr) := [(0, .aload_n 0), (1, .getfield 181), (4, .bipush 24), (6, .if_icmp .ne 7), (9, .aload_n 0), (10, .invokevirtual 196), (13, .aload_n 0), (14, .getfield 181), (17, .bipush 24), (19, .if_icmp .ne 7), (22, .iconst 1), (23, .goto 4), (26, .iconst 0), (27, .ireturn)]
def xq_132 : List (Nat × Instr) := [(0, .iconst 0), (1, .istore_n 2), (2, .aload_n 0), (3, .getfield 65), (6, .iload_n 2), (7, .baload), (8, .ifCond .eq 9), (11, .iinc 2 1), (14, .goto (-12)), (17, .aload_n 0), (18, .getfield 65), (21, .iload_n 2), (22, .iconst 1), (23, .bastore), (24, .aload_n 0), (25, .getfield 72), (28, .iload_n 2), (29, .iload_n 1), (30, .iastore), (31, .aload_n 0), (32, .getfield 78), (35, .iload_n 2), (36, .iconst 0), (37, .iastore), (38, .aload_n 0), (39, .dup), (40, .getfield 181), (43, .iconst 1), (44, .iadd), (45, .putfield 181), (48, .iconst 0), (49, .istore_n 3), (50, .iload_n 3), (51, .iconst 3), (52, .if_icmp .ge 24), (55, .aload_n 0), (56, .sipush 160), (59, .iconst 3), (60, .iload_n 2), (61, .imul), (62, .iadd), (63, .iload_n 3), (64, .iadd), (65, .iconst 0), (66, .lconst 0), (67, .invokevirtual 150), (70, .iinc 3 1), (73, .goto (-23)), (76, .iload_n 2), (77, .ireturn)]
def xq_133 : List (Nat × Instr) := [(0, .iload_n 0), (1, .iconst 1), (2, .if_icmp .eq 8), (5, .iload_n 0), (6, .iconst 2), (7, .if_icmp .ne 7), (10, .iconst 1), (11, .goto 4), (14, .iconst 0), (15, .ireturn)]
def xq_134 : List (Nat × Instr) := [(0, .aload_n 0), (1, .iload_n 1), (2, .iconst 1), (3, .invokevirtual 157), (6, .istore_n 3), (7, .aload_n 0), (8, .iload_n 1), (9, .iconst 0), (10, .invokevirtual 157), (13, .istore 4), (15, .aload_n 0), (16, .getfield 58), (19, .iload_n 3), (20, .iaload), (21, .invokestatic 199), (24, .ifCond .eq 16), (27, .aload_n 0), (28, .getfield 58), (31, .iload 4), (33, .iaload), (34, .invokestatic 199), (37, .ifCond .ne 5), (40, .iconst 2), (41, .ireturn), (42, .iload_n 2), (43, .bipush 11), (45, .if_icmp .ne 17), (48, .aload_n 0), (49, .getfield 61), (52, .iload 4), (54, .laload), (55, .lconst 0), (56, .lcmp), (57, .ifCond .ne 5), (60, .iconst 1), (61, .ireturn), (62, .aload_n 0), (63, .getfield 61), (66, .iload_n 3), (67, .laload), (68, .lstore 5), (70, .aload_n 0), (71, .getfield 61), (74, .iload 4), (76, .laload), (77, .lstore 7), (79, .iload_n 2), (80, .bipush 8), (82, .if_icmp .ne 11), (85, .lload 5), (87, .lload 7), (89, .ladd), (90, .goto 58), (93, .iload_n 2), (94, .bipush 9), (96, .if_icmp .ne 11), (99, .lload 5), (101, .lload 7), (103, .lsub), (104, .goto 44), (107, .iload_n 2), (108, .bipush 10), (110, .if_icmp .ne 11), (113, .lload 5), (115, .lload 7), (117, .lmul), (118, .goto 30), (121, .iload_n 2), (122, .bipush 11), (124, .if_icmp .ne 11), (127, .lload 5), (129, .lload 7), (131, .ldiv), (132, .goto 16), (135, .lload 5), (137, .lload 7), (139, .lcmp), (140, .ifCond .ge 7), (143, .lconst 1), (144, .goto 4), (147, .lconst 0), (148, .lstore 9), (150, .iload_n 2), (151, .bipush 12), (153, .if_icmp .eq 24), (156, .aload_n 0), (157, .getfield 58), (160, .iload_n 3), (161, .iaload), (162, .iconst 1), (163, .if_icmp .ne 18), (166, .aload_n 0), (167, .getfield 58), (170, .iload 4), (172, .iaload), (173, .iconst 1), (174, .if_icmp .ne 7), (177, .iconst 1), (178, .goto 4), (181, .iconst 0), (182, .istore 11), (184, .aload_n 0), (185, .getfield 55), (188, .iload_n 1), (189, .dup2), (190, .iaload), (191, .iconst 1), (192, .isub), (193, .iastore), (194, .aload_n 0), (195, .iload_n 3), (196, .iload 11), (198, .ifCond .eq 7), (201, .iconst 1), (202, .goto 4), (205, .iconst 2), (206, .iload 11), (208, .ifCond .eq 10), (211, .lload 9), (213, .l2i), (214, .i2l), (215, .goto 5), (218, .lload 9), (220, .invokevirtual 150), (223, .iconst 0), (224, .ireturn)]
def xq_135 : List (Nat × Instr) := [(0, .aload_n 0), (1, .iload_n 1), (2, .iload_n 2), (3, .bipush 17), (5, .if_icmp .ne 7), (8, .iconst 0), (9, .goto 4), (12, .iconst 1), (13, .invokevirtual 157), (16, .istore 4), (18, .aload_n 0), (19, .getfield 58), (22, .iload 4), (24, .iaload), (25, .ifCond .ne 5), (28, .iconst 3), (29, .ireturn), (30, .aload_n 0), (31, .getfield 58), (34, .iload 4), (36, .iaload), (37, .iconst 3), (38, .if_icmp .eq 5), (41, .iconst 2), (42, .ireturn), (43, .sipush 160), (46, .iconst 3), (47, .aload_n 0), (48, .getfield 61), (51, .iload 4), (53, .laload), (54, .l2i), (55, .imul), (56, .iadd), (57, .iload_n 3), (58, .iadd), (59, .istore 5), (61, .iload_n 2), (62, .bipush 17), (64, .if_icmp .ne 14), (67, .aload_n 0), (68, .iload 4), (70, .iload 5), (72, .invokevirtual 161), (75, .goto 25), (78, .aload_n 0), (79, .iload 5), (81, .aload_n 0), (82, .iload_n 1), (83, .iconst 0), (84, .invokevirtual 157), (87, .invokevirtual 161), (90, .aload_n 0), (91, .getfield 55), (94, .iload_n 1), (95, .dup2), (96, .iaload), (97, .iconst 2), (98, .isub), (99, .iastore), (100, .iconst 0), (101, .ireturn)]
def xq_136 : List (Nat × Instr) := [(0, .aload_n 0), (1, .invokevirtual 202), (4, .ifCond .eq 5), (7, .iconst 4), (8, .ireturn), (9, .aload_n 0), (10, .getfield 55), (13, .iload_n 1), (14, .iaload), (15, .iload_n 3), (16, .isub), (17, .bipush 6), (19, .if_icmp .ne 6), (22, .bipush 6), (24, .ireturn), (25, .aload_n 0), (26, .iconst 4), (27, .invokevirtual 205), (30, .istore 4), (32, .aload_n 0), (33, .getfield 75), (36, .iload 4), (38, .iload_n 2), (39, .iastore), (40, .aload_n 0), (41, .getfield 78), (44, .iload 4), (46, .iload_n 3), (47, .iastore), (48, .iload_n 3), (49, .iconst 1), (50, .isub), (51, .istore 5), (53, .iload 5), (55, .ifCond .lt 40), (58, .aload_n 0), (59, .sipush 160), (62, .iconst 3), (63, .iload 4), (65, .imul), (66, .iadd), (67, .iload 5), (69, .iadd), (70, .aload_n 0), (71, .iload_n 1), (72, .iconst 0), (73, .invokevirtual 157), (76, .invokevirtual 161), (79, .aload_n 0), (80, .getfield 55), (83, .iload_n 1), (84, .dup2), (85, .iaload), (86, .iconst 1), (87, .isub), (88, .iastore), (89, .iinc 5 (-1)), (92, .goto (-39)), (95, .aload_n 0), (96, .iload_n 1), (97, .iconst 4), (98, .iload 4), (100, .i2l), (101, .invokevirtual 208), (104, .iconst 0), (105, .ireturn)]
def xq_137 : List (Nat × Instr) := [(0, .aload_n 0), (1, .getfield 43), (4, .aload_n 0), (5, .getfield 154), (8, .iaload), (9, .iconst 5), (10, .if_icmp .ne 5), (13, .iconst 5), (14, .ireturn), (15, .iconst 5), (16, .aload_n 0), (17, .getfield 154), (20, .imul), (21, .aload_n 0), (22, .getfield 43), (25, .aload_n 0), (26, .getfield 154), (29, .iaload), (30, .iadd), (31, .istore 4), (33, .aload_n 0), (34, .getfield 7), (37, .iload_n 2), (38, .iaload), (39, .istore 5), (41, .aload_n 0), (42, .aload_n 0), (43, .getfield 154), (46, .iload_n 2), (47, .iload_n 3), (48, .invokevirtual 184), (51, .aload_n 0), (52, .iload_n 1), (53, .iload 4), (55, .iload 5), (57, .invokevirtual 211), (60, .iconst 0), (61, .ireturn)]
def xq_138 : List (Nat × Instr) := [(0, .aload_n 0), (1, .iload_n 1), (2, .iconst 0), (3, .invokevirtual 157), (6, .istore_n 2), (7, .aload_n 0), (8, .getfield 58), (11, .iload_n 2), (12, .iaload), (13, .ifCond .ne 5), (16, .iconst 3), (17, .ireturn), (18, .aload_n 0), (19, .getfield 58), (22, .iload_n 2), (23, .iaload), (24, .iconst 4), (25, .if_icmp .eq 5), (28, .iconst 2), (29, .ireturn), (30, .aload_n 0), (31, .getfield 61), (34, .iload_n 2), (35, .laload), (36, .l2i), (37, .istore_n 3), (38, .aload_n 0), (39, .getfield 75), (42, .iload_n 3), (43, .iaload), (44, .istore 4), (46, .aload_n 0), (47, .getfield 55), (50, .iload_n 1), (51, .iaload), (52, .iconst 1), (53, .isub), (54, .aload_n 0), (55, .getfield 7), (58, .iload 4), (60, .iaload), (61, .if_icmp .ge 6), (64, .bipush 6), (66, .ireturn), (67, .aload_n 0), (68, .getfield 43), (71, .aload_n 0), (72, .getfield 154), (75, .iaload), (76, .iconst 5), (77, .if_icmp .ne 5), (80, .iconst 5), (81, .ireturn), (82, .aload_n 0), (83, .getfield 55), (86, .iload_n 1), (87, .dup2), (88, .iaload), (89, .iconst 1), (90, .isub), (91, .iastore), (92, .aload_n 0), (93, .iload_n 1), (94, .iload 4), (96, .iload_n 3), (97, .invokevirtual 214), (100, .ireturn)]
def xq_139 : List (Nat × Instr) := [(0, .aload_n 0), (1, .getfield 169), (4, .iconst 3), (5, .if_icmp .ne 5), (8, .iconst 4), (9, .ireturn), (10, .aload_n 0), (11, .getfield 55), (14, .iload_n 1), (15, .iaload), (16, .aload_n 0), (17, .getfield 7), (20, .iload_n 2), (21, .iaload), (22, .isub), (23, .bipush 6), (25, .if_icmp .ne 6), (28, .bipush 6), (30, .ireturn), (31, .aload_n 0), (32, .getfield 169), (35, .istore_n 3), (36, .aload_n 0), (37, .dup), (38, .getfield 169), (41, .iconst 1), (42, .iadd), (43, .putfield 169), (46, .aload_n 0), (47, .getfield 37), (50, .iload_n 3), (51, .iconst 0), (52, .iastore), (53, .aload_n 0), (54, .getfield 40), (57, .iload_n 3), (58, .iconst 0), (59, .iastore), (60, .aload_n 0), (61, .getfield 43), (64, .iload_n 3), (65, .iconst 0), (66, .iastore), (67, .aload_n 0), (68, .iload_n 3), (69, .iload_n 2), (70, .iconst (-1)), (71, .invokevirtual 184), (74, .aload_n 0), (75, .iload_n 1), (76, .iconst 5), (77, .iload_n 3), (78, .imul), (79, .aload_n 0), (80, .getfield 7), (83, .iload_n 2), (84, .iaload), (85, .invokevirtual 211), (88, .aload_n 0), (89, .iload_n 1), (90, .iconst 1), (91, .iload_n 3), (92, .i2l), (93, .invokevirtual 208), (96, .iconst 0), (97, .ireturn)]
def xq_140 : List (Nat × Instr) := [(0, .aload_n 0), (1, .iload_n 1), (2, .iconst 0), (3, .invokevirtual 157), (6, .istore_n 2), (7, .aload_n 0), (8, .getfield 43), (11, .aload_n 0), (12, .getfield 154), (15, .dup2), (16, .iaload), (17, .iconst 1), (18, .isub), (19, .iastore), (20, .aload_n 0), (21, .getfield 43), (24, .aload_n 0), (25, .getfield 154), (28, .iaload), (29, .ifCond .ne 28), (32, .aload_n 0), (33, .sipush 150), (36, .aload_n 0), (37, .getfield 154), (40, .iadd), (41, .iload_n 2), (42, .invokevirtual 161), (45, .aload_n 0), (46, .getfield 37), (49, .aload_n 0), (50, .getfield 154), (53, .iconst 1), (54, .iastore), (55, .iconst 0), (56, .ireturn), (57, .aload_n 0), (58, .getfield 55), (61, .iload_n 1), (62, .iconst 1), (63, .isub), (64, .iaload), (65, .bipush 6), (67, .if_icmp .ne 6), (70, .bipush 6), (72, .ireturn), (73, .aload_n 0), (74, .iload_n 1), (75, .iconst 1), (76, .isub), (77, .aload_n 0), (78, .getfield 58), (81, .iload_n 2), (82, .iaload), (83, .aload_n 0), (84, .getfield 61), (87, .iload_n 2), (88, .laload), (89, .invokevirtual 208), (92, .aload_n 0), (93, .getfield 49), (96, .iload_n 1), (97, .iconst 1), (98, .isub), (99, .dup2), (100, .iaload), (101, .iconst 1), (102, .iadd), (103, .iastore), (104, .iconst 0), (105, .ireturn)]
def xq_141 : List (Nat × Instr) := [(0, .iload_n 0), (1, .bipush 21), (3, .if_icmp .eq 9), (6, .iload_n 0), (7, .bipush 26), (9, .if_icmp .ne 7), (12, .iload_n 1), (13, .goto 81), (16, .iload_n 0), (17, .bipush 19), (19, .if_icmp .ne 7), (22, .iload_n 2), (23, .goto 71), (26, .iload_n 0), (27, .bipush 8), (29, .if_icmp .lt 9), (32, .iload_n 0), (33, .bipush 13), (35, .if_icmp .le 9), (38, .iload_n 0), (39, .bipush 18), (41, .if_icmp .ne 7), (44, .iconst 2), (45, .goto 49), (48, .iload_n 0), (49, .iconst 5), (50, .if_icmp .eq 39), (53, .iload_n 0), (54, .bipush 6), (56, .if_icmp .eq 33), (59, .iload_n 0), (60, .bipush 7), (62, .if_icmp .eq 27), (65, .iload_n 0), (66, .bipush 15), (68, .if_icmp .eq 21), (71, .iload_n 0), (72, .bipush 17), (74, .if_icmp .eq 15), (77, .iload_n 0), (78, .bipush 22), (80, .if_icmp .lt 13), (83, .iload_n 0), (84, .bipush 25), (86, .if_icmp .gt 7), (89, .iconst 1), (90, .goto 4), (93, .iconst 0), (94, .ireturn)]
def xq_142 : List (Nat × Instr) := [(0, .iload_n 2), (1, .bipush 20), (3, .if_icmp .ne 29), (6, .aload_n 0), (7, .getfield 52), (10, .iload_n 1), (11, .iaload), (12, .ifCond .lt 18), (15, .iload_n 3), (16, .aload_n 0), (17, .getfield 78), (20, .aload_n 0), (21, .getfield 52), (24, .iload_n 1), (25, .iaload), (26, .iaload), (27, .if_icmp .lt 5), (30, .iconst 3), (31, .ireturn), (32, .iload_n 2), (33, .bipush 16), (35, .if_icmp .ne 12), (38, .aload_n 0), (39, .invokevirtual 202), (42, .ifCond .eq 5), (45, .iconst 4), (46, .ireturn), (47, .aload_n 0), (48, .getfield 55), (51, .iload_n 1), (52, .iaload), (53, .bipush 6), (55, .if_icmp .ne 6), (58, .bipush 6), (60, .ireturn), (61, .iload_n 2), (62, .iconst 1), (63, .if_icmp .ne 14), (66, .aload_n 0), (67, .iload_n 1), (68, .iconst 1), (69, .iload_n 3), (70, .i2l), (71, .invokevirtual 208), (74, .goto 130), (77, .iload_n 2), (78, .iconst 2), (79, .if_icmp .ne 21), (82, .aload_n 0), (83, .iload_n 1), (84, .iconst 2), (85, .iload_n 3), (86, .i2l), (87, .bipush 32), (89, .lshl), (90, .iload 4), (92, .i2l), (93, .ladd), (94, .invokevirtual 208), (97, .goto 107), (100, .iload_n 2), (101, .iconst 3), (102, .if_icmp .ne 13), (105, .aload_n 0), (106, .iload_n 1), (107, .iconst 0), (108, .lconst 0), (109, .invokevirtual 208), (112, .goto 92), (115, .iload_n 2), (116, .bipush 16), (118, .if_icmp .ne 22), (121, .aload_n 0), (122, .iconst 3), (123, .invokevirtual 205), (126, .istore 5), (128, .aload_n 0), (129, .iload_n 1), (130, .iconst 3), (131, .iload 5), (133, .i2l), (134, .invokevirtual 208), (137, .goto 67), (140, .iload_n 2), (141, .iconst 4), (142, .if_icmp .ne 12), (145, .bipush 10), (147, .iload_n 1), (148, .imul), (149, .iload_n 3), (150, .iadd), (151, .goto 32), (154, .iload_n 2), (155, .bipush 7), (157, .if_icmp .ne 12), (160, .aload_n 0), (161, .iload_n 1), (162, .iconst 0), (163, .invokevirtual 157), (166, .goto 17), (169, .sipush 160), (172, .iconst 3), (173, .aload_n 0), (174, .getfield 52), (177, .iload_n 1), (178, .iaload), (179, .imul), (180, .iadd), (181, .iload_n 3), (182, .iadd), (183, .istore 5), (185, .aload_n 0), (186, .iload_n 1), (187, .aload_n 0), (188, .getfield 58), (191, .iload 5), (193, .iaload), (194, .aload_n 0), (195, .getfield 61), (198, .iload 5), (200, .laload), (201, .invokevirtual 208), (204, .iconst 0), (205, .ireturn)]
def xq_143 : List (Nat × Instr) := [(0, .aload_n 0), (1, .iload_n 1), (2, .iconst 0), (3, .invokevirtual 157), (6, .istore_n 2), (7, .aload_n 0), (8, .getfield 58), (11, .iload_n 2), (12, .iaload), (13, .invokestatic 199), (16, .ifCond .ne 5), (19, .iconst 2), (20, .ireturn), (21, .aload_n 0), (22, .getfield 178), (25, .bipush 40), (27, .if_icmp .ge 18), (30, .aload_n 0), (31, .getfield 81), (34, .aload_n 0), (35, .getfield 178), (38, .aload_n 0), (39, .getfield 61), (42, .iload_n 2), (43, .laload), (44, .lastore), (45, .aload_n 0), (46, .dup), (47, .getfield 178), (50, .iconst 1), (51, .iadd), (52, .putfield 178), (55, .aload_n 0), (56, .getfield 55), (59, .iload_n 1), (60, .dup2), (61, .iaload), (62, .iconst 1), (63, .isub), (64, .iastore), (65, .iconst 0), (66, .ireturn)]
def xq_144 : List (Nat × Instr) := [(0, .aload_n 0), (1, .iload_n 1), (2, .iconst 0), (3, .invokevirtual 157), (6, .istore 5), (8, .aload_n 0), (9, .iload_n 1), (10, .iconst 1), (11, .invokevirtual 157), (14, .istore 6), (16, .iload_n 2), (17, .tableswitch 351 0 27 #[349, 351, 351, 351, 351, 127, 151, 351, 163, 163, 163, 163, 163, 170, 229, 241, 351, 288, 288, 296, 351, 351, 351, 351, 305, 336, 342, 349]), (144, .aload_n 0), (145, .bipush 10), (147, .iload_n 1), (148, .imul), (149, .iload_n 3), (150, .iadd), (151, .iload 5), (153, .invokevirtual 161), (156, .aload_n 0), (157, .getfield 55), (160, .iload_n 1), (161, .dup2), (162, .iaload), (163, .iconst 1), (164, .isub), (165, .iastore), (166, .iconst 0), (167, .ireturn), (168, .aload_n 0), (169, .getfield 55), (172, .iload_n 1), (173, .dup2), (174, .iaload), (175, .iconst 1), (176, .isub), (177, .iastore), (178, .iconst 0), (179, .ireturn), (180, .aload_n 0), (181, .iload_n 1), (182, .iload_n 2), (183, .invokevirtual 218), (186, .ireturn), (187, .aload_n 0), (188, .iload 6), (190, .iconst 1), (191, .aload_n 0), (192, .getfield 58), (195, .iload 5), (197, .iaload), (198, .aload_n 0), (199, .getfield 58), (202, .iload 6), (204, .iaload), (205, .if_icmp .ne 25), (208, .aload_n 0), (209, .getfield 61), (212, .iload 5), (214, .laload), (215, .aload_n 0), (216, .getfield 61), (219, .iload 6), (221, .laload), (222, .lcmp), (223, .ifCond .ne 7), (226, .lconst 1), (227, .goto 4), (230, .lconst 0), (231, .invokevirtual 150), (234, .aload_n 0), (235, .getfield 55), (238, .iload_n 1), (239, .dup2), (240, .iaload), (241, .iconst 1), (242, .isub), (243, .iastore), (244, .iconst 0), (245, .ireturn), (246, .aload_n 0), (247, .getfield 49), (250, .iload_n 1), (251, .iload 4), (253, .iconst 1), (254, .isub), (255, .iastore), (256, .iconst 0), (257, .ireturn), (258, .aload_n 0), (259, .getfield 58), (262, .iload 5), (264, .iaload), (265, .iconst 1), (266, .if_icmp .eq 5), (269, .iconst 2), (270, .ireturn), (271, .aload_n 0), (272, .getfield 61), (275, .iload 5), (277, .laload), (278, .lconst 0), (279, .lcmp), (280, .ifCond .eq 13), (283, .aload_n 0), (284, .getfield 49), (287, .iload_n 1), (288, .iload 4), (290, .iconst 1), (291, .isub), (292, .iastore), (293, .aload_n 0), (294, .getfield 55), (297, .iload_n 1), (298, .dup2), (299, .iaload), (300, .iconst 1), (301, .isub), (302, .iastore), (303, .iconst 0), (304, .ireturn), (305, .aload_n 0), (306, .iload_n 1), (307, .iload_n 2), (308, .iload_n 3), (309, .invokevirtual 221), (312, .ireturn), (313, .aload_n 0), (314, .iload_n 1), (315, .iload_n 3), (316, .iload 4), (318, .invokevirtual 224), (321, .ireturn), (322, .aload_n 0), (323, .getfield 58), (326, .iload 5), (328, .iaload), (329, .iconst 1), (330, .if_icmp .eq 7), (333, .iconst 2), (334, .goto 18), (337, .bipush 16), (339, .aload_n 0), (340, .getfield 61), (343, .iload 5), (345, .laload), (346, .ldc2_w 227), (349, .land), (350, .l2i), (351, .iadd), (352, .ireturn), (353, .aload_n 0), (354, .iload_n 1), (355, .invokevirtual 229), (358, .ireturn), (359, .aload_n 0), (360, .iload_n 1), (361, .iload_n 3), (362, .invokevirtual 232), (365, .ireturn), (366, .iconst 0), (367, .ireturn), (368, .aload_n 0), (369, .iload_n 1), (370, .iload_n 2), (371, .iload_n 3), (372, .iload 4), (374, .invokevirtual 235), (377, .ireturn)]
def xq_145 : List (Nat × Instr) := [(0, .aload_n 0), (1, .getfield 49), (4, .iload_n 1), (5, .iaload), (6, .aload_n 0), (7, .getfield 13), (10, .aload_n 0), (11, .getfield 46), (14, .iload_n 1), (15, .iaload), (16, .iaload), (17, .if_icmp .lt 6), (20, .bipush 7), (22, .ireturn), (23, .bipush 30), (25, .aload_n 0), (26, .getfield 46), (29, .iload_n 1), (30, .iaload), (31, .imul), (32, .aload_n 0), (33, .getfield 49), (36, .iload_n 1), (37, .iaload), (38, .iadd), (39, .istore_n 2), (40, .aload_n 0), (41, .getfield 19), (44, .iload_n 2), (45, .iaload), (46, .istore_n 3), (47, .aload_n 0), (48, .getfield 22), (51, .iload_n 2), (52, .iaload), (53, .istore 4), (55, .aload_n 0), (56, .getfield 25), (59, .iload_n 2), (60, .iaload), (61, .istore 5), (63, .aload_n 0), (64, .getfield 55), (67, .iload_n 1), (68, .iaload), (69, .iload_n 3), (70, .iload_n 3), (71, .bipush 21), (73, .if_icmp .eq 9), (76, .iload_n 3), (77, .bipush 26), (79, .if_icmp .ne 13), (82, .aload_n 0), (83, .getfield 7), (86, .iload 4), (88, .iaload), (89, .goto 4), (92, .iconst 0), (93, .iload 5), (95, .invokestatic 239), (98, .if_icmp .ge 6), (101, .bipush 6), (103, .ireturn), (104, .iload_n 3), (105, .bipush 21), (107, .if_icmp .ne 12), (110, .aload_n 0), (111, .iload_n 1), (112, .iload 4), (114, .iconst (-1)), (115, .invokevirtual 214), (118, .ireturn), (119, .iload_n 3), (120, .bipush 22), (122, .if_icmp .ne 9), (125, .aload_n 0), (126, .iload_n 1), (127, .invokevirtual 242), (130, .ireturn), (131, .iload_n 3), (132, .bipush 23), (134, .if_icmp .ne 9), (137, .aload_n 0), (138, .iload_n 1), (139, .invokevirtual 245), (142, .ireturn), (143, .aload_n 0), (144, .iload_n 1), (145, .iload_n 3), (146, .iload 4), (148, .iload 5), (150, .invokevirtual 248), (153, .istore 6), (155, .iload 6), (157, .ifCond .ne 13), (160, .aload_n 0), (161, .getfield 49), (164, .iload_n 1), (165, .dup2), (166, .iaload), (167, .iconst 1), (168, .iadd), (169, .iastore), (170, .iload 6), (172, .ireturn)]
def xq_146 : List (Nat × Instr) := [(0, .aload_n 0), (1, .getfield 43), (4, .aload_n 0), (5, .getfield 154), (8, .iaload), (9, .ifCond .le 121), (12, .aload_n 0), (13, .invokevirtual 251), (16, .istore_n 2), (17, .aload_n 0), (18, .getfield 46), (21, .iload_n 2), (22, .iaload), (23, .istore_n 3), (24, .iconst 3), (25, .iload_n 3), (26, .imul), (27, .istore 4), (29, .iload 4), (31, .iconst 3), (32, .iload_n 3), (33, .imul), (34, .aload_n 0), (35, .getfield 16), (38, .iload_n 3), (39, .iaload), (40, .iadd), (41, .if_icmp .ge 73), (44, .aload_n 0), (45, .getfield 49), (48, .iload_n 2), (49, .iaload), (50, .aload_n 0), (51, .getfield 28), (54, .iload 4), (56, .iaload), (57, .if_icmp .lt 51), (60, .aload_n 0), (61, .getfield 49), (64, .iload_n 2), (65, .iaload), (66, .aload_n 0), (67, .getfield 31), (70, .iload 4), (72, .iaload), (73, .if_icmp .lt 6), (76, .goto 32), (79, .aload_n 0), (80, .getfield 49), (83, .iload_n 2), (84, .aload_n 0), (85, .getfield 34), (88, .iload 4), (90, .iaload), (91, .iastore), (92, .aload_n 0), (93, .getfield 55), (96, .iload_n 2), (97, .iconst 0), (98, .iastore), (99, .aload_n 0), (100, .iload_n 2), (101, .iconst 1), (102, .iload_n 1), (103, .i2l), (104, .invokevirtual 208), (107, .return_), (108, .iinc 4 1), (111, .goto (-82)), (114, .aload_n 0), (115, .getfield 43), (118, .aload_n 0), (119, .getfield 154), (122, .dup2), (123, .iaload), (124, .iconst 1), (125, .isub), (126, .iastore), (127, .goto (-127)), (130, .aload_n 0), (131, .getfield 37), (134, .aload_n 0), (135, .getfield 154), (138, .iconst 2), (139, .iastore), (140, .aload_n 0), (141, .getfield 40), (144, .aload_n 0), (145, .getfield 154), (148, .iload_n 1), (149, .iastore), (150, .return_)]
def xq_147 : List (Nat × Instr) := [(0, .iconst 0), (1, .istore_n 1), (2, .iload_n 1), (3, .aload_n 0), (4, .getfield 169), (7, .if_icmp .ge 20), (10, .aload_n 0), (11, .getfield 37), (14, .iload_n 1), (15, .iaload), (16, .ifCond .ne 5), (19, .iconst 1), (20, .ireturn), (21, .iinc 1 1), (24, .goto (-22)), (27, .iconst 0), (28, .ireturn)]
def xq_148 : List (Nat × Instr) := [(0, .iload_n 1), (1, .iconst 0), (2, .sipush 300), (5, .invokestatic 136), (8, .ifCond .ne 9), (11, .aload_n 0), (12, .iconst 1), (13, .invokevirtual 140), (16, .ireturn), (17, .aload_n 0), (18, .getfield 165), (21, .ifCond .ne 9), (24, .aload_n 0), (25, .iconst 2), (26, .invokevirtual 140), (29, .ireturn), (30, .aload_n 0), (31, .iconst 0), (32, .putfield 133), (35, .iconst 0), (36, .istore_n 2), (37, .iload_n 2), (38, .iload_n 1), (39, .if_icmp .ge 208), (42, .aload_n 0), (43, .invokevirtual 255), (46, .ifCond .eq 201), (49, .aload_n 0), (50, .invokevirtual 251), (53, .istore_n 3), (54, .bipush 30), (56, .aload_n 0), (57, .getfield 46), (60, .iload_n 3), (61, .iaload), (62, .imul), (63, .aload_n 0), (64, .getfield 49), (67, .iload_n 3), (68, .iaload), (69, .iadd), (70, .istore 4), (72, .aload_n 0), (73, .getfield 49), (76, .iload_n 3), (77, .iaload), (78, .aload_n 0), (79, .getfield 13), (82, .aload_n 0), (83, .getfield 46), (86, .iload_n 3), (87, .iaload), (88, .iaload), (89, .if_icmp .ge 19), (92, .aload_n 0), (93, .getfield 19), (96, .iload 4), (98, .iaload), (99, .bipush 27), (101, .if_icmp .ne 7), (104, .iconst 1), (105, .goto 4), (108, .iconst 0), (109, .istore 5), (111, .aload_n 0), (112, .iload_n 3), (113, .invokevirtual 258), (116, .istore 6), (118, .iload 6), (120, .ifCond .le 9), (123, .aload_n 0), (124, .iload 6), (126, .invokevirtual 261), (129, .aload_n 0), (130, .dup), (131, .getfield 175), (134, .iconst 1), (135, .iadd), (136, .putfield 175), (139, .aload_n 0), (140, .dup), (141, .getfield 172), (144, .iconst 1), (145, .iadd), (146, .putfield 172), (149, .aload_n 0), (150, .getfield 172), (153, .iconst 4), (154, .if_icmp .eq 20), (157, .iload 5), (159, .ifCond .ne 15), (162, .aload_n 0), (163, .getfield 37), (166, .aload_n 0), (167, .getfield 154), (170, .iaload), (171, .ifCond .eq 70), (174, .aload_n 0), (175, .iconst 0), (176, .putfield 172), (179, .aload_n 0), (180, .getfield 154), (183, .istore 7), (185, .iconst 1), (186, .istore 8), (188, .iload 8), (190, .aload_n 0), (191, .getfield 169), (194, .if_icmp .gt 47), (197, .aload_n 0), (198, .getfield 37), (201, .iload 7), (203, .iload 8), (205, .iadd), (206, .aload_n 0), (207, .getfield 169), (210, .irem), (211, .iaload), (212, .ifCond .ne 23), (215, .aload_n 0), (216, .iload 7), (218, .iload 8), (220, .iadd), (221, .aload_n 0), (222, .getfield 169), (225, .irem), (226, .putfield 154), (229, .aload_n 0), (230, .getfield 169), (233, .istore 8), (235, .iinc 8 1), (238, .goto (-50)), (241, .iinc 2 1), (244, .goto (-207)), (247, .aload_n 0), (248, .invokevirtual 255), (251, .ifCond .eq 7), (254, .iconst 1), (255, .goto 4), (258, .iconst 0), (259, .ireturn)]
def xq_149 : List (Nat × Instr) := [(0, .aload_n 0), (1, .iload_n 1), (2, .iconst 0), (3, .aload_n 0), (4, .getfield 178), (7, .bipush 40), (9, .if_icmp .ge 10), (12, .aload_n 0), (13, .getfield 178), (16, .goto 5), (19, .bipush 40), (21, .iconst 1), (22, .isub), (23, .invokestatic 136), (26, .ifCond .eq 7), (29, .iconst 0), (30, .goto 4), (33, .iconst 1), (34, .putfield 133), (37, .aload_n 0), (38, .getfield 133), (41, .ifCond .le 7), (44, .lconst 0), (45, .goto 9), (48, .aload_n 0), (49, .getfield 81), (52, .iload_n 1), (53, .laload), (54, .lreturn)]
def xq_150 : List (Nat × Instr) := [(0, .aload_n 0), (1, .aload_n 0), (2, .getfield 165), (5, .ifCond .eq 17), (8, .iload_n 1), (9, .iconst 0), (10, .aload_n 0), (11, .getfield 169), (14, .iconst 1), (15, .isub), (16, .invokestatic 136), (19, .ifCond .ne 7), (22, .iconst 1), (23, .goto 38), (26, .aload_n 0), (27, .getfield 37), (30, .iload_n 1), (31, .iaload), (32, .iconst 1), (33, .if_icmp .eq 7), (36, .iconst 2), (37, .goto 24), (40, .aload_n 0), (41, .getfield 58), (44, .sipush 150), (47, .iload_n 1), (48, .iadd), (49, .iaload), (50, .invokestatic 199), (53, .ifCond .ne 7), (56, .iconst 3), (57, .goto 4), (60, .iconst 0), (61, .putfield 133), (64, .aload_n 0), (65, .getfield 133), (68, .ifCond .le 7), (71, .lconst 0), (72, .goto 13), (75, .aload_n 0), (76, .getfield 61), (79, .sipush 150), (82, .iload_n 1), (83, .iadd), (84, .laload), (85, .lreturn)]
def xq_151 : List (Nat × Instr) := [(0, .iload_n 1), (1, .bipush 10), (3, .idiv), (4, .istore_n 2), (5, .iload_n 1), (6, .bipush 10), (8, .irem), (9, .istore_n 3), (10, .iload_n 1), (11, .iconst 0), (12, .iconst 5), (13, .invokestatic 136), (16, .ifCond .ne 28), (19, .iload_n 2), (20, .iconst 1), (21, .bipush 6), (23, .invokestatic 136), (26, .ifCond .eq 12), (29, .iload_n 3), (30, .iconst 0), (31, .iconst 2), (32, .invokestatic 136), (35, .ifCond .ne 9), (38, .aload_n 0), (39, .iconst 1), (40, .invokevirtual 140), (43, .ireturn), (44, .aload_n 0), (45, .iconst 0), (46, .putfield 133), (49, .iload_n 1), (50, .bipush 6), (52, .if_icmp .ge 78), (55, .aload_n 0), (56, .getfield 165), (59, .ifCond .ne 7), (62, .iconst 0), (63, .goto 66), (66, .iload_n 1), (67, .ifCond .ne 10), (70, .aload_n 0), (71, .getfield 169), (74, .goto 55), (77, .iload_n 1), (78, .iconst 1), (79, .if_icmp .ne 10), (82, .aload_n 0), (83, .getfield 154), (86, .goto 43), (89, .iload_n 1), (90, .iconst 2), (91, .if_icmp .ne 10), (94, .aload_n 0), (95, .getfield 172), (98, .goto 31), (101, .iload_n 1), (102, .iconst 3), (103, .if_icmp .ne 10), (106, .aload_n 0), (107, .getfield 181), (110, .goto 19), (113, .iload_n 1), (114, .iconst 4), (115, .if_icmp .ne 10), (118, .aload_n 0), (119, .getfield 175), (122, .goto 7), (125, .aload_n 0), (126, .getfield 178), (129, .ireturn), (130, .aload_n 0), (131, .getfield 165), (134, .ifCond .eq 25), (137, .iload_n 3), (138, .aload_n 0), (139, .getfield 169), (142, .if_icmp .ge 17), (145, .iload_n 2), (146, .iconst 3), (147, .if_icmp .le 14), (150, .aload_n 0), (151, .getfield 37), (154, .iload_n 3), (155, .iaload), (156, .ifCond .eq 5), (159, .iconst (-1)), (160, .ireturn), (161, .iconst 5), (162, .iload_n 3), (163, .imul), (164, .aload_n 0), (165, .getfield 43), (168, .iload_n 3), (169, .iaload), (170, .iadd), (171, .iconst 1), (172, .isub), (173, .istore 4), (175, .iload_n 2), (176, .iconst 1), (177, .if_icmp .ne 12), (180, .aload_n 0), (181, .getfield 37), (184, .iload_n 3), (185, .iaload), (186, .goto 81), (189, .iload_n 2), (190, .iconst 2), (191, .if_icmp .ne 25), (194, .aload_n 0), (195, .getfield 37), (198, .iload_n 3), (199, .iaload), (200, .ifCond .ne 12), (203, .aload_n 0), (204, .getfield 43), (207, .iload_n 3), (208, .iaload), (209, .goto 58), (212, .iconst 0), (213, .goto 54), (216, .iload_n 2), (217, .iconst 3), (218, .if_icmp .ne 12), (221, .aload_n 0), (222, .getfield 40), (225, .iload_n 3), (226, .iaload), (227, .goto 40), (230, .iload_n 2), (231, .iconst 4), (232, .if_icmp .ne 13), (235, .aload_n 0), (236, .getfield 55), (239, .iload 4), (241, .iaload), (242, .goto 25), (245, .iload_n 2), (246, .iconst 5), (247, .if_icmp .ne 13), (250, .aload_n 0), (251, .getfield 49), (254, .iload 4), (256, .iaload), (257, .goto 10), (260, .aload_n 0), (261, .getfield 46), (264, .iload 4), (266, .iaload), (267, .ireturn)]
def xq_152 : List (Nat × Instr) := [(0, .aload_n 0), (1, .getfield 84), (4, .aload_n 0), (5, .getfield 265), (8, .iload_n 1), (9, .sipush 255), (12, .iand), (13, .iastore), (14, .aload_n 0), (15, .dup), (16, .getfield 265), (19, .iconst 1), (20, .iadd), (21, .putfield 265), (24, .return_)]
def xq_153 : List (Nat × Instr) := [(0, .iconst 0), (1, .istore 4), (3, .iload 4), (5, .iload_n 3), (6, .if_icmp .ge 21), (9, .aload_n 0), (10, .lload_n 1), (11, .bipush 8), (13, .iload 4), (15, .imul), (16, .lshr), (17, .l2i), (18, .invokevirtual 268), (21, .iinc 4 1), (24, .goto (-21)), (27, .return_)]
def xq_154 : List (Nat × Instr) := [(0, .aload_n 0), (1, .getfield 87), (4, .iload_n 1), (5, .iaload), (6, .ifCond .lt 10), (9, .aload_n 0), (10, .getfield 87), (13, .iload_n 1), (14, .iaload), (15, .ireturn), (16, .aload_n 0), (17, .getfield 87), (20, .iload_n 1), (21, .aload_n 0), (22, .getfield 271), (25, .iastore), (26, .aload_n 0), (27, .getfield 90), (30, .aload_n 0), (31, .getfield 271), (34, .iload_n 1), (35, .iastore), (36, .aload_n 0), (37, .dup), (38, .getfield 271), (41, .iconst 1), (42, .iadd), (43, .putfield 271), (46, .aload_n 0), (47, .getfield 87), (50, .iload_n 1), (51, .iaload), (52, .ireturn)]
def xq_155 : List (Nat × Instr) := [(0, .aload_n 0), (1, .iload_n 1), (2, .invokevirtual 268), (5, .iload_n 1), (6, .iconst 1), (7, .if_icmp .ne 9), (10, .aload_n 0), (11, .lload_n 2), (12, .iconst 4), (13, .invokevirtual 274), (16, .iload_n 1), (17, .iconst 2), (18, .if_icmp .ne 10), (21, .aload_n 0), (22, .lload_n 2), (23, .bipush 8), (25, .invokevirtual 274), (28, .iload_n 1), (29, .iconst 2), (30, .if_icmp .le 13), (33, .aload_n 0), (34, .aload_n 0), (35, .lload_n 2), (36, .l2i), (37, .invokevirtual 278), (40, .invokevirtual 268), (43, .return_)]
def xq_156 : List (Nat × Instr) := [(0, .aload_n 0), (1, .aload_n 0), (2, .getfield 46), (5, .iload_n 1), (6, .iaload), (7, .invokevirtual 268), (10, .aload_n 0), (11, .aload_n 0), (12, .getfield 49), (15, .iload_n 1), (16, .iaload), (17, .invokevirtual 268), (20, .aload_n 0), (21, .getfield 52), (24, .iload_n 1), (25, .iaload), (26, .ifCond .ge 11), (29, .aload_n 0), (30, .iconst 0), (31, .invokevirtual 268), (34, .goto 15), (37, .aload_n 0), (38, .iconst 4), (39, .aload_n 0), (40, .getfield 52), (43, .iload_n 1), (44, .iaload), (45, .i2l), (46, .invokevirtual 281), (49, .iconst 0), (50, .istore_n 2), (51, .iload_n 2), (52, .iconst 4), (53, .if_icmp .ge 35), (56, .aload_n 0), (57, .aload_n 0), (58, .getfield 58), (61, .bipush 10), (63, .iload_n 1), (64, .imul), (65, .iload_n 2), (66, .iadd), (67, .iaload), (68, .aload_n 0), (69, .getfield 61), (72, .bipush 10), (74, .iload_n 1), (75, .imul), (76, .iload_n 2), (77, .iadd), (78, .laload), (79, .invokevirtual 281), (82, .iinc 2 1), (85, .goto (-34)), (88, .aload_n 0), (89, .aload_n 0), (90, .getfield 55), (93, .iload_n 1), (94, .iaload), (95, .invokevirtual 268), (98, .iconst 4), (99, .istore_n 2), (100, .iload_n 2), (101, .iconst 4), (102, .aload_n 0), (103, .getfield 55), (106, .iload_n 1), (107, .iaload), (108, .iadd), (109, .if_icmp .ge 35), (112, .aload_n 0), (113, .aload_n 0), (114, .getfield 58), (117, .bipush 10), (119, .iload_n 1), (120, .imul), (121, .iload_n 2), (122, .iadd), (123, .iaload), (124, .aload_n 0), (125, .getfield 61), (128, .bipush 10), (130, .iload_n 1), (131, .imul), (132, .iload_n 2), (133, .iadd), (134, .laload), (135, .invokevirtual 281), (138, .iinc 2 1), (141, .goto (-41)), (144, .return_)]
def xq_157 : List (Nat × Instr) := [(0, .aload_n 0), (1, .aload_n 0), (2, .getfield 72), (5, .iload_n 1), (6, .iaload), (7, .invokevirtual 268), (10, .aload_n 0), (11, .getfield 72), (14, .iload_n 1), (15, .iaload), (16, .iconst 4), (17, .if_icmp .ne 23), (20, .aload_n 0), (21, .aload_n 0), (22, .getfield 75), (25, .iload_n 1), (26, .iaload), (27, .invokevirtual 268), (30, .aload_n 0), (31, .aload_n 0), (32, .getfield 78), (35, .iload_n 1), (36, .iaload), (37, .invokevirtual 268), (40, .iconst 0), (41, .istore_n 2), (42, .iload_n 2), (43, .aload_n 0), (44, .getfield 72), (47, .iload_n 1), (48, .iaload), (49, .iconst 3), (50, .if_icmp .ne 7), (53, .iconst 3), (54, .goto 9), (57, .aload_n 0), (58, .getfield 78), (61, .iload_n 1), (62, .iaload), (63, .if_icmp .ge 41), (66, .aload_n 0), (67, .aload_n 0), (68, .getfield 58), (71, .sipush 160), (74, .iconst 3), (75, .iload_n 1), (76, .imul), (77, .iadd), (78, .iload_n 2), (79, .iadd), (80, .iaload), (81, .aload_n 0), (82, .getfield 61), (85, .sipush 160), (88, .iconst 3), (89, .iload_n 1), (90, .imul), (91, .iadd), (92, .iload_n 2), (93, .iadd), (94, .laload), (95, .invokevirtual 281), (98, .iinc 2 1), (101, .goto (-59)), (104, .return_)]
def xq_158 : List (Nat × Instr) := [(0, .iconst 0), (1, .istore_n 2), (2, .iconst 0), (3, .istore_n 3), (4, .iload_n 3), (5, .iload_n 1), (6, .if_icmp .ge 18), (9, .iload_n 2), (10, .aload_n 0), (11, .getfield 84), (14, .iload_n 3), (15, .iaload), (16, .iadd), (17, .istore_n 2), (18, .iinc 3 1), (21, .goto (-17)), (24, .iload_n 2), (25, .sipush 255), (28, .iand), (29, .ireturn)]
def xq_159 : List (Nat × Instr) := [(0, .aload_n 0), (1, .getfield 165), (4, .ifCond .ne 9), (7, .aload_n 0), (8, .iconst 1), (9, .invokevirtual 140), (12, .ireturn), (13, .aload_n 0), (14, .iconst 0), (15, .putfield 133), (18, .aload_n 0), (19, .iconst 0), (20, .putfield 265), (23, .aload_n 0), (24, .iconst 0), (25, .putfield 271), (28, .iconst 0), (29, .istore_n 1), (30, .iload_n 1), (31, .bipush 24), (33, .if_icmp .ge 16), (36, .aload_n 0), (37, .getfield 87), (40, .iload_n 1), (41, .iconst (-1)), (42, .iastore), (43, .iinc 1 1), (46, .goto (-16)), (49, .aload_n 0), (50, .bipush 83), (52, .invokevirtual 268), (55, .aload_n 0), (56, .bipush 78), (58, .invokevirtual 268), (61, .aload_n 0), (62, .iconst 1), (63, .invokevirtual 268), (66, .aload_n 0), (67, .aload_n 0), (68, .invokevirtual 285), (71, .invokevirtual 268), (74, .aload_n 0), (75, .aload_n 0), (76, .getfield 154), (79, .invokevirtual 268), (82, .aload_n 0), (83, .aload_n 0), (84, .getfield 172), (87, .invokevirtual 268), (90, .aload_n 0), (91, .aload_n 0), (92, .getfield 169), (95, .invokevirtual 268), (98, .iconst 0), (99, .istore_n 1), (100, .iload_n 1), (101, .aload_n 0), (102, .getfield 169), (105, .if_icmp .ge 117), (108, .aload_n 0), (109, .aload_n 0), (110, .getfield 37), (113, .iload_n 1), (114, .iaload), (115, .invokevirtual 268), (118, .aload_n 0), (119, .getfield 37), (122, .iload_n 1), (123, .iaload), (124, .ifCond .ne 45), (127, .aload_n 0), (128, .aload_n 0), (129, .getfield 43), (132, .iload_n 1), (133, .iaload), (134, .invokevirtual 268), (137, .iconst 5), (138, .iload_n 1), (139, .imul), (140, .istore_n 2), (141, .iload_n 2), (142, .iconst 5), (143, .iload_n 1), (144, .imul), (145, .aload_n 0), (146, .getfield 43), (149, .iload_n 1), (150, .iaload), (151, .iadd), (152, .if_icmp .ge 14), (155, .aload_n 0), (156, .iload_n 2), (157, .invokevirtual 288), (160, .iinc 2 1), (163, .goto (-22)), (166, .goto 50), (169, .aload_n 0), (170, .getfield 37), (173, .iload_n 1), (174, .iaload), (175, .iconst 1), (176, .if_icmp .ne 30), (179, .aload_n 0), (180, .aload_n 0), (181, .getfield 58), (184, .sipush 150), (187, .iload_n 1), (188, .iadd), (189, .iaload), (190, .aload_n 0), (191, .getfield 61), (194, .sipush 150), (197, .iload_n 1), (198, .iadd), (199, .laload), (200, .invokevirtual 281), (203, .goto 13), (206, .aload_n 0), (207, .aload_n 0), (208, .getfield 40), (211, .iload_n 1), (212, .iaload), (213, .invokevirtual 268), (216, .iinc 1 1), (219, .goto (-119)), (222, .aload_n 0), (223, .getfield 265), (226, .istore_n 1), (227, .aload_n 0), (228, .iconst 0), (229, .invokevirtual 268), (232, .iconst 0), (233, .istore_n 2), (234, .iload_n 2), (235, .aload_n 0), (236, .getfield 271), (239, .if_icmp .ge 19), (242, .aload_n 0), (243, .aload_n 0), (244, .getfield 90), (247, .iload_n 2), (248, .iaload), (249, .invokevirtual 291), (252, .iinc 2 1), (255, .goto (-21)), (258, .aload_n 0), (259, .getfield 84), (262, .iload_n 1), (263, .aload_n 0), (264, .getfield 271), (267, .iastore), (268, .aload_n 0), (269, .aload_n 0), (270, .aload_n 0), (271, .getfield 265), (274, .invokevirtual 294), (277, .invokevirtual 268), (280, .aload_n 0), (281, .getfield 265), (284, .ireturn)]
def xq_160 : List (Nat × Instr) := [(0, .aload_n 0), (1, .getfield 297), (4, .ifCond .le 4), (7, .return_), (8, .aload_n 0), (9, .iload_n 2), (10, .putfield 297), (13, .aload_n 0), (14, .iload_n 1), (15, .putfield 93), (18, .return_)]
def xq_161 : List (Nat × Instr) := [(0, .aload_n 0), (1, .getfield 297), (4, .ifCond .le 5), (7, .iconst 0), (8, .ireturn), (9, .aload_n 0), (10, .getfield 300), (13, .aload_n 0), (14, .getfield 265), (17, .if_icmp .lt 14), (20, .aload_n 0), (21, .aload_n 0), (22, .getfield 265), (25, .iconst 1), (26, .invokevirtual 303), (29, .iconst 0), (30, .ireturn), (31, .aload_n 0), (32, .getfield 84), (35, .aload_n 0), (36, .getfield 300), (39, .iaload), (40, .iload_n 1), (41, .iload_n 2), (42, .invokestatic 136), (45, .ifCond .ne 12), (48, .aload_n 0), (49, .aload_n 0), (50, .getfield 300), (53, .iload_n 3), (54, .invokevirtual 303), (57, .aload_n 0), (58, .dup), (59, .getfield 300), (62, .iconst 1), (63, .iadd), (64, .putfield 300), (67, .aload_n 0), (68, .getfield 84), (71, .aload_n 0), (72, .getfield 300), (75, .iconst 1), (76, .isub), (77, .iaload), (78, .ireturn)]
def xq_162 : List (Nat × Instr) := [(0, .aload_n 0), (1, .getfield 300), (4, .istore_n 2), (5, .aload_n 0), (6, .iconst 0), (7, .bipush 23), (9, .iconst 1), (10, .invokevirtual 306), (13, .istore_n 3), (14, .aload_n 0), (15, .getfield 297), (18, .ifCond .le 5), (21, .iconst 0), (22, .ireturn), (23, .iload_n 3), (24, .aload_n 0), (25, .getfield 309), (28, .if_icmp .gt 36), (31, .iload_n 3), (32, .aload_n 0), (33, .getfield 309), (36, .if_icmp .ge 13), (39, .aload_n 0), (40, .getfield 121), (43, .iload_n 3), (44, .iaload), (45, .iload_n 1), (46, .if_icmp .ne 18), (49, .aload_n 0), (50, .getfield 312), (53, .ifCond .eq 17), (56, .iload_n 3), (57, .aload_n 0), (58, .getfield 315), (61, .if_icmp .lt 9), (64, .aload_n 0), (65, .iload_n 2), (66, .iconst 1), (67, .invokevirtual 303), (70, .iload_n 3), (71, .aload_n 0), (72, .getfield 309), (75, .if_icmp .ne 27), (78, .aload_n 0), (79, .getfield 297), (82, .ifCond .ne 20), (85, .aload_n 0), (86, .getfield 121), (89, .iload_n 3), (90, .iload_n 1), (91, .iastore), (92, .aload_n 0), (93, .dup), (94, .getfield 309), (97, .iconst 1), (98, .iadd), (99, .putfield 309), (102, .iload_n 3), (103, .ireturn)]
def xq_163 : List (Nat × Instr) := [(0, .aload_n 0), (1, .iconst 0), (2, .iconst 4), (3, .iconst 1), (4, .invokevirtual 306), (7, .istore_n 2), (8, .lconst 0), (9, .lstore_n 3), (10, .iload_n 2), (11, .iconst 1), (12, .if_icmp .eq 8), (15, .iload_n 2), (16, .iconst 2), (17, .if_icmp .ne 47), (20, .iconst 0), (21, .istore 5), (23, .iload 5), (25, .iload_n 2), (26, .iconst 1), (27, .if_icmp .ne 7), (30, .iconst 4), (31, .goto 5), (34, .bipush 8), (36, .if_icmp .ge 28), (39, .lload_n 3), (40, .aload_n 0), (41, .iconst 0), (42, .sipush 255), (45, .iconst 1), (46, .invokevirtual 306), (49, .i2l), (50, .bipush 8), (52, .iload 5), (54, .imul), (55, .lshl), (56, .lor), (57, .lstore_n 3), (58, .iinc 5 1), (61, .goto (-38)), (64, .iload_n 2), (65, .iconst 2), (66, .if_icmp .le 17), (69, .aload_n 0), (70, .getfield 297), (73, .ifCond .ne 10), (76, .aload_n 0), (77, .iload_n 2), (78, .invokevirtual 318), (81, .i2l), (82, .lstore_n 3), (83, .aload_n 0), (84, .getfield 118), (87, .iload_n 1), (88, .iload_n 2), (89, .iastore), (90, .aload_n 0), (91, .getfield 130), (94, .iload_n 1), (95, .iload_n 2), (96, .iconst 1), (97, .if_icmp .ne 9), (100, .lload_n 3), (101, .l2i), (102, .i2l), (103, .goto 4), (106, .lload_n 3), (107, .lastore), (108, .return_)]
def xq_164 : List (Nat × Instr) := [(0, .aload_n 0), (1, .getfield 106), (4, .iload_n 1), (5, .aload_n 0), (6, .iconst 0), (7, .iconst 5), (8, .iconst 1), (9, .invokevirtual 306), (12, .iastore), (13, .aload_n 0), (14, .getfield 109), (17, .iload_n 1), (18, .aload_n 0), (19, .iconst 0), (20, .bipush 30), (22, .iconst 1), (23, .invokevirtual 306), (26, .iastore), (27, .aload_n 0), (28, .getfield 300), (31, .istore_n 2), (32, .aload_n 0), (33, .iconst 0), (34, .iconst 4), (35, .iconst 1), (36, .invokevirtual 306), (39, .istore_n 3), (40, .iload_n 3), (41, .ifCond .le 14), (44, .iload_n 3), (45, .iconst 4), (46, .if_icmp .ge 9), (49, .aload_n 0), (50, .iload_n 2), (51, .iconst 1), (52, .invokevirtual 303), (55, .aload_n 0), (56, .getfield 112), (59, .iload_n 1), (60, .iload_n 3), (61, .iconst 4), (62, .if_icmp .ne 18), (65, .aload_n 0), (66, .getfield 297), (69, .ifCond .ne 11), (72, .aload_n 0), (73, .iconst 4), (74, .invokevirtual 318), (77, .goto 4), (80, .iconst (-1)), (81, .iastore), (82, .iconst 0), (83, .istore 4), (85, .iload 4), (87, .iconst 4), (88, .if_icmp .ge 20), (91, .aload_n 0), (92, .bipush 10), (94, .iload_n 1), (95, .imul), (96, .iload 4), (98, .iadd), (99, .invokevirtual 321), (102, .iinc 4 1), (105, .goto (-20)), (108, .aload_n 0), (109, .getfield 115), (112, .iload_n 1), (113, .aload_n 0), (114, .iconst 0), (115, .bipush 6), (117, .iconst 1), (118, .invokevirtual 306), (121, .iastore), (122, .iconst 4), (123, .istore 4), (125, .iload 4), (127, .iconst 4), (128, .aload_n 0), (129, .getfield 115), (132, .iload_n 1), (133, .iaload), (134, .iadd), (135, .if_icmp .ge 27), (138, .aload_n 0), (139, .getfield 297), (142, .ifCond .ne 20), (145, .aload_n 0), (146, .bipush 10), (148, .iload_n 1), (149, .imul), (150, .iload 4), (152, .iadd), (153, .invokevirtual 321), (156, .iinc 4 1), (159, .goto (-34)), (162, .return_)]
def xq_165 : List (Nat × Instr) := [(0, .aload_n 0), (1, .getfield 97), (4, .iload_n 1), (5, .aload_n 0), (6, .iconst 0), (7, .iconst 2), (8, .iconst 1), (9, .invokevirtual 306), (12, .iastore), (13, .aload_n 0), (14, .getfield 103), (17, .iload_n 1), (18, .iconst 0), (19, .iastore), (20, .aload_n 0), (21, .getfield 100), (24, .iload_n 1), (25, .iconst 0), (26, .iastore), (27, .aload_n 0), (28, .getfield 297), (31, .ifCond .le 4), (34, .return_), (35, .aload_n 0), (36, .getfield 97), (39, .iload_n 1), (40, .iaload), (41, .ifCond .ne 55), (44, .aload_n 0), (45, .getfield 103), (48, .iload_n 1), (49, .aload_n 0), (50, .iconst 1), (51, .iconst 5), (52, .iconst 1), (53, .invokevirtual 306), (56, .iastore), (57, .iconst 5), (58, .iload_n 1), (59, .imul), (60, .istore_n 2), (61, .iload_n 2), (62, .iconst 5), (63, .iload_n 1), (64, .imul), (65, .aload_n 0), (66, .getfield 103), (69, .iload_n 1), (70, .iaload), (71, .iadd), (72, .if_icmp .ge 21), (75, .aload_n 0), (76, .getfield 297), (79, .ifCond .ne 14), (82, .aload_n 0), (83, .iload_n 2), (84, .invokevirtual 324), (87, .iinc 2 1), (90, .goto (-29)), (93, .goto 64), (96, .aload_n 0), (97, .getfield 97), (100, .iload_n 1), (101, .iaload), (102, .iconst 1), (103, .if_icmp .ne 15), (106, .aload_n 0), (107, .sipush 150), (110, .iload_n 1), (111, .iadd), (112, .invokevirtual 321), (115, .goto 42), (118, .aload_n 0), (119, .getfield 300), (122, .istore_n 2), (123, .aload_n 0), (124, .iconst 1), (125, .bipush 31), (127, .iconst 1), (128, .invokevirtual 306), (131, .istore_n 3), (132, .iload_n 3), (133, .bipush 7), (135, .if_icmp .le 15), (138, .iload_n 3), (139, .bipush 16), (141, .if_icmp .ge 9), (144, .aload_n 0), (145, .iload_n 2), (146, .iconst 1), (147, .invokevirtual 303), (150, .aload_n 0), (151, .getfield 100), (154, .iload_n 1), (155, .iload_n 3), (156, .iastore), (157, .return_)]
def xq_166 : List (Nat × Instr) := [(0, .aload_n 0), (1, .getfield 300), (4, .istore_n 2), (5, .aload_n 0), (6, .iconst 3), (7, .iconst 4), (8, .iconst 1), (9, .invokevirtual 306), (12, .istore_n 3), (13, .aload_n 0), (14, .getfield 297), (17, .ifCond .ne 27), (20, .iload_n 1), (21, .aload_n 0), (22, .getfield 309), (25, .if_icmp .ge 13), (28, .aload_n 0), (29, .getfield 121), (32, .iload_n 1), (33, .iaload), (34, .iload_n 3), (35, .if_icmp .eq 9), (38, .aload_n 0), (39, .iload_n 2), (40, .iconst 1), (41, .invokevirtual 303), (44, .aload_n 0), (45, .getfield 127), (48, .iload_n 1), (49, .iconst 0), (50, .iastore), (51, .iload_n 3), (52, .iconst 4), (53, .if_icmp .ne 29), (56, .aload_n 0), (57, .getfield 124), (60, .iload_n 1), (61, .aload_n 0), (62, .iconst 0), (63, .iconst 5), (64, .iconst 1), (65, .invokevirtual 306), (68, .iastore), (69, .aload_n 0), (70, .getfield 127), (73, .iload_n 1), (74, .aload_n 0), (75, .iconst 0), (76, .iconst 2), (77, .iconst 1), (78, .invokevirtual 306), (81, .iastore), (82, .iconst 0), (83, .istore 4), (85, .iload 4), (87, .iconst 3), (88, .if_icmp .ge 41), (91, .aload_n 0), (92, .getfield 118), (95, .sipush 160), (98, .iconst 3), (99, .iload_n 1), (100, .imul), (101, .iadd), (102, .iload 4), (104, .iadd), (105, .iconst 0), (106, .iastore), (107, .aload_n 0), (108, .getfield 130), (111, .sipush 160), (114, .iconst 3), (115, .iload_n 1), (116, .imul), (117, .iadd), (118, .iload 4), (120, .iadd), (121, .lconst 0), (122, .lastore), (123, .iinc 4 1), (126, .goto (-41)), (129, .iconst 0), (130, .istore 4), (132, .iload 4), (134, .iload_n 3), (135, .iconst 3), (136, .if_icmp .ne 7), (139, .iconst 3), (140, .goto 9), (143, .aload_n 0), (144, .getfield 127), (147, .iload_n 1), (148, .iaload), (149, .if_icmp .ge 30), (152, .aload_n 0), (153, .getfield 297), (156, .ifCond .ne 23), (159, .aload_n 0), (160, .sipush 160), (163, .iconst 3), (164, .iload_n 1), (165, .imul), (166, .iadd), (167, .iload 4), (169, .iadd), (170, .invokevirtual 321), (173, .iinc 4 1), (176, .goto (-44)), (179, .return_)]
def xq_167 : List (Nat × Instr) := [(0, .aload_n 0), (1, .bipush 83), (3, .bipush 83), (5, .iconst 1), (6, .invokevirtual 306), (9, .pop), (10, .aload_n 0), (11, .bipush 78), (13, .bipush 78), (15, .iconst 1), (16, .invokevirtual 306), (19, .pop), (20, .aload_n 0), (21, .iconst 1), (22, .iconst 1), (23, .iconst 1), (24, .invokevirtual 306), (27, .pop), (28, .aload_n 0), (29, .invokevirtual 285), (32, .istore_n 1), (33, .aload_n 0), (34, .iload_n 1), (35, .iload_n 1), (36, .iconst 2), (37, .invokevirtual 306), (40, .pop), (41, .aload_n 0), (42, .iconst 0), (43, .iconst 2), (44, .iconst 1), (45, .invokevirtual 306), (48, .istore_n 2), (49, .aload_n 0), (50, .iconst 0), (51, .iconst 3), (52, .iconst 1), (53, .invokevirtual 306), (56, .istore_n 3), (57, .aload_n 0), (58, .iconst 1), (59, .iconst 3), (60, .iconst 1), (61, .invokevirtual 306), (64, .istore 4), (66, .iconst 0), (67, .istore 5), (69, .iload 5), (71, .iload 4), (73, .if_icmp .ge 22), (76, .aload_n 0), (77, .getfield 297), (80, .ifCond .ne 15), (83, .aload_n 0), (84, .iload 5), (86, .invokevirtual 327), (89, .iinc 5 1), (92, .goto (-23)), (95, .aload_n 0), (96, .aload_n 0), (97, .aload_n 0), (98, .getfield 309), (101, .bipush 24), (103, .iconst 1), (104, .invokevirtual 306), (107, .putfield 315), (110, .aload_n 0), (111, .iconst 1), (112, .putfield 312), (115, .iconst 0), (116, .istore 5), (118, .iload 5), (120, .aload_n 0), (121, .getfield 315), (124, .if_icmp .ge 22), (127, .aload_n 0), (128, .getfield 297), (131, .ifCond .ne 15), (134, .aload_n 0), (135, .iload 5), (137, .invokevirtual 330), (140, .iinc 5 1), (143, .goto (-25)), (146, .aload_n 0), (147, .getfield 297), (150, .ifCond .ne 34), (153, .aload_n 0), (154, .getfield 300), (157, .aload_n 0), (158, .getfield 265), (161, .if_icmp .ge 23), (164, .aload_n 0), (165, .aload_n 0), (166, .getfield 300), (169, .invokevirtual 294), (172, .istore_n 1), (173, .aload_n 0), (174, .iload_n 1), (175, .iload_n 1), (176, .iconst 1), (177, .invokevirtual 306), (180, .pop), (181, .goto 12), (184, .aload_n 0), (185, .aload_n 0), (186, .getfield 265), (189, .iconst 1), (190, .invokevirtual 303), (193, .aload_n 0), (194, .getfield 300), (197, .aload_n 0), (198, .getfield 265), (201, .if_icmp .ge 12), (204, .aload_n 0), (205, .aload_n 0), (206, .getfield 300), (209, .iconst 1), (210, .invokevirtual 303), (213, .iconst 0), (214, .istore 5), (216, .iconst 0), (217, .istore 6), (219, .iload 6), (221, .iload 4), (223, .if_icmp .ge 29), (226, .aload_n 0), (227, .getfield 297), (230, .ifCond .ne 22), (233, .aload_n 0), (234, .getfield 97), (237, .iload 6), (239, .iaload), (240, .ifCond .ne 6), (243, .iconst 1), (244, .istore 5), (246, .iinc 6 1), (249, .goto (-30)), (252, .aload_n 0), (253, .getfield 297), (256, .ifCond .ne 29), (259, .iload_n 2), (260, .iload 4), (262, .if_icmp .ge 17), (265, .iload 5), (267, .ifCond .eq 18), (270, .aload_n 0), (271, .getfield 97), (274, .iload_n 2), (275, .iaload), (276, .ifCond .eq 9), (279, .aload_n 0), (280, .iconst 4), (281, .iconst 1), (282, .invokevirtual 303), (285, .aload_n 0), (286, .getfield 297), (289, .ifCond .le 5), (292, .iconst 0), (293, .ireturn), (294, .aload_n 0), (295, .iload_n 2), (296, .putfield 154), (299, .aload_n 0), (300, .iload_n 3), (301, .putfield 172), (304, .aload_n 0), (305, .iload 4), (307, .putfield 169), (310, .iload 4), (312, .ireturn)]
def xq_168 : List (Nat × Instr) := [(0, .aload_n 0), (1, .iconst 0), (2, .putfield 297), (5, .aload_n 0), (6, .bipush (-2)), (8, .putfield 93), (11, .aload_n 0), (12, .iconst 0), (13, .putfield 300), (16, .aload_n 0), (17, .iconst 0), (18, .putfield 309), (21, .aload_n 0), (22, .iconst 0), (23, .putfield 312), (26, .aload_n 0), (27, .invokevirtual 333), (30, .istore_n 1), (31, .aload_n 0), (32, .aload_n 0), (33, .getfield 297), (36, .putfield 133), (39, .aload_n 0), (40, .getfield 297), (43, .ifCond .le 5), (46, .iconst 0), (47, .ireturn), (48, .aload_n 0), (49, .iconst 1), (50, .putfield 165), (53, .aload_n 0), (54, .aload_n 0), (55, .getfield 315), (58, .putfield 181), (61, .iconst 0), (62, .istore_n 2), (63, .iload_n 2), (64, .iload_n 1), (65, .if_icmp .ge 45), (68, .aload_n 0), (69, .getfield 37), (72, .iload_n 2), (73, .aload_n 0), (74, .getfield 97), (77, .iload_n 2), (78, .iaload), (79, .iastore), (80, .aload_n 0), (81, .getfield 40), (84, .iload_n 2), (85, .aload_n 0), (86, .getfield 100), (89, .iload_n 2), (90, .iaload), (91, .iastore), (92, .aload_n 0), (93, .getfield 43), (96, .iload_n 2), (97, .aload_n 0), (98, .getfield 103), (101, .iload_n 2), (102, .iaload), (103, .iastore), (104, .iinc 2 1), (107, .goto (-44)), (110, .iconst 0), (111, .istore_n 2), (112, .iload_n 2), (113, .bipush 15), (115, .if_icmp .ge 57), (118, .aload_n 0), (119, .getfield 46), (122, .iload_n 2), (123, .aload_n 0), (124, .getfield 106), (127, .iload_n 2), (128, .iaload), (129, .iastore), (130, .aload_n 0), (131, .getfield 49), (134, .iload_n 2), (135, .aload_n 0), (136, .getfield 109), (139, .iload_n 2), (140, .iaload), (141, .iastore), (142, .aload_n 0), (143, .getfield 52), (146, .iload_n 2), (147, .aload_n 0), (148, .getfield 112), (151, .iload_n 2), (152, .iaload), (153, .iastore), (154, .aload_n 0), (155, .getfield 55), (158, .iload_n 2), (159, .aload_n 0), (160, .getfield 115), (163, .iload_n 2), (164, .iaload), (165, .iastore), (166, .iinc 2 1), (169, .goto (-57)), (172, .iconst 0), (173, .istore_n 2), (174, .iload_n 2), (175, .sipush 240), (178, .if_icmp .ge 26), (181, .aload_n 0), (182, .iload_n 2), (183, .aload_n 0), (184, .getfield 118), (187, .iload_n 2), (188, .iaload), (189, .aload_n 0), (190, .getfield 130), (193, .iload_n 2), (194, .laload), (195, .invokevirtual 150), (198, .iinc 2 1), (201, .goto (-27)), (204, .iconst 0), (205, .istore_n 2), (206, .iload_n 2), (207, .bipush 24), (209, .if_icmp .ge 64), (212, .aload_n 0), (213, .getfield 65), (216, .iload_n 2), (217, .iload_n 2), (218, .aload_n 0), (219, .getfield 315), (222, .if_icmp .ge 7), (225, .iconst 1), (226, .goto 4), (229, .iconst 0), (230, .bastore), (231, .aload_n 0), (232, .getfield 72), (235, .iload_n 2), (236, .aload_n 0), (237, .getfield 121), (240, .iload_n 2), (241, .iaload), (242, .iastore), (243, .aload_n 0), (244, .getfield 75), (247, .iload_n 2), (248, .aload_n 0), (249, .getfield 124), (252, .iload_n 2), (253, .iaload), (254, .iastore), (255, .aload_n 0), (256, .getfield 78), (259, .iload_n 2), (260, .aload_n 0), (261, .getfield 127), (264, .iload_n 2), (265, .iaload), (266, .iastore), (267, .iinc 2 1), (270, .goto (-64)), (273, .iload_n 1), (274, .ireturn)]
def xq_169 : List (Nat × Instr) := [(0, .aload_n 0), (1, .iconst 0), (2, .putfield 133), (5, .aload_n 0), (6, .getfield 93), (9, .ireturn)]
def xq_170 : List (Nat × Instr) := [(0, .aload_n 0), (1, .iload_n 1), (2, .iconst (-1)), (3, .aload_n 0), (4, .getfield 265), (7, .iconst 1), (8, .isub), (9, .invokestatic 136), (12, .ifCond .eq 7), (15, .iconst 0), (16, .goto 4), (19, .iconst 1), (20, .putfield 133), (23, .aload_n 0), (24, .getfield 133), (27, .ifCond .le 7), (30, .iconst 0), (31, .goto 20), (34, .iload_n 1), (35, .ifCond .ge 10), (38, .aload_n 0), (39, .getfield 265), (42, .goto 9), (45, .aload_n 0), (46, .getfield 84), (49, .iload_n 1), (50, .iaload), (51, .ireturn)]
def xq_171 : List (Nat × Instr) := [(0, .iload_n 2), (1, .iconst 0), (2, .sipush 255), (5, .invokestatic 136), (8, .ifCond .ne 9), (11, .aload_n 0), (12, .iconst 1), (13, .invokevirtual 140), (16, .ireturn), (17, .iload_n 1), (18, .iconst 0), (19, .aload_n 0), (20, .getfield 265), (23, .invokestatic 136), (26, .ifCond .eq 13), (29, .aload_n 0), (30, .getfield 265), (33, .sipush 2400), (36, .if_icmp .ne 9), (39, .aload_n 0), (40, .iconst 2), (41, .invokevirtual 140), (44, .ireturn), (45, .aload_n 0), (46, .iconst 0), (47, .putfield 133), (50, .iload_n 1), (51, .aload_n 0), (52, .getfield 265), (55, .if_icmp .ge 12), (58, .aload_n 0), (59, .getfield 84), (62, .iload_n 1), (63, .iaload), (64, .goto 4), (67, .iconst (-1)), (68, .istore 4), (70, .aload_n 0), (71, .getfield 84), (74, .iload_n 1), (75, .iload_n 2), (76, .iastore), (77, .iload_n 1), (78, .aload_n 0), (79, .getfield 265), (82, .if_icmp .ne 16), (85, .aload_n 0), (86, .dup), (87, .getfield 265), (90, .iconst 1), (91, .iadd), (92, .putfield 265), (95, .goto 48), (98, .iload_n 3), (99, .ifCond .eq 44), (102, .iload_n 1), (103, .aload_n 0), (104, .getfield 265), (107, .iconst 1), (108, .isub), (109, .if_icmp .ge 34), (112, .aload_n 0), (113, .getfield 84), (116, .aload_n 0), (117, .getfield 265), (120, .iconst 1), (121, .isub), (122, .aload_n 0), (123, .getfield 84), (126, .aload_n 0), (127, .getfield 265), (130, .iconst 1), (131, .isub), (132, .iaload), (133, .iload_n 2), (134, .iadd), (135, .iload 4), (137, .isub), (138, .sipush 255), (141, .iand), (142, .iastore), (143, .iload 4), (145, .ireturn)]
def xq_172 : List (Nat × Instr) := [(0, .iload_n 1), (1, .iconst 0), (2, .aload_n 0), (3, .getfield 265), (6, .invokestatic 136), (9, .ifCond .ne 9), (12, .aload_n 0), (13, .iconst 1), (14, .invokevirtual 140), (17, .ireturn), (18, .aload_n 0), (19, .iconst 0), (20, .putfield 133), (23, .aload_n 0), (24, .getfield 265), (27, .iload_n 1), (28, .isub), (29, .istore_n 2), (30, .aload_n 0), (31, .iload_n 1), (32, .putfield 265), (35, .iload_n 2), (36, .ireturn)]
def xq_173 : List (Nat × Instr) := [(0, .aload_n 3), (1, .iconst 0), (2, .aload_n 0), (3, .iload_n 1), (4, .iload_n 2), (5, .invokevirtual 7), (8, .i2l), (9, .lastore), (10, .goto 7), (13, .astore 4), (15, .iconst 1), (16, .ireturn), (17, .iconst 0), (18, .ireturn)]
def xq_174 : List (Nat × Instr) := [(0, .aload 5), (2, .iconst 0), (3, .aload_n 0), (4, .iload_n 1), (5, .iload_n 2), (6, .iload_n 3), (7, .iload 4), (9, .invokevirtual 15), (12, .i2l), (13, .lastore), (14, .goto 11), (17, .astore 6), (19, .iconst 1), (20, .ireturn), (21, .astore 6), (23, .iconst 2), (24, .ireturn), (25, .iconst 0), (26, .ireturn)]
def xq_175 : List (Nat × Instr) := [(0, .aload 5), (2, .iconst 0), (3, .aload_n 0), (4, .iload_n 1), (5, .iload_n 2), (6, .iload_n 3), (7, .iload 4), (9, .invokevirtual 21), (12, .i2l), (13, .lastore), (14, .goto 11), (17, .astore 6), (19, .iconst 1), (20, .ireturn), (21, .astore 6), (23, .iconst 2), (24, .ireturn), (25, .iconst 0), (26, .ireturn)]
def xq_176 : List (Nat × Instr) := [(0, .aload 4), (2, .iconst 0), (3, .aload_n 0), (4, .iload_n 1), (5, .iload_n 2), (6, .iload_n 3), (7, .invokevirtual 24), (10, .i2l), (11, .lastore), (12, .goto 7), (15, .astore 5), (17, .iconst 1), (18, .ireturn), (19, .iconst 0), (20, .ireturn)]
def xq_177 : List (Nat × Instr) := [(0, .aload_n 2), (1, .iconst 0), (2, .aload_n 0), (3, .iload_n 1), (4, .invokevirtual 28), (7, .i2l), (8, .lastore), (9, .goto 9), (12, .astore_n 3), (13, .iconst 1), (14, .ireturn), (15, .astore_n 3), (16, .iconst 2), (17, .ireturn), (18, .iconst 0), (19, .ireturn)]
def xq_178 : List (Nat × Instr) := [(0, .aload_n 2), (1, .iconst 0), (2, .aload_n 0), (3, .iload_n 1), (4, .invokevirtual 32), (7, .lastore), (8, .goto 6), (11, .astore_n 3), (12, .iconst 1), (13, .ireturn), (14, .iconst 0), (15, .ireturn)]
def xq_179 : List (Nat × Instr) := [(0, .aload_n 2), (1, .iconst 0), (2, .aload_n 0), (3, .iload_n 1), (4, .invokevirtual 38), (7, .lastore), (8, .goto 12), (11, .astore_n 3), (12, .iconst 1), (13, .ireturn), (14, .astore_n 3), (15, .iconst 2), (16, .ireturn), (17, .astore_n 3), (18, .iconst 3), (19, .ireturn), (20, .iconst 0), (21, .ireturn)]
def xq_180 : List (Nat × Instr) := [(0, .aload_n 2), (1, .iconst 0), (2, .aload_n 0), (3, .iload_n 1), (4, .invokevirtual 43), (7, .i2l), (8, .lastore), (9, .goto 6), (12, .astore_n 3), (13, .iconst 1), (14, .ireturn), (15, .iconst 0), (16, .ireturn)]
def xq_181 : List (Nat × Instr) := [(0, .aload_n 1), (1, .iconst 0), (2, .aload_n 0), (3, .invokevirtual 46), (6, .i2l), (7, .lastore), (8, .goto 6), (11, .astore_n 2), (12, .iconst 1), (13, .ireturn), (14, .iconst 0), (15, .ireturn)]
def xq_182 : List (Nat × Instr) := [(0, .aload_n 1), (1, .iconst 0), (2, .aload_n 0), (3, .invokevirtual 50), (6, .i2l), (7, .lastore), (8, .goto 9), (11, .astore_n 2), (12, .iconst 1), (13, .ireturn), (14, .astore_n 2), (15, .iconst 2), (16, .ireturn), (17, .iconst 0), (18, .ireturn)]
def xq_183 : List (Nat × Instr) := [(0, .aload_n 2), (1, .iconst 0), (2, .aload_n 0), (3, .iload_n 1), (4, .invokevirtual 53), (7, .i2l), (8, .lastore), (9, .goto 6), (12, .astore_n 3), (13, .iconst 1), (14, .ireturn), (15, .iconst 0), (16, .ireturn)]
def xq_184 : List (Nat × Instr) := [(0, .aload 4), (2, .iconst 0), (3, .aload_n 0), (4, .iload_n 1), (5, .iload_n 2), (6, .iload_n 3), (7, .invokevirtual 56), (10, .i2l), (11, .lastore), (12, .goto 11), (15, .astore 5), (17, .iconst 1), (18, .ireturn), (19, .astore 5), (21, .iconst 2), (22, .ireturn), (23, .iconst 0), (24, .ireturn)]
def xq_185 : List (Nat × Instr) := [(0, .aload_n 2), (1, .iconst 0), (2, .aload_n 0), (3, .iload_n 1), (4, .invokevirtual 60), (7, .i2l), (8, .lastore), (9, .goto 6), (12, .astore_n 3), (13, .iconst 1), (14, .ireturn), (15, .iconst 0), (16, .ireturn)]
def xq_186 : List (Nat × Instr) := [(0, .new 8), (3, .dup), (4, .invokespecial 63), (7, .astore_n 1), (8, .new 64), (11, .dup), (12, .invokespecial 66), (15, .astore_n 2), (16, .iconst 1), (17, .newarray .long), (19, .astore_n 3), (20, .iconst 0), (21, .istore 4), (23, .iload 4), (25, .aload_n 0), (26, .arraylength), (27, .iconst 5), (28, .isub), (29, .if_icmp .gt 948), (32, .aload_n 0), (33, .iload 4), (35, .iaload), (36, .bipush 15), (38, .iand), (39, .tableswitch 932 0 13 #[69, 137, 229, 321, 401, 457, 512, 567, 623, 667, 711, 724, 780, 876]), (108, .aload_n 1), (109, .aload_n 0), (110, .iload 4), (112, .iconst 1), (113, .iadd), (114, .iaload), (115, .aload_n 0), (116, .iload 4), (118, .iconst 2), (119, .iadd), (120, .iaload), (121, .aload_n 3), (122, .invokestatic 67), (125, .istore 5), (127, .aload_n 2), (128, .aload_n 0), (129, .iload 4), (131, .iconst 1), (132, .iadd), (133, .iaload), (134, .aload_n 0), (135, .iload 4), (137, .iconst 2), (138, .iadd), (139, .iaload), (140, .invokevirtual 72), (143, .istore 6), (145, .aload_n 2), (146, .invokevirtual 73), (149, .iload 5), (151, .if_icmp .eq 5), (154, .iconst 0), (155, .ireturn), (156, .iload 5), (158, .ifCond .ne 15), (161, .aload_n 3), (162, .iconst 0), (163, .laload), (164, .iload 6), (166, .i2l), (167, .lcmp), (168, .ifCond .eq 5), (171, .iconst 0), (172, .ireturn), (173, .goto 798), (176, .aload_n 1), (177, .aload_n 0), (178, .iload 4), (180, .iconst 1), (181, .iadd), (182, .iaload), (183, .aload_n 0), (184, .iload 4), (186, .iconst 2), (187, .iadd), (188, .iaload), (189, .aload_n 0), (190, .iload 4), (192, .iconst 3), (193, .iadd), (194, .iaload), (195, .aload_n 0), (196, .iload 4), (198, .iconst 4), (199, .iadd), (200, .iaload), (201, .aload_n 3), (202, .invokestatic 76), (205, .istore 5), (207, .aload_n 2), (208, .aload_n 0), (209, .iload 4), (211, .iconst 1), (212, .iadd), (213, .iaload), (214, .aload_n 0), (215, .iload 4), (217, .iconst 2), (218, .iadd), (219, .iaload), (220, .aload_n 0), (221, .iload 4), (223, .iconst 3), (224, .iadd), (225, .iaload), (226, .aload_n 0), (227, .iload 4), (229, .iconst 4), (230, .iadd), (231, .iaload), (232, .invokevirtual 79), (235, .istore 6), (237, .aload_n 2), (238, .invokevirtual 73), (241, .iload 5), (243, .if_icmp .eq 5), (246, .iconst 0), (247, .ireturn), (248, .iload 5), (250, .ifCond .ne 15), (253, .aload_n 3), (254, .iconst 0), (255, .laload), (256, .iload 6), (258, .i2l), (259, .lcmp), (260, .ifCond .eq 5), (263, .iconst 0), (264, .ireturn), (265, .goto 706), (268, .aload_n 1), (269, .aload_n 0), (270, .iload 4), (272, .iconst 1), (273, .iadd), (274, .iaload), (275, .aload_n 0), (276, .iload 4), (278, .iconst 2), (279, .iadd), (280, .iaload), (281, .aload_n 0), (282, .iload 4), (284, .iconst 3), (285, .iadd), (286, .iaload), (287, .aload_n 0), (288, .iload 4), (290, .iconst 4), (291, .iadd), (292, .iaload), (293, .aload_n 3), (294, .invokestatic 80), (297, .istore 5), (299, .aload_n 2), (300, .aload_n 0), (301, .iload 4), (303, .iconst 1), (304, .iadd), (305, .iaload), (306, .aload_n 0), (307, .iload 4), (309, .iconst 2), (310, .iadd), (311, .iaload), (312, .aload_n 0), (313, .iload 4), (315, .iconst 3), (316, .iadd), (317, .iaload), (318, .aload_n 0), (319, .iload 4), (321, .iconst 4), (322, .iadd), (323, .iaload), (324, .invokevirtual 82), (327, .istore 6), (329, .aload_n 2), (330, .invokevirtual 73), (333, .iload 5), (335, .if_icmp .eq 5), (338, .iconst 0), (339, .ireturn), (340, .iload 5), (342, .ifCond .ne 15), (345, .aload_n 3), (346, .iconst 0), (347, .laload), (348, .iload 6), (350, .i2l), (351, .lcmp), (352, .ifCond .eq 5), (355, .iconst 0), (356, .ireturn), (357, .goto 614), (360, .aload_n 1), (361, .aload_n 0), (362, .iload 4), (364, .iconst 1), (365, .iadd), (366, .iaload), (367, .aload_n 0), (368, .iload 4), (370, .iconst 2), (371, .iadd), (372, .iaload), (373, .aload_n 0), (374, .iload 4), (376, .iconst 3), (377, .iadd), (378, .iaload), (379, .aload_n 3), (380, .invokestatic 83), (383, .istore 5), (385, .aload_n 2), (386, .aload_n 0), (387, .iload 4), (389, .iconst 1), (390, .iadd), (391, .iaload), (392, .aload_n 0), (393, .iload 4), (395, .iconst 2), (396, .iadd), (397, .iaload), (398, .aload_n 0), (399, .iload 4), (401, .iconst 3), (402, .iadd), (403, .iaload), (404, .invokevirtual 86), (407, .istore 6), (409, .aload_n 2), (410, .invokevirtual 73), (413, .iload 5), (415, .if_icmp .eq 5), (418, .iconst 0), (419, .ireturn), (420, .iload 5), (422, .ifCond .ne 15), (425, .aload_n 3), (426, .iconst 0), (427, .laload), (428, .iload 6), (430, .i2l), (431, .lcmp), (432, .ifCond .eq 5), (435, .iconst 0), (436, .ireturn), (437, .goto 534), (440, .aload_n 1), (441, .aload_n 0), (442, .iload 4), (444, .iconst 1), (445, .iadd), (446, .iaload), (447, .aload_n 3), (448, .invokestatic 87), (451, .istore 5), (453, .aload_n 2), (454, .aload_n 0), (455, .iload 4), (457, .iconst 1), (458, .iadd), (459, .iaload), (460, .invokevirtual 90), (463, .istore 6), (465, .aload_n 2), (466, .invokevirtual 73), (469, .iload 5), (471, .if_icmp .eq 5), (474, .iconst 0), (475, .ireturn), (476, .iload 5), (478, .ifCond .ne 15), (481, .aload_n 3), (482, .iconst 0), (483, .laload), (484, .iload 6), (486, .i2l), (487, .lcmp), (488, .ifCond .eq 5), (491, .iconst 0), (492, .ireturn), (493, .goto 478), (496, .aload_n 1), (497, .aload_n 0), (498, .iload 4), (500, .iconst 1), (501, .iadd), (502, .iaload), (503, .aload_n 3), (504, .invokestatic 91), (507, .istore 5), (509, .aload_n 2), (510, .aload_n 0), (511, .iload 4), (513, .iconst 1), (514, .iadd), (515, .iaload), (516, .invokevirtual 93), (519, .lstore 6), (521, .aload_n 2), (522, .invokevirtual 73), (525, .iload 5), (527, .if_icmp .eq 5), (530, .iconst 0), (531, .ireturn), (532, .iload 5), (534, .ifCond .ne 14), (537, .aload_n 3), (538, .iconst 0), (539, .laload), (540, .lload 6), (542, .lcmp), (543, .ifCond .eq 5), (546, .iconst 0), (547, .ireturn), (548, .goto 423), (551, .aload_n 1), (552, .aload_n 0), (553, .iload 4), (555, .iconst 1), (556, .iadd), (557, .iaload), (558, .aload_n 3), (559, .invokestatic 94), (562, .istore 5), (564, .aload_n 2), (565, .aload_n 0), (566, .iload 4), (568, .iconst 1), (569, .iadd), (570, .iaload), (571, .invokevirtual 96), (574, .lstore 6), (576, .aload_n 2), (577, .invokevirtual 73), (580, .iload 5), (582, .if_icmp .eq 5), (585, .iconst 0), (586, .ireturn), (587, .iload 5), (589, .ifCond .ne 14), (592, .aload_n 3), (593, .iconst 0), (594, .laload), (595, .lload 6), (597, .lcmp), (598, .ifCond .eq 5), (601, .iconst 0), (602, .ireturn), (603, .goto 368), (606, .aload_n 1), (607, .aload_n 0), (608, .iload 4), (610, .iconst 1), (611, .iadd), (612, .iaload), (613, .aload_n 3), (614, .invokestatic 97), (617, .istore 5), (619, .aload_n 2), (620, .aload_n 0), (621, .iload 4), (623, .iconst 1), (624, .iadd), (625, .iaload), (626, .invokevirtual 99), (629, .istore 6), (631, .aload_n 2), (632, .invokevirtual 73), (635, .iload 5), (637, .if_icmp .eq 5), (640, .iconst 0), (641, .ireturn), (642, .iload 5), (644, .ifCond .ne 15), (647, .aload_n 3), (648, .iconst 0), (649, .laload), (650, .iload 6), (652, .i2l), (653, .lcmp), (654, .ifCond .eq 5), (657, .iconst 0), (658, .ireturn), (659, .goto 312), (662, .aload_n 1), (663, .aload_n 3), (664, .invokestatic 100), (667, .istore 5), (669, .aload_n 2), (670, .invokevirtual 103), (673, .istore 6), (675, .aload_n 2), (676, .invokevirtual 73), (679, .iload 5), (681, .if_icmp .eq 5), (684, .iconst 0), (685, .ireturn), (686, .iload 5), (688, .ifCond .ne 15), (691, .aload_n 3), (692, .iconst 0), (693, .laload), (694, .iload 6), (696, .i2l), (697, .lcmp), (698, .ifCond .eq 5), (701, .iconst 0), (702, .ireturn), (703, .goto 268), (706, .aload_n 1), (707, .aload_n 3), (708, .invokestatic 104), (711, .istore 5), (713, .aload_n 2), (714, .invokevirtual 106), (717, .istore 6), (719, .aload_n 2), (720, .invokevirtual 73), (723, .iload 5), (725, .if_icmp .eq 5), (728, .iconst 0), (729, .ireturn), (730, .iload 5), (732, .ifCond .ne 15), (735, .aload_n 3), (736, .iconst 0), (737, .laload), (738, .iload 6), (740, .i2l), (741, .lcmp), (742, .ifCond .eq 5), (745, .iconst 0), (746, .ireturn), (747, .goto 224), (750, .aload_n 1), (751, .invokevirtual 107), (754, .aload_n 2), (755, .invokevirtual 110), (758, .if_icmp .eq 213), (761, .iconst 0), (762, .ireturn), (763, .aload_n 1), (764, .aload_n 0), (765, .iload 4), (767, .iconst 1), (768, .iadd), (769, .iaload), (770, .aload_n 3), (771, .invokestatic 111), (774, .istore 5), (776, .aload_n 2), (777, .aload_n 0), (778, .iload 4), (780, .iconst 1), (781, .iadd), (782, .iaload), (783, .invokevirtual 113), (786, .istore 6), (788, .aload_n 2), (789, .invokevirtual 73), (792, .iload 5), (794, .if_icmp .eq 5), (797, .iconst 0), (798, .ireturn), (799, .iload 5), (801, .ifCond .ne 15), (804, .aload_n 3), (805, .iconst 0), (806, .laload), (807, .iload 6), (809, .i2l), (810, .lcmp), (811, .ifCond .eq 5), (814, .iconst 0), (815, .ireturn), (816, .goto 155), (819, .aload_n 1), (820, .aload_n 0), (821, .iload 4), (823, .iconst 1), (824, .iadd), (825, .iaload), (826, .aload_n 0), (827, .iload 4), (829, .iconst 2), (830, .iadd), (831, .iaload), (832, .aload_n 0), (833, .iload 4), (835, .iconst 3), (836, .iadd), (837, .iaload), (838, .ifCond .eq 7), (841, .iconst 1), (842, .goto 4), (845, .iconst 0), (846, .aload_n 3), (847, .invokestatic 114), (850, .istore 5), (852, .aload_n 2), (853, .aload_n 0), (854, .iload 4), (856, .iconst 1), (857, .iadd), (858, .iaload), (859, .aload_n 0), (860, .iload 4), (862, .iconst 2), (863, .iadd), (864, .iaload), (865, .aload_n 0), (866, .iload 4), (868, .iconst 3), (869, .iadd), (870, .iaload), (871, .ifCond .eq 7), (874, .iconst 1), (875, .goto 4), (878, .iconst 0), (879, .invokevirtual 117), (882, .istore 6), (884, .aload_n 2), (885, .invokevirtual 73), (888, .iload 5), (890, .if_icmp .eq 5), (893, .iconst 0), (894, .ireturn), (895, .iload 5), (897, .ifCond .ne 15), (900, .aload_n 3), (901, .iconst 0), (902, .laload), (903, .iload 6), (905, .i2l), (906, .lcmp), (907, .ifCond .eq 5), (910, .iconst 0), (911, .ireturn), (912, .goto 59), (915, .aload_n 1), (916, .aload_n 0), (917, .iload 4), (919, .iconst 1), (920, .iadd), (921, .iaload), (922, .aload_n 3), (923, .invokestatic 118), (926, .istore 5), (928, .aload_n 2), (929, .aload_n 0), (930, .iload 4), (932, .iconst 1), (933, .iadd), (934, .iaload), (935, .invokevirtual 120), (938, .istore 6), (940, .aload_n 2), (941, .invokevirtual 73), (944, .iload 5), (946, .if_icmp .eq 5), (949, .iconst 0), (950, .ireturn), (951, .iload 5), (953, .ifCond .ne 15), (956, .aload_n 3), (957, .iconst 0), (958, .laload), (959, .iload 6), (961, .i2l), (962, .lcmp), (963, .ifCond .eq 5), (966, .iconst 0), (967, .ireturn), (968, .goto 3), (971, .iinc 4 5), (974, .goto (-951)), (977, .iconst 1), (978, .ireturn)]
def xc_all : List (List (Nat × Instr)) := [xq_0, xq_1, xq_2, xq_3, xq_4, xq_5, xq_6, xq_7, xq_8, xq_9, xq_10, xq_11, xq_12, xq_13, xq_14, xq_15, xq_16, xq_17, xq_18, xq_19, xq_20, xq_21, xq_22, xq_23, xq_24, xq_25, xq_26, xq_27, xq_28, xq_29, xq_30, xq_31, xq_32, xq_33, xq_34, xq_35, xq_36, xq_37, xq_38, xq_39, xq_40, xq_41, xq_42, xq_43, xq_44, xq_45, xq_46, xq_47, xq_48, xq_49, xq_50, xq_51, xq_52, xq_53, xq_54, xq_55, xq_56, xq_57, xq_58, xq_59, xq_60, xq_61, xq_62, xq_63, xq_64, xq_65, xq_66, xq_67, xq_68, xq_69, xq_70, xq_71, xq_72, xq_73, xq_74, xq_75, xq_76, xq_77, xq_78, xq_79, xq_80, xq_81, xq_82, xq_83, xq_84, xq_85, xq_86, xq_87, xq_88, xq_89, xq_90, xq_91, xq_92, xq_93, xq_94, xq_95, xq_96, xq_97, xq_98, xq_99, xq_100, xq_101, xq_102, xq_103, xq_104, xq_105, xq_106, xq_107, xq_108, xq_109, xq_110, xq_111, xq_112, xq_113, xq_114, xq_115, xq_116, xq_117, xq_118, xq_119, xq_120, xq_121, xq_122, xq_123, xq_124, xq_125, xq_126, xq_127, xq_128, xq_129, xq_130, xq_131, xq_132, xq_133, xq_134, xq_135, xq_136, xq_137, xq_138, xq_139, xq_140, xq_141, xq_142, xq_143, xq_144, xq_145, xq_146, xq_147, xq_148, xq_149, xq_150, xq_151, xq_152, xq_153, xq_154, xq_155, xq_156, xq_157, xq_158, xq_159, xq_160, xq_161, xq_162, xq_163, xq_164, xq_165, xq_166, xq_167, xq_168, xq_169, xq_170, xq_171, xq_172, xq_173, xq_174, xq_175, xq_176, xq_177, xq_178, xq_179, xq_180, xq_181, xq_182, xq_183, xq_184, xq_185, xq_186]
def xc_code (y pc : Nat) : Option Instr := ((xc_all.getD y []).find? (fun e => e.1 == pc)).map (fun e => e.2)
def xc_thrs : List (Nat × Nat) := [(1, 16), (2, 42), (2, 64), (3, 33), (3, 54), (4, 7), (5, 11), (5, 32), (6, 21), (7, 18), (7, 47), (7, 66), (8, 37), (9, 13), (10, 28), (10, 48), (12, 28), (13, 11), (13, 47), (14, 15)]
def xc_thr (y pc : Nat) : Bool := xc_thrs.contains (y, pc)
/-- how long an instruction is; 0: the switches -/
def xlen (i : Instr) : Nat := match i with
  | .bipush _ => 2 | .sipush _ => 3 | .ldc _ => 2 | .ldc2_w _ => 3 | .iload _ => 2 | .lload _ => 2 | .aload _ => 2 | .istore _ => 2 | .lstore _ => 2 | .astore _ => 2 | .iinc _ _ => 3
  | .ifCond _ _ => 3 | .if_icmp _ _ => 3 | .ifnull _ => 3 | .ifnonnull _ => 3 | .goto _ => 3 | .tableswitch _ _ _ _ => 0 | .lookupswitch _ _ => 0
  | .getfield _ => 3 | .putfield _ => 3 | .getstatic _ => 3 | .new _ => 3 | .newarray _ => 2 | .anewarray _ => 3 | .invokevirtual _ => 3 | .invokespecial _ => 3 | .invokestatic _ => 3
  | _ => 1
end
section
-- the tables' instructions are what the bytes decode to
def xdc1 (y : Nat) (e : Nat × Instr) : Bool := match decode (xc_b y) e.1 with
  | .ok (i, l) => decide (i = e.2) && (decide (xlen i = 0) || decide (l = xlen i))
  | .error _ => false
def xdc (y : Nat) : Bool := (xc_all.getD y []).all (xdc1 y)
set_option maxRecDepth 100000 in
theorem xdc_0 : (List.range' 0 12).all xdc = true := by decide +kernel
set_option maxRecDepth 100000 in
theorem xdc_12 : (List.range' 12 12).all xdc = true := by decide +kernel
set_option maxRecDepth 100000 in
theorem xdc_24 : (List.range' 24 12).all xdc = true := by decide +kernel
set_option maxRecDepth 100000 in
theorem xdc_36 : (List.range' 36 12).all xdc = true := by decide +kernel
set_option maxRecDepth 100000 in
theorem xdc_48 : (List.range' 48 12).all xdc = true := by decide +kernel
set_option maxRecDepth 100000 in
theorem xdc_60 : (List.range' 60 12).all xdc = true := by decide +kernel
set_option maxRecDepth 100000 in
theorem xdc_72 : (List.range' 72 12).all xdc = true := by decide +kernel
set_option maxRecDepth 100000 in
theorem xdc_84 : (List.range' 84 12).all xdc = true := by decide +kernel
set_option maxRecDepth 100000 in
theorem xdc_96 : (List.range' 96 12).all xdc = true := by decide +kernel
set_option maxRecDepth 100000 in
theorem xdc_108 : (List.range' 108 12).all xdc = true := by decide +kernel
set_option maxRecDepth 100000 in
theorem xdc_120 : (List.range' 120 12).all xdc = true := by decide +kernel
set_option maxRecDepth 100000 in
theorem xdc_132 : (List.range' 132 12).all xdc = true := by decide +kernel
set_option maxRecDepth 100000 in
theorem xdc_144 : (List.range' 144 12).all xdc = true := by decide +kernel
set_option maxRecDepth 100000 in
theorem xdc_156 : (List.range' 156 12).all xdc = true := by decide +kernel
set_option maxRecDepth 100000 in
theorem xdc_168 : (List.range' 168 12).all xdc = true := by decide +kernel
set_option maxRecDepth 100000 in
theorem xdc_180 : (List.range' 180 6).all xdc = true := by decide +kernel
end
section
-- the law's own code, in slices
set_option maxRecDepth 100000 in
theorem xdcL_0 : ((xq_186.drop 0).take 40).all (xdc1 186) = true := by decide +kernel
set_option maxRecDepth 100000 in
theorem xdcL_40 : ((xq_186.drop 40).take 40).all (xdc1 186) = true := by decide +kernel
set_option maxRecDepth 100000 in
theorem xdcL_80 : ((xq_186.drop 80).take 40).all (xdc1 186) = true := by decide +kernel
set_option maxRecDepth 100000 in
theorem xdcL_120 : ((xq_186.drop 120).take 40).all (xdc1 186) = true := by decide +kernel
set_option maxRecDepth 100000 in
theorem xdcL_160 : ((xq_186.drop 160).take 40).all (xdc1 186) = true := by decide +kernel
set_option maxRecDepth 100000 in
theorem xdcL_200 : ((xq_186.drop 200).take 40).all (xdc1 186) = true := by decide +kernel
set_option maxRecDepth 100000 in
theorem xdcL_240 : ((xq_186.drop 240).take 40).all (xdc1 186) = true := by decide +kernel
set_option maxRecDepth 100000 in
theorem xdcL_280 : ((xq_186.drop 280).take 40).all (xdc1 186) = true := by decide +kernel
set_option maxRecDepth 100000 in
theorem xdcL_320 : ((xq_186.drop 320).take 40).all (xdc1 186) = true := by decide +kernel
set_option maxRecDepth 100000 in
theorem xdcL_360 : ((xq_186.drop 360).take 40).all (xdc1 186) = true := by decide +kernel
set_option maxRecDepth 100000 in
theorem xdcL_400 : ((xq_186.drop 400).take 40).all (xdc1 186) = true := by decide +kernel
set_option maxRecDepth 100000 in
theorem xdcL_440 : ((xq_186.drop 440).take 40).all (xdc1 186) = true := by decide +kernel
set_option maxRecDepth 100000 in
theorem xdcL_480 : ((xq_186.drop 480).take 40).all (xdc1 186) = true := by decide +kernel
set_option maxRecDepth 100000 in
theorem xdcL_520 : ((xq_186.drop 520).take 40).all (xdc1 186) = true := by decide +kernel
set_option maxRecDepth 100000 in
theorem xdcL_560 : ((xq_186.drop 560).take 40).all (xdc1 186) = true := by decide +kernel
theorem xall_split {α : Type} (p : α → Bool) (L : List α) (k n : Nat) (h : ((L.drop k).take n).all p = true) (h2 : (L.drop (k + n)).all p = true) : (L.drop k).all p = true := by
  rw [← List.take_append_drop n (L.drop k), List.all_append, h, List.drop_drop, h2]; rfl
set_option maxRecDepth 100000 in
theorem xdcL_end : (xq_186.drop 600).all (xdc1 186) = true := by decide +kernel
theorem xdc_186 : (xq_186.drop 0).all (xdc1 186) = true := xall_split _ xq_186 0 40 xdcL_0 (xall_split _ xq_186 40 40 xdcL_40 (xall_split _ xq_186 80 40 xdcL_80 (xall_split _ xq_186 120 40 xdcL_120 (xall_split _ xq_186 160 40 xdcL_160 (xall_split _ xq_186 200 40 xdcL_200 (xall_split _ xq_186 240 40 xdcL_240 (xall_split _ xq_186 280 40 xdcL_280 (xall_split _ xq_186 320 40 xdcL_320 (xall_split _ xq_186 360 40 xdcL_360 (xall_split _ xq_186 400 40 xdcL_400 (xall_split _ xq_186 440 40 xdcL_440 (xall_split _ xq_186 480 40 xdcL_480 (xall_split _ xq_186 520 40 xdcL_520 (xall_split _ xq_186 560 40 xdcL_560 (xdcL_end)))))))))))))))
theorem xdc_ok {y : Nat} (h : y < 187) : xdc y = true := by
  by_cases h0 : y < 12
  · exact List.all_eq_true.mp xdc_0 y (List.mem_range'_1.mpr ⟨by omega, by omega⟩)
  by_cases h12 : y < 24
  · exact List.all_eq_true.mp xdc_12 y (List.mem_range'_1.mpr ⟨by omega, by omega⟩)
  by_cases h24 : y < 36
  · exact List.all_eq_true.mp xdc_24 y (List.mem_range'_1.mpr ⟨by omega, by omega⟩)
  by_cases h36 : y < 48
  · exact List.all_eq_true.mp xdc_36 y (List.mem_range'_1.mpr ⟨by omega, by omega⟩)
  by_cases h48 : y < 60
  · exact List.all_eq_true.mp xdc_48 y (List.mem_range'_1.mpr ⟨by omega, by omega⟩)
  by_cases h60 : y < 72
  · exact List.all_eq_true.mp xdc_60 y (List.mem_range'_1.mpr ⟨by omega, by omega⟩)
  by_cases h72 : y < 84
  · exact List.all_eq_true.mp xdc_72 y (List.mem_range'_1.mpr ⟨by omega, by omega⟩)
  by_cases h84 : y < 96
  · exact List.all_eq_true.mp xdc_84 y (List.mem_range'_1.mpr ⟨by omega, by omega⟩)
  by_cases h96 : y < 108
  · exact List.all_eq_true.mp xdc_96 y (List.mem_range'_1.mpr ⟨by omega, by omega⟩)
  by_cases h108 : y < 120
  · exact List.all_eq_true.mp xdc_108 y (List.mem_range'_1.mpr ⟨by omega, by omega⟩)
  by_cases h120 : y < 132
  · exact List.all_eq_true.mp xdc_120 y (List.mem_range'_1.mpr ⟨by omega, by omega⟩)
  by_cases h132 : y < 144
  · exact List.all_eq_true.mp xdc_132 y (List.mem_range'_1.mpr ⟨by omega, by omega⟩)
  by_cases h144 : y < 156
  · exact List.all_eq_true.mp xdc_144 y (List.mem_range'_1.mpr ⟨by omega, by omega⟩)
  by_cases h156 : y < 168
  · exact List.all_eq_true.mp xdc_156 y (List.mem_range'_1.mpr ⟨by omega, by omega⟩)
  by_cases h168 : y < 180
  · exact List.all_eq_true.mp xdc_168 y (List.mem_range'_1.mpr ⟨by omega, by omega⟩)
  by_cases h180 : y < 186
  · exact List.all_eq_true.mp xdc_180 y (List.mem_range'_1.mpr ⟨by omega, by omega⟩)
  have e : y = 186 := by omega
  rw [e]
  unfold xdc
  exact xdc_186
end
section
theorem xc_all_len : xc_all.length = 187 := by decide +kernel
theorem xh_dec {y pc : Nat} {i : Instr} (h : xc_code y pc = some i) : ∃ l : Nat, decode (xc_b y) pc = .ok (i, l) ∧ (xlen i = 0 ∨ l = xlen i) := by
  unfold xc_code at h
  have hy : y < 187 := by
    rcases Nat.lt_or_ge y 187 with q | q
    · exact q
    · rw [List.getD_eq_getElem?_getD, List.getElem?_eq_none (by rw [xc_all_len]; exact q)] at h
      simp at h
  obtain ⟨e, he, hi⟩ := Option.map_eq_some_iff.mp h
  have h1 := List.mem_of_find?_eq_some he
  have h2 := List.find?_some he
  have h3 := List.all_eq_true.mp (xdc_ok hy) e h1
  unfold xdc1 at h3
  have hp : e.1 = pc := by simpa using h2
  rw [hp] at h3
  cases hd : decode (xc_b y) pc with
  | error x => rw [hd] at h3; simp at h3
  | ok r =>
    obtain ⟨i2, l⟩ := r
    rw [hd] at h3
    simp only [Bool.and_eq_true, Bool.or_eq_true, decide_eq_true_eq] at h3
    obtain ⟨e1, e2⟩ := h3
    have e3 : i2 = i := e1.trans hi
    subst e3
    exact ⟨l, rfl, e2⟩
def xc_tbl : List Cond := lw_tbl.filter goodWord
def xc_ws (y : Nat) : List Cond := Cond.code (xc_y y) (xc_b y) (xc_nl y) (xc_rt y) :: xc_tbl
theorem xw_in {i : Nat} {w : Cond} (h : tables_1[i]? = some w) (hg : goodWord w = true) : w ∈ xc_tbl := List.mem_filter.mpr ⟨List.mem_append_right _ (List.mem_of_getElem? h), hg⟩
theorem xw_good {w : Cond} (h : w ∈ xc_tbl) : goodWord w = true := (List.mem_filter.mp h).2
theorem xw_sub {w : Cond} (h : w ∈ xc_tbl) : w ∈ lw_tbl := (List.mem_filter.mp h).1
set_option maxRecDepth 1000000 in
theorem xk_all : (List.range 173).map (fun y => Cond.code (xc_y y) (xc_b y) (xc_nl y) (xc_rt y)) = xc_cps.filterMap (fun i => tables_1[i]?) := rfl
theorem xh_code {y : Nat} (h : y < 173) : Cond.code (xc_y y) (xc_b y) (xc_nl y) (xc_rt y) ∈ xc_tbl := by
  have h1 : Cond.code (xc_y y) (xc_b y) (xc_nl y) (xc_rt y) ∈ (List.range 173).map (fun y => Cond.code (xc_y y) (xc_b y) (xc_nl y) (xc_rt y)) := List.mem_map.mpr ⟨y, List.mem_range.mpr h, rfl⟩
  rw [xk_all] at h1
  obtain ⟨i, -, hi⟩ := List.mem_filterMap.mp h1
  exact xw_in hi rfl
end
section
def xc_lps : List (List Nat) := [[360, 362, 364, 366, 368, 370], [108, 110], [286, 288, 290, 292, 294], [196, 198, 200, 202], [141, 143, 145, 147, 149, 151, 153, 155], [310, 312], [51, 53, 55, 57, 59, 61, 63, 65, 67], [339, 341, 343, 345, 347, 349], [230, 232, 234, 236, 238], [266, 268, 270, 272, 274], [322], [1002, 1004, 1006, 1008, 1010, 1012, 1014, 1016, 1018, 1020, 1022, 1024, 1026, 1028, 1030, 1032, 1034, 1036, 1038, 1040, 1042, 1044, 1046, 1048, 1050, 1052, 1054, 1056, 1058, 1060, 1062, 1064, 1066, 1068, 1070, 1072, 1074, 1076, 1078, 1080, 1082, 1084, 1086, 1088, 1090, 1092, 1094, 1096, 1098, 1100, 1102, 1104, 1106, 1108, 1110]]
def xc_inst : List Nat := [22, 92, 72, 167, 86, 298, 30, 326, 158, 78, 316, 942]
def xc_inip : List Nat := [1, 6, 3, 8, 5, 9, 2, 11, 7, 4, 10, 12, 0]
def xc_sps : List Nat := [9999, 383, 462, 498, 512, 543, 737, 760, 783, 801, 846, 375, 920, 927, 939, 9999, 9999, 9999, 9999, 9999, 9999, 9999, 9999, 536, 593, 532, 689, 704, 9999, 516, 555, 9999, 9999, 9999, 9999, 9999, 9999, 9999, 9999, 9999, 9999, 9999, 9999, 9999, 9999, 9999, 9999, 9999, 9999, 9999, 9999, 9999, 9999, 9999, 581, 613, 609, 589, 9999, 520, 638, 650, 654, 630, 634, 642, 9999, 814, 932, 839, 9999, 454, 491, 505, 563, 725, 571, 805, 9999, 850, 9999, 9999, 9999, 9999, 9999, 9999, 9999, 9999, 9999, 9999, 9999, 9999, 9999, 9999, 524, 528, 559, 9999, 547, 551, 729, 626, 622, 9999, 809, 9999, 9999, 9999, 9999, 9999, 9999, 1116, 9999, 9999, 1120, 9999, 9999, 1131, 1141, 9999, 9999, 9999, 9999, 9999, 9999, 9999, 9999, 1145, 9999, 9999, 9999, 9999, 9999, 9999, 9999, 9999, 9999, 9999, 9999, 9999, 9999, 9999, 9999, 9999, 9999, 9999, 9999, 9999, 1157, 1260, 1264, 1268, 9999, 9999, 9999, 9999, 9999, 9999, 9999, 1272, 9999, 9999, 9999, 9999, 9999, 9999, 9999, 9999, 1308, 1344, 1348, 1352, 1356]
theorem xc_at_mem {α : Type} {L : List (List (Nat × α))} {own x : Nat} {v : α} (h : xc_at L own x = some v) : (x, v) ∈ L.getD own [] := by
  unfold xc_at at h
  obtain ⟨e, he, hv⟩ := Option.map_eq_some_iff.mp h
  have h1 := List.mem_of_find?_eq_some he
  have h2 : e.1 = x := by simpa using List.find?_some he
  rw [← h2, ← hv]
  exact h1
theorem xc_at_own {α : Type} {L : List (List (Nat × α))} {own x n : Nat} {v : α} (hn : L.length = n) (h : xc_at L own x = some v) : own < n := by
  rcases Nat.lt_or_ge own n with q | q
  · exact q
  · have := xc_at_mem h
    rw [List.getD_eq_getElem?_getD, List.getElem?_eq_none (by rw [hn]; exact q)] at this
    simp at this
def xf_fld (own : Nat) (e : Nat × (Nat × Nat) × Nat) : Bool := match xc_cl[e.2.1.1]? with
  | some (C, T, N) => decide (e.2.1.2 < N) && decide (tables_1[e.2.2]? = some (Cond.fieldLink (xc_on own) e.1 C (T e.2.1.2).2.1 (T e.2.1.2).2.2.1))
  | none => false
set_option maxRecDepth 100000 in
theorem xf_fld_ok : (List.range 13).all (fun own => (xc_flds.getD own []).all (xf_fld own)) = true := by decide +kernel
/-- a class: its words, its names, its types, its sorts -/
def xf_cls (ci : Nat) : Bool := match xc_cl[ci]?, xc_cy[ci]? with
  | some (C, T, N), some Y => decide ((xc_fk ci).length = N) && decide (xc_on ci = C) && decide (tables_1[xc_inst.getD ci 9999]? = some (Cond.instantiable C N)) && decide (tables_1[xc_inip.getD ci 9999]? = some (Cond.initialized C)) &&
    (List.range N).all (fun k => decide (tables_1[(xc_lps.getD ci []).getD k 9999]? = some (u_lay C T k)) && goodWord (u_lay C T k) && decide (parseFieldDescriptor (T k).2.2.1 = some (Y k)) && decide ((T k).1 = C) && decide ((T k).2.2.2 = (xc_fins.getD ci []).getD k true) && (List.range N).all (fun b => decide (k = b) || decide ((T k).2.1 ≠ (T b).2.1)) &&
      (if (xc_fk ci).getD k 0 = 0 then decide (Y k = .int) else if (xc_fk ci).getD k 0 = 1 then decide (Y k = .long) else if (xc_fk ci).getD k 0 = 3 then decide (Y k = .boolean) else decide ((xc_fk ci).getD k 0 = 2) && (Y k).isReference))
  | _, _ => false
set_option maxRecDepth 100000 in
theorem xf_cls_ok : (List.range 12).all xf_cls = true := by decide +kernel
/-- a method: its name, its words, its levels -/
def xf_m (y : Nat) : Bool := decide ((xc_y y).cls = xc_on (xc_own y)) && decide ((xc_y y).cls ≠ "java/lang/invoke/MethodHandle") && decide ((xc_y y).cls ≠ "java/lang/invoke/VarHandle") && plainName (xc_y y).cls && decide (xc_nl y ≤ 20) && decide (xc_own y < 12) && decide (tables_1[xc_inip.getD (xc_own y) 9999]? = some (Cond.initialized (xc_y y).cls)) &&
  (if xc_kind y = 0 then decide (tables_1[xc_ips.getD y 9999]? = some (Cond.static (xc_y y))) else decide (tables_1[xc_ips.getD y 9999]? = some (Cond.instanceMethod (xc_y y)))) &&
  (if xc_kind y = 1 then decide (tables_1[xc_sps.getD y 9999]? = some (Cond.selects (xc_y y).cls (xc_y y) (xc_y y))) || decide (xc_y y ∈ lw_privs.map (fun q => q.1)) else if xc_kind y = 2 then decide ((xc_y y).name = "<init>") else true) &&
  (if xc_ret y = 0 then decide (xc_rt y = none) else if xc_ret y = 1 then decide (xc_rt y = some .int) else if xc_ret y = 2 then decide (xc_rt y = some .boolean) else if xc_ret y = 3 then decide (xc_rt y = some .long) else if xc_ret y = 4 then (match xc_rt y with
    | some (.object _) => true
    | _ => false) else false) && decide (1 ≤ xc_lev y)
set_option maxRecDepth 100000 in
theorem xf_m_ok : (List.range 173).all xf_m = true := by decide +kernel
def xf_np (y n : Nat) : Bool := decide ((parseMethodDescriptor (xc_y y).desc).map (fun d => d.parameters.length) = some n)
def xf_vrt (own : Nat) (e : Nat × (Nat × Nat) × Nat) : Bool := decide (e.2.1.1 < 173) && decide (xc_kind e.2.1.1 = 1) && decide (1 ≤ e.2.1.2) && xf_np e.2.1.1 (e.2.1.2 - 1) && decide (tables_1[e.2.2]? = some (Cond.methodLink (xc_on own) e.1 (xc_y e.2.1.1)))
def xf_stt (own : Nat) (e : Nat × (Nat × Nat) × Nat) : Bool := decide (e.2.1.1 < 173) && decide (xc_kind e.2.1.1 = 0) && xf_np e.2.1.1 e.2.1.2 && decide (tables_1[e.2.2]? = some (Cond.methodLink (xc_on own) e.1 (xc_y e.2.1.1))) && decide ((xc_y e.2.1.1).cls = xc_on own)
def xf_spc (own : Nat) (e : Nat × (Nat × Nat) × Bool × Nat) : Bool := decide (e.2.1.1 < 173) && decide (xc_kind e.2.1.1 = 2) && decide (1 ≤ e.2.1.2) && xf_np e.2.1.1 (e.2.1.2 - 1) && (if e.2.2.1 = true then decide (tables_1[e.2.2.2]? = some (Cond.methodLinkNest (xc_on own) e.1 (xc_y e.2.1.1) "SnapForge")) else decide (tables_1[e.2.2.2]? = some (Cond.methodLink (xc_on own) e.1 (xc_y e.2.1.1))))
set_option maxRecDepth 100000 in
theorem xf_vrt_ok : (List.range 13).all (fun own => (xc_vrts.getD own []).all (xf_vrt own)) = true := by decide +kernel
set_option maxRecDepth 100000 in
theorem xf_stt_ok : (List.range 13).all (fun own => (xc_stts.getD own []).all (xf_stt own)) = true := by decide +kernel
set_option maxRecDepth 100000 in
theorem xf_spc_ok : (List.range 13).all (fun own => (xc_spcs.getD own []).all (xf_spc own)) = true := by decide +kernel
def xf_obj (own : Nat) (e : Nat × Nat) : Bool := decide (tables_1[e.2]? = some (Cond.methodLink (xc_on own) e.1 objectInit))
set_option maxRecDepth 100000 in
theorem xf_obj_ok : (List.range 13).all (fun own => (xc_objs.getD own []).all (xf_obj own)) = true := by decide +kernel
def xf_new (own : Nat) (e : Nat × Nat × Nat) : Bool := decide (e.2.1 < 12) && decide (tables_1[e.2.2]? = some (Cond.classLink (xc_on own) e.1 (xc_on e.2.1)))
set_option maxRecDepth 100000 in
theorem xf_new_ok : (List.range 13).all (fun own => (xc_news.getD own []).all (xf_new own)) = true := by decide +kernel
def xf_anew (own : Nat) (e : Nat × Nat × Nat) : Bool := decide (3 ≤ e.2.1) && decide (e.2.1 < 5) && decide (tables_1[e.2.2]? = some (Cond.classLink (xc_on own) e.1 (xc_on (xc_ac e.2.1))))
set_option maxRecDepth 100000 in
theorem xf_anew_ok : (List.range 13).all (fun own => (xc_anews.getD own []).all (xf_anew own)) = true := by decide +kernel
def xf_long (own : Nat) (e : Nat × Int64 × Nat) : Bool := decide (tables_1[e.2.2]? = some (Cond.constantLong (xc_on own) e.1 e.2.1))
set_option maxRecDepth 100000 in
theorem xf_long_ok : (List.range 13).all (fun own => (xc_longs.getD own []).all (xf_long own)) = true := by decide +kernel
/-- of every method, the law's wrappers too: what it answers, its level -/
def xf_r (y : Nat) : Bool := (if xc_ret y = 0 then decide (xc_rt y = none) else if xc_ret y = 1 then decide (xc_rt y = some .int) else if xc_ret y = 2 then decide (xc_rt y = some .boolean) else if xc_ret y = 3 then decide (xc_rt y = some .long) else if xc_ret y = 4 then (match xc_rt y with
    | some (.object _) => true
    | _ => false) else false) && decide (1 ≤ xc_lev y)
theorem xf_r_ok : (List.range 187).all xf_r = true := by decide +kernel
theorem xf_h0 : (List.range 173).all (fun y => decide (xc_hnds.getD y [] = [])) = true := by decide +kernel
theorem xh_hnd {y pc ex : Nat} (h : y < 173) : xc_hnd y pc ex = none := by
  have h1 := List.all_eq_true.mp xf_h0 y (List.mem_range.mpr h)
  have h2 : xc_hnds.getD y [] = [] := by simpa using h1
  unfold xc_hnd
  rw [h2]
  rfl
end
section
-- THE EVALUATOR: a pure machine over a flat memory (an address, a place: a number), for the instructions that the code has; part 04 ties it to the machine.
abbrev xL : Type := List (Nat × Value)
/-- what lies at an address: .inl ci: an object of the class ci of the list; .inr (j, n): an array of sort j (0 int, 1 long, 2 boolean, else references) with n places -/
abbrev xT : Type := Nat ⊕ (Nat × Nat)
/-- the next free address; what lies where; ints, longs, references by address and place -/
abbrev xS : Type := Nat × (Nat → Option xT) × (Nat → Nat → Int32) × (Nat → Nat → Int64) × (Nat → Nat → Option Nat)
/-- an end: .inr v: it returned v; .inl e: it threw a new object of the exception e -/
abbrev xR : Type := (Nat ⊕ Option Value) × xS
def xz (S : xS) : Nat := S.1
def xt (S : xS) : Nat → Option xT := S.2.1
def xi (S : xS) : Nat → Nat → Int32 := S.2.2.1
def xj (S : xS) : Nat → Nat → Int64 := S.2.2.2.1
def xr (S : xS) : Nat → Nat → Option Nat := S.2.2.2.2
def x2 {α : Type} (f : Nat → Nat → α) (a k : Nat) (v : α) : Nat → Nat → α := fun b j => if b = a then (if j = k then v else f b j) else f b j
def xsi (S : xS) (a k : Nat) (v : Int32) : xS := (xz S, xt S, x2 (xi S) a k v, xj S, xr S)
def xsj (S : xS) (a k : Nat) (v : Int64) : xS := (xz S, xt S, xi S, x2 (xj S) a k v, xr S)
def xsr (S : xS) (a k : Nat) (v : Option Nat) : xS := (xz S, xt S, xi S, xj S, x2 (xr S) a k v)
/-- a new cell at the next address, all blank -/
def xnew (S : xS) (t : xT) : xS := (xz S + 1, va_up (xt S) (xz S) (some t), va_up (xi S) (xz S) (fun _ => 0), va_up (xj S) (xz S) (fun _ => 0), va_up (xr S) (xz S) (fun _ => none))
/-- a field's value: sort 1 long, 2 reference, else int -/
def xfv (t : Nat) (i : Nat → Int32) (j : Nat → Int64) (r : Nat → Option Nat) (k : Nat) : Value := if t = 1 then .long (j k) else if t = 2 then va_rf (r k) else .int (i k)
def xfs (L : List Nat) (i : Nat → Int32) (j : Nat → Int64) (r : Nat → Option Nat) : List Value := (List.range L.length).map (fun k => xfv (L.getD k 0) i j r k)
/-- the machine's address of a place: behind B, or a static array's -/
def xad (B : Nat) (g : Nat → Nat) (a : Nat) : Nat := if a < 1000000 then B + a else g (a - 1000000)
def xv (B : Nat) (g : Nat → Nat) (v : Value) : Value := match v with
  | .ref a => .ref (xad B g a)
  | v => v
def xcell (FK : Nat → List Nat) (dA : Nat → ClassId) (t : xT) (i : Nat → Int32) (j : Nat → Int64) (r : Nat → Option Nat) : va_E := match t with
  | .inl ci => .inr (ci, xfs (FK ci) i j r)
  | .inr (k, n) => .inl (dA k, n, if k = 1 then .inr (.inl j) else if k < 3 then .inl i else .inr (.inr (.inr (.inr r))))
abbrev xK : Type := Nat → xL → List Value → Nat → Nat → xS → Option xR
def xld (lv : xL) (i : Nat) : Option Value := (lv.find? (fun q => q.1 == i)).map (fun q => q.2)
def xst1 (lv : xL) (i : Nat) (v : Value) : xL := (i, v) :: lv.filter (fun q => !(q.1 == i) && !(q.1 + 1 == i && q.2.category == 2))
def xst2 (lv : xL) (i : Nat) (v : Value) : xL := (i, v) :: lv.filter (fun q => !(q.1 == i) && (!(q.1 == i + 1) && !(q.1 + 1 == i && q.2.category == 2)))
-- loads
def xldI (k : Value → Option xR) (lv : xL) (i : Nat) : Option xR := match xld lv i with
  | some (.int x) => k (.int x)
  | _ => none
def xldL (k : Value → Option xR) (lv : xL) (i : Nat) : Option xR := match xld lv i with
  | some (.long x) => k (.long x)
  | _ => none
def xldA (k : Value → Option xR) (lv : xL) (i : Nat) : Option xR := match xld lv i with
  | some (.ref x) => k (.ref x)
  | some .null => k .null
  | _ => none
-- stores: k gets the new locals and the rest of the stack
def xstI (k : xL → List Value → Option xR) (lv : xL) (i nL : Nat) (st : List Value) : Option xR := match st with
  | .int x :: r => if i < nL then k (xst1 lv i (.int x)) r else none
  | _ => none
def xstL (k : xL → List Value → Option xR) (lv : xL) (i nL : Nat) (st : List Value) : Option xR := match st with
  | .long x :: r => if i + 1 < nL then k (xst2 lv i (.long x)) r else none
  | _ => none
def xstA (k : xL → List Value → Option xR) (lv : xL) (i nL : Nat) (st : List Value) : Option xR := match st with
  | .ref x :: r => if i < nL then k (xst1 lv i (.ref x)) r else none
  | .null :: r => if i < nL then k (xst1 lv i .null) r else none
  | _ => none
def xinc (k : xL → Option xR) (lv : xL) (i nL : Nat) (n : Int) : Option xR := match xld lv i with
  | some (.int x) => if i < nL then k (xst1 lv i (.int (x + Int32.ofInt n))) else none
  | _ => none
-- arithmetic: k gets the new stack
def xbI (k : List Value → Option xR) (f : Int32 → Int32 → Int32) (st : List Value) : Option xR := match st with
  | .int b :: .int a :: r => k (.int (f a b) :: r)
  | _ => none
def xbD (k : List Value → Option xR) (f : Int32 → Int32 → Int32) (st : List Value) : Option xR := match st with
  | .int b :: .int a :: r => if b = 0 then none else k (.int (f a b) :: r)
  | _ => none
def xbL (k : List Value → Option xR) (f : Int64 → Int64 → Int64) (st : List Value) : Option xR := match st with
  | .long b :: .long a :: r => k (.long (f a b) :: r)
  | _ => none
def xbE (k : List Value → Option xR) (f : Int64 → Int64 → Int64) (st : List Value) : Option xR := match st with
  | .long b :: .long a :: r => if b = 0 then none else k (.long (f a b) :: r)
  | _ => none
def xbS (k : List Value → Option xR) (f : Int64 → Int32 → Int64) (st : List Value) : Option xR := match st with
  | .int b :: .long a :: r => k (.long (f a b) :: r)
  | _ => none
def xbC (k : List Value → Option xR) (st : List Value) : Option xR := match st with
  | .long b :: .long a :: r => k (.int (lg_cmp a b) :: r)
  | _ => none
def xuI (k : List Value → Option xR) (f : Int32 → Value) (st : List Value) : Option xR := match st with
  | .int a :: r => k (f a :: r)
  | _ => none
def xuL (k : List Value → Option xR) (f : Int64 → Value) (st : List Value) : Option xR := match st with
  | .long a :: r => k (f a :: r)
  | _ => none
-- the stack
def xdup (k : List Value → Option xR) (st : List Value) : Option xR := match st with
  | a :: r => if a.category = 1 then k (a :: a :: r) else none
  | _ => none
def xdupx1 (k : List Value → Option xR) (st : List Value) : Option xR := match st with
  | a :: b :: r => if a.category = 1 then (if b.category = 1 then k (a :: b :: a :: r) else none) else none
  | _ => none
def xdupx2 (k : List Value → Option xR) (st : List Value) : Option xR := match st with
  | a :: b :: d :: r => if a.category = 1 then (if b.category = 1 then (if d.category = 1 then k (a :: b :: d :: a :: r) else none) else none) else none
  | _ => none
def xdup2 (k : List Value → Option xR) (st : List Value) : Option xR := match st with
  | a :: b :: r => if a.category = 1 then (if b.category = 1 then k (a :: b :: a :: b :: r) else none) else none
  | _ => none
def xpop (k : List Value → Option xR) (st : List Value) : Option xR := match st with
  | a :: r => if a.category = 1 then k r else none
  | _ => none
def xpop2 (k : List Value → Option xR) (st : List Value) : Option xR := match st with
  | a :: r => if a.category = 2 then k r else none
  | _ => none
-- branches: k gets the place
def xtg (k : Nat → Option xR) (pc : Nat) (off : Int) : Option xR := if (pc : Int) + off < 0 then none else k ((pc : Int) + off).toNat
def xcb (c : Jvm.ClassFile.Cond) (a b : Int32) : Bool := match c with
  | .eq => decide (a = b)
  | .ne => decide (¬ a = b)
  | .lt => decide (a < b)
  | .ge => decide (b ≤ a)
  | .gt => decide (b < a)
  | .le => decide (a ≤ b)
def xif (k : Nat → List Value → Option xR) (c : Jvm.ClassFile.Cond) (pc : Nat) (off : Int) (st : List Value) : Option xR := match st with
  | .int a :: r => if (pc : Int) + off < 0 then none else if xcb c a 0 = true then k ((pc : Int) + off).toNat r else k (pc + 3) r
  | _ => none
def xic (k : Nat → List Value → Option xR) (c : Jvm.ClassFile.Cond) (pc : Nat) (off : Int) (st : List Value) : Option xR := match st with
  | .int b :: .int a :: r => if (pc : Int) + off < 0 then none else if xcb c a b = true then k ((pc : Int) + off).toNat r else k (pc + 3) r
  | _ => none
def xnul (k : Nat → List Value → Option xR) (pc : Nat) (off : Int) (st : List Value) : Option xR := match st with
  | .null :: r => xtg (fun t => k t r) pc off
  | .ref _ :: r => k (pc + 3) r
  | _ => none
def xnnl (k : Nat → List Value → Option xR) (pc : Nat) (off : Int) (st : List Value) : Option xR := match st with
  | .null :: r => k (pc + 3) r
  | .ref _ :: r => xtg (fun t => k t r) pc off
  | _ => none
def xtsw (k : Nat → List Value → Option xR) (pc : Nat) (dflt lo hi : Int) (offs : Array Int) (st : List Value) : Option xR := match st with
  | .int x :: r => if x.toInt < lo ∨ hi < x.toInt then xtg (fun t => k t r) pc dflt else match offs[(x.toInt - lo).toNat]? with
    | some off => xtg (fun t => k t r) pc off
    | none => none
  | _ => none
def xlsw (k : Nat → List Value → Option xR) (pc : Nat) (dflt : Int) (ps : Array (Int × Int)) (st : List Value) : Option xR := match st with
  | .int x :: r => if (ps.toList.zip (ps.toList.drop 1)).all (fun (a, next) => a.1 < next.1) = true then xtg (fun t => k t r) pc (Op.lookupswitch.offset ps.toList dflt x.toInt) else none
  | _ => none
-- the heap
def xgf (k : List Value → Option xR) (o : Option (Nat × Nat)) (S : xS) (st : List Value) : Option xR := match o, st with
  | some (ci, f), .ref a :: r => if xt S a = some (.inl ci) then (if f < (xc_fk ci).length then k (xfv ((xc_fk ci).getD f 0) (xi S a) (xj S a) (xr S a) f :: r) else none) else none
  | _, _ => none
/-- what a store writes: by the field's sort -/
def xpv (t : Nat) (v : Value) (S : xS) (a f : Nat) : Option xS := match v with
  | .int x => if t = 0 then some (xsi S a f x) else if t = 3 then (if x = 0 ∨ x = 1 then some (xsi S a f x) else none) else none
  | .long x => if t = 1 then some (xsj S a f x) else none
  | .ref b => if t = 2 then some (xsr S a f (some b)) else none
  | .null => if t = 2 then some (xsr S a f none) else none
  | _ => none
def xpf (k : List Value → xS → Option xR) (o : Option (Nat × Nat)) (may : Nat → Nat → Bool) (S : xS) (st : List Value) : Option xR := match o, st with
  | some (ci, f), v :: .ref a :: r => if xt S a = some (.inl ci) then (if f < (xc_fk ci).length then (if may ci f = true then (match xpv ((xc_fk ci).getD f 0) v S a f with
    | some S1 => k r S1
    | none => none) else none) else none) else none
  | _, _ => none
def xiald (k : List Value → Option xR) (S : xS) (st : List Value) : Option xR := match st with
  | .int i :: .ref a :: r => (match xt S a with
    | some (.inr (j, n)) => if j = 0 then (if i < 0 ∨ n ≤ i.toNatClampNeg then none else k (.int (xi S a i.toNatClampNeg) :: r)) else none
    | some (.inl _) => none
    | none => if a < 1000000 then none else (match xc_ro (a - 1000000) with
      | some f => if i < 0 ∨ f.length ≤ i.toNatClampNeg then none else k (.int (f.getD i.toNatClampNeg 0) :: r)
      | none => none))
  | _ => none
def xbald (k : List Value → Option xR) (S : xS) (st : List Value) : Option xR := match st with
  | .int i :: .ref a :: r => (match xt S a with
    | some (.inr (j, n)) => if j = 2 then (if i < 0 ∨ n ≤ i.toNatClampNeg then none else k (.int (xi S a i.toNatClampNeg) :: r)) else none
    | _ => none)
  | _ => none
def xbast (k : List Value → xS → Option xR) (S : xS) (st : List Value) : Option xR := match st with
  | .int x :: .int i :: .ref a :: r => (match xt S a with
    | some (.inr (j, n)) => if j = 2 then (if i < 0 ∨ n ≤ i.toNatClampNeg then none else (if x = 0 ∨ x = 1 then k r (xsi S a i.toNatClampNeg x) else none)) else none
    | _ => none)
  | _ => none
def xlald (k : List Value → Option xR) (S : xS) (st : List Value) : Option xR := match st with
  | .int i :: .ref a :: r => (match xt S a with
    | some (.inr (j, n)) => if j = 1 then (if i < 0 ∨ n ≤ i.toNatClampNeg then none else k (.long (xj S a i.toNatClampNeg) :: r)) else none
    | _ => none)
  | _ => none
def xaald (k : List Value → Option xR) (S : xS) (st : List Value) : Option xR := match st with
  | .int i :: .ref a :: r => (match xt S a with
    | some (.inr (j, n)) => if 3 ≤ j then (if j < xc_na then (if i < 0 ∨ n ≤ i.toNatClampNeg then none else k (va_rf (xr S a i.toNatClampNeg) :: r)) else none) else none
    | _ => none)
  | _ => none
def xiast (k : List Value → xS → Option xR) (S : xS) (st : List Value) : Option xR := match st with
  | .int x :: .int i :: .ref a :: r => (match xt S a with
    | some (.inr (j, n)) => if j = 0 then (if i < 0 ∨ n ≤ i.toNatClampNeg then none else k r (xsi S a i.toNatClampNeg x)) else none
    | _ => none)
  | _ => none
def xlast (k : List Value → xS → Option xR) (S : xS) (st : List Value) : Option xR := match st with
  | .long x :: .int i :: .ref a :: r => (match xt S a with
    | some (.inr (j, n)) => if j = 1 then (if i < 0 ∨ n ≤ i.toNatClampNeg then none else k r (xsj S a i.toNatClampNeg x)) else none
    | _ => none)
  | _ => none
def xaast (k : List Value → xS → Option xR) (S : xS) (st : List Value) : Option xR := match st with
  | .ref v :: .int i :: .ref a :: r => (match xt S a with
    | some (.inr (j, n)) => if 3 ≤ j then (if j < xc_na then (if i < 0 ∨ n ≤ i.toNatClampNeg then none else (if xt S v = some (.inl (xc_ac j)) then k r (xsr S a i.toNatClampNeg (some v)) else none)) else none) else none
    | _ => none)
  | _ => none
def xnewo (k : Nat → Nat → xS → Option xR) (o : Option Nat) (mc ms c q : Nat) (S : xS) : Option xR := match o with
  | some ci => if c + 1 ≤ mc then (if q + (xc_fk ci).length ≤ ms then (if xz S < 1000000 then k (c + 1) (q + (xc_fk ci).length) (xnew S (.inl ci)) else none) else none) else none
  | none => none
def xnewa (k : List Value → Nat → Nat → xS → Option xR) (o : Option Nat) (mc ms c q : Nat) (S : xS) (st : List Value) : Option xR := match o, st with
  | some j, .int n :: r => if n < 0 then none else (if 60000000 < n.toNatClampNeg then none else (if c + 1 ≤ mc then (if q + n.toNatClampNeg ≤ ms then (if xz S < 1000000 then k (.ref (xz S) :: r) (c + 1) (q + n.toNatClampNeg) (xnew S (.inr (j, n.toNatClampNeg))) else none) else none) else none))
  | _, _ => none
/-- the receiver: kind 1 (a method called on an object): an object of just that class; kind 2 (a constructor): a reference; kind 0: none -/
def xrcv (y : Nat) (S : xS) (as : List Value) : Bool := match as with
  | .ref b :: _ => decide (xc_kind y = 2) || decide (xc_kind y = 0) || (decide (xc_kind y = 1) && decide (xt S b = some (.inl (xc_yc y))))
  | _ => decide (xc_kind y = 0)
-- calls: o: the callee and how many values it takes; lev: the caller's level; hd, k2: where an exception of the callee goes on
def xcl (k : List Value → Nat → Nat → xS → Option xR) (k2 : Nat → List Value → Nat → Nat → xS → Option xR) (hd : Nat → Option Nat) (call : Nat → List Value → xS → Option xR) (o : Option (Nat × Nat)) (lev mc ms c q : Nat) (S : xS) (st : List Value) : Option xR := match o with
  | some (y, na) => if na ≤ st.length then (if xc_lev y < lev then (if c + xc_mc y ≤ mc then (if q + xc_ms y ≤ ms then (if ((st.drop na).map fun v => v.category).sum ≤ 8 then (if xrcv y S (st.take na).reverse = true then (match call y (st.take na).reverse S with
    | some (.inr v, S1) => k (v.toList ++ st.drop na) (c + xc_mc y) (q + xc_ms y) S1
    | some (.inl ex, S1) => (match hd ex with
      | some t => if xz S1 ≤ 1000000 then k2 t [.ref (xz S1 - 1)] (c + xc_mc y) (q + xc_ms y) S1 else none
      | none => none)
    | none => none) else none) else none) else none) else none) else none) else none
  | none => none
-- ends
def xret (y : Nat) (S : xS) (st : List Value) : Option xR := match st with
  | [.int v] => if xc_ret y = 1 then some (.inr (some (.int v)), S) else if xc_ret y = 2 then (if v = 0 ∨ v = 1 then some (.inr (some (.int v)), S) else none) else none
  | _ => none
def xrel (y : Nat) (S : xS) (st : List Value) : Option xR := match st with
  | [.long v] => if xc_ret y = 3 then some (.inr (some (.long v)), S) else none
  | _ => none
def xrea (y : Nat) (S : xS) (st : List Value) : Option xR := match st with
  | [.ref v] => if xc_ret y = 4 then some (.inr (some (.ref v)), S) else none
  | _ => none
def xrev (y : Nat) (S : xS) (st : List Value) : Option xR := match st with
  | [] => if xc_ret y = 0 then some (.inr none, S) else none
  | _ => none
def xlc (k : Int32 → Option xR) (o : Option Int32) : Option xR := match o with
  | some v => k v
  | none => none
def xlc2 (k : Int64 → Option xR) (o : Option Int64) : Option xR := match o with
  | some v => k v
  | none => none
def xgs (k : Nat → Option xR) (o : Option Nat) : Option xR := match o with
  | some v => k v
  | none => none
/-- Object.<init> -/
def xobj (k : List Value → Option xR) (st : List Value) : Option xR := match st with
  | .ref _ :: r => if (r.map fun v => v.category).sum ≤ 8 then k r else none
  | _ => none
def xmin (k : List Value → Option xR) (st : List Value) : Option xR := match st with
  | .int b :: .int a :: r => if (r.map fun v => v.category).sum ≤ 8 then k (.int (if b < a then b else a) :: r) else none
  | _ => none
/-- new E; dup; invokespecial E.<init>; athrow, in one: the exception's cell is made and is nobody's -/
def xthr (o : Option (Nat × Nat)) (y pc mc ms c q : Nat) (S : xS) : Option xR := match o with
  | some (e, n) => if c + 1 ≤ mc then (if q + n ≤ ms then (if xc_thr y pc = true then some (.inl e, (xz S + 1, xt S, xi S, xj S, xr S)) else none) else none) else none
  | none => none
def xstep (K : xK) (call : Nat → List Value → xS → Option xR) (y pc : Nat) (i : Instr) (lv : xL) (st : List Value) (c q : Nat) (S : xS) : Option xR := match i with
  | .iconst n => K (pc + 1) lv (.int (Int32.ofInt n) :: st) c q S
  | .bipush n => K (pc + 2) lv (.int (Int8.ofInt n).toInt32 :: st) c q S
  | .sipush n => K (pc + 3) lv (.int (Int16.ofInt n).toInt32 :: st) c q S
  | .lconst n => K (pc + 1) lv (.long (Int64.ofNat (n : Nat)) :: st) c q S
  | .aconst_null => K (pc + 1) lv (.null :: st) c q S
  | .ldc x => xlc (fun v => K (pc + 2) lv (.int v :: st) c q S) (xc_int (xc_own y) x)
  | .ldc2_w x => xlc2 (fun v => K (pc + 3) lv (.long v :: st) c q S) (xc_long (xc_own y) x)
  | .iload_n n => xldI (fun v => K (pc + 1) lv (v :: st) c q S) lv n
  | .iload n => xldI (fun v => K (pc + 2) lv (v :: st) c q S) lv n
  | .lload_n n => xldL (fun v => K (pc + 1) lv (v :: st) c q S) lv n
  | .lload n => xldL (fun v => K (pc + 2) lv (v :: st) c q S) lv n
  | .aload_n n => xldA (fun v => K (pc + 1) lv (v :: st) c q S) lv n
  | .aload n => xldA (fun v => K (pc + 2) lv (v :: st) c q S) lv n
  | .istore_n n => xstI (fun lv r => K (pc + 1) lv r c q S) lv n (xc_nl y) st
  | .istore n => xstI (fun lv r => K (pc + 2) lv r c q S) lv n (xc_nl y) st
  | .lstore_n n => xstL (fun lv r => K (pc + 1) lv r c q S) lv n (xc_nl y) st
  | .lstore n => xstL (fun lv r => K (pc + 2) lv r c q S) lv n (xc_nl y) st
  | .astore_n n => xstA (fun lv r => K (pc + 1) lv r c q S) lv n (xc_nl y) st
  | .astore n => xstA (fun lv r => K (pc + 2) lv r c q S) lv n (xc_nl y) st
  | .iinc n d => xinc (fun lv => K (pc + 3) lv st c q S) lv n (xc_nl y) d
  | .iadd => xbI (fun r => K (pc + 1) lv r c q S) (fun a b => a + b) st
  | .isub => xbI (fun r => K (pc + 1) lv r c q S) (fun a b => a - b) st
  | .imul => xbI (fun r => K (pc + 1) lv r c q S) (fun a b => a * b) st
  | .iand => xbI (fun r => K (pc + 1) lv r c q S) (fun a b => a &&& b) st
  | .ior => xbI (fun r => K (pc + 1) lv r c q S) (fun a b => a ||| b) st
  | .ixor => xbI (fun r => K (pc + 1) lv r c q S) (fun a b => a ^^^ b) st
  | .ishl => xbI (fun r => K (pc + 1) lv r c q S) (fun a b => a <<< (b &&& 31)) st
  | .ishr => xbI (fun r => K (pc + 1) lv r c q S) (fun a b => a >>> (b &&& 31)) st
  | .iushr => xbI (fun r => K (pc + 1) lv r c q S) (fun a b => (a.toUInt32 >>> (b.toUInt32 &&& Int32.toUInt32 31)).toInt32) st
  | .idiv => xbD (fun r => K (pc + 1) lv r c q S) (fun a b => a / b) st
  | .irem => xbD (fun r => K (pc + 1) lv r c q S) (fun a b => a - a / b * b) st
  | .ineg => xuI (fun r => K (pc + 1) lv r c q S) (fun a => .int (-a)) st
  | .ladd => xbL (fun r => K (pc + 1) lv r c q S) (fun a b => a + b) st
  | .lsub => xbL (fun r => K (pc + 1) lv r c q S) (fun a b => a - b) st
  | .lmul => xbL (fun r => K (pc + 1) lv r c q S) (fun a b => a * b) st
  | .land => xbL (fun r => K (pc + 1) lv r c q S) (fun a b => a &&& b) st
  | .lor => xbL (fun r => K (pc + 1) lv r c q S) (fun a b => a ||| b) st
  | .lxor => xbL (fun r => K (pc + 1) lv r c q S) (fun a b => a ^^^ b) st
  | .ldiv => xbE (fun r => K (pc + 1) lv r c q S) (fun a b => a / b) st
  | .lrem => xbE (fun r => K (pc + 1) lv r c q S) (fun a b => a - a / b * b) st
  | .lneg => xuL (fun r => K (pc + 1) lv r c q S) (fun a => .long (-a)) st
  | .lshl => xbS (fun r => K (pc + 1) lv r c q S) (fun a b => a <<< (b.toInt64 &&& 63)) st
  | .lshr => xbS (fun r => K (pc + 1) lv r c q S) (fun a b => a >>> (b.toInt64 &&& 63)) st
  | .lushr => xbS (fun r => K (pc + 1) lv r c q S) (fun a b => (a.toUInt64 >>> (b.toInt64.toUInt64 &&& Int64.toUInt64 63)).toInt64) st
  | .lcmp => xbC (fun r => K (pc + 1) lv r c q S) st
  | .i2l => xuI (fun r => K (pc + 1) lv r c q S) (fun a => .long a.toInt64) st
  | .l2i => xuL (fun r => K (pc + 1) lv r c q S) (fun a => .int a.toInt32) st
  | .dup => xdup (fun r => K (pc + 1) lv r c q S) st
  | .dup_x1 => xdupx1 (fun r => K (pc + 1) lv r c q S) st
  | .dup_x2 => xdupx2 (fun r => K (pc + 1) lv r c q S) st
  | .dup2 => xdup2 (fun r => K (pc + 1) lv r c q S) st
  | .pop => xpop (fun r => K (pc + 1) lv r c q S) st
  | .pop2 => xpop2 (fun r => K (pc + 1) lv r c q S) st
  | .ifCond d off => xif (fun t r => K t lv r c q S) d pc off st
  | .if_icmp d off => xic (fun t r => K t lv r c q S) d pc off st
  | .ifnull off => xnul (fun t r => K t lv r c q S) pc off st
  | .ifnonnull off => xnnl (fun t r => K t lv r c q S) pc off st
  | .goto off => xtg (fun t => K t lv st c q S) pc off
  | .tableswitch d lo hi offs => xtsw (fun t r => K t lv r c q S) pc d lo hi offs st
  | .lookupswitch d ps => xlsw (fun t r => K t lv r c q S) pc d ps st
  | .getfield x => xgf (fun r => K (pc + 3) lv r c q S) (xc_fld (xc_own y) x) S st
  | .putfield x => xpf (fun r S => K (pc + 3) lv r c q S) (xc_fld (xc_own y) x) (xc_may y) S st
  | .getstatic x => xgs (fun v => K (pc + 3) lv (.ref (1000000 + v) :: st) c q S) (xc_sta (xc_own y) x)
  | .iaload => xiald (fun r => K (pc + 1) lv r c q S) S st
  | .baload => xbald (fun r => K (pc + 1) lv r c q S) S st
  | .bastore => xbast (fun r S => K (pc + 1) lv r c q S) S st
  | .laload => xlald (fun r => K (pc + 1) lv r c q S) S st
  | .aaload => xaald (fun r => K (pc + 1) lv r c q S) S st
  | .iastore => xiast (fun r S => K (pc + 1) lv r c q S) S st
  | .lastore => xlast (fun r S => K (pc + 1) lv r c q S) S st
  | .aastore => xaast (fun r S => K (pc + 1) lv r c q S) S st
  | .new x => if xc_exc (xc_own y) x = none then xnewo (fun c q S1 => K (pc + 3) lv (.ref (xz S) :: st) c q S1) (xc_new (xc_own y) x) (xc_mc y) (xc_ms y) c q S else (if (st.map fun v => v.category).sum ≤ 8 then xthr (xc_exc (xc_own y) x) y pc (xc_mc y) (xc_ms y) c q S else none)
  | .newarray .int => xnewa (fun r c q S1 => K (pc + 2) lv r c q S1) (some 0) (xc_mc y) (xc_ms y) c q S st
  | .newarray .long => xnewa (fun r c q S1 => K (pc + 2) lv r c q S1) (some 1) (xc_mc y) (xc_ms y) c q S st
  | .newarray .boolean => xnewa (fun r c q S1 => K (pc + 2) lv r c q S1) (some 2) (xc_mc y) (xc_ms y) c q S st
  | .anewarray x => xnewa (fun r c q S1 => K (pc + 3) lv r c q S1) (xc_anew (xc_own y) x) (xc_mc y) (xc_ms y) c q S st
  | .invokevirtual x => xcl (fun r c q S => K (pc + 3) lv r c q S) (fun t r c q S => K t lv r c q S) (xc_hnd y pc) call (xc_vrt (xc_own y) x) (xc_lev y) (xc_mc y) (xc_ms y) c q S st
  | .invokespecial x => if xc_obj (xc_own y) x = true then xobj (fun r => K (pc + 3) lv r c q S) st else xcl (fun r c q S => K (pc + 3) lv r c q S) (fun t r c q S => K t lv r c q S) (xc_hnd y pc) call (xc_spc (xc_own y) x) (xc_lev y) (xc_mc y) (xc_ms y) c q S st
  | .invokestatic x => if xc_min (xc_own y) x = true then (if c ≤ xc_mc y then (if q ≤ xc_ms y then xmin (fun r => K (pc + 3) lv r c q S) st else none) else none) else xcl (fun r c q S => K (pc + 3) lv r c q S) (fun t r c q S => K t lv r c q S) (xc_hnd y pc) call (xc_stt (xc_own y) x) (xc_lev y) (xc_mc y) (xc_ms y) c q S st
  | .ireturn => if c ≤ xc_mc y then (if q ≤ xc_ms y then xret y S st else none) else none
  | .lreturn => if c ≤ xc_mc y then (if q ≤ xc_ms y then xrel y S st else none) else none
  | .areturn => if c ≤ xc_mc y then (if q ≤ xc_ms y then xrea y S st else none) else none
  | .return_ => if c ≤ xc_mc y then (if q ≤ xc_ms y then xrev y S st else none) else none
  | _ => none
/-- n: how many instructions at the most, and how deep -/
def xev : Nat → Nat → xK
  | 0, _ => fun _ _ _ _ _ _ => none
  | n + 1, y => fun pc lv st c q S => match xc_code y pc with
    | some i => xstep (xev n y) (fun y2 as S2 => if (lg_sl as).length ≤ xc_nl y2 then xev n y2 0 (lv_args 0 as) [] 0 0 S2 else none) y pc i lv st c q S
    | none => none
/-- method y on the values as and the memory S -/
def xmeth (n y : Nat) (as : List Value) (S : xS) : Option xR := if (lg_sl as).length ≤ xc_nl y then xev n y 0 (lv_args 0 as) [] 0 0 S else none
end
section
-- THE EVALUATOR AND THE MACHINE, first part: what holds where, and one row an instruction
/-- the heap holds the flat memory, from the address B on -/
def xH (D : va_G) (dA : Nat → ClassId) (B : Nat) (g : Nat → Nat) (S : xS) (H : Heap) : Prop := H.size = B + xz S ∧ ∀ (a : Nat) (t : xT), xt S a = some t → a < 1000000 ∧ va_at D xc_cl (B + a, xcell xc_fk dA t (xi S a) (xj S a) (fun k => (xr S a k).map (xad B g))) H
/-- what is the same all through an invocation of method y -/
def xX (p : Program) (R : Room) (s : State) (m : MethodId) (args : Array Value) (meth : Method) (c : Code) (D : va_G) (dA : Nat → ClassId) (y : Nat) : Prop :=
  p.tables.exec = Jvm.exec ∧ c.code = xc_b y ∧ c.maxLocals = xc_nl y ∧ s.vm.findClass (xc_on (xc_own y)) = some m.cls ∧ (∀ w ∈ xc_tbl, w.before args s = true) ∧ va_K D xc_cl (xc_tys dA) s ∧ meth.sig.returnType = xc_rt y ∧ meth.locks = false ∧ (xc_kind y = 2 → meth.name = "<init>") ∧ y < 187 ∧ (xc_lev y ≤ R.frames ∧ 40 * xc_lev y ≤ R.locals ∧ R.cells = xc_mc y ∧ R.slots = xc_ms y)
/-- from this point of the evaluator the machine comes to Q -/
def xW (p : Program) (l : Launch) (e : Env) (R : Room) (s : State) (m : MethodId) (args : Array Value) (below : List Frame) (meth : Method) (c : Code) (Q : State → Prop) (D : va_G) (dA : Nat → ClassId) (B : Nat) (g : Nat → Nat) (A : Nat → Prop) (nL pc : Nat) (lv : xL) (st : List Value) (cn qn : Nat) (S : xS) : Prop :=
  ∀ (ls : Array Slot) (H : Heap) (locs : List Loc), lv_has ls nL (lv.map (fun q => (q.1, xv B g q.2))) → xH D dA B g S H → va_S A s.heap H locs → (∀ a, (xt S a).isSome = true → A (B + a)) → W p l e R s m args below meth c H locs cn qn Q (F0 m pc ls (st.map (xv B g)))
theorem xP1 {D : va_G} {cl : List vw_C} {a : Nat} {e : va_E} {H : Heap} (h : va_at D cl (a, e) H) : va_P D cl [(a, e)] H := by
  intro k q hk
  match k, hk with
  | 0, hk => cases hk; exact h
  | k + 1, hk => simp at hk
theorem xfs_len (L : List Nat) (i : Nat → Int32) (j : Nat → Int64) (r : Nat → Option Nat) : (xfs L i j r).length = L.length := by simp [xfs]
theorem xfs_get (L : List Nat) (i : Nat → Int32) (j : Nat → Int64) (r : Nat → Option Nat) {k : Nat} (h : k < L.length) : (xfs L i j r)[k]? = some (xfv (L.getD k 0) i j r k) := by
  simp [xfs, h]
theorem xfs_set (L : List Nat) {i i2 : Nat → Int32} {j j2 : Nat → Int64} {r r2 : Nat → Option Nat} {k : Nat} {v : Value} (h : k < L.length) (hv : xfv (L.getD k 0) i2 j2 r2 k = v) (ho : ∀ n, n ≠ k → i2 n = i n ∧ j2 n = j n ∧ r2 n = r n) : (xfs L i j r).set k v = xfs L i2 j2 r2 := by
  apply List.ext_getElem?
  intro n
  by_cases hn : n = k
  · subst hn
    rw [List.getElem?_set_self (by rw [xfs_len]; exact h), xfs_get L i2 j2 r2 h, hv]
  · rw [List.getElem?_set_ne (fun q => hn q.symm)]
    by_cases hl : n < L.length
    · rw [xfs_get L i j r hl, xfs_get L i2 j2 r2 hl]
      obtain ⟨e1, e2, e3⟩ := ho n hn
      simp only [xfv, e1, e2, e3]
    · rw [List.getElem?_eq_none (by rw [xfs_len]; omega), List.getElem?_eq_none (by rw [xfs_len]; omega)]
theorem x2_ne {α : Type} {f : Nat → Nat → α} {a k b : Nat} {v : α} (h : b ≠ a) : x2 f a k v b = f b := by
  funext j; simp [x2, h]
theorem x2_self {α : Type} (f : Nat → Nat → α) (a k : Nat) (v : α) : x2 f a k v a = va_up (f a) k v := by
  funext j; simp [x2, va_up]
theorem xv_cat (B : Nat) (g : Nat → Nat) (v : Value) : (xv B g v).category = v.category := by cases v <;> rfl
theorem xv_rf (B : Nat) (g : Nat → Nat) (r : Option Nat) : xv B g (va_rf r) = va_rf (r.map (xad B g)) := by cases r <;> rfl
theorem xv_fv (B : Nat) (g : Nat → Nat) (t : Nat) (i : Nat → Int32) (j : Nat → Int64) (r : Nat → Option Nat) (k : Nat) : xv B g (xfv t i j r k) = xfv t i j (fun k => (r k).map (xad B g)) k := by
  unfold xfv
  by_cases h1 : t = 1
  · simp [h1, xv]
  · by_cases h2 : t = 2
    · simp [h2, xv_rf]
    · simp [h1, h2, xv]
theorem xad_lt {B : Nat} {g : Nat → Nat} {a : Nat} (h : a < 1000000) : xad B g a = B + a := by simp [xad, h]
theorem xst1_map (B : Nat) (g : Nat → Nat) (lv : xL) (i : Nat) (v : Value) : (i, xv B g v) :: (lv.map (fun q => (q.1, xv B g q.2))).filter (fun q => !(q.1 == i) && !(q.1 + 1 == i && q.2.category == 2)) = (xst1 lv i v).map (fun q => (q.1, xv B g q.2)) := by
  unfold xst1
  rw [List.map_cons, List.filter_map]
  congr 2
  apply List.filter_congr
  intro q _
  simp [xv_cat]
theorem xst2_map (B : Nat) (g : Nat → Nat) (lv : xL) (i : Nat) (v : Value) : (i, xv B g v) :: (lv.map (fun q => (q.1, xv B g q.2))).filter (fun q => !(q.1 == i) && (!(q.1 == i + 1) && !(q.1 + 1 == i && q.2.category == 2))) = (xst2 lv i v).map (fun q => (q.1, xv B g q.2)) := by
  unfold xst2
  rw [List.map_cons, List.filter_map]
  congr 2
  apply List.filter_congr
  intro q _
  simp [xv_cat]
theorem xld_mem {lv : xL} {i : Nat} {v : Value} (h : xld lv i = some v) : (i, v) ∈ lv := by
  unfold xld at h
  obtain ⟨e, he, hv⟩ := Option.map_eq_some_iff.mp h
  have h1 := List.mem_of_find?_eq_some he
  have h2 : e.1 = i := by simpa using List.find?_some he
  rw [← h2, ← hv]
  exact h1
theorem xld_at {lv : xL} {i nL : Nat} {v : Value} {B : Nat} {g : Nat → Nat} {ls : Array Slot} (h : xld lv i = some v) (hl : lv_has ls nL (lv.map (fun q => (q.1, xv B g q.2)))) : ls[i]? = some (.val (xv B g v)) :=
  hl.2.2 (i, xv B g v) (List.mem_map.mpr ⟨(i, v), xld_mem h, rfl⟩)
section XR
variable {p : Program} {l : Launch} {e : Env} {R : Room} {s : State} {m : MethodId} {args : Array Value} {below : List Frame} {meth : Method} {c : Code} {Q : State → Prop} {D : va_G} {dA : Nat → ClassId} {B : Nat} {g : Nat → Nat} {A : Nat → Prop} {nL pc pc2 : Nat} {lv : xL} {st : List Value} {cn qn : Nat} {S : xS} {K : xK} {r : xR}
/-- the goal of all that follows: what K comes to, the machine comes to -/
def xG (p : Program) (l : Launch) (e : Env) (R : Room) (s : State) (m : MethodId) (args : Array Value) (below : List Frame) (meth : Method) (c : Code) (Q : State → Prop) (D : va_G) (dA : Nat → ClassId) (B : Nat) (g : Nat → Nat) (A : Nat → Prop) (nL : Nat) (K : xK) (r : xR) : Prop :=
  ∀ (pc : Nat) (lv : xL) (st : List Value) (cn qn : Nat) (S : xS), K pc lv st cn qn S = some r → xW p l e R s m args below meth c Q D dA B g A nL pc lv st cn qn S
theorem xs_bI (hK : xG p l e R s m args below meth c Q D dA B g A nL K r) {f : Int32 → Int32 → Int32} (row : ∀ (ls : Array Slot) (H : Heap) (locs : List Loc) (a b : Int32) (t : List Value), W p l e R s m args below meth c H locs cn qn Q (F0 m pc2 ls (.int (f a b) :: t)) → W p l e R s m args below meth c H locs cn qn Q (F0 m pc ls (.int b :: .int a :: t))) (h : xbI (fun t => K pc2 lv t cn qn S) f st = some r) : xW p l e R s m args below meth c Q D dA B g A nL pc lv st cn qn S := by
  unfold xbI at h
  split at h
  · intro ls H locs hl hH hS hAd
    exact row ls H locs _ _ _ (hK _ _ _ _ _ _ h ls H locs hl hH hS hAd)
  · cases h
theorem xs_bD (hK : xG p l e R s m args below meth c Q D dA B g A nL K r) {f : Int32 → Int32 → Int32} (row : ∀ (ls : Array Slot) (H : Heap) (locs : List Loc) (a b : Int32) (t : List Value), ¬ b = 0 → W p l e R s m args below meth c H locs cn qn Q (F0 m pc2 ls (.int (f a b) :: t)) → W p l e R s m args below meth c H locs cn qn Q (F0 m pc ls (.int b :: .int a :: t))) (h : xbD (fun t => K pc2 lv t cn qn S) f st = some r) : xW p l e R s m args below meth c Q D dA B g A nL pc lv st cn qn S := by
  unfold xbD at h
  split at h
  · split at h
    · cases h
    · next hne => exact fun ls H locs hl hH hS hAd => row ls H locs _ _ _ hne (hK _ _ _ _ _ _ h ls H locs hl hH hS hAd)
  · cases h
theorem xs_bL (hK : xG p l e R s m args below meth c Q D dA B g A nL K r) {f : Int64 → Int64 → Int64} (row : ∀ (ls : Array Slot) (H : Heap) (locs : List Loc) (a b : Int64) (t : List Value), W p l e R s m args below meth c H locs cn qn Q (F0 m pc2 ls (.long (f a b) :: t)) → W p l e R s m args below meth c H locs cn qn Q (F0 m pc ls (.long b :: .long a :: t))) (h : xbL (fun t => K pc2 lv t cn qn S) f st = some r) : xW p l e R s m args below meth c Q D dA B g A nL pc lv st cn qn S := by
  unfold xbL at h
  split at h
  · intro ls H locs hl hH hS hAd
    exact row ls H locs _ _ _ (hK _ _ _ _ _ _ h ls H locs hl hH hS hAd)
  · cases h
theorem xs_bE (hK : xG p l e R s m args below meth c Q D dA B g A nL K r) {f : Int64 → Int64 → Int64} (row : ∀ (ls : Array Slot) (H : Heap) (locs : List Loc) (a b : Int64) (t : List Value), ¬ b = 0 → W p l e R s m args below meth c H locs cn qn Q (F0 m pc2 ls (.long (f a b) :: t)) → W p l e R s m args below meth c H locs cn qn Q (F0 m pc ls (.long b :: .long a :: t))) (h : xbE (fun t => K pc2 lv t cn qn S) f st = some r) : xW p l e R s m args below meth c Q D dA B g A nL pc lv st cn qn S := by
  unfold xbE at h
  split at h
  · split at h
    · cases h
    · next hne => exact fun ls H locs hl hH hS hAd => row ls H locs _ _ _ hne (hK _ _ _ _ _ _ h ls H locs hl hH hS hAd)
  · cases h
theorem xs_bS (hK : xG p l e R s m args below meth c Q D dA B g A nL K r) {f : Int64 → Int32 → Int64} (row : ∀ (ls : Array Slot) (H : Heap) (locs : List Loc) (a : Int64) (b : Int32) (t : List Value), W p l e R s m args below meth c H locs cn qn Q (F0 m pc2 ls (.long (f a b) :: t)) → W p l e R s m args below meth c H locs cn qn Q (F0 m pc ls (.int b :: .long a :: t))) (h : xbS (fun t => K pc2 lv t cn qn S) f st = some r) : xW p l e R s m args below meth c Q D dA B g A nL pc lv st cn qn S := by
  unfold xbS at h
  split at h
  · intro ls H locs hl hH hS hAd
    exact row ls H locs _ _ _ (hK _ _ _ _ _ _ h ls H locs hl hH hS hAd)
  · cases h
theorem xs_bC (hK : xG p l e R s m args below meth c Q D dA B g A nL K r) (row : ∀ (ls : Array Slot) (H : Heap) (locs : List Loc) (a b : Int64) (t : List Value), W p l e R s m args below meth c H locs cn qn Q (F0 m pc2 ls (.int (lg_cmp a b) :: t)) → W p l e R s m args below meth c H locs cn qn Q (F0 m pc ls (.long b :: .long a :: t))) (h : xbC (fun t => K pc2 lv t cn qn S) st = some r) : xW p l e R s m args below meth c Q D dA B g A nL pc lv st cn qn S := by
  unfold xbC at h
  split at h
  · intro ls H locs hl hH hS hAd
    exact row ls H locs _ _ _ (hK _ _ _ _ _ _ h ls H locs hl hH hS hAd)
  · cases h
theorem xs_uI (hK : xG p l e R s m args below meth c Q D dA B g A nL K r) {f : Int32 → Value} (hf : ∀ a, xv B g (f a) = f a) (row : ∀ (ls : Array Slot) (H : Heap) (locs : List Loc) (a : Int32) (t : List Value), W p l e R s m args below meth c H locs cn qn Q (F0 m pc2 ls (f a :: t)) → W p l e R s m args below meth c H locs cn qn Q (F0 m pc ls (.int a :: t))) (h : xuI (fun t => K pc2 lv t cn qn S) f st = some r) : xW p l e R s m args below meth c Q D dA B g A nL pc lv st cn qn S := by
  unfold xuI at h
  split at h
  · intro ls H locs hl hH hS hAd
    have := hK _ _ _ _ _ _ h ls H locs hl hH hS hAd
    rw [List.map_cons, hf] at this
    exact row ls H locs _ _ this
  · cases h
theorem xs_uL (hK : xG p l e R s m args below meth c Q D dA B g A nL K r) {f : Int64 → Value} (hf : ∀ a, xv B g (f a) = f a) (row : ∀ (ls : Array Slot) (H : Heap) (locs : List Loc) (a : Int64) (t : List Value), W p l e R s m args below meth c H locs cn qn Q (F0 m pc2 ls (f a :: t)) → W p l e R s m args below meth c H locs cn qn Q (F0 m pc ls (.long a :: t))) (h : xuL (fun t => K pc2 lv t cn qn S) f st = some r) : xW p l e R s m args below meth c Q D dA B g A nL pc lv st cn qn S := by
  unfold xuL at h
  split at h
  · intro ls H locs hl hH hS hAd
    have := hK _ _ _ _ _ _ h ls H locs hl hH hS hAd
    rw [List.map_cons, hf] at this
    exact row ls H locs _ _ this
  · cases h
/-- a value comes onto the stack -/
theorem xs_push (hK : xG p l e R s m args below meth c Q D dA B g A nL K r) {v : Value} (hv : xv B g v = v) (row : ∀ (ls : Array Slot) (H : Heap) (locs : List Loc) (t : List Value), W p l e R s m args below meth c H locs cn qn Q (F0 m pc2 ls (v :: t)) → W p l e R s m args below meth c H locs cn qn Q (F0 m pc ls t)) (h : K pc2 lv (v :: st) cn qn S = some r) : xW p l e R s m args below meth c Q D dA B g A nL pc lv st cn qn S := by
  intro ls H locs hl hH hS hAd
  have := hK _ _ _ _ _ _ h ls H locs hl hH hS hAd
  rw [List.map_cons, hv] at this
  exact row ls H locs _ this
theorem xs_ldI (hK : xG p l e R s m args below meth c Q D dA B g A nL K r) {i : Nat} (row : ∀ (ls : Array Slot) (H : Heap) (locs : List Loc) (x : Int32) (t : List Value), ls[i]? = some (.val (.int x)) → W p l e R s m args below meth c H locs cn qn Q (F0 m pc2 ls (.int x :: t)) → W p l e R s m args below meth c H locs cn qn Q (F0 m pc ls t)) (h : xldI (fun v => K pc2 lv (v :: st) cn qn S) lv i = some r) : xW p l e R s m args below meth c Q D dA B g A nL pc lv st cn qn S := by
  unfold xldI at h
  split at h
  · next hx => exact fun ls H locs hl hH hS hAd => row ls H locs _ _ (xld_at hx hl) (hK _ _ _ _ _ _ h ls H locs hl hH hS hAd)
  · cases h
theorem xs_ldL (hK : xG p l e R s m args below meth c Q D dA B g A nL K r) {i : Nat} (row : ∀ (ls : Array Slot) (H : Heap) (locs : List Loc) (x : Int64) (t : List Value), ls[i]? = some (.val (.long x)) → W p l e R s m args below meth c H locs cn qn Q (F0 m pc2 ls (.long x :: t)) → W p l e R s m args below meth c H locs cn qn Q (F0 m pc ls t)) (h : xldL (fun v => K pc2 lv (v :: st) cn qn S) lv i = some r) : xW p l e R s m args below meth c Q D dA B g A nL pc lv st cn qn S := by
  unfold xldL at h
  split at h
  · next hx => exact fun ls H locs hl hH hS hAd => row ls H locs _ _ (xld_at hx hl) (hK _ _ _ _ _ _ h ls H locs hl hH hS hAd)
  · cases h
theorem xs_ldA (hK : xG p l e R s m args below meth c Q D dA B g A nL K r) {i : Nat} (row : ∀ (ls : Array Slot) (H : Heap) (locs : List Loc) (x : Nat) (t : List Value), ls[i]? = some (.val (.ref x)) → W p l e R s m args below meth c H locs cn qn Q (F0 m pc2 ls (.ref x :: t)) → W p l e R s m args below meth c H locs cn qn Q (F0 m pc ls t)) (row0 : ∀ (ls : Array Slot) (H : Heap) (locs : List Loc) (t : List Value), ls[i]? = some (.val .null) → W p l e R s m args below meth c H locs cn qn Q (F0 m pc2 ls (.null :: t)) → W p l e R s m args below meth c H locs cn qn Q (F0 m pc ls t)) (h : xldA (fun v => K pc2 lv (v :: st) cn qn S) lv i = some r) : xW p l e R s m args below meth c Q D dA B g A nL pc lv st cn qn S := by
  unfold xldA at h
  split at h
  · next hx => exact fun ls H locs hl hH hS hAd => row ls H locs _ _ (xld_at hx hl) (hK _ _ _ _ _ _ h ls H locs hl hH hS hAd)
  · next hx => exact fun ls H locs hl hH hS hAd => row0 ls H locs _ (xld_at hx hl) (hK _ _ _ _ _ _ h ls H locs hl hH hS hAd)
  · cases h
theorem xs_stI (hK : xG p l e R s m args below meth c Q D dA B g A nL K r) {i : Nat} (row : ∀ (ls : Array Slot) (H : Heap) (locs : List Loc) (x : Int32) (t : List Value) (lv1 lv2 : xL), lv_has ls nL lv1 → i < nL → (i, Value.int x) :: lv1.filter (fun q => !(q.1 == i) && !(q.1 + 1 == i && q.2.category == 2)) = lv2 → (∀ ls2 : Array Slot, lv_has ls2 nL lv2 → W p l e R s m args below meth c H locs cn qn Q (F0 m pc2 ls2 t)) → W p l e R s m args below meth c H locs cn qn Q (F0 m pc ls (.int x :: t))) (h : xstI (fun lv t => K pc2 lv t cn qn S) lv i nL st = some r) : xW p l e R s m args below meth c Q D dA B g A nL pc lv st cn qn S := by
  unfold xstI at h
  split at h
  · next x t =>
    split at h
    · next hi => exact fun ls H locs hl hH hS hAd => row ls H locs _ _ _ _ hl hi (xst1_map B g lv i (.int x)) (fun ls2 hl2 => hK _ _ _ _ _ _ h ls2 H locs hl2 hH hS hAd)
    · cases h
  · cases h
theorem xs_stL (hK : xG p l e R s m args below meth c Q D dA B g A nL K r) {i : Nat} (row : ∀ (ls : Array Slot) (H : Heap) (locs : List Loc) (x : Int64) (t : List Value) (lv1 lv2 : xL), lv_has ls nL lv1 → i + 1 < nL → (i, Value.long x) :: lv1.filter (fun q => !(q.1 == i) && (!(q.1 == i + 1) && !(q.1 + 1 == i && q.2.category == 2))) = lv2 → (∀ ls2 : Array Slot, lv_has ls2 nL lv2 → W p l e R s m args below meth c H locs cn qn Q (F0 m pc2 ls2 t)) → W p l e R s m args below meth c H locs cn qn Q (F0 m pc ls (.long x :: t))) (h : xstL (fun lv t => K pc2 lv t cn qn S) lv i nL st = some r) : xW p l e R s m args below meth c Q D dA B g A nL pc lv st cn qn S := by
  unfold xstL at h
  split at h
  · next x t =>
    split at h
    · next hi => exact fun ls H locs hl hH hS hAd => row ls H locs _ _ _ _ hl hi (xst2_map B g lv i (.long x)) (fun ls2 hl2 => hK _ _ _ _ _ _ h ls2 H locs hl2 hH hS hAd)
    · cases h
  · cases h
theorem xs_stA (hK : xG p l e R s m args below meth c Q D dA B g A nL K r) {i : Nat} (row : ∀ (ls : Array Slot) (H : Heap) (locs : List Loc) (x : Nat) (t : List Value) (lv1 lv2 : xL), lv_has ls nL lv1 → i < nL → (i, Value.ref x) :: lv1.filter (fun q => !(q.1 == i) && !(q.1 + 1 == i && q.2.category == 2)) = lv2 → (∀ ls2 : Array Slot, lv_has ls2 nL lv2 → W p l e R s m args below meth c H locs cn qn Q (F0 m pc2 ls2 t)) → W p l e R s m args below meth c H locs cn qn Q (F0 m pc ls (.ref x :: t))) (row0 : ∀ (ls : Array Slot) (H : Heap) (locs : List Loc) (t : List Value) (lv1 lv2 : xL), lv_has ls nL lv1 → i < nL → (i, Value.null) :: lv1.filter (fun q => !(q.1 == i) && !(q.1 + 1 == i && q.2.category == 2)) = lv2 → (∀ ls2 : Array Slot, lv_has ls2 nL lv2 → W p l e R s m args below meth c H locs cn qn Q (F0 m pc2 ls2 t)) → W p l e R s m args below meth c H locs cn qn Q (F0 m pc ls (.null :: t))) (h : xstA (fun lv t => K pc2 lv t cn qn S) lv i nL st = some r) : xW p l e R s m args below meth c Q D dA B g A nL pc lv st cn qn S := by
  unfold xstA at h
  split at h
  · next x t =>
    split at h
    · next hi => exact fun ls H locs hl hH hS hAd => row ls H locs _ _ _ _ hl hi (xst1_map B g lv i (.ref x)) (fun ls2 hl2 => hK _ _ _ _ _ _ h ls2 H locs hl2 hH hS hAd)
    · cases h
  · split at h
    · next hi => exact fun ls H locs hl hH hS hAd => row0 ls H locs _ _ _ hl hi (xst1_map B g lv i .null) (fun ls2 hl2 => hK _ _ _ _ _ _ h ls2 H locs hl2 hH hS hAd)
    · cases h
  · cases h
theorem xs_inc (hK : xG p l e R s m args below meth c Q D dA B g A nL K r) {i : Nat} {n : Int} (row : ∀ (ls : Array Slot) (H : Heap) (locs : List Loc) (x : Int32) (t : List Value) (k : Nat) (lv1 lv2 : xL), lv_has ls nL lv1 → lv1[k]? = some (i, .int x) → i < nL → (i, Value.int (x + Int32.ofInt n)) :: lv1.filter (fun q => !(q.1 == i) && !(q.1 + 1 == i && q.2.category == 2)) = lv2 → (∀ ls2 : Array Slot, lv_has ls2 nL lv2 → W p l e R s m args below meth c H locs cn qn Q (F0 m pc2 ls2 t)) → W p l e R s m args below meth c H locs cn qn Q (F0 m pc ls t)) (h : xinc (fun lv => K pc2 lv st cn qn S) lv i nL n = some r) : xW p l e R s m args below meth c Q D dA B g A nL pc lv st cn qn S := by
  unfold xinc at h
  split at h
  · next x hx =>
    split at h
    · next hi =>
      intro ls H locs hl hH hS hAd
      obtain ⟨k, hk⟩ := List.getElem?_of_mem (show (i, Value.int x) ∈ lv.map (fun q => (q.1, xv B g q.2)) from List.mem_map.mpr ⟨(i, .int x), xld_mem hx, rfl⟩)
      exact row ls H locs x _ k _ _ hl hk hi (xst1_map B g lv i (.int (x + Int32.ofInt n))) (fun ls2 hl2 => hK _ _ _ _ _ _ h ls2 H locs hl2 hH hS hAd)
    · cases h
  · cases h
end XR
end
section
-- THE EVALUATOR AND THE MACHINE, second part: the stack, branches, the heap
section XR2
variable {p : Program} {l : Launch} {e : Env} {R : Room} {s : State} {m : MethodId} {args : Array Value} {below : List Frame} {meth : Method} {c : Code} {Q : State → Prop} {D : va_G} {dA : Nat → ClassId} {B : Nat} {g : Nat → Nat} {A : Nat → Prop} {nL pc pc2 y : Nat} {lv : xL} {st : List Value} {cn qn : Nat} {S : xS} {K : xK} {r : xR}
theorem xs_tg {k : Nat → Option xR} {off : Int} (h : xtg k pc off = some r) : ∃ t : Nat, (pc : Int) + off = (t : Int) ∧ k t = some r := by
  unfold xtg at h
  split at h
  · cases h
  · next hn => exact ⟨_, by omega, h⟩
theorem xs_dup (hK : xG p l e R s m args below meth c Q D dA B g A nL K r) (row : ∀ (ls : Array Slot) (H : Heap) (locs : List Loc) (a : Value) (t : List Value), a.category = 1 → W p l e R s m args below meth c H locs cn qn Q (F0 m pc2 ls (a :: a :: t)) → W p l e R s m args below meth c H locs cn qn Q (F0 m pc ls (a :: t))) (h : xdup (fun t => K pc2 lv t cn qn S) st = some r) : xW p l e R s m args below meth c Q D dA B g A nL pc lv st cn qn S := by
  unfold xdup at h
  split at h
  · split at h
    · next hc => exact fun ls H locs hl hH hS hAd => row ls H locs _ _ ((xv_cat B g _).trans hc) (hK _ _ _ _ _ _ h ls H locs hl hH hS hAd)
    · cases h
  · cases h
theorem xs_pop (hK : xG p l e R s m args below meth c Q D dA B g A nL K r) (row : ∀ (ls : Array Slot) (H : Heap) (locs : List Loc) (a : Value) (t : List Value), a.category = 1 → W p l e R s m args below meth c H locs cn qn Q (F0 m pc2 ls t) → W p l e R s m args below meth c H locs cn qn Q (F0 m pc ls (a :: t))) (h : xpop (fun t => K pc2 lv t cn qn S) st = some r) : xW p l e R s m args below meth c Q D dA B g A nL pc lv st cn qn S := by
  unfold xpop at h
  split at h
  · split at h
    · next hc => exact fun ls H locs hl hH hS hAd => row ls H locs _ _ ((xv_cat B g _).trans hc) (hK _ _ _ _ _ _ h ls H locs hl hH hS hAd)
    · cases h
  · cases h
theorem xs_pop2 (hK : xG p l e R s m args below meth c Q D dA B g A nL K r) (row : ∀ (ls : Array Slot) (H : Heap) (locs : List Loc) (a : Value) (t : List Value), a.category = 2 → W p l e R s m args below meth c H locs cn qn Q (F0 m pc2 ls t) → W p l e R s m args below meth c H locs cn qn Q (F0 m pc ls (a :: t))) (h : xpop2 (fun t => K pc2 lv t cn qn S) st = some r) : xW p l e R s m args below meth c Q D dA B g A nL pc lv st cn qn S := by
  unfold xpop2 at h
  split at h
  · split at h
    · next hc => exact fun ls H locs hl hH hS hAd => row ls H locs _ _ ((xv_cat B g _).trans hc) (hK _ _ _ _ _ _ h ls H locs hl hH hS hAd)
    · cases h
  · cases h
theorem xs_dupx1 (hK : xG p l e R s m args below meth c Q D dA B g A nL K r) (row : ∀ (ls : Array Slot) (H : Heap) (locs : List Loc) (a b : Value) (t : List Value), a.category = 1 → b.category = 1 → W p l e R s m args below meth c H locs cn qn Q (F0 m pc2 ls (a :: b :: a :: t)) → W p l e R s m args below meth c H locs cn qn Q (F0 m pc ls (a :: b :: t))) (h : xdupx1 (fun t => K pc2 lv t cn qn S) st = some r) : xW p l e R s m args below meth c Q D dA B g A nL pc lv st cn qn S := by
  unfold xdupx1 at h
  split at h
  · split at h
    · next hc =>
      split at h
      · next hd => exact fun ls H locs hl hH hS hAd => row ls H locs _ _ _ ((xv_cat B g _).trans hc) ((xv_cat B g _).trans hd) (hK _ _ _ _ _ _ h ls H locs hl hH hS hAd)
      · cases h
    · cases h
  · cases h
theorem xs_dup2 (hK : xG p l e R s m args below meth c Q D dA B g A nL K r) (row : ∀ (ls : Array Slot) (H : Heap) (locs : List Loc) (a b : Value) (t : List Value), a.category = 1 → b.category = 1 → W p l e R s m args below meth c H locs cn qn Q (F0 m pc2 ls (a :: b :: a :: b :: t)) → W p l e R s m args below meth c H locs cn qn Q (F0 m pc ls (a :: b :: t))) (h : xdup2 (fun t => K pc2 lv t cn qn S) st = some r) : xW p l e R s m args below meth c Q D dA B g A nL pc lv st cn qn S := by
  unfold xdup2 at h
  split at h
  · split at h
    · next hc =>
      split at h
      · next hd => exact fun ls H locs hl hH hS hAd => row ls H locs _ _ _ ((xv_cat B g _).trans hc) ((xv_cat B g _).trans hd) (hK _ _ _ _ _ _ h ls H locs hl hH hS hAd)
      · cases h
    · cases h
  · cases h
theorem xs_dupx2 (hK : xG p l e R s m args below meth c Q D dA B g A nL K r) (row : ∀ (ls : Array Slot) (H : Heap) (locs : List Loc) (a b d : Value) (t : List Value), a.category = 1 → b.category = 1 → d.category = 1 → W p l e R s m args below meth c H locs cn qn Q (F0 m pc2 ls (a :: b :: d :: a :: t)) → W p l e R s m args below meth c H locs cn qn Q (F0 m pc ls (a :: b :: d :: t))) (h : xdupx2 (fun t => K pc2 lv t cn qn S) st = some r) : xW p l e R s m args below meth c Q D dA B g A nL pc lv st cn qn S := by
  unfold xdupx2 at h
  split at h
  · split at h
    · next hc =>
      split at h
      · next hd =>
        split at h
        · next he => exact fun ls H locs hl hH hS hAd => row ls H locs _ _ _ _ ((xv_cat B g _).trans hc) ((xv_cat B g _).trans hd) ((xv_cat B g _).trans he) (hK _ _ _ _ _ _ h ls H locs hl hH hS hAd)
        · cases h
      · cases h
    · cases h
  · cases h
theorem xs_if (hK : xG p l e R s m args below meth c Q D dA B g A nL K r) {d : Jvm.ClassFile.Cond} {off : Int} (row : ∀ (ls : Array Slot) (H : Heap) (locs : List Loc) (a : Int32) (t : List Value) (tgt : Nat), (pc : Int) + off = (tgt : Int) → (xcb d a 0 = true → W p l e R s m args below meth c H locs cn qn Q (F0 m tgt ls t)) → (¬ xcb d a 0 = true → W p l e R s m args below meth c H locs cn qn Q (F0 m (pc + 3) ls t)) → W p l e R s m args below meth c H locs cn qn Q (F0 m pc ls (.int a :: t))) (h : xif (fun t q => K t lv q cn qn S) d pc off st = some r) : xW p l e R s m args below meth c Q D dA B g A nL pc lv st cn qn S := by
  unfold xif at h
  split at h
  · split at h
    · cases h
    · next hn =>
      split at h
      · next hc => exact fun ls H locs hl hH hS hAd => row ls H locs _ _ ((pc : Int) + off).toNat (by omega) (fun _ => hK _ _ _ _ _ _ h ls H locs hl hH hS hAd) (fun q => absurd hc q)
      · next hc => exact fun ls H locs hl hH hS hAd => row ls H locs _ _ ((pc : Int) + off).toNat (by omega) (fun q => absurd q hc) (fun _ => hK _ _ _ _ _ _ h ls H locs hl hH hS hAd)
  · cases h
theorem xs_ic (hK : xG p l e R s m args below meth c Q D dA B g A nL K r) {d : Jvm.ClassFile.Cond} {off : Int} (row : ∀ (ls : Array Slot) (H : Heap) (locs : List Loc) (a b : Int32) (t : List Value) (tgt : Nat), (pc : Int) + off = (tgt : Int) → (xcb d a b = true → W p l e R s m args below meth c H locs cn qn Q (F0 m tgt ls t)) → (¬ xcb d a b = true → W p l e R s m args below meth c H locs cn qn Q (F0 m (pc + 3) ls t)) → W p l e R s m args below meth c H locs cn qn Q (F0 m pc ls (.int b :: .int a :: t))) (h : xic (fun t q => K t lv q cn qn S) d pc off st = some r) : xW p l e R s m args below meth c Q D dA B g A nL pc lv st cn qn S := by
  unfold xic at h
  split at h
  · split at h
    · cases h
    · next hn =>
      split at h
      · next hc => exact fun ls H locs hl hH hS hAd => row ls H locs _ _ _ ((pc : Int) + off).toNat (by omega) (fun _ => hK _ _ _ _ _ _ h ls H locs hl hH hS hAd) (fun q => absurd hc q)
      · next hc => exact fun ls H locs hl hH hS hAd => row ls H locs _ _ _ ((pc : Int) + off).toNat (by omega) (fun q => absurd q hc) (fun _ => hK _ _ _ _ _ _ h ls H locs hl hH hS hAd)
  · cases h
theorem xs_goto (hK : xG p l e R s m args below meth c Q D dA B g A nL K r) {off : Int} (row : ∀ (ls : Array Slot) (H : Heap) (locs : List Loc) (t : List Value) (tgt : Nat), (pc : Int) + off = (tgt : Int) → W p l e R s m args below meth c H locs cn qn Q (F0 m tgt ls t) → W p l e R s m args below meth c H locs cn qn Q (F0 m pc ls t)) (h : xtg (fun t => K t lv st cn qn S) pc off = some r) : xW p l e R s m args below meth c Q D dA B g A nL pc lv st cn qn S := by
  obtain ⟨t, ht, hk⟩ := xs_tg h
  exact fun ls H locs hl hH hS hAd => row ls H locs _ t ht (hK _ _ _ _ _ _ hk ls H locs hl hH hS hAd)
theorem xs_tsw (hK : xG p l e R s m args below meth c Q D dA B g A nL K r) {dflt lo hi : Int} {offs : Array Int} (row1 : ∀ (ls : Array Slot) (H : Heap) (locs : List Loc) (x : Int32) (t : List Value) (tgt : Nat), x.toInt < lo ∨ hi < x.toInt → (pc : Int) + dflt = (tgt : Int) → W p l e R s m args below meth c H locs cn qn Q (F0 m tgt ls t) → W p l e R s m args below meth c H locs cn qn Q (F0 m pc ls (.int x :: t))) (row2 : ∀ (ls : Array Slot) (H : Heap) (locs : List Loc) (x : Int32) (t : List Value) (tgt : Nat) (off : Int), ¬ x.toInt < lo → ¬ hi < x.toInt → offs[(x.toInt - lo).toNat]? = some off → (pc : Int) + off = (tgt : Int) → W p l e R s m args below meth c H locs cn qn Q (F0 m tgt ls t) → W p l e R s m args below meth c H locs cn qn Q (F0 m pc ls (.int x :: t))) (h : xtsw (fun t q => K t lv q cn qn S) pc dflt lo hi offs st = some r) : xW p l e R s m args below meth c Q D dA B g A nL pc lv st cn qn S := by
  unfold xtsw at h
  split at h
  · split at h
    · next hc =>
      obtain ⟨t, ht, hk⟩ := xs_tg h
      exact fun ls H locs hl hH hS hAd => row1 ls H locs _ _ t hc ht (hK _ _ _ _ _ _ hk ls H locs hl hH hS hAd)
    · next hc =>
      split at h
      · next off ho =>
        obtain ⟨t, ht, hk⟩ := xs_tg h
        exact fun ls H locs hl hH hS hAd => row2 ls H locs _ _ t off (fun q => hc (Or.inl q)) (fun q => hc (Or.inr q)) ho ht (hK _ _ _ _ _ _ hk ls H locs hl hH hS hAd)
      · cases h
  · cases h
theorem xs_lsw (hK : xG p l e R s m args below meth c Q D dA B g A nL K r) {dflt : Int} {ps : Array (Int × Int)} (row : ∀ (ls : Array Slot) (H : Heap) (locs : List Loc) (x : Int32) (t : List Value) (tgt : Nat), (ps.toList.zip (ps.toList.drop 1)).all (fun (a, next) => a.1 < next.1) = true → (pc : Int) + Op.lookupswitch.offset ps.toList dflt x.toInt = (tgt : Int) → W p l e R s m args below meth c H locs cn qn Q (F0 m tgt ls t) → W p l e R s m args below meth c H locs cn qn Q (F0 m pc ls (.int x :: t))) (h : xlsw (fun t q => K t lv q cn qn S) pc dflt ps st = some r) : xW p l e R s m args below meth c Q D dA B g A nL pc lv st cn qn S := by
  unfold xlsw at h
  split at h
  · split at h
    · next hc =>
      obtain ⟨t, ht, hk⟩ := xs_tg h
      exact fun ls H locs hl hH hS hAd => row ls H locs _ _ t hc ht (hK _ _ _ _ _ _ hk ls H locs hl hH hS hAd)
    · cases h
  · cases h
theorem xs_nul (hK : xG p l e R s m args below meth c Q D dA B g A nL K r) {off : Int} (row1 : ∀ (ls : Array Slot) (H : Heap) (locs : List Loc) (t : List Value) (tgt : Nat), (pc : Int) + off = (tgt : Int) → W p l e R s m args below meth c H locs cn qn Q (F0 m tgt ls t) → W p l e R s m args below meth c H locs cn qn Q (F0 m pc ls (.null :: t))) (row2 : ∀ (ls : Array Slot) (H : Heap) (locs : List Loc) (x : Nat) (t : List Value), W p l e R s m args below meth c H locs cn qn Q (F0 m (pc + 3) ls t) → W p l e R s m args below meth c H locs cn qn Q (F0 m pc ls (.ref x :: t))) (h : xnul (fun t q => K t lv q cn qn S) pc off st = some r) : xW p l e R s m args below meth c Q D dA B g A nL pc lv st cn qn S := by
  unfold xnul at h
  split at h
  · obtain ⟨t, ht, hk⟩ := xs_tg h
    exact fun ls H locs hl hH hS hAd => row1 ls H locs _ t ht (hK _ _ _ _ _ _ hk ls H locs hl hH hS hAd)
  · exact fun ls H locs hl hH hS hAd => row2 ls H locs _ _ (hK _ _ _ _ _ _ h ls H locs hl hH hS hAd)
  · cases h
theorem xs_nnl (hK : xG p l e R s m args below meth c Q D dA B g A nL K r) {off : Int} (row1 : ∀ (ls : Array Slot) (H : Heap) (locs : List Loc) (t : List Value), W p l e R s m args below meth c H locs cn qn Q (F0 m (pc + 3) ls t) → W p l e R s m args below meth c H locs cn qn Q (F0 m pc ls (.null :: t))) (row2 : ∀ (ls : Array Slot) (H : Heap) (locs : List Loc) (x : Nat) (t : List Value) (tgt : Nat), (pc : Int) + off = (tgt : Int) → W p l e R s m args below meth c H locs cn qn Q (F0 m tgt ls t) → W p l e R s m args below meth c H locs cn qn Q (F0 m pc ls (.ref x :: t))) (h : xnnl (fun t q => K t lv q cn qn S) pc off st = some r) : xW p l e R s m args below meth c Q D dA B g A nL pc lv st cn qn S := by
  unfold xnnl at h
  split at h
  · exact fun ls H locs hl hH hS hAd => row1 ls H locs _ (hK _ _ _ _ _ _ h ls H locs hl hH hS hAd)
  · obtain ⟨t, ht, hk⟩ := xs_tg h
    exact fun ls H locs hl hH hS hAd => row2 ls H locs _ _ t ht (hK _ _ _ _ _ _ hk ls H locs hl hH hS hAd)
  · cases h
end XR2
end
section
-- THE EVALUATOR AND THE MACHINE, third part: fields and arrays
theorem xh_cls {ci : Nat} {C : String} {T : u_T} {N : Nat} (h : xc_cl[ci]? = some (C, T, N)) : ∃ Y : Nat → FieldType, (xc_fk ci).length = N ∧ xc_on ci = C ∧ Cond.instantiable C N ∈ xc_tbl ∧ Cond.initialized C ∈ xc_tbl ∧ (∀ w ∈ u_ws C T N, w ∈ xc_tbl) ∧ (∀ k, k < N → parseFieldDescriptor (T k).2.2.1 = some (Y k)) ∧ (∀ k, k < N → (T k).1 = C) ∧ (∀ k, k < N → (T k).2.2.2 = (xc_fins.getD ci []).getD k true) ∧ (∀ a, a < N → ∀ b, b < N → a ≠ b → (T a).2.1 ≠ (T b).2.1) ∧
    (∀ k, k < N → (if (xc_fk ci).getD k 0 = 0 then decide (Y k = .int) else if (xc_fk ci).getD k 0 = 1 then decide (Y k = .long) else if (xc_fk ci).getD k 0 = 3 then decide (Y k = .boolean) else decide ((xc_fk ci).getD k 0 = 2) && (Y k).isReference) = true) := by
  have hlt : ci < 12 := (List.getElem?_eq_some_iff.mp h).1
  have h1 := List.all_eq_true.mp xf_cls_ok ci (List.mem_range.mpr hlt)
  unfold xf_cls at h1
  rw [h] at h1
  cases hY : xc_cy[ci]? with
  | none => rw [hY] at h1; simp at h1
  | some Y =>
    rw [hY] at h1
    simp only [Bool.and_eq_true, decide_eq_true_eq] at h1
    obtain ⟨⟨⟨⟨q1, q2⟩, q3⟩, q4⟩, q5⟩ := h1
    have q6 := fun k (hk : k < N) => List.all_eq_true.mp q5 k (List.mem_range.mpr hk)
    simp only [Bool.and_eq_true, decide_eq_true_eq] at q6
    refine ⟨Y, q1, q2, xw_in q3 rfl, xw_in q4 rfl, fun w hw => ?_, fun k hk => (q6 k hk).1.1.1.1.2, fun k hk => (q6 k hk).1.1.1.2, fun k hk => (q6 k hk).1.1.2, fun a ha b hb hab => ?_, fun k hk => (q6 k hk).2⟩
    · obtain ⟨k, hk, rfl⟩ := List.mem_map.mp hw
      have hk := List.mem_range.mp hk
      exact xw_in (q6 k hk).1.1.1.1.1.1 (q6 k hk).1.1.1.1.1.2
    · have h2 := List.all_eq_true.mp (q6 a ha).1.2 b (List.mem_range.mpr hb)
      simp only [Bool.or_eq_true, decide_eq_true_eq] at h2
      exact h2.resolve_left hab
theorem xh_fld {own x ci k : Nat} (h : xc_fld own x = some (ci, k)) : ∃ (C : String) (T : u_T) (N : Nat), xc_cl[ci]? = some (C, T, N) ∧ k < N ∧ Cond.fieldLink (xc_on own) x C (T k).2.1 (T k).2.2.1 ∈ xc_tbl := by
  unfold xc_fld at h
  obtain ⟨e, he, hv⟩ := Option.map_eq_some_iff.mp h
  have hm := xc_at_mem he
  have ho := xc_at_own (n := 13) rfl he
  have h1 := List.all_eq_true.mp (List.all_eq_true.mp xf_fld_ok own (List.mem_range.mpr ho)) _ hm
  unfold xf_fld at h1
  obtain ⟨⟨ci2, k2⟩, pos⟩ := e
  cases hv
  cases hc : xc_cl[ci]? with
  | none => simp [hc] at h1
  | some q =>
    obtain ⟨C, T, N⟩ := q
    simp only [hc, Bool.and_eq_true, decide_eq_true_eq] at h1
    exact ⟨C, T, N, rfl, h1.1, xw_in h1.2 rfl⟩
section XH
variable {p : Program} {l : Launch} {e : Env} {R : Room} {s : State} {m : MethodId} {args : Array Value} {below : List Frame} {meth : Method} {c : Code} {Q : State → Prop} {D : va_G} {dA : Nat → ClassId} {B : Nat} {g : Nat → Nat} {A : Nat → Prop} {pc y : Nat} {lv : xL} {st : List Value} {cn qn : Nat} {S : xS} {K : xK} {r : xR} {H : Heap} {locs : List Loc} {ls : Array Slot} {rest : List Value} {a : Nat}
/-- one cell has changed -/
theorem xH_put {S2 : xS} {H1 : Heap} {n : Nat} (hH : xH D dA B g S H) (hz : xz S2 = xz S) (ht : xt S2 = xt S) (ho : ∀ b, b ≠ n → xi S2 b = xi S b ∧ xj S2 b = xj S b ∧ xr S2 b = xr S b) (hat : ∀ t, xt S n = some t → va_at D xc_cl (B + n, xcell xc_fk dA t (xi S2 n) (xj S2 n) (fun k => (xr S2 n k).map (xad B g))) H1) (hs : H1.size = H.size) (oq : ∀ q, q ≠ B + n → H1[q]? = H[q]?) : xH D dA B g S2 H1 := by
  refine ⟨by rw [hs, hH.1, hz], fun b t hb => ?_⟩
  rw [ht] at hb
  have h1 := hH.2 b t hb
  refine ⟨h1.1, ?_⟩
  by_cases hbn : b = n
  · subst hbn
    exact hat t hb
  · obtain ⟨e1, e2, e3⟩ := ho b hbn
    rw [e1, e2, e3]
    exact h1.2.kept (oq _ (show B + b ≠ B + n by omega))
theorem xput (hexec : p.tables.exec = Jvm.exec) {cc : ByteArray} (hb : c.code = cc) {own ref C : String} {T : u_T} {N ci index : Nat} {tys : List (ClassId × FieldType)} (hts : ∀ w ∈ xc_tbl, w.before args s = true) (hin : ∀ w ∈ u_ws C T N, w ∈ xc_tbl) (ty0 : Nat → FieldType) (hty : ∀ k, k < N → parseFieldDescriptor (T k).2.2.1 = some (ty0 k)) (hnm : ∀ a, a < N → ∀ b, b < N → a ≠ b → (T a).2.1 ≠ (T b).2.1) (hown : s.vm.findClass own = some m.cls) (hK : va_K D xc_cl tys s) {fs : List Value} (hat : va_at D xc_cl (a, .inr (ci, fs)) H) (hc : xc_cl[ci]? = some (C, T, N)) (k : Nat) (hk : k < N) (hlink : (Cond.fieldLink own index ref (T k).2.1 (T k).2.2.1).before args s = true) (hsame : ∀ x, s.fieldFound? (T k).1 (T k).2.1 (T k).2.2.1 = some x → s.fieldFound? ref (T k).2.1 (T k).2.2.1 = some x) (hfin : (T k).2.2.2 = false ∨ ((T k).2.2.2 = true ∧ meth.name = "<init>" ∧ (T k).1 = own)) {ty : FieldType} {v : Value} (hd : parseFieldDescriptor (T k).2.2.1 = some ty) (hn : narrow ty v = v) (hfit : fits ty v = true) (hl : k < fs.length)
    (hdg : decode cc pc = .ok (.putfield index, 3)) (kk : ∀ (H1 : Heap) (f : Nat), va_at D xc_cl (a, .inr (ci, fs.set k v)) H1 → H1.size = H.size → (∀ q, q ≠ a → H1[q]? = H[q]?) → W p l e R s m args below meth c H1 (locs ++ [⟨a, f⟩]) cn qn Q (F0 m (pc + 3) ls rest)) : W p l e R s m args below meth c H locs cn qn Q (F0 m pc ls (v :: .ref a :: rest)) := by
  have hap := va_apart (own := own) hts hin ty0 hty hnm hK hc
  obtain ⟨r, h1, cell, q1, q2, q3, q4⟩ := hat
  have hr : r = (C, T, N) := Option.some.inj (h1.symm.trans hc)
  subst hr
  obtain ⟨hS, hfc, kC, hkC, hkind⟩ := hK.1 ci _ hc
  obtain ⟨cf, kf, fi, f, hi, hsl⟩ := hS k hk
  have hst := (u_facts hfc hkC (u_lays hts hin hk) hi).1
  have hslot : f.slot < cell.slots.size := by rw [hsl]; exact k2_hasslot (q4 k hk)
  have fin : ∀ H1 : Heap, H1[a]? = some (cell.setSlot f.slot v) → H1.size = H.size → (∀ q, q ≠ a → H1[q]? = H[q]?) → W p l e R s m args below meth c H1 (locs ++ [⟨a, f.slot⟩]) cn qn Q (F0 m (pc + 3) ls rest) := by
    intro H1 e1 e2 e3
    refine kk H1 _ ⟨_, hc, t_OB.to (V := updV (vp_V fs) k v) ⟨_, e1, q2, q3, ?_⟩ (fun j _ => vp_updV_set hl v j)⟩ e2 e3
    rw [hsl]
    exact t_set q4 hap hk v
  have hlay := hts _ (hin _ (u_in_lay hk))
  unfold u_lay at hlay
  rcases hfin with hf | ⟨hf, hin2, hdecl⟩
  · rw [if_neg (by rw [hf]; decide)] at hlay
    exact W.putK hexec hb (f := f) ⟨hown, hlink, ⟨_, _, _, hsame _ hi⟩, hst⟩ (by rw [q2]; exact u_store hfc hkC hkind hlay hi hd hn hfit) q1 q3 hslot rfl rfl hdg fin
  · rw [if_pos hf] at hlay
    have hcf : m.cls = cf := by
      obtain ⟨_, _, c2, _, _, _, -, -, hf2, -, -, -, hown2, -⟩ := Cond.laysFinal_spec hlay
      have e1 : c2 = cf := by have := hi.symm.trans hf2; simp at this; exact this.1.symm
      rw [hdecl] at hown2
      rw [← e1]; exact Option.some.inj (hown.symm.trans hown2)
    exact W.putFinK hexec hb hown hlink (hsame _ hi) hst hcf hin2 (by rw [q2]; exact u_fits hfc hkC hkind (Or.inr hlay) hi hd hn hfit) q1 q3 hslot rfl rfl hdg fin
theorem xs_gf (hX : xX p R s m args meth c D dA y) (hK : xG p l e R s m args below meth c Q D dA B g A (xc_nl y) K r) {x : Nat} (hd : decode (xc_b y) pc = .ok (.getfield x, 3)) (h : xgf (fun t => K (pc + 3) lv t cn qn S) (xc_fld (xc_own y) x) S st = some r) : xW p l e R s m args below meth c Q D dA B g A (xc_nl y) pc lv st cn qn S := by
  obtain ⟨hx, hb, hml, hown, hts, hKK, -⟩ := hX
  unfold xgf at h
  split at h
  · next ci f a t ho =>
    split at h
    · next ht =>
      split at h
      · next hf =>
        obtain ⟨C, T, N, hc, hk, hlk⟩ := xh_fld ho
        obtain ⟨Y, z1, z2, z3, z4, z5, z6, z7, z8, z9, z10⟩ := xh_cls hc
        intro ls H locs hl hH hS hAd
        obtain ⟨ha, hat⟩ := hH.2 a _ ht
        have k1 := hK _ _ _ _ _ _ h ls H locs hl hH hS hAd
        rw [List.map_cons, xv_fv] at k1
        show W p l e R s m args below meth c H locs cn qn Q (F0 m pc ls (.ref (xad B g a) :: t.map (xv B g)))
        rw [xad_lt ha]
        exact va_get hx hb hts z5 hown hKK (xP1 hat) 0 rfl hc f hk (hts _ hlk) (fun q hq => by rw [z7 f hk] at hq; exact hq) (xfs_get _ _ _ _ hf) hd k1
      · cases h
    · cases h
  · cases h
theorem xpv_spec {t : Nat} {v : Value} {S S1 : xS} {a f : Nat} (h : xpv t v S a f = some S1) : xz S1 = xz S ∧ xt S1 = xt S ∧ (∀ b, b ≠ a → xi S1 b = xi S b ∧ xj S1 b = xj S b ∧ xr S1 b = xr S b) ∧ (∀ k, k ≠ f → xi S1 a k = xi S a k ∧ xj S1 a k = xj S a k ∧ xr S1 a k = xr S a k) ∧ xfv t (xi S1 a) (xj S1 a) (xr S1 a) f = v ∧ ((t = 0 ∧ ∃ x : Int32, v = .int x) ∨ (t = 3 ∧ ∃ x : Int32, v = .int x ∧ (x = 0 ∨ x = 1)) ∨ (t = 1 ∧ ∃ x : Int64, v = .long x) ∨ (t = 2 ∧ (v = .null ∨ ∃ b, v = .ref b))) := by
  unfold xpv at h
  split at h
  · next x =>
    split at h
    · next h0 => cases h; subst h0; refine ⟨rfl, rfl, fun b hb => ⟨x2_ne hb, rfl, rfl⟩, fun k hk => ⟨by simp [xsi, xi, x2, hk], rfl, rfl⟩, by simp [xfv, xsi, xi, x2], Or.inl ⟨rfl, x, rfl⟩⟩
    · split at h
      · next h3 =>
        split at h
        · next hx => cases h; subst h3; refine ⟨rfl, rfl, fun b hb => ⟨x2_ne hb, rfl, rfl⟩, fun k hk => ⟨by simp [xsi, xi, x2, hk], rfl, rfl⟩, by simp [xfv, xsi, xi, x2], Or.inr (Or.inl ⟨rfl, x, rfl, hx⟩)⟩
        · cases h
      · cases h
  · next x =>
    split at h
    · next h0 => cases h; subst h0; refine ⟨rfl, rfl, fun b hb => ⟨rfl, x2_ne hb, rfl⟩, fun k hk => ⟨rfl, by simp [xsj, xj, x2, hk], rfl⟩, by simp [xfv, xsj, xj, x2], Or.inr (Or.inr (Or.inl ⟨rfl, x, rfl⟩))⟩
    · cases h
  · next x =>
    split at h
    · next h0 => cases h; subst h0; refine ⟨rfl, rfl, fun b hb => ⟨rfl, rfl, x2_ne hb⟩, fun k hk => ⟨rfl, rfl, by simp [xsr, xr, x2, hk]⟩, by simp [xfv, xsr, xr, x2, va_rf], Or.inr (Or.inr (Or.inr ⟨rfl, Or.inr ⟨x, rfl⟩⟩))⟩
    · cases h
  · split at h
    · next h0 => cases h; subst h0; refine ⟨rfl, rfl, fun b hb => ⟨rfl, rfl, x2_ne hb⟩, fun k hk => ⟨rfl, rfl, by simp [xsr, xr, x2, hk]⟩, by simp [xfv, xsr, xr, x2, va_rf], Or.inr (Or.inr (Or.inr ⟨rfl, Or.inl rfl⟩))⟩
    · cases h
  · cases h
theorem xs_pf (hX : xX p R s m args meth c D dA y) (hK : xG p l e R s m args below meth c Q D dA B g A (xc_nl y) K r) {x : Nat} (hd : decode (xc_b y) pc = .ok (.putfield x, 3)) (h : xpf (fun t S => K (pc + 3) lv t cn qn S) (xc_fld (xc_own y) x) (xc_may y) S st = some r) : xW p l e R s m args below meth c Q D dA B g A (xc_nl y) pc lv st cn qn S := by
  obtain ⟨hx, hb, hml, hown, hts, hKK, -, -, hini, hy, -⟩ := hX
  unfold xpf at h
  split at h
  · next ci f v a t ho =>
    split at h
    · next ht =>
      split at h
      · next hf =>
        split at h
        · next hmay =>
          split at h
          · next S1 hS1 =>
            obtain ⟨C, T, N, hc, hk, hlk⟩ := xh_fld ho
            obtain ⟨Y, z1, z2, z3, z4, z5, z6, z7, z8, z9, z10⟩ := xh_cls hc
            obtain ⟨s1, s2, s3, s4, s5, s6⟩ := xpv_spec hS1
            intro ls H locs hl hH hS hAd
            obtain ⟨ha, hat⟩ := hH.2 a _ ht
            show W p l e R s m args below meth c H locs cn qn Q (F0 m pc ls (xv B g v :: .ref (xad B g a) :: t.map (xv B g)))
            rw [xad_lt ha]
            have hn : narrow (Y f) (xv B g v) = xv B g v ∧ fits (Y f) (xv B g v) = true := by
              have h10 := z10 f hk
              rcases s6 with ⟨t0, w, rfl⟩ | ⟨t0, w, rfl, hw⟩ | ⟨t0, w, rfl⟩ | ⟨t0, rfl | ⟨w, rfl⟩⟩ <;> simp only [t0, if_true, if_false, decide_eq_true_eq, Nat.reduceEqDiff, Bool.and_eq_true, decide_true, true_and] at h10
              · rw [h10]; exact ⟨rfl, rfl⟩
              · rw [h10]; rcases hw with rfl | rfl <;> exact ⟨rfl, rfl⟩
              · rw [h10]; exact ⟨rfl, rfl⟩
              · cases hYf : Y f <;> rw [hYf] at h10 <;> first | exact ⟨rfl, rfl⟩ | simp [FieldType.isReference] at h10
              · cases hYf : Y f <;> rw [hYf] at h10 <;> first | exact ⟨rfl, rfl⟩ | simp [FieldType.isReference] at h10
            have hfin : (T f).2.2.2 = false ∨ ((T f).2.2.2 = true ∧ meth.name = "<init>" ∧ (T f).1 = xc_on (xc_own y)) := by
              rw [z8 f hk]
              unfold xc_may at hmay
              simp only [Bool.or_eq_true, Bool.not_eq_true', Bool.and_eq_true, decide_eq_true_eq] at hmay
              rcases hmay with q | ⟨q1, q2⟩
              · exact Or.inl q
              · by_cases hf2 : (xc_fins.getD ci []).getD f true = true
                · exact Or.inr ⟨hf2, hini q1, by rw [z7 f hk, q2]; exact z2.symm⟩
                · exact Or.inl (by simpa using hf2)
            refine xput hx hb hts z5 Y z6 z9 hown hKK hat hc f hk (hts _ hlk) (fun q hq => by rw [z7 f hk] at hq; exact hq) hfin (z6 f hk) hn.1 hn.2 (by rw [xfs_len]; exact hf) hd (fun H1 fz e1 e2 e3 => ?_)
            refine hK _ _ _ _ _ _ h ls H1 _ hl (xH_put (n := a) hH s1 s2 s3 (fun t2 ht2 => ?_) e2 e3) (hS.put e2 e3 (hAd a (by rw [ht]; rfl))) (fun b hb => hAd b (by rw [← s2]; exact hb))
            rw [ht] at ht2
            cases ht2
            have e5 : (xfs (xc_fk ci) (xi S a) (xj S a) (fun k => (xr S a k).map (xad B g))).set f (xv B g v) = xfs (xc_fk ci) (xi S1 a) (xj S1 a) (fun k => (xr S1 a k).map (xad B g)) := by
              refine xfs_set _ hf ?_ (fun n hn => ?_)
              · rw [← xv_fv, s5]
              · obtain ⟨w1, w2, w3⟩ := s4 n hn
                exact ⟨w1, w2, by rw [w3]⟩
            rw [e5] at e1
            exact e1
          · cases h
        · cases h
      · cases h
    · cases h
  · cases h
end XH
end
section
-- THE EVALUATOR AND THE MACHINE, fourth part: arrays, statics, new
def xc_sn (j : Nat) : String := if j = 0 then "TOP_A" else if j = 1 then "TOP_B" else "TAKES"
/-- the static arrays, which nobody writes -/
def xSt (g : Nat → Nat) (A : Nat → Prop) (s : State) : Prop := (∀ j, j < 3 → va_Z "SnapForge" (xc_sn j) "[I" (.ref (g j)) A s s.heap) ∧ ∀ (j : Nat) (L : List Int32), xc_ro j = some L → va_T .int (g j) L.length (fun k => .int (L.getD k 0)) A s s.heap
def xf_sta (own : Nat) (e : Nat × Nat × Nat) : Bool := decide (e.2.1 < 3) && (if own = 6 then decide (tables_1[e.2.2]? = some (Cond.fieldLinkNest "SnapForge$Program" e.1 "SnapForge" (xc_sn e.2.1) "[I" "SnapForge")) else decide (tables_1[e.2.2]? = some (Cond.fieldLink (xc_on own) e.1 "SnapForge" (xc_sn e.2.1) "[I")))
set_option maxRecDepth 100000 in
theorem xf_sta_ok : (List.range 13).all (fun own => (xc_stas.getD own []).all (xf_sta own)) = true := by decide +kernel
set_option maxRecDepth 100000 in
theorem xw_ai : Cond.arrayClass .int ∈ xc_tbl := xw_in (i := 70) (by decide +kernel) rfl
set_option maxRecDepth 100000 in
theorem xw_al : Cond.arrayClass .long ∈ xc_tbl := xw_in (i := 113) (by decide +kernel) rfl
set_option maxRecDepth 100000 in
theorem xw_az : Cond.arrayClass .boolean ∈ xc_tbl := xw_in (i := 1113) (by decide +kernel) rfl
/-- words of the tables that are carried by hand: arrays of our classes, members of a nest mate -/
def xNw (s : State) : Prop := va_AO "SnapForge$Strand" s ∧ va_AO "SnapForge$Frame" s ∧ va_Nw (.fieldLinkNest "SnapForge$Program" 39 "SnapForge" "TAKES" "[I" "SnapForge") s ∧ ∀ (own : Nat) (e : Nat × (Nat × Nat) × Bool × Nat), e ∈ xc_spcs.getD own [] → e.2.2.1 = true → va_Nw (.methodLinkNest (xc_on own) e.1 (xc_y e.2.1.1) "SnapForge") s
theorem xNw.warm {s U : State} (hW : s.WarmedH U.vm) (h : xNw s) : xNw U := ⟨h.1.moved hW.alike, h.2.1.moved hW.alike, va_Nw.warmF hW h.2.2.1, fun own e he hb => va_Nw.warmM hW (h.2.2.2 own e he hb)⟩
theorem xNw.same {s U : State} (hv : s.vm = U.vm) (h : xNw s) : xNw U := ⟨h.1.moved (by rw [hv]; exact Vm.Alike.refl U.vm), h.2.1.moved (by rw [hv]; exact Vm.Alike.refl U.vm), va_Nw.same rfl hv h.2.2.1, fun own e he hb => va_Nw.same rfl hv (h.2.2.2 own e he hb)⟩
section XA
variable {p : Program} {l : Launch} {e : Env} {R : Room} {s : State} {m : MethodId} {args : Array Value} {below : List Frame} {meth : Method} {c : Code} {Q : State → Prop} {D : va_G} {dA : Nat → ClassId} {B : Nat} {g : Nat → Nat} {A : Nat → Prop} {pc y : Nat} {lv : xL} {st : List Value} {cn qn : Nat} {S : xS} {K : xK} {r : xR} {H : Heap} {locs : List Loc} {ls : Array Slot} {rest : List Value} {a : Nat}
theorem xs_gs (hX : xX p R s m args meth c D dA y) (hN : xNw s) (hT : xSt g A s) (hK : xG p l e R s m args below meth c Q D dA B g A (xc_nl y) K r) {x : Nat} (hd : decode (xc_b y) pc = .ok (.getstatic x, 3)) (h : xgs (fun v => K (pc + 3) lv (.ref (1000000 + v) :: st) cn qn S) (xc_sta (xc_own y) x) = some r) : xW p l e R s m args below meth c Q D dA B g A (xc_nl y) pc lv st cn qn S := by
  obtain ⟨hx, hb, hml, hown, hts, hKK, -⟩ := hX
  unfold xgs at h
  split at h
  · next v ho =>
    unfold xc_sta at ho
    obtain ⟨e, he, hv⟩ := Option.map_eq_some_iff.mp ho
    have hm := xc_at_mem he
    have hoo := xc_at_own (n := 13) rfl he
    have h1 := List.all_eq_true.mp (List.all_eq_true.mp xf_sta_ok _ (List.mem_range.mpr hoo)) _ hm
    obtain ⟨j, pos⟩ := e
    cases hv
    unfold xf_sta at h1
    simp only [Bool.and_eq_true, decide_eq_true_eq] at h1
    intro ls H locs hl hH hS hAd
    have k1 := hK _ _ _ _ _ _ h ls H locs hl hH hS hAd
    have e1 : xv B g (.ref (1000000 + j)) = .ref (g j) := by
      have hq : ¬ (1000000 + j < 1000000) := by omega
      simp [xv, xad, hq]
    simp only [List.map_cons, e1] at k1
    by_cases h6 : xc_own y = 6
    · rw [if_pos h6] at h1
      have hw : x = 39 ∧ j = 2 := by
        rw [h6] at hm
        have h9 : (x, j, pos) ∈ ([(39, (2, 573))] : List (Nat × Nat × Nat)) := hm
        simp at h9
        exact ⟨h9.1, h9.2.1⟩
      obtain ⟨rfl, rfl⟩ := hw
      refine va_getsN hx hb (hT.1 2 h1.1) hS hown (host := "SnapForge") (ref := "SnapForge") ?_ (fun _ h => h) hd k1
      rw [h6]
      exact va_Nw.use rfl hN.2.2.1
    · rw [if_neg h6] at h1
      exact va_gets hx hb (hT.1 j h1.1) hS hown (hts _ (xw_in (of_decide_eq_true h1.2) rfl)) (fun _ h => h) hd k1
  · cases h
theorem xs_iald (hX : xX p R s m args meth c D dA y) (hT : xSt g A s) (hK : xG p l e R s m args below meth c Q D dA B g A (xc_nl y) K r) (hd : decode (xc_b y) pc = .ok (.iaload, 1)) (h : xiald (fun t => K (pc + 1) lv t cn qn S) S st = some r) : xW p l e R s m args below meth c Q D dA B g A (xc_nl y) pc lv st cn qn S := by
  obtain ⟨hx, hb, hml, hown, hts, hKK, -⟩ := hX
  unfold xiald at h
  split at h
  · next i a t =>
    split at h
    · next j n ht =>
      split at h
      · next hj =>
        subst hj
        split at h
        · cases h
        · next hin =>
          intro ls H locs hl hH hS hAd
          obtain ⟨ha, hat⟩ := hH.2 a _ ht
          show W p l e R s m args below meth c H locs cn qn Q (F0 m pc ls (.int i :: .ref (xad B g a) :: t.map (xv B g)))
          rw [xad_lt ha]
          exact va_iald hx hb hKK (xP1 hat) 0 0 rfl rfl hin hd (hK _ _ _ _ _ _ h ls H locs hl hH hS hAd)
      · cases h
    · cases h
    · next ht =>
      split at h
      · cases h
      · next hge =>
        split at h
        · next L hL =>
          split at h
          · cases h
          · next hin =>
            intro ls H locs hl hH hS hAd
            show W p l e R s m args below meth c H locs cn qn Q (F0 m pc ls (.int i :: .ref (xad B g a) :: t.map (xv B g)))
            rw [show xad B g a = g (a - 1000000) by simp [xad, hge]]
            exact va_ti hx hb (hT.2 _ L hL) hS hin rfl hd (hK _ _ _ _ _ _ h ls H locs hl hH hS hAd)
        · cases h
  · cases h
theorem xs_lald (hX : xX p R s m args meth c D dA y) (hK : xG p l e R s m args below meth c Q D dA B g A (xc_nl y) K r) (hd : decode (xc_b y) pc = .ok (.laload, 1)) (h : xlald (fun t => K (pc + 1) lv t cn qn S) S st = some r) : xW p l e R s m args below meth c Q D dA B g A (xc_nl y) pc lv st cn qn S := by
  obtain ⟨hx, hb, hml, hown, hts, hKK, -⟩ := hX
  unfold xlald at h
  split at h
  · next i a t =>
    split at h
    · next j n ht =>
      split at h
      · next hj =>
        subst hj
        split at h
        · cases h
        · next hin =>
          intro ls H locs hl hH hS hAd
          obtain ⟨ha, hat⟩ := hH.2 a _ ht
          show W p l e R s m args below meth c H locs cn qn Q (F0 m pc ls (.int i :: .ref (xad B g a) :: t.map (xv B g)))
          rw [xad_lt ha]
          exact va_lald hx hb hKK (xP1 hat) 0 1 rfl rfl hin hd (hK _ _ _ _ _ _ h ls H locs hl hH hS hAd)
      · cases h
    · cases h
  · cases h
theorem xs_bald (hX : xX p R s m args meth c D dA y) (hK : xG p l e R s m args below meth c Q D dA B g A (xc_nl y) K r) (hd : decode (xc_b y) pc = .ok (.baload, 1)) (h : xbald (fun t => K (pc + 1) lv t cn qn S) S st = some r) : xW p l e R s m args below meth c Q D dA B g A (xc_nl y) pc lv st cn qn S := by
  obtain ⟨hx, hb, hml, hown, hts, hKK, -⟩ := hX
  unfold xbald at h
  split at h
  · next i a t =>
    split at h
    · next j n ht =>
      split at h
      · next hj =>
        subst hj
        split at h
        · cases h
        · next hin =>
          intro ls H locs hl hH hS hAd
          obtain ⟨ha, hat⟩ := hH.2 a _ ht
          show W p l e R s m args below meth c H locs cn qn Q (F0 m pc ls (.int i :: .ref (xad B g a) :: t.map (xv B g)))
          rw [xad_lt ha]
          exact va_zald hx hb hKK (xP1 hat) 0 2 rfl rfl hin hd (hK _ _ _ _ _ _ h ls H locs hl hH hS hAd)
      · cases h
    · cases h
  · cases h
theorem xs_aald (hX : xX p R s m args meth c D dA y) (hK : xG p l e R s m args below meth c Q D dA B g A (xc_nl y) K r) (hd : decode (xc_b y) pc = .ok (.aaload, 1)) (h : xaald (fun t => K (pc + 1) lv t cn qn S) S st = some r) : xW p l e R s m args below meth c Q D dA B g A (xc_nl y) pc lv st cn qn S := by
  obtain ⟨hx, hb, hml, hown, hts, hKK, -⟩ := hX
  unfold xaald at h
  split at h
  · next i a t =>
    split at h
    · next j n ht =>
      split at h
      · next hj =>
        split at h
        · next hj2 =>
          split at h
          · cases h
          · next hin =>
            intro ls H locs hl hH hS hAd
            obtain ⟨ha, hat⟩ := hH.2 a _ ht
            have k1 := hK _ _ _ _ _ _ h ls H locs hl hH hS hAd
            rw [List.map_cons, xv_rf] at k1
            show W p l e R s m args below meth c H locs cn qn Q (F0 m pc ls (.int i :: .ref (xad B g a) :: t.map (xv B g)))
            rw [xad_lt ha]
            rcases (show j = 3 ∨ j = 4 by unfold xc_na at hj2; omega) with rfl | rfl
            · exact va_aldq hx hb hKK (xP1 hat) 0 3 (f := fun k => (xr S a k).map (xad B g)) rfl rfl hin hd k1
            · exact va_aldq hx hb hKK (xP1 hat) 0 4 (f := fun k => (xr S a k).map (xad B g)) rfl rfl hin hd k1
        · cases h
      · cases h
    · cases h
  · cases h
theorem xs_iast (hX : xX p R s m args meth c D dA y) (hK : xG p l e R s m args below meth c Q D dA B g A (xc_nl y) K r) (hd : decode (xc_b y) pc = .ok (.iastore, 1)) (h : xiast (fun t S => K (pc + 1) lv t cn qn S) S st = some r) : xW p l e R s m args below meth c Q D dA B g A (xc_nl y) pc lv st cn qn S := by
  obtain ⟨hx, hb, hml, hown, hts, hKK, -⟩ := hX
  unfold xiast at h
  split at h
  · next x i a t =>
    split at h
    · next j n ht =>
      split at h
      · next hj =>
        subst hj
        split at h
        · cases h
        · next hin =>
          intro ls H locs hl hH hS hAd
          obtain ⟨ha, hat⟩ := hH.2 a _ ht
          show W p l e R s m args below meth c H locs cn qn Q (F0 m pc ls (.int x :: .int i :: .ref (xad B g a) :: t.map (xv B g)))
          rw [xad_lt ha]
          refine W.iast hx hb (show H[B + a]? = some (arrV (dA 0) n (fun k => .int (xi S a k))) from hat) ((hKK.2 0 _ rfl).1 n (fun k => .int (xi S a k))) (fun q => by cases q) (by rw [arrV_size]; exact hin) rfl rfl hd fun H1 e1 e2 e3 => ?_
          refine hK _ _ _ _ _ _ h ls H1 _ hl (xH_put (n := a) hH rfl rfl (fun b hb => ⟨x2_ne hb, rfl, rfl⟩) (fun t2 ht2 => ?_) e2 e3) (hS.put e2 e3 (hAd a (by rw [ht]; rfl))) hAd
          rw [ht] at ht2
          cases ht2
          show H1[B + a]? = some (arrV (dA 0) n (fun k => .int (x2 (xi S) a i.toNatClampNeg x a k)))
          rw [e1, arrV_store]
          congr 2
          funext k
          by_cases hk : k = i.toNatClampNeg <;> simp [updV, x2, hk]
      · cases h
    · cases h
  · cases h
theorem xs_bast (hX : xX p R s m args meth c D dA y) (hK : xG p l e R s m args below meth c Q D dA B g A (xc_nl y) K r) (hd : decode (xc_b y) pc = .ok (.bastore, 1)) (h : xbast (fun t S => K (pc + 1) lv t cn qn S) S st = some r) : xW p l e R s m args below meth c Q D dA B g A (xc_nl y) pc lv st cn qn S := by
  obtain ⟨hx, hb, hml, hown, hts, hKK, -⟩ := hX
  unfold xbast at h
  split at h
  · next x i a t =>
    split at h
    · next j n ht =>
      split at h
      · next hj =>
        subst hj
        split at h
        · cases h
        · next hin =>
          split at h
          · next hx01 =>
            intro ls H locs hl hH hS hAd
            obtain ⟨ha, hat⟩ := hH.2 a _ ht
            show W p l e R s m args below meth c H locs cn qn Q (F0 m pc ls (.int x :: .int i :: .ref (xad B g a) :: t.map (xv B g)))
            rw [xad_lt ha]
            refine W.zast hx hb (show H[B + a]? = some (arrV (dA 2) n (fun k => .int (xi S a k))) from hat) ((hKK.2 2 _ rfl).1 n (fun k => .int (xi S a k))) (fun q => by cases q) (by rw [arrV_size]; exact hin) rfl rfl hd fun H1 e1 e2 e3 => ?_
            refine hK _ _ _ _ _ _ h ls H1 _ hl (xH_put (n := a) hH rfl rfl (fun b hb => ⟨x2_ne hb, rfl, rfl⟩) (fun t2 ht2 => ?_) e2 e3) (hS.put e2 e3 (hAd a (by rw [ht]; rfl))) hAd
            rw [ht] at ht2
            cases ht2
            show H1[B + a]? = some (arrV (dA 2) n (fun k => .int (x2 (xi S) a i.toNatClampNeg x a k)))
            have hnar : narrow .boolean (.int x) = .int x := by rcases hx01 with rfl | rfl <;> rfl
            rw [e1, hnar, arrV_store]
            congr 2
            funext k
            by_cases hk : k = i.toNatClampNeg <;> simp [updV, x2, hk]
          · cases h
      · cases h
    · cases h
  · cases h
theorem xs_last (hX : xX p R s m args meth c D dA y) (hK : xG p l e R s m args below meth c Q D dA B g A (xc_nl y) K r) (hd : decode (xc_b y) pc = .ok (.lastore, 1)) (h : xlast (fun t S => K (pc + 1) lv t cn qn S) S st = some r) : xW p l e R s m args below meth c Q D dA B g A (xc_nl y) pc lv st cn qn S := by
  obtain ⟨hx, hb, hml, hown, hts, hKK, -⟩ := hX
  unfold xlast at h
  split at h
  · next x i a t =>
    split at h
    · next j n ht =>
      split at h
      · next hj =>
        subst hj
        split at h
        · cases h
        · next hin =>
          intro ls H locs hl hH hS hAd
          obtain ⟨ha, hat⟩ := hH.2 a _ ht
          show W p l e R s m args below meth c H locs cn qn Q (F0 m pc ls (.long x :: .int i :: .ref (xad B g a) :: t.map (xv B g)))
          rw [xad_lt ha]
          refine W.last hx hb (show H[B + a]? = some (arrV (dA 1) n (fun k => .long (xj S a k))) from hat) ((hKK.2 1 _ rfl).1 n (fun k => .long (xj S a k))) (fun q => by cases q) (by rw [arrV_size]; exact hin) rfl rfl hd fun H1 e1 e2 e3 => ?_
          refine hK _ _ _ _ _ _ h ls H1 _ hl (xH_put (n := a) hH rfl rfl (fun b hb => ⟨rfl, x2_ne hb, rfl⟩) (fun t2 ht2 => ?_) e2 e3) (hS.put e2 e3 (hAd a (by rw [ht]; rfl))) hAd
          rw [ht] at ht2
          cases ht2
          show H1[B + a]? = some (arrV (dA 1) n (fun k => .long (x2 (xj S) a i.toNatClampNeg x a k)))
          rw [e1, arrV_store]
          congr 2
          funext k
          by_cases hk : k = i.toNatClampNeg <;> simp [updV, x2, hk]
      · cases h
    · cases h
  · cases h
end XA
end
section
-- THE EVALUATOR AND THE MACHINE, fifth part: stores of references, new cells, small calls
theorem xh_at {ci : Nat} (h : ci < 12) : ∃ (C : String) (T : u_T) (N : Nat), xc_cl[ci]? = some (C, T, N) := by
  have : xc_cl[ci]? = some (xc_cl[ci]'h) := List.getElem?_eq_getElem h
  exact ⟨_, _, _, this⟩
section XN
variable {p : Program} {l : Launch} {e : Env} {R : Room} {s : State} {m : MethodId} {args : Array Value} {below : List Frame} {meth : Method} {c : Code} {Q : State → Prop} {D : va_G} {dA : Nat → ClassId} {B : Nat} {g : Nat → Nat} {A : Nat → Prop} {pc y : Nat} {lv : xL} {st : List Value} {cn qn : Nat} {S : xS} {K : xK} {r : xR} {H : Heap} {locs : List Loc} {ls : Array Slot} {rest : List Value} {a : Nat}
theorem xs_aast (hX : xX p R s m args meth c D dA y) (hK : xG p l e R s m args below meth c Q D dA B g A (xc_nl y) K r) (hd : decode (xc_b y) pc = .ok (.aastore, 1)) (h : xaast (fun t S => K (pc + 1) lv t cn qn S) S st = some r) : xW p l e R s m args below meth c Q D dA B g A (xc_nl y) pc lv st cn qn S := by
  obtain ⟨hx, hb, hml, hown, hts, hKK, -⟩ := hX
  unfold xaast at h
  split at h
  · next v i a t =>
    split at h
    · next j n ht =>
      split at h
      · next hj =>
        split at h
        · next hj2 =>
          split at h
          · cases h
          · next hin =>
            split at h
            · next hv =>
              intro ls H locs hl hH hS hAd
              obtain ⟨ha, hat⟩ := hH.2 a _ ht
              obtain ⟨hva, hvt⟩ := hH.2 v _ hv
              show W p l e R s m args below meth c H locs cn qn Q (F0 m pc ls (.ref (xad B g v) :: .int i :: .ref (xad B g a) :: t.map (xv B g)))
              rw [xad_lt ha, xad_lt hva]
              obtain ⟨q, hq, cellV, g1, g2, g3, -⟩ := hvt
              have hcls := (hKK.1 _ q hq).2
              obtain ⟨kC, hkC, -⟩ := hcls.2
              have hcell : H[B + a]? = some (arrV (dA j) n (fun k => va_rf ((xr S a k).map (xad B g)))) := by
                rcases (show j = 3 ∨ j = 4 by unfold xc_na at hj2; omega) with rfl | rfl <;> exact hat
              have hRA : ∃ (kA : Class) (C : String), s.vm.classes[dA j]? = some kA ∧ kA.kind = .array (D.1 (xc_ac j)) (.object C) := by
                rcases (show j = 3 ∨ j = 4 by unfold xc_na at hj2; omega) with rfl | rfl
                · obtain ⟨kA, comp, k1, k2, k3, -⟩ := (hKK.2 3 _ rfl).2
                  have hq2 : q.1 = "SnapForge$Strand" := by
                    have : xc_cl[8]? = some q := hq
                    have h8 : xc_cl[8]? = some ("SnapForge$Strand", xcT_8, 5) := rfl
                    rw [h8] at this
                    cases this
                    rfl
                  have h9 := hcls.1
                  rw [hq2] at h9
                  have : comp = D.1 8 := Option.some.inj (k3.symm.trans h9)
                  exact ⟨kA, _, k1, by rw [k2, this]; rfl⟩
                · obtain ⟨kA, comp, k1, k2, k3, -⟩ := (hKK.2 4 _ rfl).2
                  have hq2 : q.1 = "SnapForge$Frame" := by
                    have : xc_cl[3]? = some q := hq
                    have h8 : xc_cl[3]? = some ("SnapForge$Frame", xcT_3, 4) := rfl
                    rw [h8] at this
                    cases this
                    rfl
                  have h9 := hcls.1
                  rw [hq2] at h9
                  have : comp = D.1 3 := Option.some.inj (k3.symm.trans h9)
                  exact ⟨kA, _, k1, by rw [k2, this]; rfl⟩
              obtain ⟨kA, C, k1, k2⟩ := hRA
              have hlt : i.toNatClampNeg < n := Nat.not_le.mp fun q => hin (Or.inr q)
              refine W.aast hx hb hcell (fun q h => by cases h) (fun h => by cases h) k1 k2 rfl hkC ⟨fun q => hin (Or.inl q), by rw [arrV_size]; exact hlt⟩ g1 (fun q h => by rw [g3] at h; cases h) (by rw [g2]; exact hkC) (by rw [g2]; exact va_assign hcls) rfl rfl hd fun H1 e1 e2 e3 => ?_
              refine hK _ _ _ _ _ _ h ls H1 _ hl (xH_put (n := a) hH rfl rfl (fun b hb => ⟨rfl, rfl, x2_ne hb⟩) (fun t2 ht2 => ?_) e2 e3) (hS.put e2 e3 (hAd a (by rw [ht]; rfl))) hAd
              rw [ht] at ht2
              cases ht2
              have e4 : H1[B + a]? = some (arrV (dA j) n (fun k => va_rf ((x2 (xr S) a i.toNatClampNeg (some v) a k).map (xad B g)))) := by
                rw [e1, arrV_store]
                congr 2
                funext k
                by_cases hk : k = i.toNatClampNeg
                · simp [updV, x2, hk, va_rf, xad_lt hva]
                · simp [updV, x2, hk]
              rcases (show j = 3 ∨ j = 4 by unfold xc_na at hj2; omega) with rfl | rfl <;> exact e4
            · cases h
        · cases h
      · cases h
    · cases h
  · cases h
theorem xH_new {t : xT} {H1 : Heap} (hH : xH D dA B g S H) (hz : xz S < 1000000) (hs : H1.size = B + xz S + 1) (ho : ∀ q, q < B + xz S → H1[q]? = H[q]?) (hat : va_at D xc_cl (B + xz S, xcell xc_fk dA t (fun _ => 0) (fun _ => 0) (fun _ => none)) H1) : xH D dA B g (xnew S t) H1 := by
  refine ⟨by rw [hs]; simp [xnew, xz]; omega, fun b t2 hb => ?_⟩
  by_cases hbz : b = xz S
  · subst hbz
    have h1 : xt (xnew S t) (xz S) = some t := by simp [xnew, xt, va_up]
    rw [h1] at hb
    cases hb
    refine ⟨hz, ?_⟩
    have e1 : xi (xnew S t) (xz S) = fun _ => 0 := by simp [xnew, xi, va_up]
    have e2 : xj (xnew S t) (xz S) = fun _ => 0 := by simp [xnew, xj, va_up]
    have e3 : (fun k => (xr (xnew S t) (xz S) k).map (xad B g)) = fun _ => none := by funext k; simp [xnew, xr, va_up]
    rw [e1, e2, e3]
    exact hat
  · have h1 : xt (xnew S t) b = xt S b := by simp [xnew, xt, va_up, hbz]
    rw [h1] at hb
    have h2 := hH.2 b t2 hb
    refine ⟨h2.1, ?_⟩
    have e1 : xi (xnew S t) b = xi S b := by simp [xnew, xi, va_up, hbz]
    have e2 : xj (xnew S t) b = xj S b := by simp [xnew, xj, va_up, hbz]
    have e3 : xr (xnew S t) b = xr S b := by simp [xnew, xr, va_up, hbz]
    rw [e1, e2, e3]
    have hlt : B + b < H.size := h2.2.lt
    rw [hH.1] at hlt
    exact h2.2.kept (ho _ hlt)
theorem xS_new {H1 : Heap} {n : Nat} (hS : va_S A s.heap H locs) (hn : H.size = n) (hs : H1.size = n + 1) (ho : ∀ q, q < n → H1[q]? = H[q]?) : va_S A s.heap H1 locs := by
  subst hn
  exact ⟨Nat.le_trans hS.1 (by omega), fun q h1 h2 => (ho q (Nat.lt_of_lt_of_le h1 hS.1)).trans (hS.2.1 q h1 h2), hS.2.2⟩
theorem xA_new {t : xT} (hA : ∀ q, s.heap.size ≤ q → A q) (hH : xH D dA B g S H) (hS : va_S A s.heap H locs) (hAd : ∀ a, (xt S a).isSome = true → A (B + a)) : ∀ a, (xt (xnew S t) a).isSome = true → A (B + a) := by
  intro b hb
  by_cases hbz : b = xz S
  · subst hbz
    refine hA _ ?_
    rw [← hH.1]
    exact hS.1
  · refine hAd b ?_
    have h1 : xt (xnew S t) b = xt S b := by simp [xnew, xt, va_up, hbz]
    rw [← h1]
    exact hb
theorem xs_newo (hX : xX p R s m args meth c D dA y) (hA : ∀ q, s.heap.size ≤ q → A q) (hK : xG p l e R s m args below meth c Q D dA B g A (xc_nl y) K r) {x : Nat} (hd : decode (xc_b y) pc = .ok (.new x, 3)) (h : xnewo (fun c q S1 => K (pc + 3) lv (.ref (xz S) :: st) c q S1) (xc_new (xc_own y) x) (xc_mc y) (xc_ms y) cn qn S = some r) : xW p l e R s m args below meth c Q D dA B g A (xc_nl y) pc lv st cn qn S := by
  obtain ⟨hx, hb, hml, hown, hts, hKK, -, -, -, hy, -, -, hRc, hRs⟩ := hX
  unfold xnewo at h
  split at h
  · next ci ho =>
    split at h
    · next h1 =>
      split at h
      · next h2 =>
        split at h
        · next h3 =>
          unfold xc_new at ho
          obtain ⟨e0, he, hv⟩ := Option.map_eq_some_iff.mp ho
          have hm := xc_at_mem he
          have hoo := xc_at_own (n := 13) rfl he
          have w1 := List.all_eq_true.mp (List.all_eq_true.mp xf_new_ok _ (List.mem_range.mpr hoo)) _ hm
          obtain ⟨cj, pos⟩ := e0
          cases hv
          unfold xf_new at w1
          simp only [Bool.and_eq_true, decide_eq_true_eq] at w1
          obtain ⟨C, T, N, hc⟩ := xh_at w1.1
          obtain ⟨Y, z1, z2, z3, z4, z5, z6, z7, z8, z9, z10⟩ := xh_cls hc
          have hlk := xw_in w1.2 rfl
          simp only [z2] at hlk
          intro ls H locs hl hH hS hAd
          have hKn := hKK.1 _ _ hc
          refine W.newcK hx hb hown (hts _ hlk) (hts _ z3) (hts _ z4) rfl hd (by rw [hRc]; exact h1) (by rw [hRs, ← z1]; exact h2) hKn.2.1 hH.1 fun H1 kC hkC e1 e2 e3 => ?_
          have hob : va_at D xc_cl (B + xz S, xcell xc_fk dA (.inl cj) (fun _ => 0) (fun _ => 0) (fun _ => none)) H1 := by
            refine ⟨_, hc, (u_born Y hts z5 hKn hkC e1 z6).to (fun k hk => ?_)⟩
            have hk2 : k < (xc_fk cj).length := by rw [z1]; exact hk
            show defaultValue (Y k) = vp_V (xfs (xc_fk cj) (fun _ => 0) (fun _ => 0) (fun _ => none)) k
            unfold vp_V
            rw [List.getD_eq_getElem?_getD, xfs_get _ _ _ _ hk2]
            have h10 := z10 k hk
            by_cases k0 : (xc_fk cj).getD k 0 = 0
            · simp only [k0, if_true, decide_eq_true_eq] at h10
              rw [h10, k0]; rfl
            · by_cases k1 : (xc_fk cj).getD k 0 = 1
              · simp only [k1, if_true, if_false, decide_eq_true_eq, Nat.reduceEqDiff] at h10
                rw [h10, k1]; rfl
              · by_cases k3 : (xc_fk cj).getD k 0 = 3
                · simp only [k3, if_true, if_false, decide_eq_true_eq, Nat.reduceEqDiff] at h10
                  rw [h10, k3]; rfl
                · simp only [k0, k1, k3, if_false, Bool.and_eq_true, decide_eq_true_eq] at h10
                  rw [h10.1]
                  cases hYk : Y k <;> rw [hYk] at h10 <;> first | rfl | simp [FieldType.isReference] at h10
          have k9 := hK _ _ _ _ _ _ h ls H1 locs hl (xH_new hH h3 e2 e3 hob) (xS_new hS hH.1 e2 e3) (xA_new hA hH hS hAd)
          simp only [List.map_cons] at k9
          rw [show xv B g (.ref (xz S)) = .ref (B + xz S) by simp [xv, xad_lt h3], z1] at k9
          exact k9
        · cases h
      · cases h
    · cases h
  · cases h
end XN
end
section
-- THE EVALUATOR AND THE MACHINE, sixth part: new arrays, Object.<init>, Math.min, long constants, ends
set_option maxRecDepth 100000 in
theorem xw_obj1 : Cond.instanceMethod objectInit ∈ xc_tbl := xw_in (i := 27) (by decide +kernel) rfl
set_option maxRecDepth 100000 in
theorem xw_obj2 : Cond.code objectInit ⟨#[0xb1]⟩ 1 none ∈ xc_tbl := xw_in (i := 28) rfl rfl
set_option maxRecDepth 100000 in
theorem xw_min1 : Cond.static Lib.Math.min.name ∈ xc_tbl := xw_in (i := 876) (by decide +kernel) rfl
set_option maxRecDepth 100000 in
theorem xw_min2 : Cond.code Lib.Math.min.name Lib.Math.min.code 2 (some .int) ∈ xc_tbl := xw_in (i := 877) (by rfl) rfl
set_option maxRecDepth 100000 in
theorem xw_min3 : Cond.initialized "java/lang/Math" ∈ xc_tbl := xw_in (i := 20) (by decide +kernel) rfl
def xf_min (own : Nat) (e : Nat × Nat) : Bool := decide (tables_1[e.2]? = some (Cond.methodLink (xc_on own) e.1 Lib.Math.min.name))
set_option maxRecDepth 100000 in
theorem xf_min_ok : (List.range 13).all (fun own => (xc_mins.getD own []).all (xf_min own)) = true := by decide +kernel
section XM
variable {p : Program} {l : Launch} {e : Env} {R : Room} {s : State} {m : MethodId} {args : Array Value} {below : List Frame} {meth : Method} {c : Code} {Q : State → Prop} {D : va_G} {dA : Nat → ClassId} {B : Nat} {g : Nat → Nat} {A : Nat → Prop} {pc y : Nat} {lv : xL} {st : List Value} {cn qn : Nat} {S : xS} {K : xK} {r : xR} {H : Heap} {locs : List Loc} {ls : Array Slot} {rest : List Value} {a : Nat}
/-- an array of numbers -/
theorem xs_newn (hX : xX p R s m args meth c D dA y) (hA : ∀ q, s.heap.size ≤ q → A q) (hK : xG p l e R s m args below meth c Q D dA B g A (xc_nl y) K r) {j : Nat} {ty : FieldType} {aty : ArrayType} (hty : newarray.typeOf aty = ty) (hw : Cond.arrayClass ty ∈ xc_tbl) (hj : (xc_tys dA)[j]? = some (dA j, ty)) (hRA : va_RA s (dA j) ty → s.vm.findClass ("[" ++ ty.toString) = some (dA j)) (hcb : componentBytes ty ≤ 8) (hcell : ∀ n, vp_cell (dA j) (n, if j = 1 then .inr (.inl (fun _ => 0)) else if j < 3 then .inl (fun _ => 0) else .inr (.inr (.inr (.inr (fun _ => none))))) = arrV (dA j) n (fun _ => defaultValue ty)) (hd : decode (xc_b y) pc = .ok (.newarray aty, 2)) (h : xnewa (fun t c q S1 => K (pc + 2) lv t c q S1) (some j) (xc_mc y) (xc_ms y) cn qn S st = some r) : xW p l e R s m args below meth c Q D dA B g A (xc_nl y) pc lv st cn qn S := by
  obtain ⟨hx, hb, hml, hown, hts, hKK, -, -, -, hy, -, -, hRc, hRs⟩ := hX
  unfold xnewa at h
  split at h
  · next j2 n t hj2 =>
    cases hj2
    split at h
    · cases h
    · next h0 =>
      split at h
      · cases h
      · next h6 =>
        split at h
        · next h1 =>
          split at h
          · next h2 =>
            split at h
            · next h3 =>
              subst hty
              intro ls H locs hl hH hS hAd
              show W p l e R s m args below meth c H locs cn qn Q (F0 m pc ls (.int n :: t.map (xv B g)))
              refine va_newaK hx hb (hts _ hw) rfl hd rfl h0 rfl ?_ (by rw [hRc]; exact h1) (by rw [hRs]; exact h2) hH.1 fun H1 cA e1 e2 e3 e4 e5 => ?_
              · have : n.toNatClampNeg ≤ 60000000 := Nat.not_lt.mp h6
                calc n.toNatClampNeg * componentBytes (newarray.typeOf aty) ≤ 60000000 * 8 := Nat.mul_le_mul this hcb
                  _ ≤ 536870912 := by decide
              · have hcA : cA = dA j := Option.some.inj (e5.symm.trans (hRA (hKK.2 j _ hj).2))
                subst hcA
                have k9 := hK _ _ _ _ _ _ h ls H1 locs hl (xH_new hH h3 e2 e3 (show H1[B + xz S]? = some (vp_cell (dA j) _) by rw [hcell]; exact e1)) (xS_new hS hH.1 e2 e3) (xA_new hA hH hS hAd)
                simp only [List.map_cons] at k9
                rw [show xv B g (.ref (xz S)) = .ref (B + xz S) by simp [xv, xad_lt h3]] at k9
                exact k9
            · cases h
          · cases h
        · cases h
  · cases h
/-- an array of references -/
theorem xs_newq (hX : xX p R s m args meth c D dA y) (hN : xNw s) (hA : ∀ q, s.heap.size ≤ q → A q) (hK : xG p l e R s m args below meth c Q D dA B g A (xc_nl y) K r) {x : Nat} (hd : decode (xc_b y) pc = .ok (.anewarray x, 3)) (h : xnewa (fun t c q S1 => K (pc + 3) lv t c q S1) (xc_anew (xc_own y) x) (xc_mc y) (xc_ms y) cn qn S st = some r) : xW p l e R s m args below meth c Q D dA B g A (xc_nl y) pc lv st cn qn S := by
  obtain ⟨hx, hb, hml, hown, hts, hKK, -, -, -, hy, -, -, hRc, hRs⟩ := hX
  unfold xnewa at h
  split at h
  · next j n t ho =>
    split at h
    · cases h
    · next h0 =>
      split at h
      · cases h
      · next h6 =>
        split at h
        · next h1 =>
          split at h
          · next h2 =>
            split at h
            · next h3 =>
              unfold xc_anew at ho
              obtain ⟨e0, he, hv⟩ := Option.map_eq_some_iff.mp ho
              have hm := xc_at_mem he
              have hoo := xc_at_own (n := 13) rfl he
              have w1 := List.all_eq_true.mp (List.all_eq_true.mp xf_anew_ok _ (List.mem_range.mpr hoo)) _ hm
              obtain ⟨cj, pos⟩ := e0
              cases hv
              unfold xf_anew at w1
              simp only [Bool.and_eq_true, decide_eq_true_eq] at w1
              have hlk := hts _ (xw_in w1.2 rfl)
              intro ls H locs hl hH hS hAd
              show W p l e R s m args below meth c H locs cn qn Q (F0 m pc ls (.int n :: t.map (xv B g)))
              have hbytes : n.toNatClampNeg * 4 ≤ 536870912 := by omega
              have key : ∀ (C : String), xc_on (xc_ac cj) = C → va_AO C s → (xc_tys dA)[cj]? = some (dA cj, .object C) → W p l e R s m args below meth c H locs cn qn Q (F0 m pc ls (.int n :: t.map (xv B g))) := by
                intro C hC hO hT
                rw [hC] at hlk
                refine W.anew hx hb hown hlk (va_AO.use hO) rfl hd rfl h0 hbytes (by rw [hRc]; exact h1) (by rw [hRs]; exact h2) fun cA kA comp f1 f2 f3 f4 => ?_
                obtain ⟨_, _, -, -, -, f5⟩ := (hKK.2 cj _ hT).2
                have hcA : cA = dA cj := Option.some.inj (f1.symm.trans f5)
                subst hcA
                generalize hH1 : H.push ({ cls := dA cj, slots := Array.replicate n.toNatClampNeg .null, vm := .none } : Cell) = H1
                have z1 : H1.size = B + xz S + 1 := by rw [← hH1, Array.size_push, hH.1]
                have e1 : H1[B + xz S]? = some (arrV (dA cj) n.toNatClampNeg (fun _ => .null)) := by rw [← hH1, ← hH.1, Array.getElem?_push_size, ← arrV_new]
                have o1 : ∀ q : Nat, q < B + xz S → H1[q]? = H[q]? := fun q hq => by rw [← hH1, Array.getElem?_push, if_neg (by rw [hH.1]; omega)]
                have hat : va_at D xc_cl (B + xz S, xcell xc_fk dA (.inr (cj, n.toNatClampNeg)) (fun _ => 0) (fun _ => 0) (fun _ => none)) H1 := by
                  rcases (show cj = 3 ∨ cj = 4 by omega) with rfl | rfl <;> exact e1
                have k9 := hK _ _ _ _ _ _ h ls H1 locs hl (xH_new hH h3 z1 o1 hat) (xS_new hS hH.1 z1 o1) (xA_new hA hH hS hAd)
                simp only [List.map_cons] at k9
                rw [show xv B g (.ref (xz S)) = .ref (B + xz S) by simp [xv, xad_lt h3]] at k9
                rw [hH.1]
                exact k9
              rcases (show cj = 3 ∨ cj = 4 by omega) with rfl | rfl
              · exact key "SnapForge$Strand" rfl hN.1 rfl
              · exact key "SnapForge$Frame" rfl hN.2.1 rfl
            · cases h
          · cases h
        · cases h
  · cases h
theorem xs_obj (hX : xX p R s m args meth c D dA y) (hK : xG p l e R s m args below meth c Q D dA B g A (xc_nl y) K r) {x : Nat} (ho : xc_obj (xc_own y) x = true) (hd : decode (xc_b y) pc = .ok (.invokespecial x, 3)) (h : xobj (fun t => K (pc + 3) lv t cn qn S) st = some r) : xW p l e R s m args below meth c Q D dA B g A (xc_nl y) pc lv st cn qn S := by
  obtain ⟨hx, hb, hml, hown, hts, hKK, -, -, -, hy, hRf, hRl, hRc, hRs⟩ := hX
  have hlev : 1 ≤ xc_lev y := by
    have h1 := List.all_eq_true.mp xf_r_ok y (List.mem_range.mpr hy)
    unfold xf_r at h1
    simp only [Bool.and_eq_true, decide_eq_true_eq] at h1
    exact h1.2
  unfold xobj at h
  split at h
  · next a t =>
    split at h
    · next hw =>
      unfold xc_obj at ho
      obtain ⟨e0, he⟩ := Option.isSome_iff_exists.mp ho
      have hm := xc_at_mem he
      have hoo := xc_at_own (n := 13) rfl he
      have w1 := List.all_eq_true.mp (List.all_eq_true.mp xf_obj_ok _ (List.mem_range.mpr hoo)) _ hm
      unfold xf_obj at w1
      simp only [decide_eq_true_eq] at w1
      intro ls H locs hl hH hS hAd
      refine W.objInit hx hb hown (hts _ (xw_in w1 rfl)) (hts _ xw_obj1) (hts _ xw_obj2) (g := F0 m pc ls (.ref (xad B g a) :: t.map (xv B g))) (rest := t.map (xv B g)) rfl (by rw [hml]; exact hl.1) rfl hd (Nat.le_trans hlev hRf) ?_ (hK _ _ _ _ _ _ h ls H locs hl hH hS hAd)
      refine Nat.le_trans ?_ hRl
      have e1 : ((t.map (xv B g)).map fun v => v.category) = t.map fun v => v.category := by
        rw [List.map_map]
        exact List.map_congr_left (fun v _ => xv_cat B g v)
      rw [e1]
      have e2 : (F0 m pc ls (.ref (xad B g a) :: t.map (xv B g))).monitorRoom = 0 := rfl
      rw [e2]
      omega
    · cases h
  · cases h
theorem xs_min (hX : xX p R s m args meth c D dA y) (hK : xG p l e R s m args below meth c Q D dA B g A (xc_nl y) K r) {x : Nat} (ho : xc_min (xc_own y) x = true) (hcn : cn ≤ xc_mc y) (hqn : qn ≤ xc_ms y) (hd : decode (xc_b y) pc = .ok (.invokestatic x, 3)) (h : xmin (fun t => K (pc + 3) lv t cn qn S) st = some r) : xW p l e R s m args below meth c Q D dA B g A (xc_nl y) pc lv st cn qn S := by
  obtain ⟨hx, hb, hml, hown, hts, hKK, -, -, -, hy, hRf, hRl, hRc, hRs⟩ := hX
  have hlev : 1 ≤ xc_lev y := by
    have h1 := List.all_eq_true.mp xf_r_ok y (List.mem_range.mpr hy)
    unfold xf_r at h1
    simp only [Bool.and_eq_true, decide_eq_true_eq] at h1
    exact h1.2
  unfold xmin at h
  split at h
  · next b a t =>
    split at h
    · next hw =>
      unfold xc_min at ho
      obtain ⟨e0, he⟩ := Option.isSome_iff_exists.mp ho
      have hm := xc_at_mem he
      have hoo := xc_at_own (n := 13) rfl he
      have w1 := List.all_eq_true.mp (List.all_eq_true.mp xf_min_ok _ (List.mem_range.mpr hoo)) _ hm
      unfold xf_min at w1
      simp only [decide_eq_true_eq] at w1
      intro ls H locs hl hH hS hAd
      refine va_mmin hx hb (by rw [hml]; exact hl.1.symm) hown (hts _ (xw_in w1 rfl)) (hts _ xw_min1) (hts _ xw_min3) (hts _ xw_min2) (Nat.le_trans hlev hRf) ?_ (by rw [hRc]; exact hcn) (by rw [hRs]; exact hqn) hd (hK _ _ _ _ _ _ h ls H locs hl hH hS hAd)
      refine Nat.le_trans ?_ hRl
      have e1 : ((t.map (xv B g)).map fun v => v.category) = t.map fun v => v.category := by
        rw [List.map_map]
        exact List.map_congr_left (fun v _ => xv_cat B g v)
      rw [e1]
      omega
    · cases h
  · cases h
theorem xs_ldc2 (hX : xX p R s m args meth c D dA y) (hK : xG p l e R s m args below meth c Q D dA B g A (xc_nl y) K r) {x : Nat} (hd : decode (xc_b y) pc = .ok (.ldc2_w x, 3)) (h : xlc2 (fun v => K (pc + 3) lv (.long v :: st) cn qn S) (xc_long (xc_own y) x) = some r) : xW p l e R s m args below meth c Q D dA B g A (xc_nl y) pc lv st cn qn S := by
  obtain ⟨hx, hb, hml, hown, hts, -⟩ := hX
  unfold xlc2 at h
  split at h
  · next v ho =>
    unfold xc_long at ho
    obtain ⟨e0, he, hv⟩ := Option.map_eq_some_iff.mp ho
    have hm := xc_at_mem he
    have hoo := xc_at_own (n := 13) rfl he
    have w1 := List.all_eq_true.mp (List.all_eq_true.mp xf_long_ok _ (List.mem_range.mpr hoo)) _ hm
    obtain ⟨w, pos⟩ := e0
    cases hv
    unfold xf_long at w1
    simp only [decide_eq_true_eq] at w1
    exact fun ls H locs hl hH hS hAd => lv_ldc2 hx hb hown (hts _ (xw_in w1 rfl)) hd (hK _ _ _ _ _ _ h ls H locs hl hH hS hAd)
  · cases h
end XM
end
section
-- THE EVALUATOR AND THE MACHINE, seventh part: calls
/-- the cells that a call may change: those of the memory, and new ones -/
def xA (B : Nat) (S : xS) : Nat → Prop := fun q => (∃ a, (xt S a).isSome = true ∧ q = B + a) ∨ B + xz S ≤ q
def xSg (g : Nat → Nat) (B : Nat) (U : State) : Prop := xSt g (fun q => B ≤ q) U
/-- what holds when a method begins -/
def xU (D : va_G) (dA : Nat → ClassId) (B : Nat) (g : Nat → Nat) (S : xS) (U : State) : Prop := xH D dA B g S U.heap ∧ va_K D xc_cl (xc_tys dA) U ∧ xNw U ∧ xSg g B U
/-- and when it has returned -/
def xQc (D : va_G) (dA : Nat → ClassId) (B : Nat) (g : Nat → Nat) (A : Nat → Prop) (v : Option Value) (S1 : xS) : Array Value → State → Outcome → State → Prop := fun _ st oc t => oc = .returned (v.map (xv B g)) ∧ xH D dA B g S1 t.heap ∧ (∀ a, (xt S1 a).isSome = true → A (B + a)) ∧ va_F A st t
def xrm (y : Nat) : Room := { frames := xc_lev y, cells := xc_mc y, slots := xc_ms y, locals := 40 * xc_lev y }
/-- THE CONTRACT: method y, on these values and this memory, returns v and leaves S1 -/
def xM (l : Launch) (D : va_G) (dA : Nat → ClassId) (B : Nat) (g : Nat → Nat) (y : Nat) (as : List Value) (S : xS) (v : Option Value) (S1 : xS) : Prop := Met l (xc_y y) (xc_ws y) (xrm y) (va_Pc (as.map (xv B g)) (xU D dA B g S)) (xQc D dA B g (xA B S) v S1) (xc_mc y) (xc_ms y) (xA B S)
theorem xSg.move {g : Nat → Nat} {B : Nat} {s U : State} (h : xSg g B s) (hvm : s.vm.Alike U.vm) (hh : ∀ a : Nat, a < s.heap.size → ¬ B ≤ a → U.heap[a]? = s.heap[a]?) : xSg g B U :=
  ⟨fun j hj => ((h.1 j hj).kept hh).moved hvm, fun j L hL => ((h.2 j L hL).kept hh).moved hvm⟩
theorem xU.blind {D : va_G} {dA : Nat → ClassId} {B : Nat} {g : Nat → Nat} {S : xS} (av : List Value) : FrameBlind (va_Pc av (xU D dA B g S)) := by
  intro a U gg mk h
  obtain ⟨h1, h2, h3, h4, h5⟩ := h
  exact ⟨h1, h2, va_K.moved (u := U) (U := U.calling gg mk a) (Vm.Alike.refl U.vm) h3, xNw.same (U := U.calling gg mk a) rfl h4, xSg.move (U := U.calling gg mk a) h5 (Vm.Alike.refl U.vm) (fun _ _ _ => rfl)⟩
theorem xgood {ws : List Cond} (h : ∀ w ∈ ws, w ∈ xc_tbl) : GoodIn xc_tbl ws := fun w hw => ⟨h w hw, good_of_word (xw_good (h w hw))⟩
theorem xws_in {y : Nat} (h : y < 173) : ∀ w ∈ xc_ws y, w ∈ xc_tbl := fun w hw => (List.mem_cons.mp hw).elim (fun e => by rw [e]; exact xh_code h) id
theorem xh_m {y : Nat} (h : y < 173) : (xc_y y).cls = xc_on (xc_own y) ∧ ((xc_y y).cls ≠ "java/lang/invoke/MethodHandle" ∧ (xc_y y).cls ≠ "java/lang/invoke/VarHandle") ∧ plainName (xc_y y).cls = true ∧ xc_nl y ≤ 20 ∧ xc_own y < 12 ∧ Cond.initialized (xc_y y).cls ∈ xc_tbl ∧ (xc_kind y = 0 → Cond.static (xc_y y) ∈ xc_tbl) ∧ (¬ xc_kind y = 0 → Cond.instanceMethod (xc_y y) ∈ xc_tbl) ∧ (xc_kind y = 1 → Cond.selects (xc_y y).cls (xc_y y) (xc_y y) ∈ xc_tbl) ∧ (xc_kind y = 2 → (xc_y y).name = "<init>") := by
  have h1 := List.all_eq_true.mp xf_m_ok y (List.mem_range.mpr h)
  unfold xf_m at h1
  simp only [Bool.and_eq_true, decide_eq_true_eq] at h1
  obtain ⟨⟨⟨⟨⟨⟨⟨⟨⟨⟨q1, q2⟩, q3⟩, q4⟩, q5⟩, q6⟩, q7⟩, q8⟩, q9⟩, q10⟩, q11⟩ := h1
  refine ⟨q1, ⟨q2, q3⟩, q4, q5, q6, xw_in q7 rfl, fun k => ?_, fun k => ?_, fun k => ?_, fun k => ?_⟩
  · rw [if_pos k] at q8
    exact xw_in (of_decide_eq_true q8) rfl
  · rw [if_neg k] at q8
    exact xw_in (of_decide_eq_true q8) rfl
  · rw [if_pos k] at q9
    simp only [Bool.or_eq_true, decide_eq_true_eq] at q9
    rcases q9 with q | q
    · exact xw_in q rfl
    · obtain ⟨z, hz, he⟩ := List.mem_map.mp q
      refine List.mem_filter.mpr ⟨List.mem_append_left _ ?_, rfl⟩
      refine List.mem_map.mpr ⟨z, hz, ?_⟩
      rw [he]
  · rw [if_neg (by omega), if_pos k] at q9
    exact of_decide_eq_true q9
section XC
variable {p : Program} {l : Launch} {e : Env} {R : Room} {s : State} {m : MethodId} {args : Array Value} {below : List Frame} {meth : Method} {c : Code} {Q : State → Prop} {D : va_G} {dA : Nat → ClassId} {B : Nat} {g : Nat → Nat} {A : Nat → Prop} {pc y : Nat} {lv : xL} {st : List Value} {cn qn : Nat} {S : xS} {K : xK} {r : xR} {H : Heap} {locs : List Loc} {ls : Array Slot} {rest : List Value} {a : Nat}
/-- behind a call -/
theorem x_back {A1 : Nat → Prop} {free : Addr → Prop} {mc ms : Nat} {st0 : List Value} {v : Option Value} {S1 : xS} {aa : Array Value} (hr : va_Run p l e R s m args below meth c H locs cn qn mc ms (F0 m pc ls st0) rest (xQc D dA B g A1 v S1 aa) free) (hS : va_S A s.heap H locs) (hA : ∀ q, A1 q → A q) (hf : ∀ q, free q → A q)
    (kk : ∀ (H1 : Heap) (locs1 : List Loc), xH D dA B g S1 H1 → (∀ a, (xt S1 a).isSome = true → A (B + a)) → va_S A s.heap H1 locs1 → W p l e R s m args below meth c H1 locs1 (cn + mc) (qn + ms) Q (F0 m (pc + 3) ls ((v.map (xv B g)).toList ++ rest))) : W p l e R s m args below meth c H locs cn qn Q (F0 m pc ls st0) := by
  intro T hT X
  obtain ⟨v2, st₀, t, T2, L, h0, X2, hL, e1, e2, ⟨hv, hh, hd, hz, hk⟩, go⟩ := hr T hT X
  cases hv
  rw [h0] at hz hk
  obtain ⟨t2, a1, b1⟩ := kk T2.heap (locs ++ L) (by rw [e1]; exact hh) (fun a ha => hA _ (hd a ha))
    ⟨Nat.le_trans hS.1 (by rw [e1]; exact hz), fun q h1 h2 => by rw [e1, hk q (Nat.lt_of_lt_of_le h1 hS.1) (fun z => h2 (hA q z))]; exact hS.2.1 q h1 h2, fun q hq => by
      rcases List.mem_append.mp hq with h | h
      · exact hS.2.2 q h
      · exact hf _ (hL q h)⟩ T2 rfl X2
  exact ⟨t2, go t2 a1, b1⟩
theorem xA_in (hA : ∀ q, s.heap.size ≤ q → A q) (hH : xH D dA B g S H) (hS : va_S A s.heap H locs) (hAd : ∀ a, (xt S a).isSome = true → A (B + a)) : ∀ q, xA B S q → A q := by
  intro q hq
  rcases hq with ⟨a, h1, rfl⟩ | h
  · exact hAd a h1
  · exact hA q (by have := hS.1; rw [hH.1] at this; omega)
theorem xU_at (hX : xX p R s m args meth c D dA y) (hN : xNw s) (hG : xSg g B s) (hAB : ∀ q, A q → B ≤ q) (hH : xH D dA B g S H) (hS : va_S A s.heap H locs) (av : List Value) : ∀ U : State, U.heap = H → s.WarmedH U.vm → va_Pc av (xU D dA B g S) av.toArray U := by
  obtain ⟨hx, hb, hml, hown, hts, hKK, -⟩ := hX
  intro U hU hW
  refine ⟨rfl, by rw [hU]; exact hH, va_K.moved hW.alike hKK, hN.warm hW, hG.move hW.alike (fun a h1 h2 => ?_)⟩
  rw [hU]
  exact hS.2.1 a h1 (fun h => h2 (hAB a h))
/-- how a list of values lies on the stack -/
theorem x_stk (B : Nat) (g : Nat → Nat) (st : List Value) (n : Nat) : st.map (xv B g) = (((st.take n).reverse).map (xv B g)).reverse ++ (st.drop n).map (xv B g) := by
  rw [← List.map_reverse, List.reverse_reverse, ← List.map_append, List.take_append_drop]
theorem x_cats (B : Nat) (g : Nat → Nat) (t : List Value) : ((t.map (xv B g)).map fun v => v.category) = t.map fun v => v.category := by
  rw [List.map_map]
  exact List.map_congr_left (fun v _ => xv_cat B g v)
theorem xs_cl (hX : xX p R s m args meth c D dA y) (hN : xNw s) (hG : xSg g B s) (hA : ∀ q, s.heap.size ≤ q → A q) (hAB : ∀ q, A q → B ≤ q) (hK : xG p l e R s m args below meth c Q D dA B g A (xc_nl y) K r) {call : Nat → List Value → xS → Option xR} (hcall : ∀ (y2 : Nat) (as : List Value) (S2 : xS) (v : Option Value) (S1 : xS), y2 < 173 → call y2 as S2 = some (.inr v, S1) → xM l D dA B g y2 as S2 v S1) {o : Option (Nat × Nat)}
    (run : ∀ (y2 na : Nat) (as : List Value) (v : Option Value) (S1 : xS) (ls : Array Slot) (H : Heap) (locs : List Loc) (t : List Value), o = some (y2, na) → xM l D dA B g y2 as S v S1 → as.length = na → xrcv y2 S as = true → xc_lev y2 < xc_lev y → ls.size = xc_nl y → (t.map fun v => v.category).sum ≤ 8 → cn + xc_mc y2 ≤ R.cells → qn + xc_ms y2 ≤ R.slots → xH D dA B g S H → va_S A s.heap H locs → va_Run p l e R s m args below meth c H locs cn qn (xc_mc y2) (xc_ms y2) (F0 m pc ls ((as.map (xv B g)).reverse ++ t.map (xv B g))) (t.map (xv B g)) (xQc D dA B g (xA B S) v S1 (as.map (xv B g)).toArray) (xA B S)) (hy2 : ∀ y2 na, o = some (y2, na) → y2 < 173)
    (hct : ∀ (y2 na ex t : Nat) (S1 : xS), o = some (y2, na) → xc_hnd y pc ex = some t → na ≤ st.length → xc_lev y2 < xc_lev y → cn + xc_mc y2 ≤ xc_mc y → qn + xc_ms y2 ≤ xc_ms y → ((st.drop na).map fun v => v.category).sum ≤ 8 → xrcv y2 S (st.take na).reverse = true → call y2 (st.take na).reverse S = some (.inl ex, S1) → xz S1 ≤ 1000000 → K t lv [.ref (xz S1 - 1)] (cn + xc_mc y2) (qn + xc_ms y2) S1 = some r → xW p l e R s m args below meth c Q D dA B g A (xc_nl y) pc lv st cn qn S)
    (h : xcl (fun t c q S => K (pc + 3) lv t c q S) (fun t r c q S => K t lv r c q S) (xc_hnd y pc) call o (xc_lev y) (xc_mc y) (xc_ms y) cn qn S st = some r) : xW p l e R s m args below meth c Q D dA B g A (xc_nl y) pc lv st cn qn S := by
  have hR : R.cells = xc_mc y ∧ R.slots = xc_ms y := ⟨hX.2.2.2.2.2.2.2.2.2.2.2.2.1, hX.2.2.2.2.2.2.2.2.2.2.2.2.2⟩
  unfold xcl at h
  split at h
  · next y2 na =>
    split at h
    · next c1 =>
      split at h
      · next c2 =>
        split at h
        · next c3 =>
          split at h
          · next c4 =>
            split at h
            · next c5 =>
              split at h
              · next c6 =>
                split at h
                · next v S1 hc =>
                  intro ls H locs hl hH hS hAd
                  have hlen : (st.take na).reverse.length = na := by
                    rw [List.length_reverse, List.length_take]
                    omega
                  have hrun := run y2 na (st.take na).reverse v S1 ls H locs (st.drop na) rfl (hcall y2 _ S v S1 (hy2 y2 na rfl) hc) hlen c6 c2 hl.1 c5 (by rw [hR.1]; exact c3) (by rw [hR.2]; exact c4) hH hS
                  rw [x_stk B g st na]
                  refine x_back hrun hS (xA_in hA hH hS hAd) (xA_in hA hH hS hAd) (fun H1 locs1 hH1 hAd1 hS1 => ?_)
                  have k9 := hK _ _ _ _ _ _ h ls H1 locs1 hl hH1 hS1 hAd1
                  have e9 : (v.toList ++ st.drop na).map (xv B g) = (v.map (xv B g)).toList ++ (st.drop na).map (xv B g) := by
                    rw [List.map_append]
                    cases v <;> rfl
                  rw [e9] at k9
                  exact k9
                · next ex S1 hc =>
                  split at h
                  · next t ht =>
                    split at h
                    · next c7 => exact hct y2 na ex t S1 rfl ht c1 c2 c3 c4 c5 c6 hc c7 h
                    · cases h
                  · cases h
                · cases h
              · cases h
            · cases h
          · cases h
        · cases h
      · cases h
    · cases h
  · cases h
end XC
end
section
-- THE EVALUATOR AND THE MACHINE, eighth part: the three sorts of calls
theorem xh_vrt {own x y2 na : Nat} (h : xc_vrt own x = some (y2, na)) : y2 < 173 ∧ xc_kind y2 = 1 ∧ 1 ≤ na ∧ (parseMethodDescriptor (xc_y y2).desc).map (fun d => d.parameters.length) = some (na - 1) ∧ Cond.methodLink (xc_on own) x (xc_y y2) ∈ xc_tbl := by
  unfold xc_vrt at h
  obtain ⟨e, he, hv⟩ := Option.map_eq_some_iff.mp h
  have hm := xc_at_mem he
  have ho := xc_at_own (n := 13) rfl he
  have h1 := List.all_eq_true.mp (List.all_eq_true.mp xf_vrt_ok own (List.mem_range.mpr ho)) _ hm
  obtain ⟨⟨y3, na3⟩, pos⟩ := e
  cases hv
  unfold xf_vrt xf_np at h1
  simp only [Bool.and_eq_true, decide_eq_true_eq] at h1
  exact ⟨h1.1.1.1.1, h1.1.1.1.2, h1.1.1.2, h1.1.2, xw_in h1.2 rfl⟩
theorem xh_stt {own x y2 na : Nat} (h : xc_stt own x = some (y2, na)) : y2 < 173 ∧ xc_kind y2 = 0 ∧ (parseMethodDescriptor (xc_y y2).desc).map (fun d => d.parameters.length) = some na ∧ Cond.methodLink (xc_on own) x (xc_y y2) ∈ xc_tbl ∧ (xc_y y2).cls = xc_on own := by
  unfold xc_stt at h
  obtain ⟨e, he, hv⟩ := Option.map_eq_some_iff.mp h
  have hm := xc_at_mem he
  have ho := xc_at_own (n := 13) rfl he
  have h1 := List.all_eq_true.mp (List.all_eq_true.mp xf_stt_ok own (List.mem_range.mpr ho)) _ hm
  obtain ⟨⟨y3, na3⟩, pos⟩ := e
  cases hv
  unfold xf_stt xf_np at h1
  simp only [Bool.and_eq_true, decide_eq_true_eq] at h1
  exact ⟨h1.1.1.1.1, h1.1.1.1.2, h1.1.1.2, xw_in h1.1.2 rfl, h1.2⟩
theorem xh_spc {own x y2 na : Nat} (h : xc_spc own x = some (y2, na)) : y2 < 173 ∧ xc_kind y2 = 2 ∧ 1 ≤ na ∧ (parseMethodDescriptor (xc_y y2).desc).map (fun d => d.parameters.length) = some (na - 1) ∧ (Cond.methodLink (xc_on own) x (xc_y y2) ∈ xc_tbl ∨ ∃ e : Nat × (Nat × Nat) × Bool × Nat, e ∈ xc_spcs.getD own [] ∧ e.1 = x ∧ e.2.1.1 = y2 ∧ e.2.2.1 = true) := by
  unfold xc_spc at h
  obtain ⟨e, he, hv⟩ := Option.map_eq_some_iff.mp h
  have hm := xc_at_mem he
  have ho := xc_at_own (n := 13) rfl he
  have h1 := List.all_eq_true.mp (List.all_eq_true.mp xf_spc_ok own (List.mem_range.mpr ho)) _ hm
  obtain ⟨⟨y3, na3⟩, nb, pos⟩ := e
  cases hv
  unfold xf_spc xf_np at h1
  simp only [Bool.and_eq_true, decide_eq_true_eq] at h1
  refine ⟨h1.1.1.1.1, h1.1.1.1.2, h1.1.1.2, h1.1.2, ?_⟩
  cases nb with
  | true => exact Or.inr ⟨_, hm, rfl, rfl, rfl⟩
  | false => exact Or.inl (xw_in (of_decide_eq_true (by simpa using h1.2)) rfl)
theorem xrcv_ref {y : Nat} {S : xS} {as : List Value} (h : xrcv y S as = true) (hk : ¬ xc_kind y = 0) : ∃ (b : Nat) (as2 : List Value), as = .ref b :: as2 ∧ (xc_kind y = 1 → xt S b = some (.inl (xc_yc y))) := by
  unfold xrcv at h
  split at h
  · next b t => exact ⟨b, t, rfl, fun k => by simpa [k] using h⟩
  · simp [hk] at h
theorem xf_rt0 : (List.range 173).all (fun y => !(decide (xc_kind y = 2)) || decide (xc_rt y = none)) = true := by decide +kernel
section XV
variable {p : Program} {l : Launch} {e : Env} {R : Room} {s : State} {m : MethodId} {args : Array Value} {below : List Frame} {meth : Method} {c : Code} {Q : State → Prop} {D : va_G} {dA : Nat → ClassId} {B : Nat} {g : Nat → Nat} {A : Nat → Prop} {pc y : Nat} {lv : xL} {st : List Value} {cn qn : Nat} {S : xS} {K : xK} {r : xR}
theorem x_rooms (hX : xX p R s m args meth c D dA y) {y2 : Nat} (h : xc_lev y2 < xc_lev y) (hn : xc_nl y2 ≤ 20) : (xrm y2).frames + 1 ≤ R.frames ∧ 8 + (xc_nl y2 + 11) + (xrm y2).locals ≤ R.locals := by
  obtain ⟨-, -, -, -, -, -, -, -, -, -, hRf, hRl, -, -⟩ := hX
  show xc_lev y2 + 1 ≤ R.frames ∧ 8 + (xc_nl y2 + 11) + 40 * xc_lev y2 ≤ R.locals
  omega
theorem x_runV (hX : xX p R s m args meth c D dA y) (hN : xNw s) (hG : xSg g B s) (hAB : ∀ q, A q → B ≤ q) {x : Nat} (hd : decode (xc_b y) pc = .ok (.invokevirtual x, 3)) : ∀ (y2 na : Nat) (as : List Value) (v : Option Value) (S1 : xS) (ls : Array Slot) (H : Heap) (locs : List Loc) (t : List Value), xc_vrt (xc_own y) x = some (y2, na) → xM l D dA B g y2 as S v S1 → as.length = na → xrcv y2 S as = true → xc_lev y2 < xc_lev y → ls.size = xc_nl y → (t.map fun v => v.category).sum ≤ 8 → cn + xc_mc y2 ≤ R.cells → qn + xc_ms y2 ≤ R.slots → xH D dA B g S H → va_S A s.heap H locs → va_Run p l e R s m args below meth c H locs cn qn (xc_mc y2) (xc_ms y2) (F0 m pc ls ((as.map (xv B g)).reverse ++ t.map (xv B g))) (t.map (xv B g)) (xQc D dA B g (xA B S) v S1 (as.map (xv B g)).toArray) (xA B S) := by
  intro y2 na as v S1 ls H locs t ho hM hlen hrc hlev hls hcat hcc hqq hH hS
  obtain ⟨w1, w2, w3, w4, w5⟩ := xh_vrt ho
  obtain ⟨q1, q2, q3, q4, q5, q6, q7, q8, q9, q10⟩ := xh_m w1
  obtain ⟨hx, hb, hml, hown, hts, hKK, -⟩ := id hX
  obtain ⟨b, as2, rfl, hrc2⟩ := xrcv_ref hrc (by omega)
  · obtain ⟨hba, hbt⟩ := hH.2 b _ (hrc2 w2)
    obtain ⟨C, T, N, hc⟩ := xh_at q5
    obtain ⟨Y, z1, z2, -⟩ := xh_cls hc
    have hstk : (F0 m pc ls (((Value.ref b :: as2).map (xv B g)).reverse ++ t.map (xv B g))).stack = (as2.map (xv B g)).reverse ++ .ref (B + b) :: t.map (xv B g) := by
      show ((Value.ref b :: as2).map (xv B g)).reverse ++ t.map (xv B g) = _
      rw [List.map_cons, List.reverse_cons, List.append_assoc]
      simp [xv, xad_lt hba]
    have hargs : (Value.ref (B + b) :: as2.map (xv B g)).toArray = ((Value.ref b :: as2).map (xv B g)).toArray := by
      simp [xv, xad_lt hba]
    have hcls : (xc_y y2).cls = C := by rw [q1, z2]
    have hgood : GoodIn xc_tbl (wsV (xc_on (xc_own y)) x C (xc_y y2) (xc_ws y2)) := by
      refine xgood (fun w hw => ?_)
      unfold wsV at hw
      rcases List.mem_append.mp hw with h | h
      · simp only [List.mem_cons, List.not_mem_nil, or_false] at h
        rcases h with rfl | rfl | rfl | rfl
        · exact w5
        · exact q8 (by omega)
        · rw [← hcls]; exact q9 w2
        · rw [← hcls]; exact q6
      · exact xws_in w1 w h
    have hrun := va_runV (p := p) (l := l) (e := e) (R := R) (s := s) (m := m) (args := args) (below := below) (meth := meth) (c := c) (H := H) (locs := locs) (cells := cn) (slots := qn) (b := B + b) (As := as2.map (xv B g)) (rest := t.map (xv B g)) (g := F0 m pc ls (((Value.ref b :: as2).map (xv B g)).reverse ++ t.map (xv B g))) (C := C) (Ts := xc_tbl) ⟨hx, hb, hml, hown, hts⟩ hM
      (cwV (na - 1) hts hgood rfl rfl rfl ⟨hcls, q2.1, q2.2, w4⟩ (x_rooms hX hlev q4)) ⟨xU.blind _, va_recv hKK (xP1 hbt) (ci := xc_yc y2) (q0 := 0) hc rfl, ?_⟩ rfl (by rw [List.length_map]; simp only [List.length_cons] at hlen; omega) (by rw [hls]) hstk (by rw [x_cats]; show 2 * 0 + _ ≤ 8; omega) hd ⟨hcc, hqq⟩
    · rw [hargs] at hrun
      exact hrun
    · rw [hargs]
      exact xU_at hX hN hG hAB hH hS _
theorem x_runS (hX : xX p R s m args meth c D dA y) (hN : xNw s) (hG : xSg g B s) (hAB : ∀ q, A q → B ≤ q) {x : Nat} (hd : decode (xc_b y) pc = .ok (.invokestatic x, 3)) : ∀ (y2 na : Nat) (as : List Value) (v : Option Value) (S1 : xS) (ls : Array Slot) (H : Heap) (locs : List Loc) (t : List Value), xc_stt (xc_own y) x = some (y2, na) → xM l D dA B g y2 as S v S1 → as.length = na → xrcv y2 S as = true → xc_lev y2 < xc_lev y → ls.size = xc_nl y → (t.map fun v => v.category).sum ≤ 8 → cn + xc_mc y2 ≤ R.cells → qn + xc_ms y2 ≤ R.slots → xH D dA B g S H → va_S A s.heap H locs → va_Run p l e R s m args below meth c H locs cn qn (xc_mc y2) (xc_ms y2) (F0 m pc ls ((as.map (xv B g)).reverse ++ t.map (xv B g))) (t.map (xv B g)) (xQc D dA B g (xA B S) v S1 (as.map (xv B g)).toArray) (xA B S) := by
  intro y2 na as v S1 ls H locs t ho hM hlen hrc hlev hls hcat hcc hqq hH hS
  obtain ⟨w1, w2, w4, w5, w6⟩ := xh_stt ho
  obtain ⟨q1, q2, q3, q4, q5, q6, q7, q8, q9, q10⟩ := xh_m w1
  obtain ⟨hx, hb, hml, hown, hts, hKK, -⟩ := id hX
  have hgood : GoodIn xc_tbl (wsS (xc_on (xc_own y)) x (xc_y y2) (xc_ws y2)) := by
    refine xgood (fun w hw => ?_)
    unfold wsS at hw
    rcases List.mem_append.mp hw with h | h
    · simp only [List.mem_cons, List.not_mem_nil, or_false] at h
      rcases h with rfl | rfl | rfl
      · exact w5
      · exact q7 w2
      · rw [← w6]; exact q6
    · exact xws_in w1 w h
  exact va_runS (As := as.map (xv B g)) (rest := t.map (xv B g)) (Ts := xc_tbl) ⟨hx, hb, hml, hown, hts⟩ hM
    (cwS na hts hgood rfl rfl rfl ⟨w6, q2.1, q2.2, w4⟩ (x_rooms hX hlev q4)) ⟨xU.blind _, xU_at hX hN hG hAB hH hS _⟩ rfl (by rw [List.length_map]; exact hlen) (by rw [hls]) rfl (by rw [x_cats]; show 2 * 0 + _ ≤ 8; omega) hd ⟨hcc, hqq⟩
theorem x_runI (hX : xX p R s m args meth c D dA y) (hN : xNw s) (hG : xSg g B s) (hAB : ∀ q, A q → B ≤ q) {x : Nat} (hd : decode (xc_b y) pc = .ok (.invokespecial x, 3)) : ∀ (y2 na : Nat) (as : List Value) (v : Option Value) (S1 : xS) (ls : Array Slot) (H : Heap) (locs : List Loc) (t : List Value), xc_spc (xc_own y) x = some (y2, na) → xM l D dA B g y2 as S v S1 → as.length = na → xrcv y2 S as = true → xc_lev y2 < xc_lev y → ls.size = xc_nl y → (t.map fun v => v.category).sum ≤ 8 → cn + xc_mc y2 ≤ R.cells → qn + xc_ms y2 ≤ R.slots → xH D dA B g S H → va_S A s.heap H locs → va_Run p l e R s m args below meth c H locs cn qn (xc_mc y2) (xc_ms y2) (F0 m pc ls ((as.map (xv B g)).reverse ++ t.map (xv B g))) (t.map (xv B g)) (xQc D dA B g (xA B S) v S1 (as.map (xv B g)).toArray) (xA B S) := by
  intro y2 na as v S1 ls H locs t ho hM hlen hrc hlev hls hcat hcc hqq hH hS
  obtain ⟨w1, w2, w3, w4, w5⟩ := xh_spc ho
  obtain ⟨q1, q2, q3, q4, q5, q6, q7, q8, q9, q10⟩ := xh_m w1
  obtain ⟨hx, hb, hml, hown, hts, hKK, -⟩ := id hX
  obtain ⟨b, as2, rfl, -⟩ := xrcv_ref hrc (by omega)
  · have hrt : xc_rt y2 = none := by
      have h9 := List.all_eq_true.mp xf_rt0 y2 (List.mem_range.mpr w1)
      simpa [w2] using h9
    have hstk : (F0 m pc ls (((Value.ref b :: as2).map (xv B g)).reverse ++ t.map (xv B g))).stack = (as2.map (xv B g)).reverse ++ .ref (xad B g b) :: t.map (xv B g) := by
      show ((Value.ref b :: as2).map (xv B g)).reverse ++ t.map (xv B g) = _
      rw [List.map_cons, List.reverse_cons, List.append_assoc]
      rfl
    have hw : xc_ws y2 = Cond.code (xc_y y2) (xc_b y2) (xc_nl y2) none :: xc_tbl := by unfold xc_ws; rw [hrt]
    have hpre : PreS s H (va_Pc ((Value.ref b :: as2).map (xv B g)) (xU D dA B g S)) (.ref (xad B g b) :: as2.map (xv B g)) := ⟨xU.blind _, xU_at hX hN hG hAB hH hS _⟩
    rcases w5 with w5 | ⟨e0, w5, rfl, rfl, w6⟩
    · exact va_runI (b := xad B g b) (As := as2.map (xv B g)) (rest := t.map (xv B g)) (Ts := xc_tbl) ⟨hx, hb, hml, hown, hts⟩ hM
        (cwI (na - 1) hts (xgood (xws_in w1)) hw rfl rfl (hts _ q6) (hts _ w5) (hts _ (q8 (by omega))) (q10 w2) ⟨q2.1, q2.2, w4⟩ (x_rooms hX hlev q4)) hpre rfl (by rw [List.length_map]; simp only [List.length_cons] at hlen; omega) (by rw [hls]) hstk (by rw [x_cats]; show 2 * 0 + _ ≤ 8; omega) hd ⟨hcc, hqq⟩
    · exact va_runIN (b := xad B g b) (As := as2.map (xv B g)) (rest := t.map (xv B g)) (Ts := xc_tbl) (host := "SnapForge") ⟨hx, hb, hml, hown, hts⟩ hM
        ⟨va_cnB (na - 1) hts (xgood (xws_in w1)) hw rfl rfl (hN.2.2.2 _ e0 w5 w6) (hts _ q6) ⟨q2.1, q2.2, w4⟩ (x_rooms hX hlev q4), q10 w2, hts _ (q8 (by omega))⟩ hpre rfl (by rw [List.length_map]; simp only [List.length_cons] at hlen; omega) (by rw [hls]) hstk (by rw [x_cats]; show 2 * 0 + _ ≤ 8; omega) hd ⟨hcc, hqq⟩
end XV
end
section
-- THE EVALUATOR AND THE MACHINE, ninth part: every instruction, every method
theorem xh_dec1 {y pc n : Nat} {i : Instr} (h : xc_code y pc = some i) (hn : xlen i = n) (h0 : n ≠ 0) : decode (xc_b y) pc = .ok (i, n) := by
  obtain ⟨l, hd, hl⟩ := xh_dec h
  rcases hl with q | q
  · exact absurd (hn.symm.trans q) h0
  · rw [hd, q, hn]
section XT
variable {p : Program} {l : Launch} {e : Env} {R : Room} {s : State} {m : MethodId} {args : Array Value} {below : List Frame} {meth : Method} {c : Code} {D : va_G} {dA : Nat → ClassId} {B : Nat} {g : Nat → Nat} {A : Nat → Prop} {pc y : Nat} {lv : xL} {st : List Value} {cn qn : Nat} {S : xS} {K : xK} {r : xR}
/-- the ends: the method returns -/
theorem xs_ret {S0 : xS} {v : Option Value} {S1 : xS} (hX : xX p R s m args meth c D dA y) (hAd : ∀ a, (xt S1 a).isSome = true → xA B S0 (B + a)) {H : Heap} {locs : List Loc} (hH : xH D dA B g S1 H) (hS : va_S (xA B S0) s.heap H locs) : ∀ t : State, t.heap = H → s.WarmedH t.vm → xQc D dA B g (xA B S0) v S1 args s (.returned (v.map (xv B g))) t := fun t ht _ => ⟨rfl, by rw [ht]; exact hH, hAd, hS.F ht⟩
theorem xh_ret {y : Nat} (h : y < 187) : (xc_ret y = 0 → xc_rt y = none) ∧ (xc_ret y = 1 → xc_rt y = some .int) ∧ (xc_ret y = 2 → xc_rt y = some .boolean) ∧ (xc_ret y = 3 → xc_rt y = some .long) ∧ (xc_ret y = 4 → ∃ n, xc_rt y = some (.object n)) := by
  have h1 := List.all_eq_true.mp xf_r_ok y (List.mem_range.mpr h)
  unfold xf_r at h1
  simp only [Bool.and_eq_true, decide_eq_true_eq] at h1
  have h2 := h1.1
  refine ⟨fun k => ?_, fun k => ?_, fun k => ?_, fun k => ?_, fun k => ?_⟩
  · simpa [k] using h2
  · simpa [k] using h2
  · simpa [k] using h2
  · simpa [k] using h2
  · simp only [k, Nat.reduceEqDiff, if_false, if_true] at h2
    split at h2
    · next n hn => exact ⟨n, hn⟩
    · cases h2
theorem xs_ends {S0 : xS} {v : Option Value} {S1 : xS} (hX : xX p R s m args meth c D dA y) (hc : xc_code y pc = some .ireturn) (h1 : cn ≤ xc_mc y) (h2 : qn ≤ xc_ms y) (h : xret y S st = some (.inr v, S1)) : xW p l e R s m args below meth c (MQ below (xQc D dA B g (xA B S0) v S1) args s (xc_mc y) (xc_ms y) (xA B S0)) D dA B g (xA B S0) (xc_nl y) pc lv st cn qn S := by
  obtain ⟨hx, hb, hml, hown, hts, hKK, hr, hlk, hini, hy, -⟩ := id hX
  unfold xret at h
  split at h
  · next w =>
    split at h
    · next h3 =>
      cases h
      exact fun ls H locs hl hH hS hAd => W.widen h1 h2 (W.iret hx hb (hr.trans ((xh_ret hy).2.1 h3)) (xs_ret hX hAd hH hS) hS.2.2 (xh_dec1 hc rfl (by decide)) hlk)
    · split at h
      · next h3 =>
        split at h
        · next h4 =>
          cases h
          exact fun ls H locs hl hH hS hAd => W.widen h1 h2 (W.zret hx hb (hr.trans ((xh_ret hy).2.2.1 h3)) (by rcases h4 with rfl | rfl <;> rfl) (xs_ret hX hAd hH hS) hS.2.2 (xh_dec1 hc rfl (by decide)) hlk)
        · cases h
      · cases h
  · cases h
theorem xs_endl {S0 : xS} {v : Option Value} {S1 : xS} (hX : xX p R s m args meth c D dA y) (hc : xc_code y pc = some .lreturn) (h1 : cn ≤ xc_mc y) (h2 : qn ≤ xc_ms y) (h : xrel y S st = some (.inr v, S1)) : xW p l e R s m args below meth c (MQ below (xQc D dA B g (xA B S0) v S1) args s (xc_mc y) (xc_ms y) (xA B S0)) D dA B g (xA B S0) (xc_nl y) pc lv st cn qn S := by
  obtain ⟨hx, hb, hml, hown, hts, hKK, hr, hlk, hini, hy, -⟩ := id hX
  unfold xrel at h
  split at h
  · next w =>
    split at h
    · next h3 =>
      cases h
      exact fun ls H locs hl hH hS hAd => W.widen h1 h2 (W.lret hx hb (hr.trans ((xh_ret hy).2.2.2.1 h3)) (xs_ret hX hAd hH hS) hS.2.2 (xh_dec1 hc rfl (by decide)) hlk)
    · cases h
  · cases h
theorem xs_enda {S0 : xS} {v : Option Value} {S1 : xS} (hX : xX p R s m args meth c D dA y) (hc : xc_code y pc = some .areturn) (h1 : cn ≤ xc_mc y) (h2 : qn ≤ xc_ms y) (h : xrea y S st = some (.inr v, S1)) : xW p l e R s m args below meth c (MQ below (xQc D dA B g (xA B S0) v S1) args s (xc_mc y) (xc_ms y) (xA B S0)) D dA B g (xA B S0) (xc_nl y) pc lv st cn qn S := by
  obtain ⟨hx, hb, hml, hown, hts, hKK, hr, hlk, hini, hy, -⟩ := id hX
  unfold xrea at h
  split at h
  · next w =>
    split at h
    · next h3 =>
      cases h
      obtain ⟨n, hn⟩ := (xh_ret hy).2.2.2.2 h3
      exact fun ls H locs hl hH hS hAd => W.widen h1 h2 (W.aret hx hb (hr.trans hn) (Or.inl ⟨n, rfl⟩) (Or.inr ⟨_, rfl⟩) (xs_ret (v := some (.ref w)) hX hAd hH hS) hS.2.2 (xh_dec1 hc rfl (by decide)) hlk)
    · cases h
  · cases h
theorem xs_endv {S0 : xS} {v : Option Value} {S1 : xS} (hX : xX p R s m args meth c D dA y) (hc : xc_code y pc = some .return_) (h1 : cn ≤ xc_mc y) (h2 : qn ≤ xc_ms y) (h : xrev y S st = some (.inr v, S1)) : xW p l e R s m args below meth c (MQ below (xQc D dA B g (xA B S0) v S1) args s (xc_mc y) (xc_ms y) (xA B S0)) D dA B g (xA B S0) (xc_nl y) pc lv st cn qn S := by
  obtain ⟨hx, hb, hml, hown, hts, hKK, hr, hlk, hini, hy, -⟩ := id hX
  unfold xrev at h
  split at h
  · split at h
    · next h3 =>
      cases h
      exact fun ls H locs hl hH hS hAd => W.widen h1 h2 (W.vret hx hb (hr.trans ((xh_ret hy).1 h3)) (xs_ret hX hAd hH hS) hS.2.2 (xh_dec1 hc rfl (by decide)) hlk)
    · cases h
  · cases h
theorem xh_spc0 {own x y2 na : Nat} (h : xc_spc own x = some (y2, na)) : y2 < 173 := (xh_spc h).1
variable {Q : State → Prop}
set_option maxHeartbeats 4000000 in
theorem xstep_ok (hX : xX p R s m args meth c D dA y) (hN : xNw s) (hG : xSg g B s) (hA : ∀ q, s.heap.size ≤ q → A q) (hAB : ∀ q, A q → B ≤ q) (hK : xG p l e R s m args below meth c Q D dA B g A (xc_nl y) K r) {call : Nat → List Value → xS → Option xR} (hcall : ∀ (y2 : Nat) (as : List Value) (S2 : xS) (v : Option Value) (S1 : xS), y2 < 173 → call y2 as S2 = some (.inr v, S1) → xM l D dA B g y2 as S2 v S1)
    (hthr : ∀ (x : Nat) (o : Option (Nat × Nat)), xc_code y pc = some (.new x) → xc_exc (xc_own y) x = o → (st.map fun v => v.category).sum ≤ 8 → xthr o y pc (xc_mc y) (xc_ms y) cn qn S = some r → xW p l e R s m args below meth c Q D dA B g A (xc_nl y) pc lv st cn qn S)
    (h1r : xc_code y pc = some .ireturn → cn ≤ xc_mc y → qn ≤ xc_ms y → xret y S st = some r → xW p l e R s m args below meth c Q D dA B g A (xc_nl y) pc lv st cn qn S)
    (h2r : xc_code y pc = some .lreturn → cn ≤ xc_mc y → qn ≤ xc_ms y → xrel y S st = some r → xW p l e R s m args below meth c Q D dA B g A (xc_nl y) pc lv st cn qn S)
    (h3r : xc_code y pc = some .areturn → cn ≤ xc_mc y → qn ≤ xc_ms y → xrea y S st = some r → xW p l e R s m args below meth c Q D dA B g A (xc_nl y) pc lv st cn qn S)
    (h4r : xc_code y pc = some .return_ → cn ≤ xc_mc y → qn ≤ xc_ms y → xrev y S st = some r → xW p l e R s m args below meth c Q D dA B g A (xc_nl y) pc lv st cn qn S)
    (hct : ∀ (o : Option (Nat × Nat)) (x y2 na ex t : Nat) (S1 : xS), (xc_code y pc = some (.invokevirtual x) ∧ o = xc_vrt (xc_own y) x ∨ (∃ x, xc_code y pc = some (.invokespecial x)) ∨ ∃ x, xc_code y pc = some (.invokestatic x)) → o = some (y2, na) → xc_hnd y pc ex = some t → na ≤ st.length → xc_lev y2 < xc_lev y → cn + xc_mc y2 ≤ xc_mc y → qn + xc_ms y2 ≤ xc_ms y → ((st.drop na).map fun v => v.category).sum ≤ 8 → xrcv y2 S (st.take na).reverse = true → call y2 (st.take na).reverse S = some (.inl ex, S1) → xz S1 ≤ 1000000 → K t lv [.ref (xz S1 - 1)] (cn + xc_mc y2) (qn + xc_ms y2) S1 = some r → xW p l e R s m args below meth c Q D dA B g A (xc_nl y) pc lv st cn qn S)
    {i : Instr} (hc : xc_code y pc = some i) (h : xstep K call y pc i lv st cn qn S = some r) : xW p l e R s m args below meth c Q D dA B g A (xc_nl y) pc lv st cn qn S := by
  obtain ⟨hx, hb, hml, hown, hts, hKK, hr, hlk, hini, hy, -⟩ := id hX
  have hT : xSt g A s := ⟨fun j hj => (hG.1 j hj).narrow hAB, fun j L hL => (hG.2 j L hL).narrow hAB⟩
  unfold xstep at h
  split at h
  · exact xs_push hK rfl (fun ls H locs t k => lv_iconst hx hb (xh_dec1 hc rfl (by decide)) rfl k) h
  · exact xs_push hK rfl (fun ls H locs t k => lv_bipush hx hb (xh_dec1 hc rfl (by decide)) rfl k) h
  · exact xs_push hK rfl (fun ls H locs t k => lv_sipush hx hb (xh_dec1 hc rfl (by decide)) rfl k) h
  · exact xs_push hK rfl (fun ls H locs t k => lv_lconst hx hb (xh_dec1 hc rfl (by decide)) rfl k) h
  · exact xs_push hK rfl (fun ls H locs t k => lv_null hx hb (xh_dec1 hc rfl (by decide)) k) h
  · cases h
  · exact xs_ldc2 hX hK (xh_dec1 hc rfl (by decide)) h
  · exact xs_ldI hK (fun ls H locs x t q k => lv_iload_n hx hb (xh_dec1 hc rfl (by decide)) rfl q k) h
  · exact xs_ldI hK (fun ls H locs x t q k => lv_iload hx hb (xh_dec1 hc rfl (by decide)) q k) h
  · exact xs_ldL hK (fun ls H locs x t q k => lv_lload_n hx hb (xh_dec1 hc rfl (by decide)) rfl q k) h
  · exact xs_ldL hK (fun ls H locs x t q k => lv_lload hx hb (xh_dec1 hc rfl (by decide)) q k) h
  · exact xs_ldA hK (fun ls H locs x t q k => lv_aload_n hx hb (xh_dec1 hc rfl (by decide)) rfl q k) (fun ls H locs t q k => lv_aload_nN hx hb (xh_dec1 hc rfl (by decide)) rfl q k) h
  · exact xs_ldA hK (fun ls H locs x t q k => lv_aload hx hb (xh_dec1 hc rfl (by decide)) q k) (fun ls H locs t q k => lv_aloadN hx hb (xh_dec1 hc rfl (by decide)) q k) h
  · exact xs_stI hK (fun ls H locs x t lv1 lv2 a b d k => lv_istore_n hx hb (xh_dec1 hc rfl (by decide)) rfl a b d k) h
  · exact xs_stI hK (fun ls H locs x t lv1 lv2 a b d k => lv_istore hx hb (xh_dec1 hc rfl (by decide)) a b d k) h
  · exact xs_stL hK (fun ls H locs x t lv1 lv2 a b d k => lv_lstore_n hx hb (xh_dec1 hc rfl (by decide)) rfl a b d k) h
  · exact xs_stL hK (fun ls H locs x t lv1 lv2 a b d k => lv_lstore hx hb (xh_dec1 hc rfl (by decide)) a b d k) h
  · exact xs_stA hK (fun ls H locs x t lv1 lv2 a b d k => lv_astore_n hx hb (xh_dec1 hc rfl (by decide)) rfl a b d k) (fun ls H locs t lv1 lv2 a b d k => lv_astore_nN hx hb (xh_dec1 hc rfl (by decide)) rfl a b d k) h
  · exact xs_stA hK (fun ls H locs x t lv1 lv2 a b d k => lv_astore hx hb (xh_dec1 hc rfl (by decide)) a b d k) (fun ls H locs t lv1 lv2 a b d k => lv_astoreN hx hb (xh_dec1 hc rfl (by decide)) a b d k) h
  · exact xs_inc hK (fun ls H locs x t k lv1 lv2 a b d f kk => lv_iinc hx hb (xh_dec1 hc rfl (by decide)) a b rfl d f kk) h
  · exact xs_bI hK (fun ls H locs a b t k => lv_iadd hx hb (xh_dec1 hc rfl (by decide)) k) h
  · exact xs_bI hK (fun ls H locs a b t k => lv_isub hx hb (xh_dec1 hc rfl (by decide)) k) h
  · exact xs_bI hK (fun ls H locs a b t k => lv_imul hx hb (xh_dec1 hc rfl (by decide)) k) h
  · exact xs_bI hK (fun ls H locs a b t k => lv_iand hx hb (xh_dec1 hc rfl (by decide)) k) h
  · exact xs_bI hK (fun ls H locs a b t k => lv_ior hx hb (xh_dec1 hc rfl (by decide)) k) h
  · exact xs_bI hK (fun ls H locs a b t k => lv_ixor hx hb (xh_dec1 hc rfl (by decide)) k) h
  · exact xs_bI hK (fun ls H locs a b t k => lv_ishl hx hb (xh_dec1 hc rfl (by decide)) k) h
  · exact xs_bI hK (fun ls H locs a b t k => lv_ishr hx hb (xh_dec1 hc rfl (by decide)) k) h
  · exact xs_bI hK (fun ls H locs a b t k => lv_iushr hx hb (xh_dec1 hc rfl (by decide)) rfl k) h
  · exact xs_bD hK (fun ls H locs a b t q k => lv_idiv hx hb (xh_dec1 hc rfl (by decide)) q k) h
  · exact xs_bD hK (fun ls H locs a b t q k => lv_irem hx hb (xh_dec1 hc rfl (by decide)) q k) h
  · exact xs_uI hK (fun _ => rfl) (fun ls H locs a t k => lv_ineg hx hb (xh_dec1 hc rfl (by decide)) k) h
  · exact xs_bL hK (fun ls H locs a b t k => lv_ladd hx hb (xh_dec1 hc rfl (by decide)) k) h
  · exact xs_bL hK (fun ls H locs a b t k => lv_lsub hx hb (xh_dec1 hc rfl (by decide)) k) h
  · exact xs_bL hK (fun ls H locs a b t k => lv_lmul hx hb (xh_dec1 hc rfl (by decide)) k) h
  · exact xs_bL hK (fun ls H locs a b t k => lv_land hx hb (xh_dec1 hc rfl (by decide)) k) h
  · exact xs_bL hK (fun ls H locs a b t k => lv_lor hx hb (xh_dec1 hc rfl (by decide)) k) h
  · exact xs_bL hK (fun ls H locs a b t k => lv_lxor hx hb (xh_dec1 hc rfl (by decide)) k) h
  · exact xs_bE hK (fun ls H locs a b t q k => lv_ldiv hx hb (xh_dec1 hc rfl (by decide)) q k) h
  · exact xs_bE hK (fun ls H locs a b t q k => lv_lrem hx hb (xh_dec1 hc rfl (by decide)) q k) h
  · exact xs_uL hK (fun _ => rfl) (fun ls H locs a t k => lv_lneg hx hb (xh_dec1 hc rfl (by decide)) k) h
  · exact xs_bS hK (fun ls H locs a b t k => lv_lshl hx hb (xh_dec1 hc rfl (by decide)) rfl k) h
  · exact xs_bS hK (fun ls H locs a b t k => lv_lshr hx hb (xh_dec1 hc rfl (by decide)) rfl k) h
  · exact xs_bS hK (fun ls H locs a b t k => lv_lushr hx hb (xh_dec1 hc rfl (by decide)) rfl k) h
  · exact xs_bC hK (fun ls H locs a b t k => W.lcmp hx hb (xh_dec1 hc rfl (by decide)) k) h
  · exact xs_uI hK (fun _ => rfl) (fun ls H locs a t k => lv_i2l hx hb (xh_dec1 hc rfl (by decide)) rfl k) h
  · exact xs_uL hK (fun _ => rfl) (fun ls H locs a t k => lv_l2i hx hb (xh_dec1 hc rfl (by decide)) rfl k) h
  · exact xs_dup hK (fun ls H locs a t q k => lv_dup hx hb (xh_dec1 hc rfl (by decide)) q k) h
  · exact xs_dupx1 hK (fun ls H locs a b t q1 q2 k => lv_dup_x1 hx hb (xh_dec1 hc rfl (by decide)) q1 q2 k) h
  · exact xs_dupx2 hK (fun ls H locs a b d t q1 q2 q3 k => lv_dup_x2 hx hb (xh_dec1 hc rfl (by decide)) q1 q2 q3 k) h
  · exact xs_dup2 hK (fun ls H locs a b t q1 q2 k => lv_dup2_11 hx hb (xh_dec1 hc rfl (by decide)) q1 q2 k) h
  · exact xs_pop hK (fun ls H locs a t q k => lv_pop hx hb (xh_dec1 hc rfl (by decide)) q k) h
  · exact xs_pop2 hK (fun ls H locs a t q k => lv_pop2_2 hx hb (xh_dec1 hc rfl (by decide)) q k) h
  · next d off =>
    cases d with
    | eq => exact xs_if hK (fun ls H locs a t tgt q kt kf => lv_if_eq hx hb (xh_dec1 hc rfl (by decide)) q (fun z => kt (by simp [xcb, z])) (fun z => kf (by simp [xcb, z]))) h
    | ne => exact xs_if hK (fun ls H locs a t tgt q kt kf => lv_if_ne hx hb (xh_dec1 hc rfl (by decide)) q (fun z => kt (by simp [xcb, z])) (fun z => kf (by simp [xcb, z]))) h
    | lt => exact xs_if hK (fun ls H locs a t tgt q kt kf => lv_if_lt hx hb (xh_dec1 hc rfl (by decide)) q (fun z => kt (by simp only [xcb, decide_eq_true_eq]; exact z)) (fun z => kf (by simp only [xcb, decide_eq_true_eq]; exact z))) h
    | ge => exact xs_if hK (fun ls H locs a t tgt q kt kf => lv_if_ge hx hb (xh_dec1 hc rfl (by decide)) q (fun z => kt (by simp only [xcb, decide_eq_true_eq]; exact z)) (fun z => kf (by simp only [xcb, decide_eq_true_eq]; exact z))) h
    | gt => exact xs_if hK (fun ls H locs a t tgt q kt kf => lv_if_gt hx hb (xh_dec1 hc rfl (by decide)) q (fun z => kt (by simp only [xcb, decide_eq_true_eq]; exact z)) (fun z => kf (by simp only [xcb, decide_eq_true_eq]; exact z))) h
    | le => exact xs_if hK (fun ls H locs a t tgt q kt kf => lv_if_le hx hb (xh_dec1 hc rfl (by decide)) q (fun z => kt (by simp only [xcb, decide_eq_true_eq]; exact z)) (fun z => kf (by simp only [xcb, decide_eq_true_eq]; exact z))) h
  · next d off =>
    cases d with
    | eq => exact xs_ic hK (fun ls H locs a b t tgt q kt kf => lv_icmp_eq hx hb (xh_dec1 hc rfl (by decide)) q (fun z => kt (by simp [xcb, z])) (fun z => kf (by simp [xcb, z]))) h
    | ne => exact xs_ic hK (fun ls H locs a b t tgt q kt kf => lv_icmp_ne hx hb (xh_dec1 hc rfl (by decide)) q (fun z => kt (by simp [xcb, z])) (fun z => kf (by simp [xcb, z]))) h
    | lt => exact xs_ic hK (fun ls H locs a b t tgt q kt kf => lv_icmp_lt hx hb (xh_dec1 hc rfl (by decide)) q (fun z => kt (by simp only [xcb, decide_eq_true_eq]; exact z)) (fun z => kf (by simp only [xcb, decide_eq_true_eq]; exact z))) h
    | ge => exact xs_ic hK (fun ls H locs a b t tgt q kt kf => lv_icmp_ge hx hb (xh_dec1 hc rfl (by decide)) q (fun z => kt (by simp only [xcb, decide_eq_true_eq]; exact z)) (fun z => kf (by simp only [xcb, decide_eq_true_eq]; exact z))) h
    | gt => exact xs_ic hK (fun ls H locs a b t tgt q kt kf => lv_icmp_gt hx hb (xh_dec1 hc rfl (by decide)) q (fun z => kt (by simp only [xcb, decide_eq_true_eq]; exact z)) (fun z => kf (by simp only [xcb, decide_eq_true_eq]; exact z))) h
    | le => exact xs_ic hK (fun ls H locs a b t tgt q kt kf => lv_icmp_le hx hb (xh_dec1 hc rfl (by decide)) q (fun z => kt (by simp only [xcb, decide_eq_true_eq]; exact z)) (fun z => kf (by simp only [xcb, decide_eq_true_eq]; exact z))) h
  · exact xs_nul hK (fun ls H locs t tgt q k => lv_ifnullN hx hb (xh_dec1 hc rfl (by decide)) q k) (fun ls H locs x t k => lv_ifnull hx hb (xh_dec1 hc rfl (by decide)) k) h
  · exact xs_nnl hK (fun ls H locs t k => lv_ifnonnullN hx hb (xh_dec1 hc rfl (by decide)) k) (fun ls H locs x t tgt q k => lv_ifnonnull hx hb (xh_dec1 hc rfl (by decide)) q k) h
  · exact xs_goto hK (fun ls H locs t tgt q k => lv_goto hx hb (xh_dec1 hc rfl (by decide)) q k) h
  · obtain ⟨len, hd, -⟩ := xh_dec hc
    exact xs_tsw hK (fun ls H locs x t tgt q1 q2 k => lv_tableOut hx hb hd q1 q2 k) (fun ls H locs x t tgt off q1 q2 q3 q4 k => lv_tableIn hx hb hd q1 q2 q3 q4 k) h
  · obtain ⟨len, hd, -⟩ := xh_dec hc
    exact xs_lsw hK (fun ls H locs x t tgt q1 q2 k => lv_lookup hx hb hd q1 rfl q2 k) h
  · exact xs_gf hX hK (xh_dec1 hc rfl (by decide)) h
  · exact xs_pf hX hK (xh_dec1 hc rfl (by decide)) h
  · exact xs_gs hX hN hT hK (xh_dec1 hc rfl (by decide)) h
  · exact xs_iald hX hT hK (xh_dec1 hc rfl (by decide)) h
  · exact xs_bald hX hK (xh_dec1 hc rfl (by decide)) h
  · exact xs_bast hX hK (xh_dec1 hc rfl (by decide)) h
  · exact xs_lald hX hK (xh_dec1 hc rfl (by decide)) h
  · exact xs_aald hX hK (xh_dec1 hc rfl (by decide)) h
  · exact xs_iast hX hK (xh_dec1 hc rfl (by decide)) h
  · exact xs_last hX hK (xh_dec1 hc rfl (by decide)) h
  · exact xs_aast hX hK (xh_dec1 hc rfl (by decide)) h
  · split at h
    · exact xs_newo hX hA hK (xh_dec1 hc rfl (by decide)) h
    · split at h
      · next hcs => exact hthr _ _ hc rfl hcs h
      · cases h
  · exact xs_newn hX hA hK (j := 0) (ty := .int) rfl xw_ai rfl id (by decide) (fun n => rfl) (xh_dec1 hc rfl (by decide)) h
  · exact xs_newn hX hA hK (j := 1) (ty := .long) rfl xw_al rfl id (by decide) (fun n => rfl) (xh_dec1 hc rfl (by decide)) h
  · exact xs_newn hX hA hK (j := 2) (ty := .boolean) rfl xw_az rfl id (by decide) (fun n => rfl) (xh_dec1 hc rfl (by decide)) h
  · exact xs_newq hX hN hA hK (xh_dec1 hc rfl (by decide)) h
  · exact xs_cl hX hN hG hA hAB hK hcall (x_runV hX hN hG hAB (xh_dec1 hc rfl (by decide))) (fun y2 na ho => (xh_vrt ho).1) (fun y2 na ex t S1 => hct _ _ y2 na ex t S1 (Or.inl ⟨hc, rfl⟩)) h
  · split at h
    · next ho => exact xs_obj hX hK ho (xh_dec1 hc rfl (by decide)) h
    · exact xs_cl hX hN hG hA hAB hK hcall (x_runI hX hN hG hAB (xh_dec1 hc rfl (by decide))) (fun y2 na ho => (xh_spc ho).1) (fun y2 na ex t S1 => hct _ 0 y2 na ex t S1 (Or.inr (Or.inl ⟨_, hc⟩))) h
  · split at h
    · next ho =>
      split at h
      · next c1 =>
        split at h
        · next c2 => exact xs_min hX hK ho c1 c2 (xh_dec1 hc rfl (by decide)) h
        · cases h
      · cases h
    · exact xs_cl hX hN hG hA hAB hK hcall (x_runS hX hN hG hAB (xh_dec1 hc rfl (by decide))) (fun y2 na ho => (xh_stt ho).1) (fun y2 na ex t S1 => hct _ 0 y2 na ex t S1 (Or.inr (Or.inr ⟨_, hc⟩))) h
  · split at h
    · next c1 =>
      split at h
      · next c2 => exact h1r hc c1 c2 h
      · cases h
    · cases h
  · split at h
    · next c1 =>
      split at h
      · next c2 => exact h2r hc c1 c2 h
      · cases h
    · cases h
  · split at h
    · next c1 =>
      split at h
      · next c2 => exact h3r hc c1 c2 h
      · cases h
    · cases h
  · split at h
    · next c1 =>
      split at h
      · next c2 => exact h4r hc c1 c2 h
      · cases h
    · cases h
  · cases h
end XT
end
section
-- THE EVALUATOR AND THE MACHINE, last part: what the evaluator comes to, the method comes to
theorem x_sl (B : Nat) (g : Nat → Nat) (as : List Value) : (lg_sl (as.map (xv B g))).length = (lg_sl as).length := by
  induction as with
  | nil => rfl
  | cons v t ih =>
    have e : ∀ (v : Value) (t : List Value), lg_sl (v :: t) = (if v.category = 2 then [Slot.val v, Slot.second] else [Slot.val v]) ++ lg_sl t := fun v t => by simp [lg_sl]
    rw [List.map_cons, e, e, List.length_append, List.length_append, ih, xv_cat]
    by_cases h : v.category = 2 <;> simp [h]
theorem x_args (B : Nat) (g : Nat → Nat) (as : List Value) : ∀ i : Nat, lv_args i (as.map (xv B g)) = (lv_args i as).map (fun q => (q.1, xv B g q.2)) := by
  induction as with
  | nil => intro i; rfl
  | cons v t ih =>
    intro i
    simp only [List.map_cons, lv_args, xv_cat, ih]
theorem xsound (l : Launch) (D : va_G) (dA : Nat → ClassId) (B : Nat) (g : Nat → Nat) : ∀ (n y : Nat) (as : List Value) (S : xS) (v : Option Value) (S1 : xS), y < 173 → xmeth n y as S = some (.inr v, S1) → xM l D dA B g y as S v S1 := by
  intro n
  induction n using Nat.strongRecOn with
  | _ n ih =>
    intro y as S v S1 hy h
    unfold xmeth at h
    split at h
    · next hfit =>
      obtain ⟨q1, q2, q3, q4, q5, q6, q7, q8, q9, q10⟩ := xh_m hy
      refine Met.ofW (cc := xc_b y) (maxL := xc_nl y) (ret := xc_rt y) q3 rfl ?_
      intro p e s m args below meth c s₁ Bd hml hv
      obtain ⟨rfl, hH, hKK, hN, hG⟩ := hv
      have hx := Bd.exec
      have hts0 := atoms_spec (ws := xc_ws y) Bd.pre
      have hX : xX p (headSpec (xc_ws y) (xrm y)).room s m (as.map (xv B g)).toArray meth c D dA y := by
        refine ⟨Bd.exec, Bd.bytes, hml, ?_, fun w hw => hts0 w (List.mem_cons_of_mem _ hw), hKK, Bd.returns, Bd.notSynchronized, fun hk => ?_, by omega, Nat.le_refl _, Nat.le_refl _, rfl, rfl⟩
        · rw [← q1]
          exact findClass_of_methodNamed Bd.named
        · rw [(name_of_methodNamed Bd.named Bd.method).1]
          exact q10 hk
      have hA : ∀ q, s.heap.size ≤ q → xA B S q := fun q hq => Or.inr (by rw [← hH.1]; exact hq)
      have hAB : ∀ q, xA B S q → B ≤ q := by
        intro q hq
        rcases hq with ⟨a, -, rfl⟩ | hq
        · omega
        · omega
      have key : ∀ k, k ≤ n → xG p l e (headSpec (xc_ws y) (xrm y)).room s m (as.map (xv B g)).toArray below meth c (MQ below (xQc D dA B g (xA B S) v S1) (as.map (xv B g)).toArray s (xc_mc y) (xc_ms y) (xA B S)) D dA B g (xA B S) (xc_nl y) (xev k y) (.inr v, S1) := by
        intro k
        induction k with
        | zero =>
          intro _ pc lv st cn qn S2 h2
          cases h2
        | succ k ihk =>
          intro hk pc lv st cn qn S2 h2
          have hKk := ihk (by omega)
          unfold xev at h2
          split at h2
          · next i hc =>
            exact xstep_ok hX hN hG hA hAB hKk (fun y2 as2 S3 v2 S4 hy2 h3 => ih k (by omega) y2 as2 S3 v2 S4 hy2 h3)
              (fun x o hcx ho hcs h3 => by
                unfold xthr at h3
                split at h3
                · split at h3
                  · split at h3
                    · split at h3
                      · cases h3
                      · cases h3
                    · cases h3
                  · cases h3
                · cases h3)
              (fun hc1 c1 c2 h3 => xs_ends hX hc1 c1 c2 h3) (fun hc1 c1 c2 h3 => xs_endl hX hc1 c1 c2 h3) (fun hc1 c1 c2 h3 => xs_enda hX hc1 c1 c2 h3) (fun hc1 c1 c2 h3 => xs_endv hX hc1 c1 c2 h3) (fun o x y2 na ex t S3 _ _ ht => by rw [xh_hnd hy] at ht; cases ht) hc h2
          · cases h2
      have hl := lv_entry (as.map (xv B g)) (n := xc_nl y) (by rw [x_sl]; exact hfit)
      rw [x_args] at hl
      rw [lg_entry_eq]
      exact key n (Nat.le_refl n) 0 _ [] 0 0 S h _ s.heap [] hl hH va_S.rf (fun a ha => Or.inl ⟨a, ha, rfl⟩)
    · cases h
end
section
-- MORE FUEL CHANGES NOTHING: each piece of the evaluator
theorem xldI_mono {k k2 : Value → Option xR} {lv : xL} {i : Nat} {r : xR} (hk : ∀ t0, k t0 = some r → k2 t0 = some r) : xldI k lv i = some r → xldI k2 lv i = some r := by
  unfold xldI
  repeat' split
  all_goals first | exact id | exact hk _
theorem xldL_mono {k k2 : Value → Option xR} {lv : xL} {i : Nat} {r : xR} (hk : ∀ t0, k t0 = some r → k2 t0 = some r) : xldL k lv i = some r → xldL k2 lv i = some r := by
  unfold xldL
  repeat' split
  all_goals first | exact id | exact hk _
theorem xldA_mono {k k2 : Value → Option xR} {lv : xL} {i : Nat} {r : xR} (hk : ∀ t0, k t0 = some r → k2 t0 = some r) : xldA k lv i = some r → xldA k2 lv i = some r := by
  unfold xldA
  repeat' split
  all_goals first | exact id | exact hk _
theorem xstI_mono {k k2 : xL → List Value → Option xR} {lv : xL} {i nL : Nat} {st : List Value} {r : xR} (hk : ∀ t0 t1, k t0 t1 = some r → k2 t0 t1 = some r) : xstI k lv i nL st = some r → xstI k2 lv i nL st = some r := by
  unfold xstI
  repeat' split
  all_goals first | exact id | exact hk _ _
theorem xstL_mono {k k2 : xL → List Value → Option xR} {lv : xL} {i nL : Nat} {st : List Value} {r : xR} (hk : ∀ t0 t1, k t0 t1 = some r → k2 t0 t1 = some r) : xstL k lv i nL st = some r → xstL k2 lv i nL st = some r := by
  unfold xstL
  repeat' split
  all_goals first | exact id | exact hk _ _
theorem xstA_mono {k k2 : xL → List Value → Option xR} {lv : xL} {i nL : Nat} {st : List Value} {r : xR} (hk : ∀ t0 t1, k t0 t1 = some r → k2 t0 t1 = some r) : xstA k lv i nL st = some r → xstA k2 lv i nL st = some r := by
  unfold xstA
  repeat' split
  all_goals first | exact id | exact hk _ _
theorem xinc_mono {k k2 : xL → Option xR} {lv : xL} {i nL : Nat} {n : Int} {r : xR} (hk : ∀ t0, k t0 = some r → k2 t0 = some r) : xinc k lv i nL n = some r → xinc k2 lv i nL n = some r := by
  unfold xinc
  repeat' split
  all_goals first | exact id | exact hk _
theorem xbI_mono {k k2 : List Value → Option xR} {f : Int32 → Int32 → Int32} {st : List Value} {r : xR} (hk : ∀ t0, k t0 = some r → k2 t0 = some r) : xbI k f st = some r → xbI k2 f st = some r := by
  unfold xbI
  repeat' split
  all_goals first | exact id | exact hk _
theorem xbD_mono {k k2 : List Value → Option xR} {f : Int32 → Int32 → Int32} {st : List Value} {r : xR} (hk : ∀ t0, k t0 = some r → k2 t0 = some r) : xbD k f st = some r → xbD k2 f st = some r := by
  unfold xbD
  repeat' split
  all_goals first | exact id | exact hk _
theorem xbL_mono {k k2 : List Value → Option xR} {f : Int64 → Int64 → Int64} {st : List Value} {r : xR} (hk : ∀ t0, k t0 = some r → k2 t0 = some r) : xbL k f st = some r → xbL k2 f st = some r := by
  unfold xbL
  repeat' split
  all_goals first | exact id | exact hk _
theorem xbE_mono {k k2 : List Value → Option xR} {f : Int64 → Int64 → Int64} {st : List Value} {r : xR} (hk : ∀ t0, k t0 = some r → k2 t0 = some r) : xbE k f st = some r → xbE k2 f st = some r := by
  unfold xbE
  repeat' split
  all_goals first | exact id | exact hk _
theorem xbS_mono {k k2 : List Value → Option xR} {f : Int64 → Int32 → Int64} {st : List Value} {r : xR} (hk : ∀ t0, k t0 = some r → k2 t0 = some r) : xbS k f st = some r → xbS k2 f st = some r := by
  unfold xbS
  repeat' split
  all_goals first | exact id | exact hk _
theorem xbC_mono {k k2 : List Value → Option xR} {st : List Value} {r : xR} (hk : ∀ t0, k t0 = some r → k2 t0 = some r) : xbC k st = some r → xbC k2 st = some r := by
  unfold xbC
  repeat' split
  all_goals first | exact id | exact hk _
theorem xuI_mono {k k2 : List Value → Option xR} {f : Int32 → Value} {st : List Value} {r : xR} (hk : ∀ t0, k t0 = some r → k2 t0 = some r) : xuI k f st = some r → xuI k2 f st = some r := by
  unfold xuI
  repeat' split
  all_goals first | exact id | exact hk _
theorem xuL_mono {k k2 : List Value → Option xR} {f : Int64 → Value} {st : List Value} {r : xR} (hk : ∀ t0, k t0 = some r → k2 t0 = some r) : xuL k f st = some r → xuL k2 f st = some r := by
  unfold xuL
  repeat' split
  all_goals first | exact id | exact hk _
theorem xdup_mono {k k2 : List Value → Option xR} {st : List Value} {r : xR} (hk : ∀ t0, k t0 = some r → k2 t0 = some r) : xdup k st = some r → xdup k2 st = some r := by
  unfold xdup
  repeat' split
  all_goals first | exact id | exact hk _
theorem xdupx1_mono {k k2 : List Value → Option xR} {st : List Value} {r : xR} (hk : ∀ t0, k t0 = some r → k2 t0 = some r) : xdupx1 k st = some r → xdupx1 k2 st = some r := by
  unfold xdupx1
  repeat' split
  all_goals first | exact id | exact hk _
theorem xdupx2_mono {k k2 : List Value → Option xR} {st : List Value} {r : xR} (hk : ∀ t0, k t0 = some r → k2 t0 = some r) : xdupx2 k st = some r → xdupx2 k2 st = some r := by
  unfold xdupx2
  repeat' split
  all_goals first | exact id | exact hk _
theorem xdup2_mono {k k2 : List Value → Option xR} {st : List Value} {r : xR} (hk : ∀ t0, k t0 = some r → k2 t0 = some r) : xdup2 k st = some r → xdup2 k2 st = some r := by
  unfold xdup2
  repeat' split
  all_goals first | exact id | exact hk _
theorem xpop_mono {k k2 : List Value → Option xR} {st : List Value} {r : xR} (hk : ∀ t0, k t0 = some r → k2 t0 = some r) : xpop k st = some r → xpop k2 st = some r := by
  unfold xpop
  repeat' split
  all_goals first | exact id | exact hk _
theorem xpop2_mono {k k2 : List Value → Option xR} {st : List Value} {r : xR} (hk : ∀ t0, k t0 = some r → k2 t0 = some r) : xpop2 k st = some r → xpop2 k2 st = some r := by
  unfold xpop2
  repeat' split
  all_goals first | exact id | exact hk _
theorem xobj_mono {k k2 : List Value → Option xR} {st : List Value} {r : xR} (hk : ∀ t0, k t0 = some r → k2 t0 = some r) : xobj k st = some r → xobj k2 st = some r := by
  unfold xobj
  repeat' split
  all_goals first | exact id | exact hk _
theorem xmin_mono {k k2 : List Value → Option xR} {st : List Value} {r : xR} (hk : ∀ t0, k t0 = some r → k2 t0 = some r) : xmin k st = some r → xmin k2 st = some r := by
  unfold xmin
  repeat' split
  all_goals first | exact id | exact hk _
theorem xtg_mono {k k2 : Nat → Option xR} {pc : Nat} {off : Int} {r : xR} (hk : ∀ t0, k t0 = some r → k2 t0 = some r) : xtg k pc off = some r → xtg k2 pc off = some r := by
  unfold xtg
  repeat' split
  all_goals first | exact id | exact hk _
theorem xif_mono {k k2 : Nat → List Value → Option xR} {d : Jvm.ClassFile.Cond} {pc : Nat} {off : Int} {st : List Value} {r : xR} (hk : ∀ t0 t1, k t0 t1 = some r → k2 t0 t1 = some r) : xif k d pc off st = some r → xif k2 d pc off st = some r := by
  unfold xif
  repeat' split
  all_goals first | exact id | exact hk _ _
theorem xic_mono {k k2 : Nat → List Value → Option xR} {d : Jvm.ClassFile.Cond} {pc : Nat} {off : Int} {st : List Value} {r : xR} (hk : ∀ t0 t1, k t0 t1 = some r → k2 t0 t1 = some r) : xic k d pc off st = some r → xic k2 d pc off st = some r := by
  unfold xic
  repeat' split
  all_goals first | exact id | exact hk _ _
theorem xnul_mono {k k2 : Nat → List Value → Option xR} {pc : Nat} {off : Int} {st : List Value} {r : xR} (hk : ∀ t0 t1, k t0 t1 = some r → k2 t0 t1 = some r) : xnul k pc off st = some r → xnul k2 pc off st = some r := by
  unfold xnul
  repeat' split
  all_goals first | exact id | exact hk _ _ | exact xtg_mono (fun t => hk t _)
theorem xnnl_mono {k k2 : Nat → List Value → Option xR} {pc : Nat} {off : Int} {st : List Value} {r : xR} (hk : ∀ t0 t1, k t0 t1 = some r → k2 t0 t1 = some r) : xnnl k pc off st = some r → xnnl k2 pc off st = some r := by
  unfold xnnl
  repeat' split
  all_goals first | exact id | exact hk _ _ | exact xtg_mono (fun t => hk t _)
theorem xtsw_mono {k k2 : Nat → List Value → Option xR} {pc : Nat} {d lo hi : Int} {offs : Array Int} {st : List Value} {r : xR} (hk : ∀ t0 t1, k t0 t1 = some r → k2 t0 t1 = some r) : xtsw k pc d lo hi offs st = some r → xtsw k2 pc d lo hi offs st = some r := by
  unfold xtsw
  repeat' split
  all_goals first | exact id | exact hk _ _ | exact xtg_mono (fun t => hk t _)
theorem xlsw_mono {k k2 : Nat → List Value → Option xR} {pc : Nat} {d : Int} {ps : Array (Int × Int)} {st : List Value} {r : xR} (hk : ∀ t0 t1, k t0 t1 = some r → k2 t0 t1 = some r) : xlsw k pc d ps st = some r → xlsw k2 pc d ps st = some r := by
  unfold xlsw
  repeat' split
  all_goals first | exact id | exact hk _ _ | exact xtg_mono (fun t => hk t _)
theorem xgf_mono {k k2 : List Value → Option xR} {ob : Option (Nat × Nat)} {S : xS} {st : List Value} {r : xR} (hk : ∀ t0, k t0 = some r → k2 t0 = some r) : xgf k ob S st = some r → xgf k2 ob S st = some r := by
  unfold xgf
  repeat' split
  all_goals first | exact id | exact hk _
theorem xpf_mono {k k2 : List Value → xS → Option xR} {ob : Option (Nat × Nat)} {may : Nat → Nat → Bool} {S : xS} {st : List Value} {r : xR} (hk : ∀ t0 t1, k t0 t1 = some r → k2 t0 t1 = some r) : xpf k ob may S st = some r → xpf k2 ob may S st = some r := by
  unfold xpf
  repeat' split
  all_goals first | exact id | exact hk _ _
theorem xiald_mono {k k2 : List Value → Option xR} {S : xS} {st : List Value} {r : xR} (hk : ∀ t0, k t0 = some r → k2 t0 = some r) : xiald k S st = some r → xiald k2 S st = some r := by
  unfold xiald
  repeat' split
  all_goals first | exact id | exact hk _
theorem xlald_mono {k k2 : List Value → Option xR} {S : xS} {st : List Value} {r : xR} (hk : ∀ t0, k t0 = some r → k2 t0 = some r) : xlald k S st = some r → xlald k2 S st = some r := by
  unfold xlald
  repeat' split
  all_goals first | exact id | exact hk _
theorem xbald_mono {k k2 : List Value → Option xR} {S : xS} {st : List Value} {r : xR} (hk : ∀ t0, k t0 = some r → k2 t0 = some r) : xbald k S st = some r → xbald k2 S st = some r := by
  unfold xbald
  repeat' split
  all_goals first | exact id | exact hk _
theorem xaald_mono {k k2 : List Value → Option xR} {S : xS} {st : List Value} {r : xR} (hk : ∀ t0, k t0 = some r → k2 t0 = some r) : xaald k S st = some r → xaald k2 S st = some r := by
  unfold xaald
  repeat' split
  all_goals first | exact id | exact hk _
theorem xiast_mono {k k2 : List Value → xS → Option xR} {S : xS} {st : List Value} {r : xR} (hk : ∀ t0 t1, k t0 t1 = some r → k2 t0 t1 = some r) : xiast k S st = some r → xiast k2 S st = some r := by
  unfold xiast
  repeat' split
  all_goals first | exact id | exact hk _ _
theorem xlast_mono {k k2 : List Value → xS → Option xR} {S : xS} {st : List Value} {r : xR} (hk : ∀ t0 t1, k t0 t1 = some r → k2 t0 t1 = some r) : xlast k S st = some r → xlast k2 S st = some r := by
  unfold xlast
  repeat' split
  all_goals first | exact id | exact hk _ _
theorem xbast_mono {k k2 : List Value → xS → Option xR} {S : xS} {st : List Value} {r : xR} (hk : ∀ t0 t1, k t0 t1 = some r → k2 t0 t1 = some r) : xbast k S st = some r → xbast k2 S st = some r := by
  unfold xbast
  repeat' split
  all_goals first | exact id | exact hk _ _
theorem xaast_mono {k k2 : List Value → xS → Option xR} {S : xS} {st : List Value} {r : xR} (hk : ∀ t0 t1, k t0 t1 = some r → k2 t0 t1 = some r) : xaast k S st = some r → xaast k2 S st = some r := by
  unfold xaast
  repeat' split
  all_goals first | exact id | exact hk _ _
theorem xnewo_mono {k k2 : Nat → Nat → xS → Option xR} {ob : Option Nat} {mc ms c q : Nat} {S : xS} {r : xR} (hk : ∀ t0 t1 t2, k t0 t1 t2 = some r → k2 t0 t1 t2 = some r) : xnewo k ob mc ms c q S = some r → xnewo k2 ob mc ms c q S = some r := by
  unfold xnewo
  repeat' split
  all_goals first | exact id | exact hk _ _ _
theorem xnewa_mono {k k2 : List Value → Nat → Nat → xS → Option xR} {ob : Option Nat} {mc ms c q : Nat} {S : xS} {st : List Value} {r : xR} (hk : ∀ t0 t1 t2 t3, k t0 t1 t2 t3 = some r → k2 t0 t1 t2 t3 = some r) : xnewa k ob mc ms c q S st = some r → xnewa k2 ob mc ms c q S st = some r := by
  unfold xnewa
  repeat' split
  all_goals first | exact id | exact hk _ _ _ _
theorem xlc_mono {k k2 : Int32 → Option xR} {ob : Option Int32} {r : xR} (hk : ∀ t0, k t0 = some r → k2 t0 = some r) : xlc k ob = some r → xlc k2 ob = some r := by
  unfold xlc
  repeat' split
  all_goals first | exact id | exact hk _
theorem xlc2_mono {k k2 : Int64 → Option xR} {ob : Option Int64} {r : xR} (hk : ∀ t0, k t0 = some r → k2 t0 = some r) : xlc2 k ob = some r → xlc2 k2 ob = some r := by
  unfold xlc2
  repeat' split
  all_goals first | exact id | exact hk _
theorem xgs_mono {k k2 : Nat → Option xR} {ob : Option Nat} {r : xR} (hk : ∀ t0, k t0 = some r → k2 t0 = some r) : xgs k ob = some r → xgs k2 ob = some r := by
  unfold xgs
  repeat' split
  all_goals first | exact id | exact hk _
theorem xcl_mono {k kk : List Value → Nat → Nat → xS → Option xR} {k2 kk2 : Nat → List Value → Nat → Nat → xS → Option xR} {hd : Nat → Option Nat} {call call2 : Nat → List Value → xS → Option xR} {ob : Option (Nat × Nat)} {lev mc ms c q : Nat} {S : xS} {st : List Value} {r : xR} (hk : ∀ t0 t1 t2 t3, k t0 t1 t2 t3 = some r → kk t0 t1 t2 t3 = some r) (hk2 : ∀ t0 t1 t2 t3 t4, k2 t0 t1 t2 t3 t4 = some r → kk2 t0 t1 t2 t3 t4 = some r) (hc : ∀ y as S r, call y as S = some r → call2 y as S = some r) (h : xcl k k2 hd call ob lev mc ms c q S st = some r) : xcl kk kk2 hd call2 ob lev mc ms c q S st = some r := by
  unfold xcl at h ⊢
  split at h
  · next y na =>
    split at h
    · next c1 =>
      split at h
      · next c2 =>
        split at h
        · next c3 =>
          split at h
          · next c4 =>
            split at h
            · next c5 =>
              split at h
              · next c6 =>
                split at h
                · next v S1 hv =>
                  simp only [if_pos c1, if_pos c2, if_pos c3, if_pos c4, if_pos c5, if_pos c6, hc _ _ _ _ hv]
                  exact hk _ _ _ _ h
                · next ex S1 hv =>
                  split at h
                  · next t ht =>
                    split at h
                    · next c7 =>
                      simp only [if_pos c1, if_pos c2, if_pos c3, if_pos c4, if_pos c5, if_pos c6, hc _ _ _ _ hv, ht, if_pos c7]
                      exact hk2 _ _ _ _ _ h
                    · cases h
                  · cases h
                · cases h
              · cases h
            · cases h
          · cases h
        · cases h
      · cases h
    · cases h
  · cases h
set_option maxHeartbeats 4000000 in
theorem xstep_mono {K K2 : xK} {call call2 : Nat → List Value → xS → Option xR} {y pc : Nat} {i : Instr} {lv : xL} {st : List Value} {c q : Nat} {S : xS} {r : xR} (hK : ∀ pc lv st c q S, K pc lv st c q S = some r → K2 pc lv st c q S = some r) (hc : ∀ y as S r, call y as S = some r → call2 y as S = some r) : xstep K call y pc i lv st c q S = some r → xstep K2 call2 y pc i lv st c q S = some r := by
  unfold xstep
  split
  all_goals first
    | exact id
    | exact hK _ _ _ _ _ _
    | exact xlc_mono (fun _ => hK _ _ _ _ _ _) | exact xlc2_mono (fun _ => hK _ _ _ _ _ _)
    | exact xldI_mono (fun _ => hK _ _ _ _ _ _) | exact xldL_mono (fun _ => hK _ _ _ _ _ _) | exact xldA_mono (fun _ => hK _ _ _ _ _ _)
    | exact xstI_mono (fun _ _ => hK _ _ _ _ _ _) | exact xstL_mono (fun _ _ => hK _ _ _ _ _ _) | exact xstA_mono (fun _ _ => hK _ _ _ _ _ _)
    | exact xinc_mono (fun _ => hK _ _ _ _ _ _)
    | exact xbI_mono (fun _ => hK _ _ _ _ _ _) | exact xbD_mono (fun _ => hK _ _ _ _ _ _) | exact xbL_mono (fun _ => hK _ _ _ _ _ _) | exact xbE_mono (fun _ => hK _ _ _ _ _ _) | exact xbS_mono (fun _ => hK _ _ _ _ _ _) | exact xbC_mono (fun _ => hK _ _ _ _ _ _)
    | exact xuI_mono (fun _ => hK _ _ _ _ _ _) | exact xuL_mono (fun _ => hK _ _ _ _ _ _)
    | exact xdup_mono (fun _ => hK _ _ _ _ _ _) | exact xdupx1_mono (fun _ => hK _ _ _ _ _ _) | exact xdupx2_mono (fun _ => hK _ _ _ _ _ _) | exact xdup2_mono (fun _ => hK _ _ _ _ _ _) | exact xpop_mono (fun _ => hK _ _ _ _ _ _) | exact xpop2_mono (fun _ => hK _ _ _ _ _ _)
    | exact xif_mono (fun _ _ => hK _ _ _ _ _ _) | exact xic_mono (fun _ _ => hK _ _ _ _ _ _) | exact xnul_mono (fun _ _ => hK _ _ _ _ _ _) | exact xnnl_mono (fun _ _ => hK _ _ _ _ _ _) | exact xtg_mono (fun _ => hK _ _ _ _ _ _) | exact xtsw_mono (fun _ _ => hK _ _ _ _ _ _) | exact xlsw_mono (fun _ _ => hK _ _ _ _ _ _)
    | exact xgf_mono (fun _ => hK _ _ _ _ _ _) | exact xpf_mono (fun _ _ => hK _ _ _ _ _ _) | exact xgs_mono (fun _ => hK _ _ _ _ _ _)
    | exact xiald_mono (fun _ => hK _ _ _ _ _ _) | exact xlald_mono (fun _ => hK _ _ _ _ _ _) | exact xbald_mono (fun _ => hK _ _ _ _ _ _) | exact xaald_mono (fun _ => hK _ _ _ _ _ _)
    | exact xiast_mono (fun _ _ => hK _ _ _ _ _ _) | exact xlast_mono (fun _ _ => hK _ _ _ _ _ _) | exact xbast_mono (fun _ _ => hK _ _ _ _ _ _) | exact xaast_mono (fun _ _ => hK _ _ _ _ _ _)
    | exact xnewa_mono (fun _ _ _ _ => hK _ _ _ _ _ _)
    | exact xcl_mono (fun _ _ _ _ => hK _ _ _ _ _ _) (fun _ _ _ _ _ => hK _ _ _ _ _ _) hc
    | (split <;> first | exact id | exact xnewo_mono (fun _ _ _ => hK _ _ _ _ _ _) | (split <;> exact id) | exact xobj_mono (fun _ => hK _ _ _ _ _ _) | exact xcl_mono (fun _ _ _ _ => hK _ _ _ _ _ _) (fun _ _ _ _ _ => hK _ _ _ _ _ _) hc | (repeat' split) <;> first | exact id | exact xmin_mono (fun _ => hK _ _ _ _ _ _))
theorem xev_succ : ∀ (n y pc : Nat) (lv : xL) (st : List Value) (c q : Nat) (S : xS) (r : xR), xev n y pc lv st c q S = some r → xev (n + 1) y pc lv st c q S = some r := by
  intro n
  induction n with
  | zero => intro y pc lv st c q S r h; cases h
  | succ n ih =>
    intro y pc lv st c q S r h
    unfold xev at h ⊢
    split at h
    · next i hi =>
      refine xstep_mono (fun pc lv st c q S => ih y pc lv st c q S r) (fun y2 as S2 r2 h2 => ?_) h
      split at h2
      · next hl =>
        rw [if_pos hl]
        exact ih _ _ _ _ _ _ _ _ h2
      · cases h2
    · cases h
theorem xev_mono {n k y pc : Nat} {lv : xL} {st : List Value} {c q : Nat} {S : xS} {r : xR} (hk : n ≤ k) (h : xev n y pc lv st c q S = some r) : xev k y pc lv st c q S = some r := by
  obtain ⟨d, rfl⟩ := Nat.exists_eq_add_of_le hk
  induction d with
  | zero => exact h
  | succ d ih => exact xev_succ _ _ _ _ _ _ _ _ _ (ih (by omega))
end
section
-- MORE LOCALS CHANGE NOTHING
def xnd (lv : xL) : Prop := (lv.map Prod.fst).Nodup
def xle (lv lv2 : xL) : Prop := ∀ i v, xld lv i = some v → xld lv2 i = some v
theorem xld_cons (k : Nat) (v : Value) (t : xL) (j : Nat) : xld ((k, v) :: t) j = if k = j then some v else xld t j := by
  unfold xld
  by_cases h : k = j
  · subst h; simp
  · simp [h]
theorem xle_nil (lv2 : xL) : xle [] lv2 := fun i v h => by cases h
theorem xle_cons {k : Nat} {v : Value} {t lv2 : xL} (h : xld lv2 k = some v) (ht : xle t lv2) : xle ((k, v) :: t) lv2 := by
  intro i w hi
  rw [xld_cons] at hi
  split at hi
  · next e => cases hi; rw [← e]; exact h
  · exact ht i w hi
theorem xld_mem2 {lv : xL} (hn : xnd lv) {j : Nat} {w : Value} (h : (j, w) ∈ lv) : xld lv j = some w := by
  induction lv with
  | nil => cases h
  | cons q t ih =>
    obtain ⟨k, v⟩ := q
    have hn2 : k ∉ t.map Prod.fst ∧ (t.map Prod.fst).Nodup := List.nodup_cons.mp hn
    rw [xld_cons]
    rcases List.mem_cons.mp h with h | h
    · cases h; simp
    · have e : ¬ k = j := fun e => hn2.1 (by rw [e]; exact List.mem_map.mpr ⟨(j, w), h, rfl⟩)
      rw [if_neg e]
      exact ih hn2.2 h
theorem xle_filter {lv lv2 : xL} (hn : xnd lv) (h : xle lv lv2) (p : Nat × Value → Bool) {j : Nat} {w : Value} (hj : xld (lv.filter p) j = some w) : xld (lv2.filter p) j = some w := by
  have hm := xld_mem hj
  obtain ⟨hm1, hp⟩ := List.mem_filter.mp hm
  have h2 := h j w (xld_mem2 hn hm1)
  clear hj hm hm1 h hn lv
  induction lv2 with
  | nil => cases h2
  | cons q t ih =>
    obtain ⟨k, v⟩ := q
    rw [xld_cons] at h2
    by_cases e : k = j
    · rw [if_pos e] at h2
      cases h2
      subst e
      rw [List.filter_cons, if_pos hp, xld_cons, if_pos rfl]
    · rw [if_neg e] at h2
      rw [List.filter_cons]
      split
      · rw [xld_cons, if_neg e]
        exact ih h2
      · exact ih h2
theorem xnd_filter {lv : xL} (hn : xnd lv) (p : Nat × Value → Bool) : xnd (lv.filter p) := List.Nodup.sublist (List.Sublist.map _ List.filter_sublist) hn
theorem xst_le {lv lv2 : xL} (hn : xnd lv) (h : xle lv lv2) (p : Nat × Value → Bool) (i : Nat) (v : Value) : xle ((i, v) :: lv.filter p) ((i, v) :: lv2.filter p) := by
  intro j w hj
  rw [xld_cons] at hj ⊢
  split
  · next e => rw [if_pos e] at hj; exact hj
  · next e => rw [if_neg e] at hj; exact xle_filter hn h p hj
theorem xst_nd {lv : xL} (hn : xnd lv) (p : Nat × Value → Bool) (i : Nat) (v : Value) (hp : ∀ w, p (i, w) = false) : xnd ((i, v) :: lv.filter p) := by
  refine List.nodup_cons.mpr ⟨fun hm => ?_, xnd_filter hn p⟩
  obtain ⟨q, hq, e⟩ := List.mem_map.mp hm
  obtain ⟨k, w⟩ := q
  have e2 : k = i := e
  subst e2
  have := (List.mem_filter.mp hq).2
  rw [hp] at this
  cases this
theorem xst1_le {lv lv2 : xL} (hn : xnd lv) (h : xle lv lv2) (i : Nat) (v : Value) : xle (xst1 lv i v) (xst1 lv2 i v) := xst_le hn h _ i v
theorem xst1_nd {lv : xL} (hn : xnd lv) (i : Nat) (v : Value) : xnd (xst1 lv i v) := xst_nd hn _ i v (fun w => by simp)
theorem xst2_le {lv lv2 : xL} (hn : xnd lv) (h : xle lv lv2) (i : Nat) (v : Value) : xle (xst2 lv i v) (xst2 lv2 i v) := xst_le hn h _ i v
theorem xst2_nd {lv : xL} (hn : xnd lv) (i : Nat) (v : Value) : xnd (xst2 lv i v) := xst_nd hn _ i v (fun w => by simp)
theorem xldI_weak {k k2 : Value → Option xR} {lv lv2 : xL} {i : Nat} {r : xR} (hle : xle lv lv2) (hk : ∀ t0, k t0 = some r → k2 t0 = some r) (h : xldI k lv i = some r) : xldI k2 lv2 i = some r := by
  unfold xldI at h ⊢
  split at h
  · next hx =>
    rw [hle _ _ hx]
    exact hk _ h
  · cases h
theorem xldL_weak {k k2 : Value → Option xR} {lv lv2 : xL} {i : Nat} {r : xR} (hle : xle lv lv2) (hk : ∀ t0, k t0 = some r → k2 t0 = some r) (h : xldL k lv i = some r) : xldL k2 lv2 i = some r := by
  unfold xldL at h ⊢
  split at h
  · next hx =>
    rw [hle _ _ hx]
    exact hk _ h
  · cases h
theorem xldA_weak {k k2 : Value → Option xR} {lv lv2 : xL} {i : Nat} {r : xR} (hle : xle lv lv2) (hk : ∀ t0, k t0 = some r → k2 t0 = some r) (h : xldA k lv i = some r) : xldA k2 lv2 i = some r := by
  unfold xldA at h ⊢
  split at h
  · next hx =>
    rw [hle _ _ hx]
    exact hk _ h
  · next hx =>
    rw [hle _ _ hx]
    exact hk _ h
  · cases h
theorem xstI_weak {k k2 : xL → List Value → Option xR} {lv lv2 : xL} {i nL : Nat} {st : List Value} {r : xR} (hle : xle lv lv2) (hnd : xnd lv) (hk : ∀ t0 t1 t2, xle t0 t1 → xnd t0 → k t0 t2 = some r → k2 t1 t2 = some r) (h : xstI k lv i nL st = some r) : xstI k2 lv2 i nL st = some r := by
  unfold xstI at h ⊢
  split at h
  · split at h
    · next hi =>
      simp only [if_pos hi]
      exact hk _ _ _ (xst1_le hnd hle _ _) (xst1_nd hnd _ _) h
    · cases h
  · cases h
theorem xstL_weak {k k2 : xL → List Value → Option xR} {lv lv2 : xL} {i nL : Nat} {st : List Value} {r : xR} (hle : xle lv lv2) (hnd : xnd lv) (hk : ∀ t0 t1 t2, xle t0 t1 → xnd t0 → k t0 t2 = some r → k2 t1 t2 = some r) (h : xstL k lv i nL st = some r) : xstL k2 lv2 i nL st = some r := by
  unfold xstL at h ⊢
  split at h
  · split at h
    · next hi =>
      simp only [if_pos hi]
      exact hk _ _ _ (xst2_le hnd hle _ _) (xst2_nd hnd _ _) h
    · cases h
  · cases h
theorem xstA_weak {k k2 : xL → List Value → Option xR} {lv lv2 : xL} {i nL : Nat} {st : List Value} {r : xR} (hle : xle lv lv2) (hnd : xnd lv) (hk : ∀ t0 t1 t2, xle t0 t1 → xnd t0 → k t0 t2 = some r → k2 t1 t2 = some r) (h : xstA k lv i nL st = some r) : xstA k2 lv2 i nL st = some r := by
  unfold xstA at h ⊢
  split at h
  · split at h
    · next hi =>
      simp only [if_pos hi]
      exact hk _ _ _ (xst1_le hnd hle _ _) (xst1_nd hnd _ _) h
    · cases h
  · split at h
    · next hi =>
      simp only [if_pos hi]
      exact hk _ _ _ (xst1_le hnd hle _ _) (xst1_nd hnd _ _) h
    · cases h
  · cases h
theorem xinc_weak {k k2 : xL → Option xR} {lv lv2 : xL} {i nL : Nat} {n : Int} {r : xR} (hle : xle lv lv2) (hnd : xnd lv) (hk : ∀ t0 t1, xle t0 t1 → xnd t0 → k t0 = some r → k2 t1 = some r) (h : xinc k lv i nL n = some r) : xinc k2 lv2 i nL n = some r := by
  unfold xinc at h ⊢
  split at h
  · next hx =>
    rw [hle _ _ hx]
    split at h
    · next hi =>
      simp only [if_pos hi]
      exact hk _ _ (xst1_le hnd hle _ _) (xst1_nd hnd _ _) h
    · cases h
  · cases h
set_option maxHeartbeats 4000000 in
theorem xstep_weak {K K2 : xK} {call : Nat → List Value → xS → Option xR} {y pc : Nat} {i : Instr} {lv lv2 : xL} {st : List Value} {c q : Nat} {S : xS} {r : xR} (hK : ∀ pc lv lv2 st c q S, xle lv lv2 → xnd lv → K pc lv st c q S = some r → K2 pc lv2 st c q S = some r) (hle : xle lv lv2) (hnd : xnd lv) : xstep K call y pc i lv st c q S = some r → xstep K2 call y pc i lv2 st c q S = some r := by
  unfold xstep
  split
  all_goals first
    | exact id
    | exact hK _ _ _ _ _ _ _ hle hnd
    | exact xlc_mono (fun _ => hK _ _ _ _ _ _ _ hle hnd) | exact xlc2_mono (fun _ => hK _ _ _ _ _ _ _ hle hnd)
    | exact xldI_weak hle (fun _ => hK _ _ _ _ _ _ _ hle hnd) | exact xldL_weak hle (fun _ => hK _ _ _ _ _ _ _ hle hnd) | exact xldA_weak hle (fun _ => hK _ _ _ _ _ _ _ hle hnd)
    | exact xstI_weak hle hnd (fun _ _ _ h1 h2 => hK _ _ _ _ _ _ _ h1 h2) | exact xstL_weak hle hnd (fun _ _ _ h1 h2 => hK _ _ _ _ _ _ _ h1 h2) | exact xstA_weak hle hnd (fun _ _ _ h1 h2 => hK _ _ _ _ _ _ _ h1 h2)
    | exact xinc_weak hle hnd (fun _ _ h1 h2 => hK _ _ _ _ _ _ _ h1 h2)
    | exact xbI_mono (fun _ => hK _ _ _ _ _ _ _ hle hnd) | exact xbD_mono (fun _ => hK _ _ _ _ _ _ _ hle hnd) | exact xbL_mono (fun _ => hK _ _ _ _ _ _ _ hle hnd) | exact xbE_mono (fun _ => hK _ _ _ _ _ _ _ hle hnd) | exact xbS_mono (fun _ => hK _ _ _ _ _ _ _ hle hnd) | exact xbC_mono (fun _ => hK _ _ _ _ _ _ _ hle hnd)
    | exact xuI_mono (fun _ => hK _ _ _ _ _ _ _ hle hnd) | exact xuL_mono (fun _ => hK _ _ _ _ _ _ _ hle hnd)
    | exact xdup_mono (fun _ => hK _ _ _ _ _ _ _ hle hnd) | exact xdupx1_mono (fun _ => hK _ _ _ _ _ _ _ hle hnd) | exact xdupx2_mono (fun _ => hK _ _ _ _ _ _ _ hle hnd) | exact xdup2_mono (fun _ => hK _ _ _ _ _ _ _ hle hnd) | exact xpop_mono (fun _ => hK _ _ _ _ _ _ _ hle hnd) | exact xpop2_mono (fun _ => hK _ _ _ _ _ _ _ hle hnd)
    | exact xif_mono (fun _ _ => hK _ _ _ _ _ _ _ hle hnd) | exact xic_mono (fun _ _ => hK _ _ _ _ _ _ _ hle hnd) | exact xnul_mono (fun _ _ => hK _ _ _ _ _ _ _ hle hnd) | exact xnnl_mono (fun _ _ => hK _ _ _ _ _ _ _ hle hnd) | exact xtg_mono (fun _ => hK _ _ _ _ _ _ _ hle hnd) | exact xtsw_mono (fun _ _ => hK _ _ _ _ _ _ _ hle hnd) | exact xlsw_mono (fun _ _ => hK _ _ _ _ _ _ _ hle hnd)
    | exact xgf_mono (fun _ => hK _ _ _ _ _ _ _ hle hnd) | exact xpf_mono (fun _ _ => hK _ _ _ _ _ _ _ hle hnd) | exact xgs_mono (fun _ => hK _ _ _ _ _ _ _ hle hnd)
    | exact xiald_mono (fun _ => hK _ _ _ _ _ _ _ hle hnd) | exact xlald_mono (fun _ => hK _ _ _ _ _ _ _ hle hnd) | exact xbald_mono (fun _ => hK _ _ _ _ _ _ _ hle hnd) | exact xaald_mono (fun _ => hK _ _ _ _ _ _ _ hle hnd)
    | exact xiast_mono (fun _ _ => hK _ _ _ _ _ _ _ hle hnd) | exact xlast_mono (fun _ _ => hK _ _ _ _ _ _ _ hle hnd) | exact xbast_mono (fun _ _ => hK _ _ _ _ _ _ _ hle hnd) | exact xaast_mono (fun _ _ => hK _ _ _ _ _ _ _ hle hnd)
    | exact xnewa_mono (fun _ _ _ _ => hK _ _ _ _ _ _ _ hle hnd)
    | exact xcl_mono (fun _ _ _ _ => hK _ _ _ _ _ _ _ hle hnd) (fun _ _ _ _ _ => hK _ _ _ _ _ _ _ hle hnd) (fun _ _ _ _ h => h)
    | (split <;> first | exact id | exact xnewo_mono (fun _ _ _ => hK _ _ _ _ _ _ _ hle hnd) | (split <;> exact id) | exact xobj_mono (fun _ => hK _ _ _ _ _ _ _ hle hnd) | exact xcl_mono (fun _ _ _ _ => hK _ _ _ _ _ _ _ hle hnd) (fun _ _ _ _ _ => hK _ _ _ _ _ _ _ hle hnd) (fun _ _ _ _ h => h) | (repeat' split) <;> first | exact id | exact xmin_mono (fun _ => hK _ _ _ _ _ _ _ hle hnd))
theorem xev_weak : ∀ (n y pc : Nat) (lv lv2 : xL) (st : List Value) (c q : Nat) (S : xS) (r : xR), xle lv lv2 → xnd lv → xev n y pc lv st c q S = some r → xev n y pc lv2 st c q S = some r := by
  intro n
  induction n with
  | zero => intro y pc lv lv2 st c q S r _ _ h; cases h
  | succ n ih =>
    intro y pc lv lv2 st c q S r hle hnd h
    unfold xev at h ⊢
    split at h
    · next i hi => exact xstep_weak (fun pc lv lv2 st c q S h1 h2 => ih y pc lv lv2 st c q S r h1 h2) hle hnd h
    · cases h
end
section
-- THE EVALUATOR WITHOUT FUEL: one rule an instruction
/-- from this point it comes to r -/
def xE (y pc : Nat) (lv : xL) (st : List Value) (c q : Nat) (S : xS) (r : xR) : Prop := ∃ n, xev n y pc lv st c q S = some r
/-- method y on these values and this memory comes to r -/
def xF (y : Nat) (as : List Value) (S : xS) (r : xR) : Prop := ∃ n, xmeth n y as S = some r
section PR
variable {y pc : Nat} {lv : xL} {st : List Value} {c q : Nat} {S : xS} {r : xR}
theorem xF_of {as : List Value} (hl : (lg_sl as).length ≤ xc_nl y) (h : xE y 0 (lv_args 0 as) [] 0 0 S r) : xF y as S r := by
  obtain ⟨n, hn⟩ := h
  exact ⟨n, by unfold xmeth; rw [if_pos hl]; exact hn⟩
theorem xE_go {i : Instr} (hc : xc_code y pc = some i) (h : ∃ n, xstep (xev n y) (fun y2 as S2 => if (lg_sl as).length ≤ xc_nl y2 then xev n y2 0 (lv_args 0 as) [] 0 0 S2 else none) y pc i lv st c q S = some r) : xE y pc lv st c q S r := by
  obtain ⟨n, hn⟩ := h
  exact ⟨n + 1, by unfold xev; rw [hc]; exact hn⟩
theorem xe_iconst {k : Int} {v : Int32} (hc : xc_code y pc = some (.iconst k)) (hv : Int32.ofInt k = v) (h : xE y (pc + 1) lv (.int v :: st) c q S r) : xE y pc lv st c q S r := by
  subst hv; exact xE_go hc (let ⟨n, hn⟩ := h; ⟨n, hn⟩)
theorem xe_bipush {k : Int} {v : Int32} (hc : xc_code y pc = some (.bipush k)) (hv : (Int8.ofInt k).toInt32 = v) (h : xE y (pc + 2) lv (.int v :: st) c q S r) : xE y pc lv st c q S r := by
  subst hv; exact xE_go hc (let ⟨n, hn⟩ := h; ⟨n, hn⟩)
theorem xe_sipush {k : Int} {v : Int32} (hc : xc_code y pc = some (.sipush k)) (hv : (Int16.ofInt k).toInt32 = v) (h : xE y (pc + 3) lv (.int v :: st) c q S r) : xE y pc lv st c q S r := by
  subst hv; exact xE_go hc (let ⟨n, hn⟩ := h; ⟨n, hn⟩)
theorem xe_lconst {k : Fin 2} {v : Int64} (hc : xc_code y pc = some (.lconst k)) (hv : Int64.ofNat (k : Nat) = v) (h : xE y (pc + 1) lv (.long v :: st) c q S r) : xE y pc lv st c q S r := by
  subst hv; exact xE_go hc (let ⟨n, hn⟩ := h; ⟨n, hn⟩)
theorem xe_ldc2 {k : Nat} {v : Int64} (hc : xc_code y pc = some (.ldc2_w k)) (hv : xc_long (xc_own y) k = some v) (h : xE y (pc + 3) lv (.long v :: st) c q S r) : xE y pc lv st c q S r :=
  xE_go hc (let ⟨n, hn⟩ := h; ⟨n, by simp only [xstep, xlc2, hv]; exact hn⟩)
theorem xe_iload_n {k : Fin 4} {x : Int32} (hc : xc_code y pc = some (.iload_n k)) (hl : xld lv k = some (.int x)) (h : xE y (pc + 1) lv (.int x :: st) c q S r) : xE y pc lv st c q S r :=
  xE_go hc (let ⟨n, hn⟩ := h; ⟨n, by simp only [xstep, xldI, hl]; exact hn⟩)
theorem xe_iload {k : Nat} {x : Int32} (hc : xc_code y pc = some (.iload k)) (hl : xld lv k = some (.int x)) (h : xE y (pc + 2) lv (.int x :: st) c q S r) : xE y pc lv st c q S r :=
  xE_go hc (let ⟨n, hn⟩ := h; ⟨n, by simp only [xstep, xldI, hl]; exact hn⟩)
theorem xe_lload_n {k : Fin 4} {x : Int64} (hc : xc_code y pc = some (.lload_n k)) (hl : xld lv k = some (.long x)) (h : xE y (pc + 1) lv (.long x :: st) c q S r) : xE y pc lv st c q S r :=
  xE_go hc (let ⟨n, hn⟩ := h; ⟨n, by simp only [xstep, xldL, hl]; exact hn⟩)
theorem xe_lload {k : Nat} {x : Int64} (hc : xc_code y pc = some (.lload k)) (hl : xld lv k = some (.long x)) (h : xE y (pc + 2) lv (.long x :: st) c q S r) : xE y pc lv st c q S r :=
  xE_go hc (let ⟨n, hn⟩ := h; ⟨n, by simp only [xstep, xldL, hl]; exact hn⟩)
theorem xe_aload_n {k : Fin 4} {x : Nat} (hc : xc_code y pc = some (.aload_n k)) (hl : xld lv k = some (.ref x)) (h : xE y (pc + 1) lv (.ref x :: st) c q S r) : xE y pc lv st c q S r :=
  xE_go hc (let ⟨n, hn⟩ := h; ⟨n, by simp only [xstep, xldA, hl]; exact hn⟩)
theorem xe_aload {k : Nat} {x : Nat} (hc : xc_code y pc = some (.aload k)) (hl : xld lv k = some (.ref x)) (h : xE y (pc + 2) lv (.ref x :: st) c q S r) : xE y pc lv st c q S r :=
  xE_go hc (let ⟨n, hn⟩ := h; ⟨n, by simp only [xstep, xldA, hl]; exact hn⟩)
theorem xe_istore_n {k : Fin 4} {x : Int32} {lv2 : xL} (hc : xc_code y pc = some (.istore_n k)) (hk : (k : Nat) < xc_nl y) (hl : xst1 lv k (.int x) = lv2) (h : xE y (pc + 1) lv2 st c q S r) : xE y pc lv (.int x :: st) c q S r :=
  xE_go hc (let ⟨n, hn⟩ := h; ⟨n, by simp only [xstep, xstI, if_pos hk, hl]; exact hn⟩)
theorem xe_istore {k : Nat} {x : Int32} {lv2 : xL} (hc : xc_code y pc = some (.istore k)) (hk : k < xc_nl y) (hl : xst1 lv k (.int x) = lv2) (h : xE y (pc + 2) lv2 st c q S r) : xE y pc lv (.int x :: st) c q S r :=
  xE_go hc (let ⟨n, hn⟩ := h; ⟨n, by simp only [xstep, xstI, if_pos hk, hl]; exact hn⟩)
theorem xe_lstore_n {k : Fin 4} {x : Int64} {lv2 : xL} (hc : xc_code y pc = some (.lstore_n k)) (hk : (k : Nat) + 1 < xc_nl y) (hl : xst2 lv k (.long x) = lv2) (h : xE y (pc + 1) lv2 st c q S r) : xE y pc lv (.long x :: st) c q S r :=
  xE_go hc (let ⟨n, hn⟩ := h; ⟨n, by simp only [xstep, xstL, if_pos hk, hl]; exact hn⟩)
theorem xe_lstore {k : Nat} {x : Int64} {lv2 : xL} (hc : xc_code y pc = some (.lstore k)) (hk : k + 1 < xc_nl y) (hl : xst2 lv k (.long x) = lv2) (h : xE y (pc + 2) lv2 st c q S r) : xE y pc lv (.long x :: st) c q S r :=
  xE_go hc (let ⟨n, hn⟩ := h; ⟨n, by simp only [xstep, xstL, if_pos hk, hl]; exact hn⟩)
theorem xe_astore_n {k : Fin 4} {x : Nat} {lv2 : xL} (hc : xc_code y pc = some (.astore_n k)) (hk : (k : Nat) < xc_nl y) (hl : xst1 lv k (.ref x) = lv2) (h : xE y (pc + 1) lv2 st c q S r) : xE y pc lv (.ref x :: st) c q S r :=
  xE_go hc (let ⟨n, hn⟩ := h; ⟨n, by simp only [xstep, xstA, if_pos hk, hl]; exact hn⟩)
theorem xe_astore {k : Nat} {x : Nat} {lv2 : xL} (hc : xc_code y pc = some (.astore k)) (hk : k < xc_nl y) (hl : xst1 lv k (.ref x) = lv2) (h : xE y (pc + 2) lv2 st c q S r) : xE y pc lv (.ref x :: st) c q S r :=
  xE_go hc (let ⟨n, hn⟩ := h; ⟨n, by simp only [xstep, xstA, if_pos hk, hl]; exact hn⟩)
theorem xe_iinc {k : Nat} {d : Int} {x v : Int32} {lv2 : xL} (hc : xc_code y pc = some (.iinc k d)) (hx : xld lv k = some (.int x)) (hk : k < xc_nl y) (hv : x + Int32.ofInt d = v) (hl : xst1 lv k (.int v) = lv2) (h : xE y (pc + 3) lv2 st c q S r) : xE y pc lv st c q S r := by
  subst hv
  exact xE_go hc (let ⟨n, hn⟩ := h; ⟨n, by simp only [xstep, xinc, hx, if_pos hk, hl]; exact hn⟩)
theorem xe_iadd {a b : Int32} (hc : xc_code y pc = some .iadd) (h : xE y (pc + 1) lv (.int (a + b) :: st) c q S r) : xE y pc lv (.int b :: .int a :: st) c q S r := xE_go hc (let ⟨n, hn⟩ := h; ⟨n, hn⟩)
theorem xe_isub {a b : Int32} (hc : xc_code y pc = some .isub) (h : xE y (pc + 1) lv (.int (a - b) :: st) c q S r) : xE y pc lv (.int b :: .int a :: st) c q S r := xE_go hc (let ⟨n, hn⟩ := h; ⟨n, hn⟩)
theorem xe_imul {a b : Int32} (hc : xc_code y pc = some .imul) (h : xE y (pc + 1) lv (.int (a * b) :: st) c q S r) : xE y pc lv (.int b :: .int a :: st) c q S r := xE_go hc (let ⟨n, hn⟩ := h; ⟨n, hn⟩)
theorem xe_iand {a b : Int32} (hc : xc_code y pc = some .iand) (h : xE y (pc + 1) lv (.int (a &&& b) :: st) c q S r) : xE y pc lv (.int b :: .int a :: st) c q S r := xE_go hc (let ⟨n, hn⟩ := h; ⟨n, hn⟩)
theorem xe_idiv {a b : Int32} (hc : xc_code y pc = some .idiv) (hb : ¬ b = 0) (h : xE y (pc + 1) lv (.int (a / b) :: st) c q S r) : xE y pc lv (.int b :: .int a :: st) c q S r := xE_go hc (let ⟨n, hn⟩ := h; ⟨n, by simp only [xstep, xbD, if_neg hb]; exact hn⟩)
theorem xe_irem {a b : Int32} (hc : xc_code y pc = some .irem) (hb : ¬ b = 0) (h : xE y (pc + 1) lv (.int (a - a / b * b) :: st) c q S r) : xE y pc lv (.int b :: .int a :: st) c q S r := xE_go hc (let ⟨n, hn⟩ := h; ⟨n, by simp only [xstep, xbD, if_neg hb]; exact hn⟩)
theorem xe_ladd {a b : Int64} (hc : xc_code y pc = some .ladd) (h : xE y (pc + 1) lv (.long (a + b) :: st) c q S r) : xE y pc lv (.long b :: .long a :: st) c q S r := xE_go hc (let ⟨n, hn⟩ := h; ⟨n, hn⟩)
theorem xe_lsub {a b : Int64} (hc : xc_code y pc = some .lsub) (h : xE y (pc + 1) lv (.long (a - b) :: st) c q S r) : xE y pc lv (.long b :: .long a :: st) c q S r := xE_go hc (let ⟨n, hn⟩ := h; ⟨n, hn⟩)
theorem xe_lmul {a b : Int64} (hc : xc_code y pc = some .lmul) (h : xE y (pc + 1) lv (.long (a * b) :: st) c q S r) : xE y pc lv (.long b :: .long a :: st) c q S r := xE_go hc (let ⟨n, hn⟩ := h; ⟨n, hn⟩)
theorem xe_land {a b : Int64} (hc : xc_code y pc = some .land) (h : xE y (pc + 1) lv (.long (a &&& b) :: st) c q S r) : xE y pc lv (.long b :: .long a :: st) c q S r := xE_go hc (let ⟨n, hn⟩ := h; ⟨n, hn⟩)
theorem xe_lor {a b : Int64} (hc : xc_code y pc = some .lor) (h : xE y (pc + 1) lv (.long (a ||| b) :: st) c q S r) : xE y pc lv (.long b :: .long a :: st) c q S r := xE_go hc (let ⟨n, hn⟩ := h; ⟨n, hn⟩)
theorem xe_ldiv {a b : Int64} (hc : xc_code y pc = some .ldiv) (hb : ¬ b = 0) (h : xE y (pc + 1) lv (.long (a / b) :: st) c q S r) : xE y pc lv (.long b :: .long a :: st) c q S r := xE_go hc (let ⟨n, hn⟩ := h; ⟨n, by simp only [xstep, xbE, if_neg hb]; exact hn⟩)
theorem xe_lshl {a : Int64} {b : Int32} (hc : xc_code y pc = some .lshl) (h : xE y (pc + 1) lv (.long (a <<< (b.toInt64 &&& 63)) :: st) c q S r) : xE y pc lv (.int b :: .long a :: st) c q S r := xE_go hc (let ⟨n, hn⟩ := h; ⟨n, hn⟩)
theorem xe_lshr {a : Int64} {b : Int32} (hc : xc_code y pc = some .lshr) (h : xE y (pc + 1) lv (.long (a >>> (b.toInt64 &&& 63)) :: st) c q S r) : xE y pc lv (.int b :: .long a :: st) c q S r := xE_go hc (let ⟨n, hn⟩ := h; ⟨n, hn⟩)
theorem xe_lcmp {a b : Int64} (hc : xc_code y pc = some .lcmp) (h : xE y (pc + 1) lv (.int (lg_cmp a b) :: st) c q S r) : xE y pc lv (.long b :: .long a :: st) c q S r := xE_go hc (let ⟨n, hn⟩ := h; ⟨n, hn⟩)
theorem xe_i2l {a : Int32} (hc : xc_code y pc = some .i2l) (h : xE y (pc + 1) lv (.long a.toInt64 :: st) c q S r) : xE y pc lv (.int a :: st) c q S r := xE_go hc (let ⟨n, hn⟩ := h; ⟨n, hn⟩)
theorem xe_l2i {a : Int64} (hc : xc_code y pc = some .l2i) (h : xE y (pc + 1) lv (.int a.toInt32 :: st) c q S r) : xE y pc lv (.long a :: st) c q S r := xE_go hc (let ⟨n, hn⟩ := h; ⟨n, hn⟩)
theorem xe_dup {a : Value} (hc : xc_code y pc = some .dup) (ha : a.category = 1) (h : xE y (pc + 1) lv (a :: a :: st) c q S r) : xE y pc lv (a :: st) c q S r := xE_go hc (let ⟨n, hn⟩ := h; ⟨n, by simp only [xstep, xdup, if_pos ha]; exact hn⟩)
theorem xe_dup2 {a b : Value} (hc : xc_code y pc = some .dup2) (ha : a.category = 1) (hb : b.category = 1) (h : xE y (pc + 1) lv (a :: b :: a :: b :: st) c q S r) : xE y pc lv (a :: b :: st) c q S r := xE_go hc (let ⟨n, hn⟩ := h; ⟨n, by simp only [xstep, xdup2, if_pos ha, if_pos hb]; exact hn⟩)
theorem xe_pop {a : Value} (hc : xc_code y pc = some .pop) (ha : a.category = 1) (h : xE y (pc + 1) lv st c q S r) : xE y pc lv (a :: st) c q S r := xE_go hc (let ⟨n, hn⟩ := h; ⟨n, by simp only [xstep, xpop, if_pos ha]; exact hn⟩)
theorem xe_goto {off : Int} {t : Nat} (hc : xc_code y pc = some (.goto off)) (ht : (pc : Int) + off = (t : Int)) (h : xE y t lv st c q S r) : xE y pc lv st c q S r :=
  xE_go hc (let ⟨n, hn⟩ := h; ⟨n, by simp only [xstep, xtg]; rw [if_neg (by omega), ht]; exact hn⟩)
/-- a branch by its condition -/
theorem xe_if {d : Jvm.ClassFile.Cond} {off : Int} {t : Nat} {a : Int32} (hc : xc_code y pc = some (.ifCond d off)) (ht : (pc : Int) + off = (t : Int)) (h1 : xcb d a 0 = true → xE y t lv st c q S r) (h2 : xcb d a 0 = false → xE y (pc + 3) lv st c q S r) : xE y pc lv (.int a :: st) c q S r := by
  cases hb : xcb d a 0 with
  | true => exact xE_go hc (let ⟨n, hn⟩ := h1 hb; ⟨n, by simp only [xstep, xif, hb, if_true]; rw [if_neg (by omega), ht]; exact hn⟩)
  | false => exact xE_go hc (let ⟨n, hn⟩ := h2 hb; ⟨n, by simp only [xstep, xif, hb]; rw [if_neg (by omega)]; exact hn⟩)
theorem xe_ic {d : Jvm.ClassFile.Cond} {off : Int} {t : Nat} {a b : Int32} (hc : xc_code y pc = some (.if_icmp d off)) (ht : (pc : Int) + off = (t : Int)) (h1 : xcb d a b = true → xE y t lv st c q S r) (h2 : xcb d a b = false → xE y (pc + 3) lv st c q S r) : xE y pc lv (.int b :: .int a :: st) c q S r := by
  cases hb : xcb d a b with
  | true => exact xE_go hc (let ⟨n, hn⟩ := h1 hb; ⟨n, by simp only [xstep, xic, hb, if_true]; rw [if_neg (by omega), ht]; exact hn⟩)
  | false => exact xE_go hc (let ⟨n, hn⟩ := h2 hb; ⟨n, by simp only [xstep, xic, hb]; rw [if_neg (by omega)]; exact hn⟩)
theorem xe_tsw {d lo hi off : Int} {offs : Array Int} {t : Nat} {x : Int32} (hc : xc_code y pc = some (.tableswitch d lo hi offs)) (ho : (if x.toInt < lo ∨ hi < x.toInt then some d else offs[(x.toInt - lo).toNat]?) = some off) (ht : (pc : Int) + off = (t : Int)) (h : xE y t lv st c q S r) : xE y pc lv (.int x :: st) c q S r := by
  refine xE_go hc (let ⟨n, hn⟩ := h; ⟨n, ?_⟩)
  simp only [xstep, xtsw]
  split at ho
  · next hx =>
    cases ho
    rw [if_pos hx]
    unfold xtg
    rw [if_neg (by omega), ht]; exact hn
  · next hx =>
    rw [if_neg hx, ho]
    simp only [xtg]
    rw [if_neg (by omega), ht]; exact hn
theorem xe_lsw {d off : Int} {ps : Array (Int × Int)} {t : Nat} {x : Int32} (hc : xc_code y pc = some (.lookupswitch d ps)) (hp : (ps.toList.zip (ps.toList.drop 1)).all (fun (a, next) => a.1 < next.1) = true) (ho : Op.lookupswitch.offset ps.toList d x.toInt = off) (ht : (pc : Int) + off = (t : Int)) (h : xE y t lv st c q S r) : xE y pc lv (.int x :: st) c q S r := by
  refine xE_go hc (let ⟨n, hn⟩ := h; ⟨n, ?_⟩)
  simp only [xstep, xlsw]
  rw [if_pos hp, ho]
  unfold xtg
  rw [if_neg (by omega), ht]; exact hn
-- the heap
theorem xe_gfi {x ci f a : Nat} (hc : xc_code y pc = some (.getfield x)) (hf : xc_fld (xc_own y) x = some (ci, f)) (hk : f < (xc_fk ci).length) (hs : (xc_fk ci).getD f 0 = 0 ∨ (xc_fk ci).getD f 0 = 3) (ht : xt S a = some (.inl ci)) (h : xE y (pc + 3) lv (.int (xi S a f) :: st) c q S r) : xE y pc lv (.ref a :: st) c q S r := by
  refine xE_go hc (let ⟨n, hn⟩ := h; ⟨n, ?_⟩)
  simp only [xstep, xgf, hf, if_pos ht, if_pos hk]
  rcases hs with hs | hs <;> rw [hs] <;> exact hn
theorem xe_gfl {x ci f a : Nat} (hc : xc_code y pc = some (.getfield x)) (hf : xc_fld (xc_own y) x = some (ci, f)) (hk : f < (xc_fk ci).length) (hs : (xc_fk ci).getD f 0 = 1) (ht : xt S a = some (.inl ci)) (h : xE y (pc + 3) lv (.long (xj S a f) :: st) c q S r) : xE y pc lv (.ref a :: st) c q S r := by
  refine xE_go hc (let ⟨n, hn⟩ := h; ⟨n, ?_⟩)
  simp only [xstep, xgf, hf, if_pos ht, if_pos hk]
  rw [hs]; exact hn
theorem xe_gfa {x ci f a b : Nat} (hc : xc_code y pc = some (.getfield x)) (hf : xc_fld (xc_own y) x = some (ci, f)) (hk : f < (xc_fk ci).length) (hs : (xc_fk ci).getD f 0 = 2) (ht : xt S a = some (.inl ci)) (hr : xr S a f = some b) (h : xE y (pc + 3) lv (.ref b :: st) c q S r) : xE y pc lv (.ref a :: st) c q S r := by
  refine xE_go hc (let ⟨n, hn⟩ := h; ⟨n, ?_⟩)
  simp only [xstep, xgf, hf, if_pos ht, if_pos hk]
  rw [hs]
  simp only [xfv, hr, va_rf]; exact hn
theorem xe_pf {x ci f a : Nat} {v : Value} {S1 : xS} (hc : xc_code y pc = some (.putfield x)) (hf : xc_fld (xc_own y) x = some (ci, f)) (hk : f < (xc_fk ci).length) (hm : xc_may y ci f = true) (ht : xt S a = some (.inl ci)) (hs : xpv ((xc_fk ci).getD f 0) v S a f = some S1) (h : xE y (pc + 3) lv st c q S1 r) : xE y pc lv (v :: .ref a :: st) c q S r := by
  refine xE_go hc (let ⟨n, hn⟩ := h; ⟨n, ?_⟩)
  simp only [xstep, xpf, hf, if_pos ht, if_pos hk, if_pos hm, hs]; exact hn
theorem xe_gs {x j : Nat} (hc : xc_code y pc = some (.getstatic x)) (hf : xc_sta (xc_own y) x = some j) (h : xE y (pc + 3) lv (.ref (1000000 + j) :: st) c q S r) : xE y pc lv st c q S r :=
  xE_go hc (let ⟨n, hn⟩ := h; ⟨n, by simp only [xstep, xgs, hf]; exact hn⟩)
theorem xe_iald {a n i : Nat} {x : Int32} (hc : xc_code y pc = some .iaload) (ht : xt S a = some (.inr (0, n))) (hx : x = nI i) (hi : i < n) (hN : n < 2 ^ 31) (h : xE y (pc + 1) lv (.int (xi S a i) :: st) c q S r) : xE y pc lv (.int x :: .ref a :: st) c q S r := by
  subst hx
  refine xE_go hc (let ⟨n, hn⟩ := h; ⟨n, ?_⟩)
  simp only [xstep, xiald, ht]
  rw [if_pos trivial, if_neg (nI_in hi hN), nI_clamp (by omega)]; exact hn
theorem xe_bald {a n i : Nat} {x : Int32} (hc : xc_code y pc = some .baload) (ht : xt S a = some (.inr (2, n))) (hx : x = nI i) (hi : i < n) (hN : n < 2 ^ 31) (h : xE y (pc + 1) lv (.int (xi S a i) :: st) c q S r) : xE y pc lv (.int x :: .ref a :: st) c q S r := by
  subst hx
  refine xE_go hc (let ⟨n, hn⟩ := h; ⟨n, ?_⟩)
  simp only [xstep, xbald, ht]
  rw [if_pos trivial, if_neg (nI_in hi hN), nI_clamp (by omega)]; exact hn
theorem xe_lald {a n i : Nat} {x : Int32} (hc : xc_code y pc = some .laload) (ht : xt S a = some (.inr (1, n))) (hx : x = nI i) (hi : i < n) (hN : n < 2 ^ 31) (h : xE y (pc + 1) lv (.long (xj S a i) :: st) c q S r) : xE y pc lv (.int x :: .ref a :: st) c q S r := by
  subst hx
  refine xE_go hc (let ⟨n, hn⟩ := h; ⟨n, ?_⟩)
  simp only [xstep, xlald, ht]
  rw [if_pos trivial, if_neg (nI_in hi hN), nI_clamp (by omega)]; exact hn
theorem xe_aald {a j n i b : Nat} {x : Int32} (hc : xc_code y pc = some .aaload) (ht : xt S a = some (.inr (j, n))) (hj : 3 ≤ j) (hj2 : j < xc_na) (hx : x = nI i) (hi : i < n) (hN : n < 2 ^ 31) (hr : xr S a i = some b) (h : xE y (pc + 1) lv (.ref b :: st) c q S r) : xE y pc lv (.int x :: .ref a :: st) c q S r := by
  subst hx
  refine xE_go hc (let ⟨n, hn⟩ := h; ⟨n, ?_⟩)
  simp only [xstep, xaald, ht]
  rw [if_pos hj, if_pos hj2, if_neg (nI_in hi hN), nI_clamp (by omega), hr]; exact hn
theorem xe_iast {a n i : Nat} {x v : Int32} (hc : xc_code y pc = some .iastore) (ht : xt S a = some (.inr (0, n))) (hx : x = nI i) (hi : i < n) (hN : n < 2 ^ 31) (h : xE y (pc + 1) lv st c q (xsi S a i v) r) : xE y pc lv (.int v :: .int x :: .ref a :: st) c q S r := by
  subst hx
  refine xE_go hc (let ⟨n, hn⟩ := h; ⟨n, ?_⟩)
  simp only [xstep, xiast, ht]
  rw [if_pos trivial, if_neg (nI_in hi hN), nI_clamp (by omega)]; exact hn
theorem xe_bast {a n i : Nat} {x v : Int32} (hc : xc_code y pc = some .bastore) (ht : xt S a = some (.inr (2, n))) (hx : x = nI i) (hi : i < n) (hN : n < 2 ^ 31) (hv : v = 0 ∨ v = 1) (h : xE y (pc + 1) lv st c q (xsi S a i v) r) : xE y pc lv (.int v :: .int x :: .ref a :: st) c q S r := by
  subst hx
  refine xE_go hc (let ⟨n, hn⟩ := h; ⟨n, ?_⟩)
  simp only [xstep, xbast, ht]
  rw [if_pos trivial, if_neg (nI_in hi hN), if_pos hv, nI_clamp (by omega)]; exact hn
theorem xe_last {a n i : Nat} {x : Int32} {v : Int64} (hc : xc_code y pc = some .lastore) (ht : xt S a = some (.inr (1, n))) (hx : x = nI i) (hi : i < n) (hN : n < 2 ^ 31) (h : xE y (pc + 1) lv st c q (xsj S a i v) r) : xE y pc lv (.long v :: .int x :: .ref a :: st) c q S r := by
  subst hx
  refine xE_go hc (let ⟨n, hn⟩ := h; ⟨n, ?_⟩)
  simp only [xstep, xlast, ht]
  rw [if_pos trivial, if_neg (nI_in hi hN), nI_clamp (by omega)]; exact hn
theorem xiald_st {k : List Value → Option xR} {a j : Nat} {L : List Int32} {x : Int32} (ht : xt S a = none) (ha : ¬ a < 1000000) (hL : xc_ro (a - 1000000) = some L) (hi : ¬ (x < 0 ∨ L.length ≤ x.toNatClampNeg)) (h : k (.int (L.getD x.toNatClampNeg 0) :: st) = some r) : xiald k S (.int x :: .ref a :: st) = some r := by
  unfold xiald
  split
  · next x2 a2 t2 heq =>
    cases heq
    split
    · next heq2 => rw [ht] at heq2; cases heq2
    · next heq2 => rw [ht] at heq2; cases heq2
    · split
      · next h9 => exact absurd h9 ha
      · split
        · next f hf =>
          rw [hL] at hf
          cases hf
          split
          · next h9 => exact absurd h9 hi
          · exact h
        · next hf => rw [hL] at hf; cases hf
  · next hno => exact absurd rfl (hno _ _ _)
theorem xe_stld {a i : Nat} {L : List Int32} {x : Int32} (hc : xc_code y pc = some .iaload) (ht : xt S a = none) (ha : ¬ a < 1000000) (hL : xc_ro (a - 1000000) = some L) (hx : x = nI i) (hi : i < L.length) (hN : L.length < 2 ^ 31) (h : xE y (pc + 1) lv (.int (L.getD i 0) :: st) c q S r) : xE y pc lv (.int x :: .ref a :: st) c q S r := by
  subst hx
  obtain ⟨n, hn⟩ := h
  refine xE_go hc ⟨n, ?_⟩
  simp only [xstep]
  exact xiald_st (j := 0) ht ha hL (nI_in hi hN) (by rw [nI_clamp (by omega)]; exact hn)
-- calls and ends
theorem xe_call {y2 na : Nat} {o : Option (Nat × Nat)} {as : List Value} {v : Option Value} {S1 : xS} {cm cs : Nat} (ho : o = some (y2, na)) (ha : (st.take na).reverse = as) (hl : na ≤ st.length) (hv : xc_lev y2 < xc_lev y) (h1 : c + xc_mc y2 ≤ xc_mc y) (h2 : q + xc_ms y2 ≤ xc_ms y) (h3 : ((st.drop na).map fun v => v.category).sum ≤ 8) (h4 : xrcv y2 S as = true) (hF : xF y2 as S (.inr v, S1)) {st2 : List Value} (hst : v.toList ++ st.drop na = st2) (h : xE y (pc + 3) lv st2 (c + xc_mc y2) (q + xc_ms y2) S1 r) : ∃ n, xcl (fun t c q S => xev n y (pc + 3) lv t c q S) (fun t r c q S => xev n y t lv r c q S) (xc_hnd y pc) (fun y2 as S2 => if (lg_sl as).length ≤ xc_nl y2 then xev n y2 0 (lv_args 0 as) [] 0 0 S2 else none) o (xc_lev y) (xc_mc y) (xc_ms y) c q S st = some r := by
  obtain ⟨n1, e1⟩ := hF
  obtain ⟨n2, e2⟩ := h
  subst ho ha hst
  refine ⟨n1 + n2, ?_⟩
  unfold xmeth at e1
  split at e1
  · next hfit =>
    have e3 := xev_mono (k := n1 + n2) (by omega) e1
    have e4 := xev_mono (k := n1 + n2) (by omega) e2
    simp only [xcl, if_pos hl, if_pos hv, if_pos h1, if_pos h2, if_pos h3, if_pos h4, if_pos hfit, e3, e4]
  · cases e1
theorem xe_iv {x y2 na : Nat} {as : List Value} {v : Option Value} {S1 : xS} (hc : xc_code y pc = some (.invokevirtual x)) (ho : xc_vrt (xc_own y) x = some (y2, na)) (ha : (st.take na).reverse = as) (hl : na ≤ st.length) (hv : xc_lev y2 < xc_lev y) (h1 : c + xc_mc y2 ≤ xc_mc y) (h2 : q + xc_ms y2 ≤ xc_ms y) (h3 : ((st.drop na).map fun v => v.category).sum ≤ 8) (h4 : xrcv y2 S as = true) (hF : xF y2 as S (.inr v, S1)) {st2 : List Value} (hst : v.toList ++ st.drop na = st2) (h : xE y (pc + 3) lv st2 (c + xc_mc y2) (q + xc_ms y2) S1 r) : xE y pc lv st c q S r :=
  xE_go hc (xe_call (cm := 0) (cs := 0) ho ha hl hv h1 h2 h3 h4 hF hst h)
theorem xe_is {x y2 na : Nat} {as : List Value} {v : Option Value} {S1 : xS} (hc : xc_code y pc = some (.invokestatic x)) (hmi : xc_min (xc_own y) x = false) (ho : xc_stt (xc_own y) x = some (y2, na)) (ha : (st.take na).reverse = as) (hl : na ≤ st.length) (hv : xc_lev y2 < xc_lev y) (h1 : c + xc_mc y2 ≤ xc_mc y) (h2 : q + xc_ms y2 ≤ xc_ms y) (h3 : ((st.drop na).map fun v => v.category).sum ≤ 8) (h4 : xrcv y2 S as = true) (hF : xF y2 as S (.inr v, S1)) {st2 : List Value} (hst : v.toList ++ st.drop na = st2) (h : xE y (pc + 3) lv st2 (c + xc_mc y2) (q + xc_ms y2) S1 r) : xE y pc lv st c q S r :=
  xE_go hc (let ⟨n, hn⟩ := xe_call (cm := 0) (cs := 0) ho ha hl hv h1 h2 h3 h4 hF hst h; ⟨n, by simp only [xstep]; rw [if_neg (by rw [hmi]; decide)]; exact hn⟩)
theorem xe_min {x : Nat} {a b : Int32} (hc : xc_code y pc = some (.invokestatic x)) (hmi : xc_min (xc_own y) x = true) (h1 : c ≤ xc_mc y) (h2 : q ≤ xc_ms y) (h3 : (st.map fun v => v.category).sum ≤ 8) (h : xE y (pc + 3) lv (.int (if b < a then b else a) :: st) c q S r) : xE y pc lv (.int b :: .int a :: st) c q S r :=
  xE_go hc (let ⟨n, hn⟩ := h; ⟨n, by simp only [xstep]; rw [if_pos hmi, if_pos h1, if_pos h2]; simp only [xmin]; rw [if_pos h3]; exact hn⟩)
theorem xe_ireturn {v : Int32} (hc : xc_code y pc = some .ireturn) (h1 : c ≤ xc_mc y) (h2 : q ≤ xc_ms y) (h3 : xc_ret y = 1) : xE y pc lv [.int v] c q S (.inr (some (.int v)), S) :=
  xE_go hc ⟨0, by simp only [xstep]; rw [if_pos h1, if_pos h2]; simp only [xret]; rw [if_pos h3]⟩
theorem xe_zreturn {v : Int32} (hc : xc_code y pc = some .ireturn) (h1 : c ≤ xc_mc y) (h2 : q ≤ xc_ms y) (h3 : xc_ret y = 2) (hv : v = 0 ∨ v = 1) : xE y pc lv [.int v] c q S (.inr (some (.int v)), S) :=
  xE_go hc ⟨0, by simp only [xstep]; rw [if_pos h1, if_pos h2]; simp only [xret]; rw [if_neg (by omega), if_pos h3, if_pos hv]⟩
theorem xe_lreturn {v : Int64} (hc : xc_code y pc = some .lreturn) (h1 : c ≤ xc_mc y) (h2 : q ≤ xc_ms y) (h3 : xc_ret y = 3) : xE y pc lv [.long v] c q S (.inr (some (.long v)), S) :=
  xE_go hc ⟨0, by simp only [xstep]; rw [if_pos h1, if_pos h2]; simp only [xrel]; rw [if_pos h3]⟩
theorem xe_areturn {v : Nat} (hc : xc_code y pc = some .areturn) (h1 : c ≤ xc_mc y) (h2 : q ≤ xc_ms y) (h3 : xc_ret y = 4) : xE y pc lv [.ref v] c q S (.inr (some (.ref v)), S) :=
  xE_go hc ⟨0, by simp only [xstep]; rw [if_pos h1, if_pos h2]; simp only [xrea]; rw [if_pos h3]⟩
theorem xe_return (hc : xc_code y pc = some .return_) (h1 : c ≤ xc_mc y) (h2 : q ≤ xc_ms y) (h3 : xc_ret y = 0) : xE y pc lv [] c q S (.inr none, S) :=
  xE_go hc ⟨0, by simp only [xstep]; rw [if_pos h1, if_pos h2]; simp only [xrev]; rw [if_pos h3]⟩
end PR
end
section
-- A METHOD THAT THROWS: the exception's cell is the only one that its constructor changes
section XTH
variable {p : Program} {l : Launch} {e : Env} {R : Room} {s : State} {m : MethodId} {args : Array Value} {below : List Frame} {meth : Method} {c : Code} {T1 : State} {locs : List Loc} {cells slots : Nat}
set_option maxHeartbeats 4000000 in
theorem x_throw (X : Stand p l e R s m args below meth c T1 locs cells slots) (hexec : p.tables.exec = Jvm.exec) (htr : e.platform.stackTraces = false) {own cls : String} {names : List String} {ic : Nat} (hown : s.vm.findClass own = some m.cls) (hcls : Bundle.fit cls = true) (hnames : ∀ n ∈ names, Bundle.fit n = true)
    (h : ∀ a ∈ Bundle.ownAtoms0 own ic cls names, a.before args s = true) (hlocs : ∀ x ∈ locs, ∀ cell, s.heap[x.base]? = some cell → cell.vm.isStatics = false)
    {a : Addr} {cX : ClassId} {kX : Class} (hfx : s.vm.findClass cls = some cX) (hkX : s.vm.classes[cX]? = some kX) (hcell : T1.heap[a]? = some (freshCell cX kX)) (hnew : s.heap.size ≤ a)
    {g : JFrame} (hg : g.method = m) (hsize : g.locals.size = c.maxLocals) (hlocked : g.locked = none) (hentered : g.entered = []) {rest : List Value} (hstack : g.stack = .ref a :: .ref a :: rest)
    (hd6 : decode c.code g.pc = .ok (.invokespecial ic, 3)) (hd9 : decode c.code (g.pc + 3) = .ok (.athrow, 1)) (hout : ∀ x ∈ c.exceptionTable.toList, covers x (g.pc + 3) = false)
    (hRf : names.length + 3 < R.frames) (hRl : 2 * g.monitorRoom + ((Value.ref a :: rest).map fun v => v.category).sum + (13 * (names.length + 1) + 41) ≤ R.locals) (hlocks : meth.locks = false) :
    ∃ (U : State) (ce : Cell), Steps p.tables e below (T1.setTop g) U ∧ U.status = .running ∧ Ended U below (.threw a) ∧ s.WarmedH U.vm ∧ s.sameButNew ({ U with vm := s.vm } : State) locs cells slots ∧ U.heap[a]? = some ce ∧ ce.cls = cX ∧ ce.vm = .none ∧ U.heap.size = T1.heap.size ∧ ∀ q, q ≠ a → U.heap[q]? = T1.heap[q]? := by
  have hpl : e.platform.magicAccessors = ({} : Platform).magicAccessors := by rw [X.admits.platform]
  have at1 : ∀ w, w ∈ Bundle.ownAtoms0 own ic cls names → w.holds args s none s [] = true := fun w hw => h w hw
  obtain ⟨T, Z, L, LZ, Y⟩ := ThrowableC.of_atoms (args := args) (s := s) (pl := e.platform) (by rw [X.admits.platform]) (by rw [X.admits.platform]) hpl (fun w hw => h w (by simp [Bundle.ownAtoms0, hw]))
  obtain ⟨P1, Ps, hlen, L1, hL, hP1m, hlink1, hlink⟩ := Bundle.chain0 (args := args) (s := s) hpl Y.init0 names cls hcls hnames (fun w hw => h w (by simp [Bundle.ownAtoms0, hw]))
  have hfound : s.vm.findClass cls = some P1.m.cls := findClass_of_methodNamed hP1m
  cases Option.some.inj (hfx.symm.trans hfound)
  obtain ⟨c1, k1, hc1, hk, hord, -⟩ := Cond.instantiable_spec (at1 (.instantiable cls 6) (by simp [Bundle.ownAtoms0]))
  cases Option.some.inj (hc1.symm.trans hfound)
  cases Option.some.inj (hkX.symm.trans hk)
  have sel : ∀ (z : MethodName) (mz : MethodId), s.methodNamed? z = some mz → (z.cls ≠ "java/lang/invoke/MethodHandle" ∧ z.cls ≠ "java/lang/invoke/VarHandle") → (Cond.selects cls z z).holds args s none s [] = true → selectMethod e.platform s.vm P1.m.cls mz = .method mz := by
    intro z mz hz hzn hsel
    obtain ⟨c2, r2, m2, q1, q2, q3, q4, -⟩ := Cond.selects_spec hsel
    cases Option.some.inj (q1.symm.trans hfound)
    cases Option.some.inj (q2.symm.trans (State.methodFound?_of_named hz hzn))
    cases Option.some.inj (q3.symm.trans hz)
    rw [Launch.admits_selectMethod X.admits]; exact q4
  have hsel0 := sel _ _ Y.fill0 (by decide) (at1 (.selects cls Bundle.tFill0 Bundle.tFill0) (by simp [Bundle.ownAtoms0]))
  have hselF := sel _ _ Y.fill (by decide) (at1 (.selects cls Bundle.tFill Bundle.tFill) (by simp [Bundle.ownAtoms0]))
  obtain ⟨cS0, hcS0, hiss⟩ := Y.statics
  obtain ⟨u0, hu0⟩ := Cond.staticRefV Y.unassigned L.unassignedStatic L.statics hcS0 hiss (at1 (.isRef (.static Bundle.tN "UNASSIGNED_STACK" Bundle.steD)) (by simp [Bundle.ownAtoms0]))
  obtain ⟨sen, hsen⟩ := Cond.staticRefV Y.sentinel L.sentinelStatic L.statics hcS0 hiss (at1 (.isRef (.static Bundle.tN "SUPPRESSED_SENTINEL" Bundle.listD)) (by simp [Bundle.ownAtoms0]))
  obtain ⟨ci, ix, fB, hk198, hg198, ha198, hsB, -, hnB, htB, hffB⟩ := Cond.ownField (t := .object "java/lang/Object") Y.found L.cls (by decide +kernel) (at1 (.fieldLink Bundle.tN 198 Bundle.tN "backtrace" "Ljava/lang/Object;") (by simp [Bundle.ownAtoms0])) (at1 (.lays Bundle.tN Bundle.tN "backtrace" "Ljava/lang/Object;") (by simp [Bundle.ownAtoms0])) e.platform hpl
  obtain ⟨cS, hcS, heS, -, hkeep⟩ := X.same.2.2.2.2.2 T.aS cS0 hcS0
  have hcS1 : T1.heap[T.aS]? = some cS := hcS
  have hfar : ∀ i, (⟨T.aS, i⟩ : Loc) ∉ locs := fun i hmem => by
    have h9 := hlocs _ hmem cS0 hcS0
    rw [hiss] at h9; cases h9
  have hknownS : cS.vm ≠ .unknown := by
    rw [heS]; intro hu
    rw [show cS0.vm = .unknown from hu] at hiss
    cases hiss
  have hneS : T.aS ≠ a := Nat.ne_of_lt (Nat.lt_of_lt_of_le (Array.getElem?_eq_some_iff.mp hcS0).1 hnew)
  obtain ⟨tyC, dC, hdC, hdnC⟩ := Cond.laysAt hfound hk Y.cause (at1 (.lays cls Bundle.tN "cause" "Ljava/lang/Throwable;") (by simp [Bundle.ownAtoms0]))
  obtain ⟨tyS, dS, hdS, hdnS⟩ := Cond.laysAt hfound hk Y.stack (at1 (.lays cls Bundle.tN "stackTrace" Bundle.steD) (by simp [Bundle.ownAtoms0]))
  obtain ⟨tyP, dP, hdP, hdnP⟩ := Cond.laysAt hfound hk Y.supp (at1 (.lays cls Bundle.tN "suppressedExceptions" Bundle.listD) (by simp [Bundle.ownAtoms0]))
  obtain ⟨tyB, dB, hdB, hdnB⟩ := Cond.laysAt hfound hk hffB (at1 (.lays cls Bundle.tN "backtrace" "Ljava/lang/Object;") (by simp [Bundle.ownAtoms0]))
  have bC := Cond.laysApart hdB hdC hdnB hdnC (by rw [hnB, Y.causeName]; decide)
  have bS := Cond.laysApart hdB hdS hdnB hdnS (by rw [hnB, Y.stackName]; decide)
  have bP := Cond.laysApart hdB hdP hdnB hdnP (by rw [hnB, Y.suppName]; decide)
  have hskip : SkipFacts T e.platform s (fun u => u) u0 ((preparedCellV T.toThrowableT (freshCell P1.m.cls kX) a u0 sen).withEntry T1.cur) :=
    ⟨{ ci198 := ci, i198 := ix, fBack := fB }, ⟨hk198, hg198, ha198, hsB⟩, by
      have h9 := fresh_default (c := P1.m.cls) tyB
      rw [htB] at h9
      simpa [preparedCellV, Cell.setSlot, Cell.withEntry, Array.getElem?_setIfInBounds, bC, bS, bP, bC.symm, bS.symm, bP.symm, defaultValue] using h9, fun _ _ => rfl⟩
  obtain ⟨tm, methC, cdC, kC, vm1, hnC, -, -, -, -, -, -, -, hW1, st1⟩ := Steps.initCold (tb := p.tables) (e := e) (below := below) (s := s) (U := T1) X.here hexec X.warmed hpl hown (t := Bundle.init0 cls) rfl rfl (Bundle.fit_spec hcls).2
    (at1 (.methodLink own ic (Bundle.init0 cls)) (by simp [Bundle.ownAtoms0])) (h (.instanceMethod (Bundle.init0 cls)) (by cases names <;> simp [Bundle.ownAtoms0, Bundle.chain0Atoms, Bundle.passAtoms])) (bytes := Bundle.five) (maxL := 1) (h (.code (Bundle.init0 cls) Bundle.five 1 none) (by cases names <;> simp [Bundle.ownAtoms0, Bundle.chain0Atoms, Bundle.passAtoms]))
    (f := g) hg (a := a) (rest := .ref a :: rest) hstack hd6
  cases Option.some.inj (hnC.symm.trans hP1m)
  obtain ⟨vm2, X2, st2⟩ := (X.noted hW1).ctorPlainOffV hexec (g := { g with stack := .ref a :: rest }) hg hsize T L Z LZ (P1 :: Ps)
    (fun P hP => by rcases List.mem_cons.mp hP with rfl | hP; exact L1; exact hL P hP) ⟨hlink1, hlink⟩ (u0 := u0) (sen := sen) (self := a) (cell := freshCell P1.m.cls kX) (cellS := cS)
    hcell (fun _ => by simp) (by simp) rfl rfl hsel0 hselF hcS1 hneS hknownS (by rw [hkeep _ (hfar _)]; exact hu0) (by rw [hkeep _ (hfar _)]; exact hsen)
    (Takes.of_laid hk hord tyC (by rw [Y.causeType]; rfl)) (Takes.of_laid hk hord tyS (by rw [Y.stackType]; exact fits_refV_array _ u0)) (Takes.of_laid hk hord tyP (by rw [Y.suppType]; exact fits_refV_object _ sen)) Y.objLocals hskip htr [] hd6
    (by simp only [List.length_cons, hlen]; omega) (by simp only [List.length_cons, hlen]; exact hRl)
  obtain ⟨hwalk, hrun, hended, hWU, hsame⟩ := X2.athrowLeaves hexec (g := { g with stack := .ref a :: rest, pc := g.pc + 3 }) hg hlocked hentered hout (a := a) (rest := rest) rfl hd9 hlocks
  have hlt : a < ((T1.setVm vm1).setVm vm2).heap.size := (Array.getElem?_eq_some_iff.mp hcell).1
  refine ⟨_, _, st1 _ (fun acts => ?_), hrun, hended, hWU, hsame.weaken (fun z hz hlt2 => ?_) (Nat.le_refl _) (Nat.le_refl _), heapAt_setCell_self (s := (T1.setVm vm1).setVm vm2) _ hlt, rfl, rfl, ?_, fun q hq => ?_⟩
  · rw [doInvoke_state]
    exact st2 _ hwalk
  · rcases List.mem_append.mp hz with h1 | h1
    · exact h1
    · exfalso
      have hb : z.base = a := by
        simp only [List.mem_cons, List.not_mem_nil, or_false] at h1
        rcases h1 with rfl | rfl | rfl | rfl <;> rfl
      rw [hb] at hlt2
      exact Nat.not_lt.mpr hnew hlt2
  · exact size_setCell ..
  · exact heapAt_setCell_ne _ (Ne.symm hq)
end XTH
end
section
-- METHODS THAT THROW: what the evaluator says of them
def xc_en (e : Nat) : String := if e = 0 then "java/lang/IllegalArgumentException" else if e = 1 then "java/lang/IllegalStateException" else if e = 2 then "java/lang/IndexOutOfBoundsException" else "java/lang/UnsupportedOperationException"
def xc_ic (e : Nat) : Nat := if e = 0 then 61 else if e = 1 then 82 else if e = 2 then 126 else 154
def xc_up : List String := ["java/lang/RuntimeException", "java/lang/Exception"]
/-- what a throw asks of the tables and the statics -/
def xTh (U : State) : Prop := ∀ e, e < 4 → ∀ w ∈ Bundle.ownAtoms0 "SnapForge" (xc_ic e) (xc_en e) xc_up, w.before #[] U = true
def xFE (first : State) (o : Outcome) (t : State) (L : List Loc) (k n : Nat) : Prop := (∃ x, o = .threw x) ∧ first.WarmedH t.vm ∧ first.sameButNew ({ t with vm := first.vm } : State) L k n
def xQt (D : va_G) (dA : Nat → ClassId) (B : Nat) (g : Nat → Nat) (A : Nat → Prop) (ex : Nat) (S1 : xS) : Array Value → State → Outcome → State → Prop := fun _ st oc t => ∃ (a : Nat) (ce : Cell), xz S1 = a + 1 ∧ oc = .threw (B + a) ∧ t.heap[B + a]? = some ce ∧ ce.vm = .none ∧ st.vm.findClass (xc_en ex) = some ce.cls ∧ ex < 4 ∧ xH D dA B g S1 t.heap ∧ (∀ a, (xt S1 a).isSome = true → A (B + a)) ∧ va_F A st t
def xMQt (below : List Frame) (Qc : Array Value → State → Outcome → State → Prop) (a : Array Value) (s : State) (mc ms : Nat) (free : Addr → Prop) : State → Prop := fun t => ∃ o, t.status = .running ∧ Ended t below o ∧ Qc a s o t ∧ ∃ L, xFE s o t L mc ms ∧ ∀ q ∈ L, free q.base
/-- THE CONTRACT of a method that throws the exception ex -/
def xMT (l : Launch) (D : va_G) (dA : Nat → ClassId) (B : Nat) (g : Nat → Nat) (y : Nat) (as : List Value) (S : xS) (ex : Nat) (S1 : xS) : Prop := MetFree l (xc_y y) (headSpec (xc_ws y) (xrm y)) (va_Pc (as.map (xv B g)) (fun U => xU D dA B g S U ∧ xTh U)) (fun _ _ _ _ _ => True) (fun a st o t => xQt D dA B g (xA B S) ex S1 a st o t ∧ ∃ L, xFE st o t L (xc_mc y) (xc_ms y) ∧ ∀ q ∈ L, xA B S q.base)
def xf_thr (e : Nat × Nat) : Bool := decide (xc_own e.1 = 0) && decide (7 ≤ xc_lev e.1) && (match xc_code e.1 e.2 with
  | some (.new x) => (match xc_exc 0 x with
    | some (ex, n) => decide (ex < 4) && decide (n = 6) && decide (xc_code e.1 (e.2 + 3) = some .dup) && decide (xc_code e.1 (e.2 + 4) = some (.invokespecial (xc_ic ex))) && decide (xc_code e.1 (e.2 + 7) = some .athrow)
    | none => false)
  | _ => false)
set_option maxRecDepth 100000 in
theorem xf_thr_ok : xc_thrs.all xf_thr = true := by decide +kernel
def xc_eps : List (Nat × Nat) := [(389, 16), (472, 17), (740, 18), (764, 19)]
def xf_exc (e : Nat × (Nat × Nat) × Nat) : Bool := decide (e.2.1.1 < 4) && decide (tables_1[e.2.2]? = some (Cond.classLink "SnapForge" e.1 (xc_en e.2.1.1))) && decide (tables_1[(xc_eps.getD e.2.1.1 (0, 0)).1]? = some (Cond.instantiable (xc_en e.2.1.1) 6)) && decide (tables_1[(xc_eps.getD e.2.1.1 (0, 0)).2]? = some (Cond.initialized (xc_en e.2.1.1)))
set_option maxRecDepth 100000 in
theorem xf_exc_ok : (xc_excs.getD 0 []).all xf_exc = true := by decide +kernel
theorem x_fits : ∀ e, e < 4 → Bundle.fit (xc_en e) = true := by decide +kernel
theorem x_fitn : ∀ n ∈ xc_up, Bundle.fit n = true := by decide +kernel
section XS
variable {p : Program} {l : Launch} {e : Env} {R : Room} {s : State} {m : MethodId} {args : Array Value} {below : List Frame} {meth : Method} {c : Code} {D : va_G} {dA : Nat → ClassId} {B : Nat} {g : Nat → Nat} {pc y : Nat} {lv : xL} {st : List Value} {cn qn : Nat} {S : xS}
theorem x_locs {S0 : xS} {locs : List Loc} (hH0 : xH D dA B g S0 s.heap) (hl : ∀ x ∈ locs, xA B S0 x.base) : ∀ x ∈ locs, ∀ cell, s.heap[x.base]? = some cell → cell.vm.isStatics = false := by
  intro x hx cell hc
  rcases hl x hx with ⟨a, ha, hb⟩ | hb
  · obtain ⟨t, ht⟩ := Option.isSome_iff_exists.mp ha
    have h1 := (hH0.2 a t ht).2
    rw [hb] at hc
    cases t with
    | inl ci =>
      obtain ⟨r, -, cell2, q1, q2, q3, -⟩ := h1
      rw [q1] at hc
      cases hc
      rw [q3]; rfl
    | inr jn =>
      obtain ⟨j, n⟩ := jn
      have h2 : s.heap[B + a]? = some (vp_cell (dA j) _) := h1
      rw [h2] at hc
      cases hc
      unfold vp_cell
      split <;> rfl
  · have h2 := (Array.getElem?_eq_some_iff.mp hc).1
    rw [hH0.1] at h2
    omega
set_option maxHeartbeats 1000000 in
theorem xs_thr {S0 S1 : xS} {ex x : Nat} (hX : xX p R s m args meth c D dA y) (htr : e.platform.stackTraces = false) (hTh : ∀ e, e < 4 → ∀ w ∈ Bundle.ownAtoms0 "SnapForge" (xc_ic e) (xc_en e) xc_up, w.before args s = true) (hex : c.exceptionTable.toList = []) (hH0 : xH D dA B g S0 s.heap) (hc : xc_code y pc = some (.new x)) (hcs : (st.map fun v => v.category).sum ≤ 8) (h : xthr (xc_exc (xc_own y) x) y pc (xc_mc y) (xc_ms y) cn qn S = some (.inl ex, S1)) : xW p l e R s m args below meth c (xMQt below (xQt D dA B g (xA B S0) ex S1) args s (xc_mc y) (xc_ms y) (xA B S0)) D dA B g (xA B S0) (xc_nl y) pc lv st cn qn S := by
  obtain ⟨hx, hb, hml, hown, hts, hKK, -, hlk, -, hy, hRf, hRl, hRc, hRs⟩ := id hX
  unfold xthr at h
  split at h
  · next ex2 n ho =>
    split at h
    · next h1 =>
      split at h
      · next h2 =>
        split at h
        · next h3 =>
          have hm : (y, pc) ∈ xc_thrs := by
            unfold xc_thr at h3
            simpa using h3
          have w1 := List.all_eq_true.mp xf_thr_ok _ hm
          unfold xf_thr at w1
          simp only [Bool.and_eq_true, decide_eq_true_eq] at w1
          obtain ⟨⟨hown0, hlev⟩, w2⟩ := w1
          rw [hown0] at ho
          simp only [hc, ho, Bool.and_eq_true, decide_eq_true_eq] at w2
          obtain ⟨⟨⟨⟨hex4, hn6⟩, hc3⟩, hc4⟩, hc7⟩ := w2
          subst hn6
          cases h
          have hexc : ∃ pos, (x, (ex, 6), pos) ∈ xc_excs.getD 0 [] := by
            unfold xc_exc at ho
            obtain ⟨e0, he, hv⟩ := Option.map_eq_some_iff.mp ho
            have := xc_at_mem he
            obtain ⟨e1, e2⟩ := e0
            cases hv
            exact ⟨e2, this⟩
          obtain ⟨pos, hpos⟩ := hexc
          have w3 := List.all_eq_true.mp xf_exc_ok _ hpos
          unfold xf_exc at w3
          simp only [Bool.and_eq_true, decide_eq_true_eq] at w3
          obtain ⟨⟨⟨-, w4⟩, w5⟩, w6⟩ := w3
          rw [hown0] at hown
          have hown1 : s.vm.findClass "SnapForge" = some m.cls := hown
          intro ls H locs hl hH hS hAd
          obtain ⟨cX, kX0, hfc, hkc, -⟩ := Cond.instantiable_spec (hts _ (xw_in w5 rfl))
          refine W.newcK hx hb hown1 (hts _ (xw_in w4 rfl)) (hts _ (xw_in w5 rfl)) (hts _ (xw_in w6 rfl)) rfl (xh_dec1 hc rfl (by decide)) (by rw [hRc]; exact h1) (by rw [hRs]; exact h2) hfc hH.1 fun H1 kX hkX e1 e2 e3 => ?_
          refine W.widen (k := xc_mc y) (n := xc_ms y) h1 h2 ?_
          refine lv_dup hx hb (xh_dec1 hc3 rfl (by decide)) rfl ?_
          intro T hT X
          subst hT
          have hd4 := xh_dec1 hc4 (n := 3) rfl (by decide)
          have hd7 := xh_dec1 hc7 (n := 1) rfl (by decide)
          have hnew : s.heap.size ≤ B + xz S := by
            have := hS.1
            rw [hH.1] at this
            exact this
          obtain ⟨U, ce, z1, z2, z3, z4, z5, z6, z7, z8, z9, z10⟩ := x_throw X hx htr (own := "SnapForge") (cls := xc_en ex) (names := xc_up) (ic := xc_ic ex) hown1 (x_fits ex hex4) x_fitn (hTh ex hex4) (x_locs hH0 hS.2.2) (a := B + xz S) hfc hkX e1 hnew
            (g := F0 m (pc + 3 + 1) ls (.ref (B + xz S) :: .ref (B + xz S) :: st.map (xv B g))) rfl (by rw [hml]; exact hl.1) rfl rfl rfl (by rw [hb]; exact hd4) (by rw [hb]; exact hd7) (by rw [hex]; intro z hz; cases hz) (by show 2 + 3 < R.frames; omega) (by
              refine Nat.le_trans ?_ hRl
              have e5 : ((Value.ref (B + xz S) :: st.map (xv B g)).map fun v => v.category).sum = 1 + (st.map fun v => v.category).sum := by
                rw [List.map_cons, List.sum_cons, x_cats]
                rfl
              rw [e5]
              show 2 * 0 + (1 + (st.map fun v => v.category).sum) + (13 * 3 + 41) ≤ 40 * xc_lev y
              omega) hlk
          have hHU : xH D dA B g (xz S + 1, xt S, xi S, xj S, xr S) U.heap := by
            refine ⟨by rw [z9, e2]; show B + xz S + 1 = B + (xz S + 1); omega, fun b t hb2 => ?_⟩
            have h9 := hH.2 b t hb2
            refine ⟨h9.1, ?_⟩
            have hlt : B + b < H.size := h9.2.lt
            rw [hH.1] at hlt
            exact h9.2.kept ((z10 _ (show B + b ≠ B + xz S by omega)).trans (e3 _ hlt))
          refine ⟨U, z1, .threw (B + xz S), z2, z3, ⟨xz S, ce, rfl, rfl, z6, z8, by rw [z7]; exact hfc, hex4, hHU, hAd, ?_⟩, locs, ⟨⟨_, rfl⟩, z4, z5⟩, hS.2.2⟩
          refine ⟨by rw [z9, e2]; have := hS.1; rw [hH.1] at this; omega, fun q h8 h9 => ?_⟩
          have hq : q < B + xz S := by omega
          rw [z10 q (Nat.ne_of_lt hq), e3 q hq]
          exact hS.2.1 q h8 h9
        · cases h
      · cases h
    · cases h
  · cases h
end XS
theorem xsoundT (l : Launch) (hfl : l.stackTraces = false) (D : va_G) (dA : Nat → ClassId) (B : Nat) (g : Nat → Nat) : ∀ (n y : Nat) (as : List Value) (S : xS) (ex : Nat) (S1 : xS), y < 173 → xmeth n y as S = some (.inl ex, S1) → xMT l D dA B g y as S ex S1 := by
  intro n y as S ex S1 hy h
  unfold xmeth at h
  split at h
  · next hfit =>
    obtain ⟨q1, q2, q3, q4, q5, q6, q7, q8, q9, q10⟩ := xh_m hy
    refine MetFree.of_bodyS (code := xc_b y) (maxLocals := xc_nl y) (ret := xc_rt y) q3 ?_ ?_
    · intro args s m h1 hn
      obtain ⟨meth, c, h1, h2, h3, h4, h5, h6, -, -⟩ := Cond.code_spec hn (atoms_spec (ws := xc_ws y) h1 _ List.mem_cons_self)
      exact ⟨meth, c, h1, h2, h3, h4, h5, h6⟩
    · intro p e s m args below meth c s₁ Bd hml hv _
      obtain ⟨rfl, ⟨hH, hKK, hN, hG⟩, hTh⟩ := hv
      have hts0 := atoms_spec (ws := xc_ws y) Bd.pre
      have htr : e.platform.stackTraces = false := by
        rw [Bd.admits.platform]
        exact hfl
      have hexc : c.exceptionTable.toList = [] := by
        have h9 := Bd.noHandlers (hts0 _ List.mem_cons_self)
        simpa using h9
      have hX : xX p (headSpec (xc_ws y) (xrm y)).room s m (as.map (xv B g)).toArray meth c D dA y := by
        refine ⟨Bd.exec, Bd.bytes, hml, ?_, fun w hw => hts0 w (List.mem_cons_of_mem _ hw), hKK, Bd.returns, Bd.notSynchronized, fun hk => ?_, by omega, Nat.le_refl _, Nat.le_refl _, rfl, rfl⟩
        · rw [← q1]
          exact findClass_of_methodNamed Bd.named
        · rw [(name_of_methodNamed Bd.named Bd.method).1]
          exact q10 hk
      have hA : ∀ q, s.heap.size ≤ q → xA B S q := fun q hq => Or.inr (by rw [← hH.1]; exact hq)
      have hAB : ∀ q, xA B S q → B ≤ q := by
        intro q hq
        rcases hq with ⟨a, -, rfl⟩ | hq
        · omega
        · omega
      have hTh2 : ∀ e, e < 4 → ∀ w ∈ Bundle.ownAtoms0 "SnapForge" (xc_ic e) (xc_en e) xc_up, w.before (as.map (xv B g)).toArray s = true := by
        intro e he w hw
        have h9 := hTh e he w hw
        by_cases ht : w.onTables = true
        · exact va_tabs ht rfl h9
        · simp only [Bundle.ownAtoms0, Bundle.throwableAtoms, Bundle.chain0Atoms, Bundle.passAtoms, xc_up, List.mem_append, List.mem_cons, List.not_mem_nil, or_false] at hw
          rcases hw with ((((hw | hw | hw | hw | hw | hw | hw | hw | hw | hw | hw | hw | hw | hw | hw | hw | hw | hw | hw | hw | hw | hw | hw | hw) | (hw | hw | hw | hw | hw) | (hw | hw | hw | hw | hw) | (hw | hw | hw | hw | hw))) | (hw | hw | hw | hw | hw | hw | hw | hw | hw | hw | hw | hw | hw | hw)) <;> subst hw <;> first | exact absurd rfl ht | exact h9
      have key : ∀ k, xG p l e (headSpec (xc_ws y) (xrm y)).room s m (as.map (xv B g)).toArray below meth c (xMQt below (xQt D dA B g (xA B S) ex S1) (as.map (xv B g)).toArray s (xc_mc y) (xc_ms y) (xA B S)) D dA B g (xA B S) (xc_nl y) (xev k y) (.inl ex, S1) := by
        intro k
        induction k with
        | zero =>
          intro pc lv st cn qn S2 h2
          cases h2
        | succ k ihk =>
          intro pc lv st cn qn S2 h2
          unfold xev at h2
          split at h2
          · next i hc =>
            refine xstep_ok hX hN hG hA hAB ihk (fun y2 as2 S3 v2 S4 hy2 h3 => xsound l D dA B g k y2 as2 S3 v2 S4 hy2 h3)
              (fun x o hcx ho hcs h3 => ?_) (fun _ _ _ h3 => ?_) (fun _ _ _ h3 => ?_) (fun _ _ _ h3 => ?_) (fun _ _ _ h3 => ?_) (fun o x y2 na ex2 t S3 _ _ ht => by rw [xh_hnd hy] at ht; cases ht) hc h2
            · subst ho
              exact xs_thr hX htr hTh2 hexc hH hcx hcs h3
            · unfold xret at h3
              repeat' split at h3
              all_goals cases h3
            · unfold xrel at h3
              repeat' split at h3
              all_goals cases h3
            · unfold xrea at h3
              repeat' split at h3
              all_goals cases h3
            · unfold xrev at h3
              repeat' split at h3
              all_goals cases h3
          · cases h2
      have hl := lv_entry (as.map (xv B g)) (n := xc_nl y) (by rw [x_sl]; exact hfit)
      rw [x_args] at hl
      obtain ⟨t, a1, o, b1, b2, b3⟩ := key n 0 _ [] 0 0 S h _ s.heap [] hl hH va_S.rf (fun a ha => Or.inl ⟨a, ha, rfl⟩) s₁ (by rw [Bd.state]; rfl) (Stand.of_body Bd)
      rw [lg_entry_eq]
      exact ⟨t, o, a1, b1, b2, b3⟩
  · cases h
end
section
-- A CATCH: an exception that a callee threw is taken by a row of this method's table; the classes of the rows are linked on the way
/-- the search ends at h, and leaves the tables vm2 -/
def xFd (e : Env) (s : State) (f : JFrame) (a : Addr) (h : Handler) (vm2 : Vm) : Prop := ∀ (Q : Handler → Pre) (E : CtlPost) (d : Bool) (acts : List Action), wp (findHandler f a) Q E e d acts s ↔ Q h d acts (s.setVm vm2)
/-- one row of the table: its class is linked; the object is of that class, or it isn't -/
theorem x_row {Q : Handler → Pre} {E : CtlPost} {e : Env} {d : Bool} {acts : List Action} {s : State} {f : JFrame} {a : Addr} {x : ExceptionTableEntry} {t : List ExceptionTableEntry} {c : ClassId} {cell : Cell} (hx : covers x f.pc = true) (h0 : x.catchType ≠ 0) (hl : s.vm.ClassLinks e.platform f.method.cls x.catchType c) (hcell : s.heap[a]? = some cell) (hobj : ∀ k, cell.vm ≠ .statics k) (hk : ∃ k, s.vm.classes[cell.cls]? = some k) (hc : ∃ k, s.vm.classes[c]? = some k) :
    wp (findHandler.go f a (x :: t)) Q E e d acts s ↔ (if s.vm.assignable cell.cls c = true then Q (.found x.handlerPc) d acts (s.setVm (s.vm.noted f.method.cls x.catchType (.cls c))) else wp (findHandler.go f a t) Q E e d acts (s.setVm (s.vm.noted f.method.cls x.catchType (.cls c)))) := by
  simp only [covers] at hx
  obtain ⟨ha, ht⟩ := (resolveClass_links e.toSetting hl).op (op := VmOp.resolveClass f.method.cls x.catchType) rfl
  have hal : s.vm.Alike (s.vm.noted f.method.cls x.catchType (.cls c)) := (Vm.Alike.refl s.vm).noted _ _ _
  obtain ⟨k1, hk1⟩ := hk
  obtain ⟨k2, hk2⟩ := hc
  obtain ⟨k3, hk3, -⟩ := hal.2.2 _ _ hk1
  obtain ⟨k4, hk4, -⟩ := hal.2.2 _ _ hk2
  have hasg : (s.vm.noted f.method.cls x.catchType (.cls c)).assignable cell.cls c = s.vm.assignable cell.cls c := hal.assignable _ _
  by_cases hy : s.vm.assignable cell.cls c = true
  · rw [if_pos hy]
    rw [hy] at hasg
    simp [findHandler.go, hx, h0, ha, ht, hcell, hobj, hk3, hk4, hasg, VmOp.dirties, VmOp.acts]
  · rw [if_neg hy]
    have hn : s.vm.assignable cell.cls c = false := by simpa using hy
    rw [hn] at hasg
    simp [findHandler.go, hx, h0, ha, ht, hcell, hobj, hk3, hk4, hasg, VmOp.dirties, VmOp.acts]
/-- the rows ahead don't take it, this one does -/
theorem x_search {e : Env} {s₀ : State} {f : JFrame} {a : Addr} {cell : Cell} (hobj : ∀ k, cell.vm ≠ .statics k) (hk0 : ∃ k, s₀.vm.classes[cell.cls]? = some k) (x : ExceptionTableEntry) (rest : List ExceptionTableEntry) (hx : covers x f.pc = true) (h0 : x.catchType ≠ 0) {cx : ClassId} (hlx : s₀.vm.ClassLinks e.platform f.method.cls x.catchType cx) (hyes : s₀.vm.assignable cell.cls cx = true) :
    ∀ (pre : List ExceptionTableEntry) (S : State), s₀.WarmedH S.vm → S.heap[a]? = some cell → (∀ z ∈ pre, covers z f.pc = true ∧ z.catchType ≠ 0 ∧ ∃ cz, s₀.vm.ClassLinks e.platform f.method.cls z.catchType cz ∧ s₀.vm.assignable cell.cls cz = false) →
      ∃ vm2, s₀.WarmedH vm2 ∧ ∀ (Q : Handler → Pre) (E : CtlPost) (d : Bool) (acts : List Action), wp (findHandler.go f a (pre ++ x :: rest)) Q E e d acts S ↔ Q (.found x.handlerPc) d acts (S.setVm vm2) := by
  obtain ⟨k0, hk0⟩ := hk0
  intro pre
  induction pre with
  | nil =>
    intro S hW hcell _
    obtain ⟨k1, hk1, -⟩ := hW.alike.2.2 _ _ hk0
    obtain ⟨dk, _, _, kt, hd, _, _, _, _, hkt, _, hopen⟩ := hlx.here
    obtain ⟨k2, hk2, -⟩ := hW.alike.2.2 _ _ hkt
    refine ⟨_, hW.noted hd hopen (State.rightAt_cls hlx), fun Q E d acts => ?_⟩
    rw [List.nil_append, x_row hx h0 (hW.classLinks hlx) hcell hobj ⟨k1, hk1⟩ ⟨k2, hk2⟩, if_pos (by rw [hW.alike.assignable]; exact hyes)]
  | cons z zs ih =>
    intro S hW hcell hpre
    obtain ⟨k1, hk1, -⟩ := hW.alike.2.2 _ _ hk0
    obtain ⟨hz, hz0, cz, hlz, hno⟩ := hpre z List.mem_cons_self
    obtain ⟨dk, _, _, kt, hd, _, _, _, _, hkt, _, hopen⟩ := hlz.here
    obtain ⟨k2, hk2, -⟩ := hW.alike.2.2 _ _ hkt
    obtain ⟨vm2, hW2, hq⟩ := ih (S.setVm (S.vm.noted f.method.cls z.catchType (.cls cz))) (hW.noted hd hopen (State.rightAt_cls hlz)) hcell (fun w hw => hpre w (List.mem_cons_of_mem _ hw))
    refine ⟨vm2, hW2, fun Q E d acts => ?_⟩
    rw [List.cons_append, x_row hz hz0 (hW.classLinks hlz) hcell hobj ⟨k1, hk1⟩ ⟨k2, hk2⟩, if_neg (by rw [hW.alike.assignable, hno]; decide)]
    exact hq Q E d acts
theorem x_caught {tb : Tables} {e : Env} {s target : State} {g : JFrame} {c : Code} {below : List Frame} {a : Addr} (h : At s g.method c below) {pc : Nat} {vm2 : Vm} (hf : xFd e ((s.setTop g).pushFrame (.throwing a)) g a (.found pc) vm2) (hrest : Steps tb e below ((s.setVm vm2).setTop { g with pc := pc, stack := [.ref a] }) target) : Steps tb e below ((s.setTop g).pushFrame (.throwing a)) target := by
  obtain ⟨hgo, hw⟩ := h.throwing a
  refine Steps.head hgo hw ?_
  have hstep : (stepThrowing e ((s.setTop g).pushFrame (.throwing a)) a (.java g :: s.frames.tail)).Is ((((s.setTop g).pushFrame (.throwing a)).setVm vm2).setFrames (.java { g with pc := pc, stack := [.ref a] } :: s.frames.tail)) [] := by
    simp only [stepThrowing, searchFrame, vmDo]
    generalize hr : Sem.go _ e false [] ((s.setTop g).pushFrame (.throwing a)) = res
    obtain ⟨as, rfl, ha⟩ := Sem.eq_ok_of hr (a := Handler.found pc) (s' := ((s.setTop g).pushFrame (.throwing a)).setVm vm2) (acts' := []) (by simp [hf _ _ _ _])
    exact ⟨rfl, ha⟩
  rw [stepThread_throwing (frames_entered h.top _), hstep.1]
  obtain ⟨g₀, hg⟩ := Option.isSome_iff_exists.mp h.top
  obtain ⟨r, hr⟩ := State.topJava?_eq_some.mp hg
  have hr2 : (s.setVm vm2).frames = .java g₀ :: r := hr
  rw [State.setTop_of_frames _ hr2] at hrest
  have e1 : (((s.setTop g).pushFrame (.throwing a)).setVm vm2).setFrames (.java { g with pc := pc, stack := [.ref a] } :: s.frames.tail) = (s.setVm vm2).setFrames (.java { g with pc := pc, stack := [.ref a] } :: r) := by
    rw [hr, List.tail_cons, State.pushFrame, State.setTop_of_frames _ hr, State.setFrames_setFrames]
    have e2 : ∀ fs : List Frame, (s.setFrames fs).setVm vm2 = (s.setVm vm2).setFrames fs := fun fs => rfl
    rw [e2, State.setFrames_setFrames]
  rw [e1]
  exact hrest
end
section
-- A CALL THAT THROWS, and its catching
section XCT
variable {p : Program} {l : Launch} {e : Env} {R : Room} {s : State} {m : MethodId} {args : Array Value} {below : List Frame} {meth : Method} {c : Code} {Q : State → Prop} {D : va_G} {dA : Nat → ClassId} {B : Nat} {g : Nat → Nat} {A : Nat → Prop} {pc y : Nat} {cn qn : Nat} {S : xS} {H : Heap} {locs : List Loc} {ls : Array Slot}
/-- the call: it comes back with the exception over the frame -/
theorem x_callT (hX : xX p R s m args meth c D dA y) {y2 x ex : Nat} {S1 : xS} {b : Nat} {as2 t : List Value} (hy2 : y2 < 173) (hk1 : xc_kind y2 = 1) (hlk : Cond.methodLink (xc_on (xc_own y)) x (xc_y y2) ∈ xc_tbl) (hnp : (parseMethodDescriptor (xc_y y2).desc).map (fun d => d.parameters.length) = some as2.length) (hM : xMT l D dA B g y2 (.ref b :: as2) S ex S1) (hb : xt S b = some (.inl (xc_yc y2)))
    (hpre : ∀ U : State, U.heap = H → s.WarmedH U.vm → va_Pc ((Value.ref b :: as2).map (xv B g)) (fun U => xU D dA B g S U ∧ xTh U) ((Value.ref b :: as2).map (xv B g)).toArray U) (hblind : FrameBlind (va_Pc ((Value.ref b :: as2).map (xv B g)) (fun U => xU D dA B g S U ∧ xTh U))) (hlev : xc_lev y2 < xc_lev y) (hls : ls.size = xc_nl y) (hcat : (t.map fun v => v.category).sum ≤ 8) (hcc : cn + xc_mc y2 ≤ R.cells) (hqq : qn + xc_ms y2 ≤ R.slots) (hH : xH D dA B g S H) (hd : decode (xc_b y) pc = .ok (.invokevirtual x, 3))
    {T : State} (hT : T.heap = H) (X : Stand p l e R s m args below meth c T locs cn qn) :
    ∃ (T2 : State) (L : List Loc) (a : Nat) (ce : Cell), Stand p l e R s m args below meth c T2 (locs ++ L) (cn + xc_mc y2) (qn + xc_ms y2) ∧ (∀ q ∈ L, xA B S q.base) ∧ xz S1 = a + 1 ∧ T2.heap[B + a]? = some ce ∧ ce.vm = .none ∧ s.vm.findClass (xc_en ex) = some ce.cls ∧ ex < 4 ∧ xH D dA B g S1 T2.heap ∧ (∀ a, (xt S1 a).isSome = true → xA B S (B + a)) ∧ (H.size ≤ T2.heap.size ∧ ∀ q : Nat, q < H.size → ¬ xA B S q → T2.heap[q]? = H[q]?) ∧
      Steps p.tables e below (T.setTop (F0 m pc ls (((Value.ref b :: as2).map (xv B g)).reverse ++ t.map (xv B g)))) ((T2.setTop (F0 m pc ls (t.map (xv B g)))).pushFrame (.throwing (B + a))) := by
  obtain ⟨hx, hbb, hml, hown, hts, hKK, -, -, -, -, hRf, hRl, hRc, hRs⟩ := id hX
  obtain ⟨q1, q2, q3, q4, q5, q6, q7, q8, q9, q10⟩ := xh_m hy2
  obtain ⟨hba, hbt⟩ := hH.2 b _ hb
  obtain ⟨C, Tb, N, hc⟩ := xh_at q5
  obtain ⟨Y, z1, z2, -⟩ := xh_cls hc
  have hcls : (xc_y y2).cls = C := by rw [q1, z2]
  obtain ⟨cellB, hcB, hoB, hclB⟩ := va_recv hKK (xP1 hbt) (ci := xc_yc y2) (q0 := 0) hc rfl
  obtain ⟨mk, methM, hnamed, hmethM, hstM, habM⟩ := Cond.instanceMethod_spec (hts _ (q8 (by omega)))
  obtain ⟨methM2, cM, hmethM2, hcM, -, hlM, -, -, -, hsigM⟩ := Cond.code_spec hnamed (hts _ (xh_code hy2))
  cases hmethM.symm.trans hmethM2
  obtain ⟨c2, r2, m2, w1, w2, w3, w4, kP, hkP, hkPi⟩ := Cond.selects_spec (hts _ (q9 hk1))
  rw [hcls] at w1
  cases hclB.symm.trans w1
  cases (State.methodFound?_of_named hnamed q2).symm.trans w2
  cases hnamed.symm.trans w3
  have hselP : selectMethod e.platform s.vm cellB.cls mk = .method mk := by rw [Launch.admits_selectMethod X.admits]; exact w4
  have hlen : (as2.map (xv B g)).length = methM.sig.parameters.length := by
    rw [hsigM] at hnp
    rw [List.length_map]
    exact (Option.some.inj hnp).symm
  have hstk : (F0 m pc ls (((Value.ref b :: as2).map (xv B g)).reverse ++ t.map (xv B g))).stack = (as2.map (xv B g)).reverse ++ .ref (B + b) :: t.map (xv B g) := by
    show ((Value.ref b :: as2).map (xv B g)).reverse ++ t.map (xv B g) = _
    rw [List.map_cons, List.reverse_cons, List.append_assoc]
    simp [xv, xad_lt hba]
  have hargs : (Value.ref (B + b) :: as2.map (xv B g)).toArray = ((Value.ref b :: as2).map (xv B g)).toArray := by
    simp [xv, xad_lt hba]
  have hdc : decode c.code pc = .ok (.invokevirtual x, 3) := by rw [hbb]; exact hd
  obtain ⟨vm1, X1, st1⟩ := X.invokevirtual hx hown (hts _ hlk) hnamed hmethM hstM hkP hkPi q2 (a := B + b) (cell := cellB) (by rw [hT]; exact hcB) (fun z h => by rw [h] at hoB; cases hoB) hselP hmethM habM hkP hkPi (g := F0 m pc ls (((Value.ref b :: as2).map (xv B g)).reverse ++ t.map (xv B g))) rfl (argsL := as2.map (xv B g)) (rest := t.map (xv B g)) hlen hstk hdc
  rw [hargs] at st1
  generalize hg0 : F0 m pc ls (t.map (xv B g)) = g0 at *
  have hg0m : g0.method = m := by rw [← hg0]
  have hg0s : g0.locals.size = c.maxLocals := by rw [← hg0, hml]; exact hls
  have hg0d : decode c.code g0.pc = .ok (.invokevirtual x, 3) := by rw [← hg0]; exact hdc
  have hg0c : 2 * g0.monitorRoom + (g0.stack.map fun v => v.category).sum ≤ 8 := by
    rw [← hg0]
    show 2 * 0 + ((t.map (xv B g)).map fun v => v.category).sum ≤ 8
    rw [x_cats]; omega
  have hn1 : (T.setVm vm1).methodNamed? (xc_y y2) = some mk := X1.named hnamed
  obtain ⟨methY, cY, hmY, hcY, -, hlY, -, -, -, -⟩ := Cond.code_spec (args := ((Value.ref b :: as2).map (xv B g)).toArray) hn1 (word_at X1.warmed (good_of_word (xw_good (xh_code hy2))) (hts _ (xh_code hy2)))
  obtain ⟨kY, hkY, -⟩ := className_of_methodNamed hn1
  have hinitY : kY.init = .initialized := Cond.initialized_spec (args := ((Value.ref b :: as2).map (xv B g)).toArray) (findClass_of_methodNamed hn1) hkY (word_at X1.warmed (good_of_word (xw_good q6)) (hts _ q6))
  have h : At (T.setVm vm1) g0.method c below := by rw [hg0m]; exact X1.here
  have hrm := x_rooms hX hlev q4
  have happ : (headSpec (xc_ws y2) (xrm y2)).appliesLoose (xc_y y2) e.platform ((T.setVm vm1).calling g0 mk ((Value.ref b :: as2).map (xv B g)).toArray) = true :=
    Spec.appliesLoose_calling (g := g0) h hg0d hn1 hkY hinitY (X1.room_calling (g := g0) (R' := xrm y2) hg0s hmY hcY hrm.1 (by rw [hlY]; have := hrm.2; omega) hcc hqq) (atoms_intro fun w hw => word_at X1.warmed (good_of_word (xw_good (xws_in hy2 w hw))) (hts _ (xws_in hy2 w hw)))
  have hfr : ((T.setVm vm1).setTop g0).frames = [.java g0] ++ below := by
    rw [State.frames_setTop' g0 h.top, X1.tail]; rfl
  obtain ⟨o, s2, hsteps, -, hend, hq⟩ := Steps.callFree hM p X.admits X.cas X.clock (acts := []) hfr happ (hblind _ _ _ _ (hpre (T.setVm vm1) hT X1.warmed)) trivial
  obtain ⟨⟨a, ce, f1, rfl, f3, f4, f5, f6, f7, f8, f9⟩, L, ⟨-, g2, g3⟩, g4⟩ := hq
  have hend2 : Ended s2 (.java g0 :: below) (.threw (B + a)) := by
    have h9 : ((T.setVm vm1).setTop g0).frames = .java g0 :: below := hfr
    rw [h9] at hend
    exact hend
  obtain ⟨T2, X2, hW2, -, ht⟩ := X1.outOfThrown hg0m hend2 g2 g3
  have hheap : T2.heap = s2.heap := by rw [ht, Stand.throwing_heap]
  have f5b : s.vm.findClass (xc_en ex) = some ce.cls := by
    have h9 : (T.setVm vm1).vm.findClass (xc_en ex) = some ce.cls := f5
    rw [← X1.warmed.alike.findClass]
    exact h9
  refine ⟨T2, L, a, ce, X2, g4, f1, by rw [hheap]; exact f3, f4, f5b, f6, by rw [hheap]; exact f7, f8, ?_, ?_⟩
  · have h9 : H.size ≤ s2.heap.size ∧ ∀ q : Nat, q < H.size → ¬ xA B S q → s2.heap[q]? = H[q]? := by
      have h8 := f9
      have e8 : (((T.setVm vm1).setTop g0).pushFrame (.invoking mk ((Value.ref b :: as2).map (xv B g)).toArray)).heap = H := hT
      unfold va_F at h8
      rw [e8] at h8
      exact h8
    rw [hheap]
    exact h9
  · refine st1 _ (fun acts => ?_)
    rw [doInvoke_state]
    rw [ht] at hsteps
    subst hg0
    exact hsteps
end XCT
end
section
-- WHAT A THROW AND A CATCH ASK OF THE STATE, in a form that moves
/-- a static field of Throwable, below B: laid, and a reference or null -/
def xLs (n d : String) (B : Nat) (U : State) : Prop := ∃ (c : ClassId) (k : Class) (i : Nat) (f : Field) (a : Nat) (cell : Cell) (v : Value), U.vm.findClass Bundle.tN = some c ∧ U.fieldFound? Bundle.tN n d = some (c, k, i, f) ∧ f.isStatic = true ∧ k.statics = some a ∧ U.heap[a]? = some cell ∧ cell.vm.isStatics = true ∧ cell.cls = c ∧ f.slot < cell.slots.size ∧ k.staticTypes[f.slot]? = some f.type ∧ a < B ∧ cell.slots[f.slot]? = some v ∧ (v = .null ∨ ∃ t, v = .ref t)
theorem xLs.move {n d : String} {B : Nat} {s U : State} (h : xLs n d B s) (hvm : s.vm.Alike U.vm) (hh : ∀ a : Nat, a < s.heap.size → ¬ B ≤ a → U.heap[a]? = s.heap[a]?) : xLs n d B U := by
  obtain ⟨c, k, i, f, a, cell, v, h1, h2, h3, h4, h5, h6, h7, h8, h9, h10, h11, h12⟩ := h
  obtain ⟨k', hi, hek⟩ := State.fieldFound?_setVm hvm h2
  have e1 : U.fieldFound? Bundle.tN n d = some (c, k', i, f) := hi
  refine ⟨c, k', i, f, a, cell, v, by rw [hvm.findClass]; exact h1, e1, h3, by rw [hek]; exact h4, ?_, h6, h7, h8, by rw [hek]; exact h9, h10, h11, h12⟩
  rw [hh a (Array.getElem?_eq_some_iff.mp h5).1 (by omega)]
  exact h5
theorem xLs.lays {n d : String} {B : Nat} {U : State} (h : xLs n d B U) (args : Array Value) : (Cond.laysStatic Bundle.tN n d).before args U = true := by
  obtain ⟨c, k, i, f, a, cell, v, h1, h2, h3, h4, h5, h6, h7, h8, h9, h10, h11, h12⟩ := h
  exact Cond.laysStatic_of h1 h2 h3 h4 h5 h6 h7 h8 h9
theorem xLs.isRef {n d : String} {B : Nat} {U : State} (h : xLs n d B U) (args : Array Value) : (Cond.isRef (.static Bundle.tN n d)).before args U = true := by
  obtain ⟨c, k, i, f, a, cell, v, h1, h2, h3, h4, h5, h6, h7, h8, h9, h10, h11, h12⟩ := h
  have he : (Term.static Bundle.tN n d).eval args U none [] U = some v := by
    simp [Term.eval, State.fieldNamed?, h2, h3, h4, h5, h6, h11]
  simp only [Cond.before, Cond.holds, Cond.value, he]
  rcases h12 with e | ⟨x, e⟩ <;> simp [e]
theorem xLs.of {n d : String} {B : Nat} {U : State} {args : Array Value} (h1 : (Cond.laysStatic Bundle.tN n d).before args U = true) (h2 : (Cond.isRef (.static Bundle.tN n d)).before args U = true) (hB : B = U.heap.size) : xLs n d B U := by
  obtain ⟨c, k, i, f, a, cell, g1, g2, g3, g4, g5, g6, g7, g8, g9⟩ := Cond.laysStatic_spec h1
  have hv : cell.slots[f.slot]? = some cell.slots[f.slot] := Array.getElem?_eq_getElem g8
  have he : (Term.static Bundle.tN n d).eval args U none [] U = some cell.slots[f.slot] := by
    simp [Term.eval, State.fieldNamed?, g2, g3, g4, g5, g6, hv]
  refine ⟨c, k, i, f, a, cell, _, g1, g2, g3, g4, g5, g6, g7, g8, g9, by rw [hB]; exact (Array.getElem?_eq_some_iff.mp g5).1, hv, ?_⟩
  simp only [Cond.before, Cond.holds, Cond.value, he] at h2
  revert h2
  cases cell.slots[f.slot] <;> simp
/-- what a throw and a catch ask, and below B -/
def xTq (B : Nat) (U : State) : Prop := (∀ e, e < 4 → ∀ w ∈ Bundle.ownAtoms0 "SnapForge" (xc_ic e) (xc_en e) xc_up, w.onTables = true → w.before #[] U = true) ∧ xLs "UNASSIGNED_STACK" Bundle.steD B U ∧ xLs "SUPPRESSED_SENTINEL" Bundle.listD B U ∧ ∀ e1 e2, e1 < 4 → e2 < 4 → e1 ≠ e2 → va_Nc (xc_en e1) (xc_en e2) U
theorem xTq.move {B : Nat} {s U : State} (h : xTq B s) (hW : s.WarmedH U.vm) (hh : ∀ a : Nat, a < s.heap.size → ¬ B ≤ a → U.heap[a]? = s.heap[a]?) : xTq B U := by
  obtain ⟨h1, h2, h3, h4⟩ := h
  refine ⟨fun e he w hw ht => ?_, h2.move hW.alike hh, h3.move hW.alike hh, fun e1 e2 g1 g2 g3 => (h4 e1 e2 g1 g2 g3).moved hW.alike⟩
  have k1 : w.keepsFace = true := by
    simp only [Bundle.ownAtoms0, Bundle.throwableAtoms, Bundle.chain0Atoms, Bundle.passAtoms, xc_up, List.mem_append, List.mem_cons, List.not_mem_nil, or_false] at hw
    rcases hw with ((((hw | hw | hw | hw | hw | hw | hw | hw | hw | hw | hw | hw | hw | hw | hw | hw | hw | hw | hw | hw | hw | hw | hw | hw) | (hw | hw | hw | hw | hw) | (hw | hw | hw | hw | hw) | (hw | hw | hw | hw | hw))) | (hw | hw | hw | hw | hw | hw | hw | hw | hw | hw | hw | hw | hw | hw)) <;> subst hw <;> rfl
  have k2 := Cond.before_shiftedFace (State.Shifted.of_warmed hW) w k1 (h1 e he w hw ht)
  exact va_tabs (u := s.setVm U.vm) ht rfl k2
theorem xTq.same {B : Nat} {s U : State} (h : xTq B s) (hv : U.vm = s.vm) (hh : U.heap = s.heap) : xTq B U := by
  obtain ⟨h1, h2, h3, h4⟩ := h
  have ha : s.vm.Alike U.vm := by rw [hv]; exact Vm.Alike.refl s.vm
  exact ⟨fun e he w hw ht => va_tabs ht hv.symm (h1 e he w hw ht), h2.move ha (fun a _ _ => by rw [hh]), h3.move ha (fun a _ _ => by rw [hh]), fun e1 e2 g1 g2 g3 => (h4 e1 e2 g1 g2 g3).moved ha⟩
theorem xTq.th {B : Nat} {U : State} (h : xTq B U) : xTh U := by
  intro e he w hw
  by_cases ht : w.onTables = true
  · exact h.1 e he w hw ht
  · simp only [Bundle.ownAtoms0, Bundle.throwableAtoms, Bundle.chain0Atoms, Bundle.passAtoms, xc_up, List.mem_append, List.mem_cons, List.not_mem_nil, or_false] at hw
    rcases hw with ((((hw | hw | hw | hw | hw | hw | hw | hw | hw | hw | hw | hw | hw | hw | hw | hw | hw | hw | hw | hw | hw | hw | hw | hw) | (hw | hw | hw | hw | hw) | (hw | hw | hw | hw | hw) | (hw | hw | hw | hw | hw))) | (hw | hw | hw | hw | hw | hw | hw | hw | hw | hw | hw | hw | hw | hw)) <;> subst hw <;> first | exact absurd rfl ht | exact h.2.1.lays _ | exact h.2.2.1.lays _ | exact h.2.1.isRef _ | exact h.2.2.1.isRef _
theorem xTh_same {s U : State} (h : xTh s) (hv : U.vm = s.vm) (hh : U.heap = s.heap) : xTh U := by
  intro e he w hw
  have h9 := h e he w hw
  by_cases ht : w.onTables = true
  · exact va_tabs ht hv.symm h9
  · have hb : ∀ n d, (Cond.laysStatic Bundle.tN n d).before #[] s = true → (Cond.laysStatic Bundle.tN n d).before #[] U = true := by
      intro n d h5
      obtain ⟨c, k, i, f, a, cell, g1, g2, g3, g4, g5, g6, g7, g8, g9⟩ := Cond.laysStatic_spec h5
      obtain ⟨k', hi, hek⟩ := State.fieldFound?_setVm (vm' := U.vm) (by rw [hv]; exact Vm.Alike.refl s.vm) g2
      exact Cond.laysStatic_of (k := k') (by rw [hv]; exact g1) hi g3 (by rw [hek]; exact g4) (by rw [hh]; exact g5) g6 g7 g8 (by rw [hek]; exact g9)
    have hd : ∀ n d, (Cond.isRef (.static Bundle.tN n d)).before #[] s = true → (Cond.isRef (.static Bundle.tN n d)).before #[] U = true := by
      intro n d h5
      have e1 : (Term.static Bundle.tN n d).eval #[] U none [] U = (Term.static Bundle.tN n d).eval #[] s none [] s := by
        simp only [Term.eval, State.fieldNamed?, State.fieldFound?, hv, hh]
      simp only [Cond.before, Cond.holds, Cond.value, e1] at h5 ⊢
      exact h5
    simp only [Bundle.ownAtoms0, Bundle.throwableAtoms, Bundle.chain0Atoms, Bundle.passAtoms, xc_up, List.mem_append, List.mem_cons, List.not_mem_nil, or_false] at hw
    rcases hw with ((((hw | hw | hw | hw | hw | hw | hw | hw | hw | hw | hw | hw | hw | hw | hw | hw | hw | hw | hw | hw | hw | hw | hw | hw) | (hw | hw | hw | hw | hw) | (hw | hw | hw | hw | hw) | (hw | hw | hw | hw | hw))) | (hw | hw | hw | hw | hw | hw | hw | hw | hw | hw | hw | hw | hw | hw)) <;> subst hw <;> first | exact absurd rfl ht | exact hb _ _ h9 | exact hd _ _ h9
theorem xTh.blind {D : va_G} {dA : Nat → ClassId} {B : Nat} {g : Nat → Nat} {S : xS} (av : List Value) : FrameBlind (va_Pc av (fun U => xU D dA B g S U ∧ xTh U)) := by
  intro a U gg mk h
  obtain ⟨h1, h2, h3⟩ := h
  obtain ⟨-, h5⟩ := xU.blind (D := D) (dA := dA) (B := B) (g := g) (S := S) av a U gg mk ⟨h1, h2⟩
  exact ⟨h1, h5, xTh_same h3 rfl rfl⟩
theorem xTq.blind {D : va_G} {dA : Nat → ClassId} {B : Nat} {g : Nat → Nat} {S : xS} (av : List Value) : FrameBlind (va_Pc av (fun U => xU D dA B g S U ∧ xTq B U)) := by
  intro a U gg mk h
  obtain ⟨h1, h2, h3⟩ := h
  obtain ⟨-, h5⟩ := xU.blind (D := D) (dA := dA) (B := B) (g := g) (S := S) av a U gg mk ⟨h1, h2⟩
  exact ⟨h1, h5, xTq.same h3 rfl rfl⟩
end
section
-- THE LAW'S WRAPPERS: methods with a table of catches, sound too
def xc_hcl : List Nat := [380, 459, 734, 757]
def xf_hs (y : Nat) : Bool := (xc_hnds.getD y []).all (fun e => decide (e.2.2.2.2 < 4) && decide (e.2.2.2.1 ≠ 0) && decide (tables_1[xc_hcl.getD e.2.2.2.2 9999]? = some (Cond.classLink "SnapForgeLaw" e.2.2.2.1 (xc_en e.2.2.2.2))) && (xc_hnds.getD y []).all (fun z => decide (z.1 = e.1) && decide (z.2.1 = e.2.1)))
set_option maxRecDepth 100000 in
theorem xf_hs_ok : (List.range 187).all xf_hs = true := by decide +kernel
/-- the calls in reach of a catch are virtual ones -/
def xf_hc (y : Nat) : Bool := (xc_hnds.getD y []).isEmpty || (xc_all.getD y []).all (fun e => match e.2 with
  | .invokespecial _ => false
  | .invokestatic _ => false
  | _ => true)
set_option maxRecDepth 100000 in
theorem xf_hc_ok : (List.range 187).all xf_hc = true := by decide +kernel
theorem x_tab {y pc ex t : Nat} (hy : y < 187) (h : xc_hnd y pc ex = some t) {ET : List ExceptionTableEntry} (hET : ET.map (fun h => (h.startPc, h.endPc, h.handlerPc, h.catchType)) = (xc_hnds.getD y []).map (fun e => (e.1, e.2.1, e.2.2.1, e.2.2.2.1))) :
    ∃ (pre : List ExceptionTableEntry) (x : ExceptionTableEntry) (rest : List ExceptionTableEntry), ET = pre ++ x :: rest ∧ covers x pc = true ∧ x.handlerPc = t ∧ x.catchType ≠ 0 ∧ Cond.classLink "SnapForgeLaw" x.catchType (xc_en ex) ∈ xc_tbl ∧ ex < 4 ∧ ∀ z ∈ pre, covers z pc = true ∧ z.catchType ≠ 0 ∧ ∃ ez, ez < 4 ∧ ez ≠ ex ∧ Cond.classLink "SnapForgeLaw" z.catchType (xc_en ez) ∈ xc_tbl := by
  have h0 := List.all_eq_true.mp xf_hs_ok y (List.mem_range.mpr hy)
  unfold xf_hs at h0
  unfold xc_hnd at h
  obtain ⟨e0, he, ht⟩ := Option.map_eq_some_iff.mp h
  generalize xc_hnds.getD y [] = L at *
  obtain ⟨hp, as, bs, hL, has⟩ := List.find?_eq_some_iff_append.mp he
  simp only [Bool.and_eq_true, decide_eq_true_eq, beq_iff_eq] at hp
  obtain ⟨⟨p1, p2⟩, p3⟩ := hp
  have g0 := List.all_eq_true.mp h0
  have ge := g0 e0 (by rw [hL]; simp)
  simp only [Bool.and_eq_true, decide_eq_true_eq] at ge
  obtain ⟨⟨⟨q1, q2⟩, q3⟩, q4⟩ := ge
  have q5 := List.all_eq_true.mp q4
  rw [hL, List.map_append, List.map_cons] at hET
  obtain ⟨l1, l2, e1, e2, e3⟩ := List.map_eq_append_iff.mp hET
  obtain ⟨x, rest, e4, e5, e6⟩ := List.map_eq_cons_iff.mp e3
  simp only [Prod.mk.injEq] at e5
  obtain ⟨f1, f2, f3, f4⟩ := e5
  refine ⟨l1, x, rest, by rw [e1, e4], ?_, by rw [f3]; exact ht, by rw [f4]; exact q2, ?_, by rw [← p3]; exact q1, fun z hz => ?_⟩
  · simp only [covers, f1, f2, Bool.and_eq_true, decide_eq_true_eq]
    exact ⟨p1, p2⟩
  · rw [f4, ← p3]
    exact xw_in q3 rfl
  · have hz2 : (z.startPc, z.endPc, z.handlerPc, z.catchType) ∈ as.map (fun e => (e.1, e.2.1, e.2.2.1, e.2.2.2.1)) := by
      rw [← e2]
      exact List.mem_map.mpr ⟨z, hz, rfl⟩
    obtain ⟨z1, hz1, hz3⟩ := List.mem_map.mp hz2
    simp only [Prod.mk.injEq] at hz3
    obtain ⟨k1, k2, k3, k4⟩ := hz3
    have gz := g0 z1 (by rw [hL]; simp [hz1])
    simp only [Bool.and_eq_true, decide_eq_true_eq] at gz
    obtain ⟨⟨⟨r1, r2⟩, r3⟩, -⟩ := gz
    have r5 := q5 z1 (by rw [hL]; simp [hz1])
    simp only [Bool.and_eq_true, decide_eq_true_eq] at r5
    have hn := has z1 hz1
    refine ⟨?_, by rw [← k4]; exact r2, z1.2.2.2.2, r1, ?_, ?_⟩
    · simp only [covers, ← k1, ← k2, Bool.and_eq_true, decide_eq_true_eq]
      rw [r5.1, r5.2]
      exact ⟨p1, p2⟩
    · intro hq
      have : (decide (z1.1 ≤ pc) && decide (pc < z1.2.1) && z1.2.2.2.2 == ex) = true := by
        simp only [Bool.and_eq_true, decide_eq_true_eq, beq_iff_eq]
        rw [r5.1, r5.2]
        exact ⟨⟨p1, p2⟩, hq⟩
      rw [this] at hn
      simp at hn
    · rw [← k4]
      exact xw_in r3 rfl
section XCW
variable {p : Program} {l : Launch} {e : Env} {R : Room} {s : State} {m : MethodId} {args : Array Value} {below : List Frame} {meth : Method} {c : Code} {Q : State → Prop} {D : va_G} {dA : Nat → ClassId} {B : Nat} {g : Nat → Nat} {A : Nat → Prop} {pc y : Nat} {lv : xL} {st : List Value} {cn qn : Nat} {S : xS} {K : xK} {r : xR}
theorem xs_ct (hX : xX p R s m args meth c D dA y) (hown2 : xc_own y = 12) (hN : xNw s) (hG : xSg g B s) (hTq : xTq B s) (hA : ∀ q, s.heap.size ≤ q → A q) (hAB : ∀ q, A q → B ≤ q) (hK : xG p l e R s m args below meth c Q D dA B g A (xc_nl y) K r) (hET : c.exceptionTable.toList.map (fun h => (h.startPc, h.endPc, h.handlerPc, h.catchType)) = (xc_hnds.getD y []).map (fun e => (e.1, e.2.1, e.2.2.1, e.2.2.2.1)))
    {x y2 na ex t : Nat} {S1 : xS} (hc : xc_code y pc = some (.invokevirtual x)) (ho : xc_vrt (xc_own y) x = some (y2, na)) (ht : xc_hnd y pc ex = some t) (hna : na ≤ st.length) (hlev : xc_lev y2 < xc_lev y) (hcc : cn + xc_mc y2 ≤ xc_mc y) (hqq : qn + xc_ms y2 ≤ xc_ms y) (hcat : ((st.drop na).map fun v => v.category).sum ≤ 8) (hrc : xrcv y2 S (st.take na).reverse = true) (hM : xMT l D dA B g y2 (st.take na).reverse S ex S1) (hz1 : xz S1 ≤ 1000000) (hk : K t lv [.ref (xz S1 - 1)] (cn + xc_mc y2) (qn + xc_ms y2) S1 = some r) : xW p l e R s m args below meth c Q D dA B g A (xc_nl y) pc lv st cn qn S := by
  obtain ⟨hx, hb, hml, hown, hts, hKK, -, -, -, hy, hRf, hRl, hRc, hRs⟩ := id hX
  obtain ⟨w1, w2, w3, w4, w5⟩ := xh_vrt ho
  obtain ⟨b, as2, e1, e2⟩ := xrcv_ref hrc (by omega)
  intro ls H locs hl hH hS hAd
  have hlen : (st.take na).reverse.length = na := by
    rw [List.length_reverse, List.length_take]
    omega
  have hlen2 : as2.length = na - 1 := by
    rw [e1, List.length_cons] at hlen
    omega
  rw [x_stk B g st na]
  rw [e1] at hM ⊢
  intro T hT X
  obtain ⟨T2, L, a, ce, X2, g1, g2, g3, g4, g5, g6, g7, g8, g9, st1⟩ := x_callT hX w1 w2 w5 (by rw [hlen2]; exact w4) hM (e2 w2) (fun U hU hW => by
      obtain ⟨k1, k2⟩ := xU_at hX hN hG hAB hH hS ((Value.ref b :: as2).map (xv B g)) U hU hW
      refine ⟨k1, k2, (hTq.move hW (fun q h1 h2 => ?_)).th⟩
      rw [hU]
      exact hS.2.1 q h1 (fun h => h2 (hAB q h))) (xTh.blind _) hlev hl.1 hcat (by rw [hRc]; exact hcc) (by rw [hRs]; exact hqq) hH (xh_dec1 hc rfl (by decide)) hT X
  obtain ⟨pre, z, rest, k1, k2, k3, k4, k5, k6, k7⟩ := x_tab hy ht hET
  have hownL : s.vm.findClass "SnapForgeLaw" = some m.cls := by
    rw [hown2] at hown
    exact hown
  have hpl : e.platform.magicAccessors = ({} : Platform).magicAccessors := by rw [X.admits.platform]
  obtain ⟨cx, hcx, hlx⟩ := Cond.classLink_spec hownL (hts _ k5) e.platform hpl
  have hcs : (Cond.castable (xc_en ex) (xc_en ex)).before #[] s = true := hTq.1 ex k6 _ (by simp [Bundle.ownAtoms0]) rfl
  obtain ⟨c1, c2, v1, v2, v3⟩ := Cond.castable_spec hcs
  cases g5.symm.trans v1
  cases g5.symm.trans v2
  cases g5.symm.trans hcx
  obtain ⟨dk, _, _, kt, hd, _, _, _, _, hkt, _, hopen⟩ := hlx.here
  obtain ⟨vm2, hW2, hq⟩ := x_search (e := e) (s₀ := s) (f := F0 m pc ls ((st.drop na).map (xv B g))) (a := B + a) (cell := ce) (fun k hk2 => by rw [g4] at hk2; cases hk2) ⟨kt, hkt⟩ z rest k2 k4 hlx v3 pre ((T2.setTop (F0 m pc ls ((st.drop na).map (xv B g)))).pushFrame (.throwing (B + a))) (by
      have h9 : ((T2.setTop (F0 m pc ls ((st.drop na).map (xv B g)))).pushFrame (.throwing (B + a))).vm = T2.vm := by
        rw [State.pushFrame]
        rfl
      rw [h9]
      exact X2.warmed) g3 (fun q hq => by
      obtain ⟨r1, r2, ez, r3, r4, r5⟩ := k7 q hq
      obtain ⟨cz, hcz, hlz⟩ := Cond.classLink_spec hownL (hts _ r5) e.platform hpl
      obtain ⟨d1, d2, n1, n2, n3⟩ := hTq.2.2.2 ex ez k6 r3 (fun h => r4 h.symm)
      cases g5.symm.trans n1
      cases hcz.symm.trans n2
      exact ⟨r1, r2, cz, hlz, n3⟩)
  have hfd : xFd e ((T2.setTop (F0 m pc ls ((st.drop na).map (xv B g)))).pushFrame (.throwing (B + a))) (F0 m pc ls ((st.drop na).map (xv B g))) (B + a) (.found t) vm2 := by
    intro Q1 E1 d1 acts1
    have hm1 : T2.vm.method? m = some meth := X2.method'
    have hcd : meth.code = some c := X2.code
    have h8 := hq Q1 E1 d1 acts1
    rw [← k1, k3] at h8
    rw [← h8]
    unfold findHandler
    simp [W.theMethod, State.pushFrame, hm1, hcd]
  have hin := xA_in hA hH hS hAd
  have kk := hK _ _ _ _ _ _ hk ls T2.heap (locs ++ L) hl g7 ⟨Nat.le_trans hS.1 g9.1, fun q h1 h2 => by rw [g9.2 q (Nat.lt_of_lt_of_le h1 hS.1) (fun z => h2 (hin q z))]; exact hS.2.1 q h1 h2, fun q hq => by
      rcases List.mem_append.mp hq with h | h
      · exact hS.2.2 q h
      · exact hin _ (g1 q h)⟩ (fun q hq => hin _ (g8 q hq)) (T2.setVm vm2) rfl (X2.noted hW2)
  obtain ⟨tt, s1, s2⟩ := kk
  refine ⟨tt, st1.trans ?_, s2⟩
  refine x_caught (g := F0 m pc ls ((st.drop na).map (xv B g))) (by exact X2.here) hfd ?_
  have e9 : ([Value.ref (xz S1 - 1)]).map (xv B g) = [.ref (B + a)] := by
    have h7 : a < 1000000 := by omega
    rw [g2]
    show [Value.ref (xad B g (a + 1 - 1))] = _
    rw [Nat.add_sub_cancel, xad_lt h7]
  rw [e9] at s1
  exact s1
end XCW
theorem xh_hc {y pc ex t : Nat} (hy : y < 187) (h : xc_hnd y pc ex = some t) : ¬ ((∃ x, xc_code y pc = some (.invokespecial x)) ∨ ∃ x, xc_code y pc = some (.invokestatic x)) := by
  have h0 := List.all_eq_true.mp xf_hc_ok y (List.mem_range.mpr hy)
  unfold xf_hc at h0
  have h1 : (xc_hnds.getD y []).isEmpty = false := by
    cases hL : xc_hnds.getD y [] with
    | nil =>
      unfold xc_hnd at h
      rw [hL] at h
      cases h
    | cons a b => rfl
  rw [h1, Bool.false_or] at h0
  have h2 := List.all_eq_true.mp h0
  rintro (⟨x, hx⟩ | ⟨x, hx⟩)
  · unfold xc_code at hx
    obtain ⟨e0, he, hv⟩ := Option.map_eq_some_iff.mp hx
    have h3 := h2 e0 (List.mem_of_find?_eq_some he)
    rw [hv] at h3
    cases h3
  · unfold xc_code at hx
    obtain ⟨e0, he, hv⟩ := Option.map_eq_some_iff.mp hx
    have h3 := h2 e0 (List.mem_of_find?_eq_some he)
    rw [hv] at h3
    cases h3
def xf_w (y : Nat) : Bool := decide ((xc_y y).cls = "SnapForgeLaw") && decide (xc_own y = 12) && decide (xc_kind y = 0) && decide (xc_nl y ≤ 20)
set_option maxRecDepth 100000 in
theorem xf_w_ok : (List.range' 173 13).all xf_w = true := by decide +kernel
theorem xh_w {y : Nat} (h1 : 173 ≤ y) (h2 : y < 186) : (xc_y y).cls = "SnapForgeLaw" ∧ xc_own y = 12 ∧ xc_kind y = 0 ∧ xc_nl y ≤ 20 := by
  have h := List.all_eq_true.mp xf_w_ok y (List.mem_range'_1.mpr ⟨h1, by omega⟩)
  unfold xf_w at h
  simp only [Bool.and_eq_true, decide_eq_true_eq] at h
  exact ⟨h.1.1.1, h.1.1.2, h.1.2, h.2⟩
def xc_hh (y : Nat) : List (Nat × Nat × Nat × Nat) := (xc_hnds.getD y []).map (fun e => (e.1, e.2.1, e.2.2.1, e.2.2.2.1))
def xwsW (y : Nat) : List Cond := Cond.codeWith (xc_y y) (xc_b y) (xc_nl y) (xc_rt y) (xc_hh y) :: xc_tbl
/-- THE CONTRACT of a wrapper -/
def xMW (l : Launch) (D : va_G) (dA : Nat → ClassId) (B : Nat) (g : Nat → Nat) (y : Nat) (as : List Value) (S : xS) (v : Option Value) (S1 : xS) : Prop := Met l (xc_y y) (xwsW y) (xrm y) (va_Pc (as.map (xv B g)) (fun U => xU D dA B g S U ∧ xTq B U)) (xQc D dA B g (xA B S) v S1) (xc_mc y) (xc_ms y) (xA B S)
set_option maxHeartbeats 1000000 in
theorem xsoundW (l : Launch) (hfl : l.stackTraces = false) (D : va_G) (dA : Nat → ClassId) (B : Nat) (g : Nat → Nat) {n y : Nat} {as : List Value} {S : xS} {v : Option Value} {S1 : xS} (hy1 : 173 ≤ y) (hy2 : y < 186) (h : xmeth n y as S = some (.inr v, S1)) : xMW l D dA B g y as S v S1 := by
  unfold xmeth at h
  split at h
  · next hfit =>
    obtain ⟨q1, q2, q3, q4⟩ := xh_w hy1 hy2
    refine va_MetW (cc := xc_b y) (maxL := xc_nl y) (ret := xc_rt y) (hh := xc_hh y) (by rw [q1]; decide) rfl ?_
    intro p e s m args below meth c s₁ Bd hml hv
    obtain ⟨rfl, ⟨hH, hKK, hN, hG⟩, hTq⟩ := hv
    have hts0 := atoms_spec (ws := xwsW y) Bd.pre
    have hET : c.exceptionTable.toList.map (fun h => (h.startPc, h.endPc, h.handlerPc, h.catchType)) = (xc_hnds.getD y []).map (fun e => (e.1, e.2.1, e.2.2.1, e.2.2.2.1)) := by
      obtain ⟨m9, meth9, c9, n1, n2, n3, -, -, n6, -⟩ := Cond.codeWith_spec (hts0 _ List.mem_cons_self)
      cases Bd.named.symm.trans n1
      cases Bd.method.symm.trans n2
      cases (Stand.of_body Bd).code.symm.trans n3
      exact n6
    have hX : xX p (headSpec (xwsW y) (xrm y)).room s m (as.map (xv B g)).toArray meth c D dA y := by
      refine ⟨Bd.exec, Bd.bytes, hml, ?_, fun w hw => hts0 w (List.mem_cons_of_mem _ hw), hKK, Bd.returns, Bd.notSynchronized, fun hk => by omega, by omega, Nat.le_refl _, Nat.le_refl _, rfl, rfl⟩
      have h9 := findClass_of_methodNamed Bd.named
      rw [q1] at h9
      rw [q2]
      exact h9
    have hA : ∀ q, s.heap.size ≤ q → xA B S q := fun q hq => Or.inr (by rw [← hH.1]; exact hq)
    have hAB : ∀ q, xA B S q → B ≤ q := by
      intro q hq
      rcases hq with ⟨a, -, rfl⟩ | hq
      · omega
      · omega
    have key : ∀ k, xG p l e (headSpec (xwsW y) (xrm y)).room s m (as.map (xv B g)).toArray below meth c (MQ below (xQc D dA B g (xA B S) v S1) (as.map (xv B g)).toArray s (xc_mc y) (xc_ms y) (xA B S)) D dA B g (xA B S) (xc_nl y) (xev k y) (.inr v, S1) := by
      intro k
      induction k with
      | zero =>
        intro pc lv st cn qn S2 h2
        cases h2
      | succ k ihk =>
        intro pc lv st cn qn S2 h2
        unfold xev at h2
        split at h2
        · next i hc =>
          exact xstep_ok hX hN hG hA hAB ihk (fun y2 as2 S3 v2 S4 hy2 h3 => xsound l D dA B g k y2 as2 S3 v2 S4 hy2 h3)
            (fun x o hcx ho hcs h3 => by
              unfold xthr at h3
              repeat' split at h3
              all_goals cases h3)
            (fun hc1 c1 c2 h3 => xs_ends hX hc1 c1 c2 h3) (fun hc1 c1 c2 h3 => xs_endl hX hc1 c1 c2 h3) (fun hc1 c1 c2 h3 => xs_enda hX hc1 c1 c2 h3) (fun hc1 c1 c2 h3 => xs_endv hX hc1 c1 c2 h3)
            (fun o x y2 na ex t S3 hdis ho ht hna hlev hcc hqq hcat hrc hcl hz hk => by
              rcases hdis with ⟨hc2, ho2⟩ | hbad
              · rw [ho2] at ho
                exact xs_ct hX q2 hN hG hTq hA hAB ihk hET hc2 ho ht hna hlev hcc hqq hcat hrc (xsoundT l hfl D dA B g k y2 _ S2 ex S3 (xh_vrt ho).1 hcl) hz hk
              · exact absurd hbad (xh_hc (by omega) ht)) hc h2
        · cases h2
    have hl := lv_entry (as.map (xv B g)) (n := xc_nl y) (by rw [x_sl]; exact hfit)
    rw [x_args] at hl
    rw [lg_entry_eq]
    exact key n 0 _ [] 0 0 S h _ s.heap [] hl hH va_S.rf (fun a ha => Or.inl ⟨a, ha, rfl⟩)
  · cases h
end
section
-- THE LAW ITSELF in the evaluator: its script is the array at 1000003
def R_law : String := "SnapForgeLaw"
def lw_P (b : Addr) (xs : List Int32) (args : Array Value) (s : State) : Prop := args = #[.ref b] ∧ s.IntsAt b xs ∧ xs.length ≤ 2560 ∧ (Jvm.Cond.and given_1 narrow_1).before args s = true
def lw_Q (_ : Array Value) (s : State) (o : Outcome) (t : State) : Prop := o = .returned (some (.int 1)) ∧ Framed s o t [] 601024 7293034
def lw_Z (below : List Frame) (a : Array Value) (s : State) : State → Prop := fun t => ∃ o, t.status = .running ∧ Ended t below o ∧ lw_Q a s o t
/-- the law's own end, with 1 on the stack, nothing written that was there before, its room as the claim has it -/
theorem lw_ret {p : Program} {l : Launch} {e : Env} {s : State} {m : MethodId} {below : List Frame} {meth : Method} {c : Code} {b : Nat} (hx : p.tables.exec = Jvm.exec) (hb : c.code = code) (hr : meth.sig.returnType = ret) (hlocks : meth.locks = false) {pc : Nat} {H : Heap} {ls : Array Slot} (hdg : decode code pc = .ok (.ireturn, 1)) : W p l e room_1 s m #[Value.ref b] below meth c H [] 601024 7293034 (lw_Z below #[Value.ref b] s) (F0 m pc ls [.int 1]) := by
  intro T hT X
  obtain ⟨fs, hret, hrun, hended, hW, hframe⟩ := X.leave (v := some (.int 1)) (hlocks := hlocks) (fun h => by rw [hr] at h; cases h)
  have hmeth' : T.vm.method? m = some meth := X.method'
  refine ⟨T.setFrames fs, ?_, .returned (some (.int 1)), hrun, hended, rfl, ⟨_, rfl⟩, hW, hframe⟩
  jvm_step X.here [X.here.top, hx, hb, hdg, hmeth', hr, ret, narrow_b1]
  (try refine ⟨rfl, ?_⟩); (try refine ⟨rfl, ?_⟩)
  first | (intro acts; rw [hret _ acts rfl rfl rfl]) | rw [hret _ _ rfl rfl rfl]
  exact Steps.refl _
/-- what holds at the law's entry: the machine, the code, the tables' words (any of lw_tbl by 'hts w (by decide +kernel)'), the script of L ints xs at the cell b, what the Statement gives of the start (any of its parts by flat_of_before) -/
def lw_At (p : Program) (s : State) (m : MethodId) (meth : Method) (c : Code) (b L : Nat) (xs : Nat → Int32) : Prop :=
  p.tables.exec = Jvm.exec ∧ c.code = code ∧ meth.sig.returnType = ret ∧ c.maxLocals = 8 ∧ s.vm.findClass R_law = some m.cls ∧ (∀ w ∈ lw_tbl, w.before #[Value.ref b] s = true) ∧ va_X b L xs s s.heap ∧ b < s.heap.size ∧ meth.locks = false ∧ (Jvm.Cond.and given_1 narrow_1).before #[Value.ref b] s = true
def xc_cwp : List Nat := [379, 458, 495, 509, 540, 733, 756, 780, 798, 843, 917, 924, 936]
def xc_swp : List Nat := [378, 457, 494, 508, 539, 732, 755, 779, 797, 842, 916, 923, 935]
set_option maxRecDepth 1000000 in
theorem xk_w : (List.range' 173 13).map (fun y => Cond.codeWith (xc_y y) (xc_b y) (xc_nl y) (xc_rt y) (xc_hh y)) = xc_cwp.filterMap (fun i => tables_1[i]?) := rfl
theorem xh_codeW {y : Nat} (h1 : 173 ≤ y) (h2 : y < 186) : Cond.codeWith (xc_y y) (xc_b y) (xc_nl y) (xc_rt y) (xc_hh y) ∈ xc_tbl := by
  have h3 : Cond.codeWith (xc_y y) (xc_b y) (xc_nl y) (xc_rt y) (xc_hh y) ∈ (List.range' 173 13).map (fun y => Cond.codeWith (xc_y y) (xc_b y) (xc_nl y) (xc_rt y) (xc_hh y)) := List.mem_map.mpr ⟨y, List.mem_range'_1.mpr ⟨h1, by omega⟩, rfl⟩
  rw [xk_w] at h3
  obtain ⟨i, -, hi⟩ := List.mem_filterMap.mp h3
  exact xw_in hi rfl
def xf_stw (e : Nat × (Nat × Nat) × Nat) : Bool := decide (173 ≤ e.2.1.1) && decide (e.2.1.1 < 186) && xf_np e.2.1.1 e.2.1.2 && decide (tables_1[e.2.2]? = some (Cond.methodLink "SnapForgeLaw" e.1 (xc_y e.2.1.1))) && decide (tables_1[xc_swp.getD (e.2.1.1 - 173) 9999]? = some (Cond.static (xc_y e.2.1.1))) && decide (xc_mc e.2.1.1 = 1)
set_option maxRecDepth 100000 in
theorem xf_stw_ok : xc_stws.all xf_stw = true := by decide +kernel
theorem xw_iniL : Cond.initialized "SnapForgeLaw" ∈ xc_tbl := xw_in (i := 0) (by decide +kernel) rfl
def xc_stw (x : Nat) : Option (Nat × Nat) := (xc_stws.find? (fun e => e.1 == x)).map (fun e => e.2.1)
theorem xh_stw {x y2 na : Nat} (h : xc_stw x = some (y2, na)) : 173 ≤ y2 ∧ y2 < 186 ∧ (parseMethodDescriptor (xc_y y2).desc).map (fun d => d.parameters.length) = some na ∧ Cond.methodLink "SnapForgeLaw" x (xc_y y2) ∈ xc_tbl ∧ Cond.static (xc_y y2) ∈ xc_tbl := by
  unfold xc_stw at h
  obtain ⟨e0, he, hv⟩ := Option.map_eq_some_iff.mp h
  have h1 := List.mem_of_find?_eq_some he
  have h2 : e0.1 = x := by simpa using List.find?_some he
  have h3 := List.all_eq_true.mp xf_stw_ok _ h1
  unfold xf_stw xf_np at h3
  simp only [Bool.and_eq_true, decide_eq_true_eq] at h3
  obtain ⟨⟨⟨⟨⟨w1, w2⟩, w3⟩, w4⟩, w5⟩, -⟩ := h3
  rw [hv] at w1 w2 w3 w4 w5
  rw [h2] at w4
  exact ⟨w1, w2, w3, xw_in w4 rfl, xw_in w5 rfl⟩
/-- a static call of a method with a table of catches: as the kit's own row for one without -/
theorem x_callSW {p : Program} {l : Launch} {e : Env} {R : Room} {s : State} {m : MethodId} {args : Array Value} {below : List Frame} {meth : Method} {c : Code} {T : State} {locs : List Loc} {cells slots : Nat} (X : Stand p l e R s m args below meth c T locs cells slots) (hexec : p.tables.exec = Jvm.exec) {own : String} {index : Nat} {y : MethodName} {bytes : ByteArray} {maxL : Nat} {ret : Option FieldType} {hh : List (Nat × Nat × Nat × Nat)}
    (hown : s.vm.findClass own = some m.cls) (hlink : (Cond.methodLink own index y).before args s = true) (hstat : (Cond.static y).before args s = true) (hinit : (Cond.initialized y.cls).before args s = true)
    (hcode : (Cond.codeWith y bytes maxL ret hh).before args s = true) (hy : y.cls ≠ "java/lang/invoke/MethodHandle" ∧ y.cls ≠ "java/lang/invoke/VarHandle")
    {W : Nat} {Pre : Pt → Array Value → Prop} {Post : Pt → Array Value → Option Value → Pt → Prop} (hK : Back l R p e below s args y 3 W Pre Post)
    {g : JFrame} (hg : g.method = m) (hsize : g.locals.size = c.maxLocals) {argsL rest : List Value} (hlen : ∀ sig, parseMethodDescriptor y.desc = some sig → argsL.length = sig.parameters.length)
    (hstack : g.stack = argsL.reverse ++ rest) (hW : 2 * g.monitorRoom + (rest.map fun v => v.category).sum ≤ W) (hdg : decode c.code g.pc = .ok (.invokestatic index, 3))
    (hpre : ∀ vm₁, s.WarmedH vm₁ → Pre ⟨T.setVm vm₁, locs, cells, slots⟩ argsL.toArray) :
    ∃ (v : Option Value) (vm₁ : Vm) (B : Pt), s.WarmedH vm₁ ∧ Stand p l e R s m args below meth c B.U B.locs B.cells B.slots ∧ Post ⟨T.setVm vm₁, locs, cells, slots⟩ argsL.toArray v B ∧
      ∀ target, Steps p.tables e below (B.U.setTop { g with pc := g.pc + 3, stack := v.toList ++ rest }) target → Steps p.tables e below (T.setTop g) target := by
  obtain ⟨mk, methM, cM, hnamed, hmethM, -, -, -, -, -, -, hsigM⟩ := Cond.codeWith_spec hcode
  have hstatic : methM.isStatic = true := Cond.static_spec hnamed hmethM hstat
  obtain ⟨kP, hkP, -⟩ := className_of_methodNamed hnamed
  have hinitP : kP.init = .initialized := Cond.initialized_spec (findClass_of_methodNamed hnamed) hkP hinit
  obtain ⟨vm₁, X₁, hstep₁⟩ := X.invokestatic hexec hown hlink hnamed hmethM hstatic hkP hinitP hy (g := g) hg (argsL := argsL) (rest := rest) (hlen _ hsigM) hstack hdg
  obtain ⟨v, B, X', hpost, hsteps⟩ := hK m meth c ⟨T.setVm vm₁, locs, cells, slots⟩ { g with stack := rest } (.invokestatic index) mk argsL.toArray X₁ hg hsize hdg hW (X₁.named hnamed) (hpre vm₁ X₁.warmed)
  exact ⟨v, vm₁, B, X₁.warmed, X', hpost, fun target h => hstep₁ _ fun acts => by rw [doInvoke_state]; exact hsteps.trans h⟩
section XLW
variable {p : Program} {l : Launch} {e : Env} {R : Room} {s : State} {m : MethodId} {args : Array Value} {below : List Frame} {meth : Method} {c : Code} {Q : State → Prop} {D : va_G} {dA : Nat → ClassId} {B : Nat} {g : Nat → Nat} {A : Nat → Prop} {pc y : Nat} {lv : xL} {st : List Value} {cn qn : Nat} {S : xS} {K : xK} {r : xR}
theorem x_runSW (hX : xX p R s m args meth c D dA 186) (hN : xNw s) (hG : xSg g B s) (hTq : xTq B s) (hAB : ∀ q, A q → B ≤ q) {x : Nat} (hd : decode (xc_b 186) pc = .ok (.invokestatic x, 3)) : ∀ (y2 na : Nat) (as : List Value) (v : Option Value) (S1 : xS) (ls : Array Slot) (H : Heap) (locs : List Loc) (t : List Value), xc_stw x = some (y2, na) → xMW l D dA B g y2 as S v S1 → as.length = na → xc_lev y2 < xc_lev 186 → ls.size = xc_nl 186 → (t.map fun v => v.category).sum ≤ 8 → cn + xc_mc y2 ≤ R.cells → qn + xc_ms y2 ≤ R.slots → xH D dA B g S H → va_S A s.heap H locs → va_Run p l e R s m args below meth c H locs cn qn (xc_mc y2) (xc_ms y2) (F0 m pc ls ((as.map (xv B g)).reverse ++ t.map (xv B g))) (t.map (xv B g)) (xQc D dA B g (xA B S) v S1 (as.map (xv B g)).toArray) (xA B S) := by
  intro y2 na as v S1 ls H locs t ho hM hlen hlev hls hcat hcc hqq hH hS
  obtain ⟨w1, w2, w3, w4, w5⟩ := xh_stw ho
  obtain ⟨q1, q2, q3, q4⟩ := xh_w w1 w2
  obtain ⟨hx, hb, hml, hown, hts, hKK, -⟩ := id hX
  have hownL : s.vm.findClass "SnapForgeLaw" = some m.cls := hown
  have hrooms := x_rooms hX hlev q4
  have hini : (Cond.initialized (xc_y y2).cls).before args s = true := by rw [q1]; exact hts _ xw_iniL
  have hK0 : Back l R p e below s args (xc_y y2) 3 8 (PreOf R (xc_mc y2) (xc_ms y2) (va_Pc (as.map (xv B g)) (fun U => xU D dA B g S U ∧ xTq B U))) (PostOf (xQc D dA B g (xA B S) v S1) (xc_mc y2) (xc_ms y2) (xA B S)) :=
    va_backW (hh := xc_hh y2) (bytes := xc_b y2) (maxL := xc_nl y2) (ret := xc_rt y2) hM (xTq.blind _) rfl rfl hrooms.1 hrooms.2 (fun w hw a' U hW => by
      rcases List.mem_cons.mp hw with h9 | h9
      · rw [h9]
        exact word_at hW (good_of_word (xw_good (xh_codeW w1 w2))) (hts _ (xh_codeW w1 w2))
      · exact word_at hW (good_of_word (xw_good h9)) (hts _ h9)) List.mem_cons_self (fun a' U hW => word_at hW (Or.inl (by first | rfl | simp [Cond.onTables, Cond.keeps, Cond.steady])) hini)
  intro T hT X
  obtain ⟨v2, vm₁, ⟨U', l2, c2, s2⟩, hW₁, X', ⟨g', mk, t2, L, e1, e2, hq, h1, hL, h2, h3⟩, st2⟩ := x_callSW X hx (hh := xc_hh y2) (bytes := xc_b y2) (maxL := xc_nl y2) (ret := xc_rt y2) hownL (hts _ w4) (hts _ w5) hini (hts _ (xh_codeW w1 w2)) (by rw [q1]; decide) hK0 (g := F0 m pc ls ((as.map (xv B g)).reverse ++ t.map (xv B g))) rfl (hls.trans hml.symm) (argsL := as.map (xv B g)) (rest := t.map (xv B g)) (fun sig h => by
      rw [h] at w3
      rw [List.length_map, hlen]
      exact (Option.some.inj w3).symm) rfl (by show 2 * 0 + _ ≤ 8; rw [x_cats]; omega) (by rw [hb]; exact hd)
    (fun vm₁ hW₁ => ⟨hcc, hqq, by
      obtain ⟨k1, k2⟩ := xU_at hX hN hG hAB hH hS (as.map (xv B g)) (T.setVm vm₁) hT hW₁
      refine ⟨k1, k2, hTq.move hW₁ (fun q z1 z2 => ?_)⟩
      show T.heap[q]? = s.heap[q]?
      rw [hT]
      exact hS.2.1 q z1 (fun h => z2 (hAB q h))⟩)
  dsimp only [Pt.U, Pt.locs, Pt.cells, Pt.slots] at X' e1 e2 h1 h2 h3 st2
  subst h1; subst h2; subst h3
  exact ⟨v2, (T.setVm vm₁).calling g' mk (as.map (xv B g)).toArray, t2, U', L, hT, X', hL, e1, e2, hq, st2⟩
/-- a wrapper's call in the law -/
def xclW (k : List Value → Nat → Nat → xS → Option xR) (call : Nat → List Value → xS → Option xR) (o : Option (Nat × Nat)) (c q : Nat) (S : xS) (st : List Value) : Option xR := match o with
  | some (y, na) => if na ≤ st.length then (if xc_lev y < xc_lev 186 then (if c + xc_mc y ≤ xc_mc 186 then (if q + xc_ms y ≤ xc_ms 186 then (if ((st.drop na).map fun v => v.category).sum ≤ 8 then (match call y (st.take na).reverse S with
    | some (.inr v, S1) => k (v.toList ++ st.drop na) (c + xc_mc y) (q + xc_ms y) S1
    | _ => none) else none) else none) else none) else none) else none
  | none => none
def xsld (k : List Value → Option xR) (L : Nat) (xs : Nat → Int32) (st : List Value) : Option xR := match st with
  | .int i :: .ref a :: r => if a = 1000003 then (if i < 0 ∨ L ≤ i.toNatClampNeg then none else k (.int (xs i.toNatClampNeg) :: r)) else none
  | _ => none
def xsln (k : List Value → Option xR) (L : Nat) (st : List Value) : Option xR := match st with
  | .ref a :: r => if a = 1000003 then k (.int (nI L) :: r) else none
  | _ => none
def xstepL (L : Nat) (xs : Nat → Int32) (K : xK) (call : Nat → List Value → xS → Option xR) (pc : Nat) (i : Instr) (lv : xL) (st : List Value) (c q : Nat) (S : xS) : Option xR := match i with
  | .iaload => xsld (fun r => K (pc + 1) lv r c q S) L xs st
  | .arraylength => xsln (fun r => K (pc + 1) lv r c q S) L st
  | .invokestatic x => xclW (fun r c q S => K (pc + 3) lv r c q S) call (xc_stw x) c q S st
  | i => xstep K call 186 pc i lv st c q S
def xlev (L : Nat) (xs : Nat → Int32) : Nat → xK
  | 0 => fun _ _ _ _ _ _ => none
  | n + 1 => fun pc lv st c q S => match xc_code 186 pc with
    | some i => xstepL L xs (xlev L xs n) (fun y2 as S2 => xmeth n y2 as S2) pc i lv st c q S
    | none => none
theorem xs_clW (hX : xX p R s m args meth c D dA 186) (hN : xNw s) (hG : xSg g B s) (hTq : xTq B s) (hA : ∀ q, s.heap.size ≤ q → A q) (hAB : ∀ q, A q → B ≤ q) (hK : xG p l e R s m args below meth c Q D dA B g A (xc_nl 186) K r) {call : Nat → List Value → xS → Option xR} (hcall : ∀ (y2 : Nat) (as : List Value) (S2 : xS) (v : Option Value) (S1 : xS), 173 ≤ y2 → y2 < 186 → call y2 as S2 = some (.inr v, S1) → xMW l D dA B g y2 as S2 v S1) {x : Nat} (hd : decode (xc_b 186) pc = .ok (.invokestatic x, 3))
    (h : xclW (fun t c q S => K (pc + 3) lv t c q S) call (xc_stw x) cn qn S st = some r) : xW p l e R s m args below meth c Q D dA B g A (xc_nl 186) pc lv st cn qn S := by
  have hR : R.cells = xc_mc 186 ∧ R.slots = xc_ms 186 := ⟨hX.2.2.2.2.2.2.2.2.2.2.2.2.1, hX.2.2.2.2.2.2.2.2.2.2.2.2.2⟩
  unfold xclW at h
  split at h
  · next y2 na ho =>
    obtain ⟨w1, w2, -⟩ := xh_stw ho
    split at h
    · next c1 =>
      split at h
      · next c2 =>
        split at h
        · next c3 =>
          split at h
          · next c4 =>
            split at h
            · next c5 =>
              split at h
              · next v S1 hc =>
                intro ls H locs hl hH hS hAd
                have hlen : (st.take na).reverse.length = na := by
                  rw [List.length_reverse, List.length_take]
                  omega
                have hrun := x_runSW (e := e) (below := below) (l := l) (cn := cn) (qn := qn) (S := S) hX hN hG hTq hAB hd y2 na (st.take na).reverse v S1 ls H locs (st.drop na) ho (hcall y2 _ S v S1 w1 w2 hc) hlen c2 hl.1 c5 (by rw [hR.1]; exact c3) (by rw [hR.2]; exact c4) hH hS
                rw [x_stk B g st na]
                refine x_back hrun hS (xA_in hA hH hS hAd) (xA_in hA hH hS hAd) (fun H1 locs1 hH1 hAd1 hS1 => ?_)
                have k9 := hK _ _ _ _ _ _ h ls H1 locs1 hl hH1 hS1 hAd1
                have e9 : (v.toList ++ st.drop na).map (xv B g) = (v.map (xv B g)).toList ++ (st.drop na).map (xv B g) := by
                  rw [List.map_append]
                  cases v <;> rfl
                rw [e9] at k9
                exact k9
              · cases h
            · cases h
          · cases h
        · cases h
      · cases h
    · cases h
  · cases h
end XLW
def xS0 : xS := (0, fun _ => none, fun _ _ => 0, fun _ _ => 0, fun _ _ => none)
theorem xc_mcL : xc_mc 186 = 601024 := by decide +kernel
theorem xc_msL : xc_ms 186 = 7293034 := by decide +kernel
theorem xc_bL : xc_b 186 = code := rfl
set_option maxHeartbeats 1000000 in
/-- what the law's evaluator comes to, the law comes to -/
theorem xsoundL {p : Program} {e : Env} {s : State} {m : MethodId} {below : List Frame} {meth : Method} {c : Code} (l : Launch) (hfl : l.stackTraces = false) {b L : Nat} {xs : Nat → Int32} (C0 : lw_At p s m meth c b L xs) {D : va_G} {dA : Nat → ClassId} {g : Nat → Nat} (hKK : va_K D xc_cl (xc_tys dA) s) (hN : xNw s) (hG : xSg g s.heap.size s) (hg : g 3 = b) (hTq : xTq s.heap.size s) {n : Nat} {S1 : xS} (h : xlev L xs n 0 [(0, .ref 1000003)] [] 0 0 xS0 = some (.inr (some (.int 1)), S1)) : W p l e room_1 s m #[Value.ref b] below meth c s.heap [] 0 0 (lw_Z below #[Value.ref b] s) (entryFrame m ([Value.ref b] : List Value).toArray 8) := by
  obtain ⟨hx, hb, hr, hml, hown, hts, hXs, hbl, hlk, -⟩ := C0
  have hX : xX p room_1 s m #[Value.ref b] meth c D dA 186 := ⟨hx, hb, hml, hown, fun w hw => hts w (xw_sub hw), hKK, hr, hlk, (fun hk => absurd hk (by decide)), (by decide), (by decide), (by decide), rfl, rfl⟩
  have key : ∀ k, xG p l e room_1 s m #[Value.ref b] below meth c (lw_Z below #[Value.ref b] s) D dA s.heap.size g (fun q => s.heap.size ≤ q) (xc_nl 186) (xlev L xs k) (.inr (some (.int 1)), S1) := by
    intro k
    induction k with
    | zero =>
      intro pc lv st cn qn S2 h2
      cases h2
    | succ k ihk =>
      intro pc lv st cn qn S2 h2
      unfold xlev at h2
      split at h2
      · next i hc =>
        unfold xstepL at h2
        split at h2
        · have hd := xh_dec1 hc (n := 1) rfl (by decide)
          unfold xsld at h2
          split at h2
          · next i a t =>
            split at h2
            · next ha =>
              split at h2
              · cases h2
              · next hin =>
                intro ls H locs hl hH hS hAd
                have e1 : (Value.int i :: Value.ref a :: t).map (xv s.heap.size g) = .int i :: .ref b :: t.map (xv s.heap.size g) := by
                  rw [ha, ← hg]
                  rfl
                rw [e1]
                exact va_sld hx hb hXs hbl (fun z => by omega) hS hin hd (ihk _ _ _ _ _ _ h2 ls H locs hl hH hS hAd)
            · cases h2
          · cases h2
        · have hd := xh_dec1 hc (n := 1) rfl (by decide)
          unfold xsln at h2
          split at h2
          · next a t =>
            split at h2
            · next ha =>
              intro ls H locs hl hH hS hAd
              have e1 : (Value.ref a :: t).map (xv s.heap.size g) = .ref b :: t.map (xv s.heap.size g) := by
                rw [ha, ← hg]
                rfl
              rw [e1]
              exact va_slen hx hb hXs hbl (fun z => by omega) hS hd (ihk _ _ _ _ _ _ h2 ls H locs hl hH hS hAd)
            · cases h2
          · cases h2
        · next x =>
          exact xs_clW hX hN hG hTq (fun _ q => q) (fun _ q => q) ihk (fun y2 as S3 v S4 w1 w2 h3 => xsoundW l hfl D dA _ g w1 w2 h3) (xh_dec1 hc rfl (by decide)) h2
        · refine xstep_ok hX hN hG (fun _ q => q) (fun _ q => q) ihk (fun y2 as2 S3 v2 S4 hy2 h3 => xsound l D dA _ g k y2 as2 S3 v2 S4 hy2 h3)
            (fun x o hcx ho hcs h3 => ?_) (fun hc1 c1 c2 h3 => ?_) (fun _ _ _ h3 => ?_) (fun _ _ _ h3 => ?_) (fun _ _ _ h3 => ?_) (fun o x y2 na ex2 t S3 _ _ ht => by cases ht) hc h2
          · unfold xthr at h3
            repeat' split at h3
            all_goals cases h3
          · unfold xret at h3
            split at h3
            · next w =>
              rw [if_neg (by decide), if_pos (by decide)] at h3
              split at h3
              · cases h3
                intro ls H locs hl hH hS hAd
                refine va_forget hS.2.2 ?_
                exact W.widen (by rw [xc_mcL] at c1; exact c1) (by rw [xc_msL] at c2; exact c2) (lw_ret hx hb hr hlk (by have h9 := xh_dec1 hc1 (n := 1) rfl (by decide); rw [xc_bL] at h9; exact h9))
              · cases h3
            · cases h3
          · unfold xrel at h3
            repeat' split at h3
            all_goals cases h3
          · unfold xrea at h3
            repeat' split at h3
            all_goals cases h3
          · unfold xrev at h3
            repeat' split at h3
            all_goals cases h3
      · cases h2
  have hl := lv_entry ([Value.ref b]) (n := 8) (by simp [lg_sl, Value.category])
  rw [lg_entry_eq]
  refine key n 0 _ [] 0 0 xS0 h _ s.heap [] ?_ ⟨rfl, fun a t ht => by cases ht⟩ va_S.rf (fun a ha => by cases ha)
  have e2 : ([(0, Value.ref 1000003)] : xL).map (fun q => (q.1, xv s.heap.size g q.2)) = lv_args 0 [Value.ref b] := by
    rw [← hg]
    rfl
  rw [e2]
  exact hl
end
section
-- WHAT HOLDS AT THE LAW'S ENTRY
def xc_ows : List (List Nat) := [[13, 410, 419, 424, 427, 429, 411, 412, 27, 28, 413, 418, 425, 441, 400, 442, 402, 443, 404, 414, 415, 416, 417, 406, 431, 432, 433, 434, 391, 434, 435, 436, 437, 393, 437, 438, 439, 411, 395, 430, 389, 390, 397, 398, 399, 401, 403, 405, 9999, 9999, 409, 408, 407], [13, 410, 419, 424, 427, 429, 411, 412, 27, 28, 413, 418, 425, 441, 400, 442, 402, 443, 404, 414, 415, 416, 417, 406, 481, 482, 483, 434, 391, 434, 435, 436, 437, 393, 437, 438, 439, 411, 395, 480, 472, 473, 474, 421, 475, 476, 477, 478, 9999, 9999, 409, 408, 479], [13, 410, 419, 424, 427, 429, 411, 412, 27, 28, 413, 418, 425, 441, 400, 442, 402, 443, 404, 414, 415, 416, 417, 406, 749, 750, 751, 434, 391, 434, 435, 436, 437, 393, 437, 438, 439, 411, 395, 748, 740, 741, 742, 422, 743, 744, 745, 746, 9999, 9999, 409, 408, 747], [13, 410, 419, 424, 427, 429, 411, 412, 27, 28, 413, 418, 425, 441, 400, 442, 402, 443, 404, 414, 415, 416, 417, 406, 773, 774, 775, 434, 391, 434, 435, 436, 437, 393, 437, 438, 439, 411, 395, 772, 764, 765, 766, 423, 767, 768, 769, 770, 9999, 9999, 409, 408, 771]]
def xf_ow (e : Nat) : Bool := (List.range 60).all (fun k => match (Bundle.ownAtoms0 "SnapForge" (xc_ic e) (xc_en e) xc_up)[k]? with
  | some w => !w.onTables || decide (tables_1[(xc_ows.getD e []).getD k 9999]? = some w)
  | none => true)
set_option maxRecDepth 100000 in
theorem xf_ow_ok : (List.range 4).all xf_ow = true := by decide +kernel
theorem xc_owl (e : Nat) : (Bundle.ownAtoms0 "SnapForge" (xc_ic e) (xc_en e) xc_up).length = 53 := rfl
theorem xt_in {i : Nat} {w : Cond} (h : tables_1[i]? = some w) : w ∈ lw_tbl := List.mem_append_right _ (List.mem_of_getElem? h)
theorem xst_th {s : State} {args : Array Value} (hts : ∀ w ∈ lw_tbl, w.before args s = true) : ∀ e, e < 4 → ∀ w ∈ Bundle.ownAtoms0 "SnapForge" (xc_ic e) (xc_en e) xc_up, w.onTables = true → w.before #[] s = true := by
  intro e he w hw ht
  obtain ⟨k, hk, hkw⟩ := List.getElem_of_mem hw
  have h1 := List.all_eq_true.mp xf_ow_ok e (List.mem_range.mpr he)
  unfold xf_ow at h1
  have hk2 := hk
  rw [xc_owl] at hk2
  have h2 := List.all_eq_true.mp h1 k (List.mem_range.mpr (by omega))
  rw [List.getElem?_eq_getElem hk, hkw] at h2
  simp only [ht, Bool.not_true, Bool.false_or, decide_eq_true_eq] at h2
  exact va_tabs ht rfl (hts w (xt_in h2))
set_option maxRecDepth 100000 in
theorem xw_ls1 : Cond.laysStatic Bundle.tN "UNASSIGNED_STACK" Bundle.steD ∈ lw_tbl := xt_in (i := 415) (by decide +kernel)
set_option maxRecDepth 100000 in
theorem xw_ls2 : Cond.laysStatic Bundle.tN "SUPPRESSED_SENTINEL" Bundle.listD ∈ lw_tbl := xt_in (i := 417) (by decide +kernel)
set_option maxRecDepth 100000 in
theorem xst_nc {s : State} {args : Array Value} (hs : (Jvm.Cond.and given_1 narrow_1).before args s = true) : ∀ e1 e2, e1 < 4 → e2 < 4 → e1 ≠ e2 → va_Nc (xc_en e1) (xc_en e2) s := by
  have h := flat_of_before _ hs
  intro e1 e2 h1 h2 h3
  match e1, e2, h1, h2, h3 with
  | 0, 0, _, _, h3 => exact absurd rfl h3
  | 0, 1, _, _, _ => exact va_Nc.of (h (.not (.castable "java/lang/IllegalArgumentException" "java/lang/IllegalStateException")) (by decide +kernel))
  | 0, 2, _, _, _ => exact va_Nc.of (h (.not (.castable "java/lang/IllegalArgumentException" "java/lang/IndexOutOfBoundsException")) (by decide +kernel))
  | 0, 3, _, _, _ => exact va_Nc.of (h (.not (.castable "java/lang/IllegalArgumentException" "java/lang/UnsupportedOperationException")) (by decide +kernel))
  | 1, 0, _, _, _ => exact va_Nc.of (h (.not (.castable "java/lang/IllegalStateException" "java/lang/IllegalArgumentException")) (by decide +kernel))
  | 1, 1, _, _, h3 => exact absurd rfl h3
  | 1, 2, _, _, _ => exact va_Nc.of (h (.not (.castable "java/lang/IllegalStateException" "java/lang/IndexOutOfBoundsException")) (by decide +kernel))
  | 1, 3, _, _, _ => exact va_Nc.of (h (.not (.castable "java/lang/IllegalStateException" "java/lang/UnsupportedOperationException")) (by decide +kernel))
  | 2, 0, _, _, _ => exact va_Nc.of (h (.not (.castable "java/lang/IndexOutOfBoundsException" "java/lang/IllegalArgumentException")) (by decide +kernel))
  | 2, 1, _, _, _ => exact va_Nc.of (h (.not (.castable "java/lang/IndexOutOfBoundsException" "java/lang/IllegalStateException")) (by decide +kernel))
  | 2, 2, _, _, h3 => exact absurd rfl h3
  | 2, 3, _, _, _ => exact va_Nc.of (h (.not (.castable "java/lang/IndexOutOfBoundsException" "java/lang/UnsupportedOperationException")) (by decide +kernel))
  | 3, 0, _, _, _ => exact va_Nc.of (h (.not (.castable "java/lang/UnsupportedOperationException" "java/lang/IllegalArgumentException")) (by decide +kernel))
  | 3, 1, _, _, _ => exact va_Nc.of (h (.not (.castable "java/lang/UnsupportedOperationException" "java/lang/IllegalStateException")) (by decide +kernel))
  | 3, 2, _, _, _ => exact va_Nc.of (h (.not (.castable "java/lang/UnsupportedOperationException" "java/lang/IndexOutOfBoundsException")) (by decide +kernel))
  | 3, 3, _, _, h3 => exact absurd rfl h3
  | n + 4, _, h1, _, _ => omega
  | _, n + 4, _, h2, _ => omega
theorem xst_tq {s : State} {args : Array Value} (hts : ∀ w ∈ lw_tbl, w.before args s = true) (hs : (Jvm.Cond.and given_1 narrow_1).before args s = true) : xTq s.heap.size s := by
  have h := flat_of_before _ hs
  exact ⟨xst_th hts, xLs.of (hts _ xw_ls1) (h _ (by decide +kernel)) rfl, xLs.of (hts _ xw_ls2) (h _ (by decide +kernel)) rfl, xst_nc hs⟩
set_option maxRecDepth 100000 in
theorem xw_ao1 : Cond.arrayOver (.object "SnapForge$Strand") ∈ lw_tbl := xt_in (i := 84) (by decide +kernel)
set_option maxRecDepth 100000 in
theorem xw_ao2 : Cond.arrayOver (.object "SnapForge$Frame") ∈ lw_tbl := xt_in (i := 164) (by decide +kernel)
set_option maxRecDepth 100000 in
theorem xw_fn : Cond.fieldLinkNest "SnapForge$Program" 39 "SnapForge" "TAKES" "[I" "SnapForge" ∈ lw_tbl := xt_in (i := 573) (by decide +kernel)
theorem xst_nw {s : State} {args : Array Value} (hts : ∀ w ∈ lw_tbl, w.before args s = true) : xNw s := by
  refine ⟨va_AO.of (hts _ xw_ao1), va_AO.of (hts _ xw_ao2), va_Nw.of rfl (hts _ xw_fn), fun own e he hb => ?_⟩
  have hown : own < 13 := by
    rcases Nat.lt_or_ge own 13 with q | q
    · exact q
    · rw [List.getD_eq_getElem?_getD, List.getElem?_eq_none (by exact q)] at he
      simp at he
  have h1 := List.all_eq_true.mp (List.all_eq_true.mp xf_spc_ok own (List.mem_range.mpr hown)) e he
  unfold xf_spc at h1
  rw [if_pos hb] at h1
  simp only [Bool.and_eq_true, decide_eq_true_eq] at h1
  exact va_Nw.of rfl (hts _ (xt_in h1.2))
theorem xst_sta {s : State} {args : Array Value} (hts : ∀ w ∈ lw_tbl, w.before args s = true) (hs : (Jvm.Cond.and given_1 narrow_1).before args s = true) (n : String) (L : List Int32) (hN : L.length < 2 ^ 31) (hl : Cond.laysStatic "SnapForge" n "[I" ∈ lw_tbl) (ha : (Cond.arrayOf (.static "SnapForge" n "[I") .int).before args s = true) (hlen : (Cond.eq (.length (.static "SnapForge" n "[I")) (.int (Int32.ofNat L.length))).before args s = true) (hel : ∀ j : Nat, j < L.length → (Cond.eq (.elem (.static "SnapForge" n "[I") (.int (Int32.ofNat j))) (.int (L.getD j 0))).before args s = true) (hini : Cond.initialized "SnapForge" ∈ lw_tbl) : ∃ t : Nat, va_Z "SnapForge" n "[I" (.ref t) (fun q => s.heap.size ≤ q) s s.heap ∧ va_T .int t L.length (fun k => .int (L.getD k 0)) (fun q => s.heap.size ≤ q) s s.heap := by
  have hA : ∀ a : Nat, a < s.heap.size → ¬ (fun q => s.heap.size ≤ q) a := fun a h => Nat.not_le.mpr h
  obtain ⟨t, h1, h2⟩ := va_Tof (A := fun q => s.heap.size ≤ q) (f := fun k => .int (L.getD k 0)) hN ha (va_eqt hlen) (fun j hj => va_eqt (hel j hj)) hA
  exact ⟨t, va_Zref (hts _ hl) (hts _ hini) h1 hA, h2⟩
set_option maxRecDepth 100000 in
theorem xw_sl0 : Cond.laysStatic "SnapForge" "TOP_A" "[I" ∈ lw_tbl := xt_in (i := 465) (by decide +kernel)
set_option maxRecDepth 100000 in
theorem xw_el0 : (List.range 28).all (fun j => decide (Cond.eq (.elem (.static "SnapForge" "TOP_A" "[I") (.int (Int32.ofNat j))) (.int ((xc_ros.getD 0 []).getD j 0)) ∈ flatC (Jvm.Cond.and given_1 narrow_1))) = true := by decide +kernel
set_option maxRecDepth 100000 in
theorem xw_sl1 : Cond.laysStatic "SnapForge" "TOP_B" "[I" ∈ lw_tbl := xt_in (i := 470) (by decide +kernel)
set_option maxRecDepth 100000 in
theorem xw_el1 : (List.range 28).all (fun j => decide (Cond.eq (.elem (.static "SnapForge" "TOP_B" "[I") (.int (Int32.ofNat j))) (.int ((xc_ros.getD 1 []).getD j 0)) ∈ flatC (Jvm.Cond.and given_1 narrow_1))) = true := by decide +kernel
set_option maxRecDepth 100000 in
theorem xw_sl2 : Cond.laysStatic "SnapForge" "TAKES" "[I" ∈ lw_tbl := xt_in (i := 574) (by decide +kernel)
set_option maxRecDepth 100000 in
theorem xw_el2 : (List.range 28).all (fun j => decide (Cond.eq (.elem (.static "SnapForge" "TAKES" "[I") (.int (Int32.ofNat j))) (.int ((xc_ros.getD 2 []).getD j 0)) ∈ flatC (Jvm.Cond.and given_1 narrow_1))) = true := by decide +kernel
set_option maxRecDepth 100000 in
theorem xw_iniS : Cond.initialized "SnapForge" ∈ lw_tbl := xt_in (i := 1) (by decide +kernel)
theorem xst_sg {s : State} {args : Array Value} (hts : ∀ w ∈ lw_tbl, w.before args s = true) (hs : (Jvm.Cond.and given_1 narrow_1).before args s = true) (b : Nat) : ∃ g : Nat → Nat, xSg g s.heap.size s ∧ g 3 = b := by
  have h := flat_of_before _ hs
  obtain ⟨t0, z0, w0⟩ := xst_sta hts hs "TOP_A" (xc_ros.getD 0 []) (by decide) xw_sl0 (h _ (by decide +kernel)) (h _ (by decide +kernel)) (fun j hj => h _ (of_decide_eq_true (List.all_eq_true.mp xw_el0 j (List.mem_range.mpr hj)))) xw_iniS
  obtain ⟨t1, z1, w1⟩ := xst_sta hts hs "TOP_B" (xc_ros.getD 1 []) (by decide) xw_sl1 (h _ (by decide +kernel)) (h _ (by decide +kernel)) (fun j hj => h _ (of_decide_eq_true (List.all_eq_true.mp xw_el1 j (List.mem_range.mpr hj)))) xw_iniS
  obtain ⟨t2, z2, w2⟩ := xst_sta hts hs "TAKES" (xc_ros.getD 2 []) (by decide) xw_sl2 (h _ (by decide +kernel)) (h _ (by decide +kernel)) (fun j hj => h _ (of_decide_eq_true (List.all_eq_true.mp xw_el2 j (List.mem_range.mpr hj)))) xw_iniS
  refine ⟨fun j => if j = 0 then t0 else if j = 1 then t1 else if j = 2 then t2 else b, ⟨fun j hj => ?_, fun j L hL => ?_⟩, rfl⟩
  · match j, hj with
    | 0, _ => exact z0
    | 1, _ => exact z1
    | 2, _ => exact z2
  · match j, hL with
    | 0, hL => cases hL; exact w0
    | 1, hL => cases hL; exact w1
    | 2, hL => cases hL; exact w2
theorem xst_arr {s : State} {ty : FieldType} {args : Array Value} (h : (Cond.arrayClass ty).before args s = true) : ∃ cA : ClassId, ArrOfT s cA ty ∧ s.vm.findClass ("[" ++ ty.toString) = some cA := by
  obtain ⟨c, k, comp, h1, h2, h3⟩ := Cond.arrayClass_spec h
  exact ⟨c, fun n z => ⟨fun k h => (by cases h), k, h2, comp, h3⟩, h1⟩
theorem xst_arro {s : State} {C : String} {args : Array Value} (h : (Cond.arrayOver (.object C)).before args s = true) : ∃ cA : ClassId, ArrOfT s cA (.object C) ∧ va_RA s cA (.object C) := by
  obtain ⟨comp, c, k, h1, h2, h3, h4, h5⟩ := Cond.arrayOver_spec h
  exact ⟨c, fun n z => ⟨fun k h => (by cases h), k, h3, comp, h4⟩, k, comp, h3, h4, h1, h5⟩
theorem xst_k {s : State} {args : Array Value} (hts : ∀ w ∈ lw_tbl, w.before args s = true) : ∃ (D : va_G) (dA : Nat → ClassId), va_K D xc_cl (xc_tys dA) s := by
  have hc : ∀ ci : Nat, ∃ (cC : ClassId) (iS : Nat → Nat), ∀ q : vw_C, xc_cl[ci]? = some q → u_Kn s q.1 q.2.1 q.2.2 cC iS := by
    intro ci
    cases hq : xc_cl[ci]? with
    | none => exact ⟨0, fun _ => 0, fun q h => by cases h⟩
    | some q =>
      obtain ⟨C, T, N⟩ := q
      obtain ⟨Y, -, -, h3, -, h5, -⟩ := xh_cls hq
      obtain ⟨cC, iS, hK⟩ := u_known (C := C) (T := T) (N := N) (n := N) hts (fun w hw => xw_sub (h5 w hw)) (hts _ (xw_sub h3))
      exact ⟨cC, iS, fun q h => by cases h; exact hK⟩
  obtain ⟨a0, p0, q0⟩ := xst_arr (hts _ (xw_sub xw_ai))
  obtain ⟨a1, p1, q1⟩ := xst_arr (hts _ (xw_sub xw_al))
  obtain ⟨a2, p2, q2⟩ := xst_arr (hts _ (xw_sub xw_az))
  obtain ⟨a3, p3, q3⟩ := xst_arro (hts _ xw_ao1)
  obtain ⟨a4, p4, q4⟩ := xst_arro (hts _ xw_ao2)
  refine ⟨(fun ci => (hc ci).choose, fun ci => (hc ci).choose_spec.choose), fun j => if j = 0 then a0 else if j = 1 then a1 else if j = 2 then a2 else if j = 3 then a3 else a4, fun c q hq => (hc c).choose_spec.choose_spec q hq, fun k q hk => ?_⟩
  match k, hk with
  | 0, hk => cases hk; exact ⟨p0, q0⟩
  | 1, hk => cases hk; exact ⟨p1, q1⟩
  | 2, hk => cases hk; exact ⟨p2, q2⟩
  | 3, hk => cases hk; exact ⟨p3, q3⟩
  | 4, hk => cases hk; exact ⟨p4, q4⟩
  | k + 5, hk => simp [xc_tys] at hk
/-- THE LAW FROM ITS ENTRY, out of a run of its evaluator -/
theorem xstart {p : Program} {e : Env} {s : State} {m : MethodId} {below : List Frame} {meth : Method} {c : Code} (l : Launch) (hfl : l.stackTraces = false) {b L : Nat} {xs : Nat → Int32} (C0 : lw_At p s m meth c b L xs) (hrun : ∃ (n : Nat) (S1 : xS), xlev L xs n 0 [(0, .ref 1000003)] [] 0 0 xS0 = some (.inr (some (.int 1)), S1)) : W p l e room_1 s m #[Value.ref b] below meth c s.heap [] 0 0 (lw_Z below #[Value.ref b] s) (entryFrame m ([Value.ref b] : List Value).toArray 8) := by
  obtain ⟨hx, hb, hr, hml, hown, hts, hXs, hbl, hlk, hgv⟩ := id C0
  obtain ⟨D, dA, hK⟩ := xst_k hts
  obtain ⟨g, hG, hg⟩ := xst_sg hts hgv b
  obtain ⟨n, S1, hn⟩ := hrun
  exact xsoundL l hfl C0 hK (xst_nw hts) hG hg (xst_tq hts hgv) hn
end
section
-- THE MEMORY BY NUMBERS: ints as naturals, so that places are places
abbrev xQ : Type := (Nat → Nat → Nat) × (Nat → Nat → Int64)
def xm (z : Nat) (T : Nat → Option xT) (R : Nat → Nat → Option Nat) (A : xQ) : xS := (z, T, fun a k => nI (A.1 a k), A.2, R)
def xsI (A : xQ) (a k v : Nat) : xQ := (x2 A.1 a k v, A.2)
def xsJ (A : xQ) (a k : Nat) (v : Int64) : xQ := (A.1, x2 A.2 a k v)
theorem nI_all (x : Int32) : x = nI x.toUInt32.toNat := by
  unfold nI
  apply Int32.toBitVec.inj
  apply BitVec.eq_of_toNat_eq
  simp [Int32.toBitVec_ofNat]
theorem nI_lt32 (x : Int32) : x.toUInt32.toNat < 2 ^ 32 := UInt32.toNat_lt _
theorem nI_ex (x : Int32) : ∃ n, n < 2 ^ 32 ∧ x = nI n := ⟨_, nI_lt32 x, nI_all x⟩
theorem xm_any (S : xS) : S = xm (xz S) (xt S) (xr S) (fun a k => (xi S a k).toUInt32.toNat, xj S) := by
  obtain ⟨z, T, i, j, R⟩ := S
  simp only [xm, xz, xt, xr, xi, xj, ← nI_all]
theorem xm_i (z : Nat) (T : Nat → Option xT) (R : Nat → Nat → Option Nat) (A : xQ) (a k v : Nat) : xsi (xm z T R A) a k (nI v) = xm z T R (xsI A a k v) := by
  simp only [xsi, xm, xsI, xz, xt, xi, xj, xr]
  congr 3
  funext b j
  unfold x2
  split <;> (try split) <;> rfl
theorem xm_j (z : Nat) (T : Nat → Option xT) (R : Nat → Nat → Option Nat) (A : xQ) (a k : Nat) (v : Int64) : xsj (xm z T R A) a k v = xm z T R (xsJ A a k v) := rfl
theorem nI_mul (a b : Nat) : nI a * nI b = nI (a * b) := (Int32.ofNat_mul a b).symm
theorem nI_sub {a b : Nat} (h : b ≤ a) : nI a - nI b = nI (a - b) := by
  have h1 : nI a = nI (a - b) + nI b := by rw [nI_add]; congr 1; omega
  rw [h1, Int32.add_sub_cancel]
theorem nI_u (n : Nat) : (nI n).toUInt32.toNat = n % 2 ^ 32 := by
  unfold nI
  show (Int32.ofNat n).toBitVec.toNat = _
  rw [Int32.toBitVec_ofNat']
  simp
theorem nI_eq32 {a b : Nat} (ha : a < 2 ^ 32) (hb : b < 2 ^ 32) : nI a = nI b ↔ a = b := by
  constructor
  · intro h
    have := congrArg (fun x : Int32 => x.toUInt32.toNat) h
    simp only [nI_u] at this
    omega
  · intro h; rw [h]
theorem nI_eq0 {a : Nat} (ha : a < 2 ^ 32) : nI a = 0 ↔ a = 0 := by rw [← nI_0]; exact nI_eq32 ha (by decide)
theorem nI_neg {a : Nat} (ha : a < 2 ^ 32) : nI a < 0 ↔ 2 ^ 31 ≤ a := by
  constructor
  · intro h
    rcases Nat.lt_or_ge a (2 ^ 31) with q | q
    · exact absurd h (nI_pos q)
    · exact q
  · intro h
    have e1 : (nI a).toInt = (a : Int) - 2 ^ 32 := by
      unfold nI
      rw [Int32.toInt_ofNat']
      have e0 : ((Int32.size : Nat) : Int) = 4294967296 := rfl
      simp only [Int.bmod, e0]
      omega
    rw [Int32.lt_iff_toInt_lt, e1]
    show _ < (0 : Int)
    omega
theorem nI_mod (a : Nat) : nI (a % 2 ^ 32) = nI a := by
  have h1 := nI_all (nI a)
  rw [nI_u] at h1
  exact h1.symm
theorem nI_and255 (a : Nat) : nI a &&& nI 255 = nI (a % 256) := by
  apply Int32.toBitVec.inj
  apply BitVec.eq_of_toNat_eq
  unfold nI
  rw [Int32.toBitVec_and, Int32.toBitVec_ofNat', Int32.toBitVec_ofNat', Int32.toBitVec_ofNat', BitVec.toNat_and]
  simp only [BitVec.toNat_ofNat]
  rw [show (255 % 2 ^ 32 : Nat) = 2 ^ 8 - 1 from rfl, Nat.and_two_pow_sub_one_eq_mod]
  omega
/-- from this point it comes to something with P -/
def xP (y pc : Nat) (lv : xL) (st : List Value) (c q : Nat) (S : xS) (P : xR → Prop) : Prop := ∃ r, xE y pc lv st c q S r ∧ P r
theorem xE_weak {y pc : Nat} {lv lv2 : xL} {st : List Value} {c q : Nat} {S : xS} {r : xR} (hle : xle lv lv2) (hnd : xnd lv) (h : xE y pc lv st c q S r) : xE y pc lv2 st c q S r := by
  obtain ⟨n, hn⟩ := h
  exact ⟨n, xev_weak n y pc lv lv2 st c q S r hle hnd hn⟩
section PW
variable {y pc : Nat} {lv : xL} {st : List Value} {c q : Nat} {S : xS} {P : xR → Prop} {z : Nat} {T : Nat → Option xT} {R : Nat → Nat → Option Nat} {A : xQ}
theorem xF_p {as : List Value} (hl : (lg_sl as).length ≤ xc_nl y) (h : xP y 0 (lv_args 0 as) [] 0 0 S P) : ∃ r, xF y as S r ∧ P r := by
  obtain ⟨r, h1, h2⟩ := h
  exact ⟨r, xF_of hl h1, h2⟩
theorem xp_weak {lv2 : xL} (lv : xL) (hle : xle lv lv2) (hnd : xnd lv) (h : xP y pc lv st c q S P) : xP y pc lv2 st c q S P := by
  obtain ⟨r, h1, h2⟩ := h
  exact ⟨r, xE_weak hle hnd h1, h2⟩

theorem xp_iconst {k : Int} {n : Nat} (hc : xc_code y pc = some (.iconst k)) (hv : Int32.ofInt k = nI n) (h : xP y (pc + 1) lv (.int (nI n) :: st) c q (S) P) : xP y pc lv (st) c q (S) P := by
  obtain ⟨r, h1, h2⟩ := h
  exact ⟨r, xe_iconst hc hv h1, h2⟩
theorem xp_bipush {k : Int} {n : Nat} (hc : xc_code y pc = some (.bipush k)) (hv : (Int8.ofInt k).toInt32 = nI n) (h : xP y (pc + 2) lv (.int (nI n) :: st) c q (S) P) : xP y pc lv (st) c q (S) P := by
  obtain ⟨r, h1, h2⟩ := h
  exact ⟨r, xe_bipush hc hv h1, h2⟩
theorem xp_sipush {k : Int} {n : Nat} (hc : xc_code y pc = some (.sipush k)) (hv : (Int16.ofInt k).toInt32 = nI n) (h : xP y (pc + 3) lv (.int (nI n) :: st) c q (S) P) : xP y pc lv (st) c q (S) P := by
  obtain ⟨r, h1, h2⟩ := h
  exact ⟨r, xe_sipush hc hv h1, h2⟩
theorem xp_lconst {k : Fin 2} {v : Int64} (hc : xc_code y pc = some (.lconst k)) (hv : Int64.ofNat (k : Nat) = v) (h : xP y (pc + 1) lv (.long v :: st) c q (S) P) : xP y pc lv (st) c q (S) P := by
  obtain ⟨r, h1, h2⟩ := h
  exact ⟨r, xe_lconst hc hv h1, h2⟩
theorem xp_ldc2 {k : Nat} {v : Int64} (hc : xc_code y pc = some (.ldc2_w k)) (hv : xc_long (xc_own y) k = some v) (h : xP y (pc + 3) lv (.long v :: st) c q (S) P) : xP y pc lv (st) c q (S) P := by
  obtain ⟨r, h1, h2⟩ := h
  exact ⟨r, xe_ldc2 hc hv h1, h2⟩
theorem xp_iload_n {k : Fin 4} {x : Int32} (hc : xc_code y pc = some (.iload_n k)) (hl : xld lv k = some (.int x)) (h : xP y (pc + 1) lv (.int x :: st) c q (S) P) : xP y pc lv (st) c q (S) P := by
  obtain ⟨r, h1, h2⟩ := h
  exact ⟨r, xe_iload_n hc hl h1, h2⟩
theorem xp_iload {k : Nat} {x : Int32} (hc : xc_code y pc = some (.iload k)) (hl : xld lv k = some (.int x)) (h : xP y (pc + 2) lv (.int x :: st) c q (S) P) : xP y pc lv (st) c q (S) P := by
  obtain ⟨r, h1, h2⟩ := h
  exact ⟨r, xe_iload hc hl h1, h2⟩
theorem xp_istore_n {k : Fin 4} {x : Int32} (hc : xc_code y pc = some (.istore_n k)) (hk : (k : Nat) < xc_nl y) (h : xP y (pc + 1) (xst1 lv k (.int x)) (st) c q (S) P) : xP y pc lv (.int x :: st) c q (S) P := by
  obtain ⟨r, h1, h2⟩ := h
  exact ⟨r, xe_istore_n hc hk rfl h1, h2⟩
theorem xp_istore {k : Nat} {x : Int32} (hc : xc_code y pc = some (.istore k)) (hk : k < xc_nl y) (h : xP y (pc + 2) (xst1 lv k (.int x)) (st) c q (S) P) : xP y pc lv (.int x :: st) c q (S) P := by
  obtain ⟨r, h1, h2⟩ := h
  exact ⟨r, xe_istore hc hk rfl h1, h2⟩
theorem xp_lload_n {k : Fin 4} {x : Int64} (hc : xc_code y pc = some (.lload_n k)) (hl : xld lv k = some (.long x)) (h : xP y (pc + 1) lv (.long x :: st) c q (S) P) : xP y pc lv (st) c q (S) P := by
  obtain ⟨r, h1, h2⟩ := h
  exact ⟨r, xe_lload_n hc hl h1, h2⟩
theorem xp_lload {k : Nat} {x : Int64} (hc : xc_code y pc = some (.lload k)) (hl : xld lv k = some (.long x)) (h : xP y (pc + 2) lv (.long x :: st) c q (S) P) : xP y pc lv (st) c q (S) P := by
  obtain ⟨r, h1, h2⟩ := h
  exact ⟨r, xe_lload hc hl h1, h2⟩
theorem xp_lstore_n {k : Fin 4} {x : Int64} (hc : xc_code y pc = some (.lstore_n k)) (hk : (k : Nat) + 1 < xc_nl y) (h : xP y (pc + 1) (xst2 lv k (.long x)) (st) c q (S) P) : xP y pc lv (.long x :: st) c q (S) P := by
  obtain ⟨r, h1, h2⟩ := h
  exact ⟨r, xe_lstore_n hc hk rfl h1, h2⟩
theorem xp_lstore {k : Nat} {x : Int64} (hc : xc_code y pc = some (.lstore k)) (hk : k + 1 < xc_nl y) (h : xP y (pc + 2) (xst2 lv k (.long x)) (st) c q (S) P) : xP y pc lv (.long x :: st) c q (S) P := by
  obtain ⟨r, h1, h2⟩ := h
  exact ⟨r, xe_lstore hc hk rfl h1, h2⟩
theorem xp_aload_n {k : Fin 4} {x : Nat} (hc : xc_code y pc = some (.aload_n k)) (hl : xld lv k = some (.ref x)) (h : xP y (pc + 1) lv (.ref x :: st) c q (S) P) : xP y pc lv (st) c q (S) P := by
  obtain ⟨r, h1, h2⟩ := h
  exact ⟨r, xe_aload_n hc hl h1, h2⟩
theorem xp_aload {k : Nat} {x : Nat} (hc : xc_code y pc = some (.aload k)) (hl : xld lv k = some (.ref x)) (h : xP y (pc + 2) lv (.ref x :: st) c q (S) P) : xP y pc lv (st) c q (S) P := by
  obtain ⟨r, h1, h2⟩ := h
  exact ⟨r, xe_aload hc hl h1, h2⟩
theorem xp_astore_n {k : Fin 4} {x : Nat} (hc : xc_code y pc = some (.astore_n k)) (hk : (k : Nat) < xc_nl y) (h : xP y (pc + 1) (xst1 lv k (.ref x)) (st) c q (S) P) : xP y pc lv (.ref x :: st) c q (S) P := by
  obtain ⟨r, h1, h2⟩ := h
  exact ⟨r, xe_astore_n hc hk rfl h1, h2⟩
theorem xp_astore {k : Nat} {x : Nat} (hc : xc_code y pc = some (.astore k)) (hk : k < xc_nl y) (h : xP y (pc + 2) (xst1 lv k (.ref x)) (st) c q (S) P) : xP y pc lv (.ref x :: st) c q (S) P := by
  obtain ⟨r, h1, h2⟩ := h
  exact ⟨r, xe_astore hc hk rfl h1, h2⟩
theorem xp_iinc {k : Nat} {d : Int} {m n : Nat} (hc : xc_code y pc = some (.iinc k d)) (hx : xld lv k = some (.int (nI m))) (hk : k < xc_nl y) (hv : nI m + Int32.ofInt d = nI n) (h : xP y (pc + 3) (xst1 lv k (.int (nI n))) (st) c q (S) P) : xP y pc lv (st) c q (S) P := by
  obtain ⟨r, h1, h2⟩ := h
  exact ⟨r, xe_iinc hc hx hk hv rfl h1, h2⟩
theorem xp_iadd {m n : Nat} (hc : xc_code y pc = some .iadd) (h : xP y (pc + 1) lv (.int (nI (m + n)) :: st) c q (S) P) : xP y pc lv (.int (nI n) :: .int (nI m) :: st) c q (S) P := by
  obtain ⟨r, h1, h2⟩ := h
  exact ⟨r, xe_iadd hc (by rw [nI_add]; exact h1), h2⟩
theorem xp_isub {m n : Nat} (hc : xc_code y pc = some .isub) (hs : n ≤ m) (h : xP y (pc + 1) lv (.int (nI (m - n)) :: st) c q (S) P) : xP y pc lv (.int (nI n) :: .int (nI m) :: st) c q (S) P := by
  obtain ⟨r, h1, h2⟩ := h
  exact ⟨r, xe_isub hc (by rw [nI_sub hs]; exact h1), h2⟩
theorem xp_isubR {a b : Int32} (hc : xc_code y pc = some .isub) (h : xP y (pc + 1) lv (.int (a - b) :: st) c q (S) P) : xP y pc lv (.int b :: .int a :: st) c q (S) P := by
  obtain ⟨r, h1, h2⟩ := h
  exact ⟨r, xe_isub hc h1, h2⟩
theorem xp_imul {m n : Nat} (hc : xc_code y pc = some .imul) (h : xP y (pc + 1) lv (.int (nI (m * n)) :: st) c q (S) P) : xP y pc lv (.int (nI n) :: .int (nI m) :: st) c q (S) P := by
  obtain ⟨r, h1, h2⟩ := h
  exact ⟨r, xe_imul hc (by rw [nI_mul]; exact h1), h2⟩
theorem xp_iand {a b : Int32} (hc : xc_code y pc = some .iand) (h : xP y (pc + 1) lv (.int (a &&& b) :: st) c q (S) P) : xP y pc lv (.int b :: .int a :: st) c q (S) P := by
  obtain ⟨r, h1, h2⟩ := h
  exact ⟨r, xe_iand hc h1, h2⟩
theorem xp_idiv {a b : Int32} (hc : xc_code y pc = some .idiv) (hb : ¬ b = 0) (h : xP y (pc + 1) lv (.int (a / b) :: st) c q (S) P) : xP y pc lv (.int b :: .int a :: st) c q (S) P := by
  obtain ⟨r, h1, h2⟩ := h
  exact ⟨r, xe_idiv hc hb h1, h2⟩
theorem xp_irem {a b : Int32} (hc : xc_code y pc = some .irem) (hb : ¬ b = 0) (h : xP y (pc + 1) lv (.int (a - a / b * b) :: st) c q (S) P) : xP y pc lv (.int b :: .int a :: st) c q (S) P := by
  obtain ⟨r, h1, h2⟩ := h
  exact ⟨r, xe_irem hc hb h1, h2⟩
theorem xp_ladd {a b : Int64} (hc : xc_code y pc = some .ladd) (h : xP y (pc + 1) lv (.long (a + b) :: st) c q (S) P) : xP y pc lv (.long b :: .long a :: st) c q (S) P := by
  obtain ⟨r, h1, h2⟩ := h
  exact ⟨r, xe_ladd hc h1, h2⟩
theorem xp_lsub {a b : Int64} (hc : xc_code y pc = some .lsub) (h : xP y (pc + 1) lv (.long (a - b) :: st) c q (S) P) : xP y pc lv (.long b :: .long a :: st) c q (S) P := by
  obtain ⟨r, h1, h2⟩ := h
  exact ⟨r, xe_lsub hc h1, h2⟩
theorem xp_lmul {a b : Int64} (hc : xc_code y pc = some .lmul) (h : xP y (pc + 1) lv (.long (a * b) :: st) c q (S) P) : xP y pc lv (.long b :: .long a :: st) c q (S) P := by
  obtain ⟨r, h1, h2⟩ := h
  exact ⟨r, xe_lmul hc h1, h2⟩
theorem xp_land {a b : Int64} (hc : xc_code y pc = some .land) (h : xP y (pc + 1) lv (.long (a &&& b) :: st) c q (S) P) : xP y pc lv (.long b :: .long a :: st) c q (S) P := by
  obtain ⟨r, h1, h2⟩ := h
  exact ⟨r, xe_land hc h1, h2⟩
theorem xp_lor {a b : Int64} (hc : xc_code y pc = some .lor) (h : xP y (pc + 1) lv (.long (a ||| b) :: st) c q (S) P) : xP y pc lv (.long b :: .long a :: st) c q (S) P := by
  obtain ⟨r, h1, h2⟩ := h
  exact ⟨r, xe_lor hc h1, h2⟩
theorem xp_ldiv {a b : Int64} (hc : xc_code y pc = some .ldiv) (hb : ¬ b = 0) (h : xP y (pc + 1) lv (.long (a / b) :: st) c q (S) P) : xP y pc lv (.long b :: .long a :: st) c q (S) P := by
  obtain ⟨r, h1, h2⟩ := h
  exact ⟨r, xe_ldiv hc hb h1, h2⟩
theorem xp_lshl {a : Int64} {b : Int32} (hc : xc_code y pc = some .lshl) (h : xP y (pc + 1) lv (.long (a <<< (b.toInt64 &&& 63)) :: st) c q (S) P) : xP y pc lv (.int b :: .long a :: st) c q (S) P := by
  obtain ⟨r, h1, h2⟩ := h
  exact ⟨r, xe_lshl hc h1, h2⟩
theorem xp_lshr {a : Int64} {b : Int32} (hc : xc_code y pc = some .lshr) (h : xP y (pc + 1) lv (.long (a >>> (b.toInt64 &&& 63)) :: st) c q (S) P) : xP y pc lv (.int b :: .long a :: st) c q (S) P := by
  obtain ⟨r, h1, h2⟩ := h
  exact ⟨r, xe_lshr hc h1, h2⟩
theorem xp_i2l {a : Int32} (hc : xc_code y pc = some .i2l) (h : xP y (pc + 1) lv (.long a.toInt64 :: st) c q (S) P) : xP y pc lv (.int a :: st) c q (S) P := by
  obtain ⟨r, h1, h2⟩ := h
  exact ⟨r, xe_i2l hc h1, h2⟩
theorem xp_l2i {a : Int64} (hc : xc_code y pc = some .l2i) (h : xP y (pc + 1) lv (.int a.toInt32 :: st) c q (S) P) : xP y pc lv (.long a :: st) c q (S) P := by
  obtain ⟨r, h1, h2⟩ := h
  exact ⟨r, xe_l2i hc h1, h2⟩
theorem xp_dup {a : Value} (hc : xc_code y pc = some .dup) (ha : a.category = 1) (h : xP y (pc + 1) lv (a :: a :: st) c q (S) P) : xP y pc lv (a :: st) c q (S) P := by
  obtain ⟨r, h1, h2⟩ := h
  exact ⟨r, xe_dup hc ha h1, h2⟩
theorem xp_dup2 {a b : Value} (hc : xc_code y pc = some .dup2) (ha : a.category = 1) (hb : b.category = 1) (h : xP y (pc + 1) lv (a :: b :: a :: b :: st) c q (S) P) : xP y pc lv (a :: b :: st) c q (S) P := by
  obtain ⟨r, h1, h2⟩ := h
  exact ⟨r, xe_dup2 hc ha hb h1, h2⟩
theorem xp_pop {a : Value} (hc : xc_code y pc = some .pop) (ha : a.category = 1) (h : xP y (pc + 1) lv (st) c q (S) P) : xP y pc lv (a :: st) c q (S) P := by
  obtain ⟨r, h1, h2⟩ := h
  exact ⟨r, xe_pop hc ha h1, h2⟩
theorem xp_goto {off : Int} (t : Nat) (hc : xc_code y pc = some (.goto off)) (ht : (pc : Int) + off = (t : Int)) (h : xP y t lv st c q S P) : xP y pc lv st c q S P := by
  obtain ⟨r, h1, h2⟩ := h
  exact ⟨r, xe_goto hc ht h1, h2⟩
theorem xp_gfi {x ci f a : Nat} (hc : xc_code y pc = some (.getfield x)) (hf : xc_fld (xc_own y) x = some (ci, f)) (hk : f < (xc_fk ci).length) (hs : (xc_fk ci).getD f 0 = 0 ∨ (xc_fk ci).getD f 0 = 3) (ht : T a = some (.inl ci)) (h : xP y (pc + 3) lv (.int (nI (A.1 a f)) :: st) c q (xm z T R A) P) : xP y pc lv (.ref a :: st) c q (xm z T R A) P := by
  obtain ⟨r, h1, h2⟩ := h
  exact ⟨r, xe_gfi hc hf hk hs ht h1, h2⟩
theorem xp_gfa {x ci f a b : Nat} (hc : xc_code y pc = some (.getfield x)) (hf : xc_fld (xc_own y) x = some (ci, f)) (hk : f < (xc_fk ci).length) (hs : (xc_fk ci).getD f 0 = 2) (ht : T a = some (.inl ci)) (hr : R a f = some b) (h : xP y (pc + 3) lv (.ref b :: st) c q (xm z T R A) P) : xP y pc lv (.ref a :: st) c q (xm z T R A) P := by
  obtain ⟨r, h1, h2⟩ := h
  exact ⟨r, xe_gfa hc hf hk hs ht hr h1, h2⟩
theorem xp_pfi {x ci f a v : Nat} (hc : xc_code y pc = some (.putfield x)) (hf : xc_fld (xc_own y) x = some (ci, f)) (hk : f < (xc_fk ci).length) (hm : xc_may y ci f = true) (hs : (xc_fk ci).getD f 0 = 0) (ht : T a = some (.inl ci)) (h : xP y (pc + 3) lv (st) c q (xm z T R (xsI A a f v)) P) : xP y pc lv (.int (nI v) :: .ref a :: st) c q (xm z T R A) P := by
  obtain ⟨r, h1, h2⟩ := h
  exact ⟨r, xe_pf hc hf hk hm ht (by rw [hs]; simp only [xpv, if_true]; rw [xm_i]) h1, h2⟩
theorem xp_pfz {x ci f a v : Nat} (hc : xc_code y pc = some (.putfield x)) (hf : xc_fld (xc_own y) x = some (ci, f)) (hk : f < (xc_fk ci).length) (hm : xc_may y ci f = true) (hs : (xc_fk ci).getD f 0 = 3) (ht : T a = some (.inl ci)) (hv : v = 0 ∨ v = 1) (h : xP y (pc + 3) lv (st) c q (xm z T R (xsI A a f v)) P) : xP y pc lv (.int (nI v) :: .ref a :: st) c q (xm z T R A) P := by
  obtain ⟨r, h1, h2⟩ := h
  exact ⟨r, xe_pf hc hf hk hm ht (by rw [hs]; simp only [xpv]; rw [if_neg (by decide), if_pos trivial, if_pos (by rcases hv with rfl | rfl <;> decide), xm_i]) h1, h2⟩
theorem xp_gs {x j : Nat} (hc : xc_code y pc = some (.getstatic x)) (hf : xc_sta (xc_own y) x = some j) (h : xP y (pc + 3) lv (.ref (1000000 + j) :: st) c q (S) P) : xP y pc lv (st) c q (S) P := by
  obtain ⟨r, h1, h2⟩ := h
  exact ⟨r, xe_gs hc hf h1, h2⟩
theorem xp_iald {a n i : Nat} (hc : xc_code y pc = some .iaload) (ht : T a = some (.inr (0, n))) (hi : i < n) (hN : n < 2 ^ 31) (h : xP y (pc + 1) lv (.int (nI (A.1 a i)) :: st) c q (xm z T R A) P) : xP y pc lv (.int (nI i) :: .ref a :: st) c q (xm z T R A) P := by
  obtain ⟨r, h1, h2⟩ := h
  exact ⟨r, xe_iald hc ht rfl hi hN h1, h2⟩
theorem xp_bald {a n i : Nat} (hc : xc_code y pc = some .baload) (ht : T a = some (.inr (2, n))) (hi : i < n) (hN : n < 2 ^ 31) (h : xP y (pc + 1) lv (.int (nI (A.1 a i)) :: st) c q (xm z T R A) P) : xP y pc lv (.int (nI i) :: .ref a :: st) c q (xm z T R A) P := by
  obtain ⟨r, h1, h2⟩ := h
  exact ⟨r, xe_bald hc ht rfl hi hN h1, h2⟩
theorem xp_lald {a n i : Nat} (hc : xc_code y pc = some .laload) (ht : T a = some (.inr (1, n))) (hi : i < n) (hN : n < 2 ^ 31) (h : xP y (pc + 1) lv (.long (A.2 a i) :: st) c q (xm z T R A) P) : xP y pc lv (.int (nI i) :: .ref a :: st) c q (xm z T R A) P := by
  obtain ⟨r, h1, h2⟩ := h
  exact ⟨r, xe_lald hc ht rfl hi hN h1, h2⟩
theorem xp_aald {a j n i b : Nat} (hc : xc_code y pc = some .aaload) (ht : T a = some (.inr (j, n))) (hj : 3 ≤ j) (hj2 : j < xc_na) (hi : i < n) (hN : n < 2 ^ 31) (hr : R a i = some b) (h : xP y (pc + 1) lv (.ref b :: st) c q (xm z T R A) P) : xP y pc lv (.int (nI i) :: .ref a :: st) c q (xm z T R A) P := by
  obtain ⟨r, h1, h2⟩ := h
  exact ⟨r, xe_aald hc ht hj hj2 rfl hi hN hr h1, h2⟩
theorem xp_iast {a n i v : Nat} (hc : xc_code y pc = some .iastore) (ht : T a = some (.inr (0, n))) (hi : i < n) (hN : n < 2 ^ 31) (h : xP y (pc + 1) lv (st) c q (xm z T R (xsI A a i v)) P) : xP y pc lv (.int (nI v) :: .int (nI i) :: .ref a :: st) c q (xm z T R A) P := by
  obtain ⟨r, h1, h2⟩ := h
  exact ⟨r, xe_iast hc ht rfl hi hN (by rw [xm_i]; exact h1), h2⟩
theorem xp_bast {a n i v : Nat} (hc : xc_code y pc = some .bastore) (ht : T a = some (.inr (2, n))) (hi : i < n) (hN : n < 2 ^ 31) (hv : v = 0 ∨ v = 1) (h : xP y (pc + 1) lv (st) c q (xm z T R (xsI A a i v)) P) : xP y pc lv (.int (nI v) :: .int (nI i) :: .ref a :: st) c q (xm z T R A) P := by
  obtain ⟨r, h1, h2⟩ := h
  exact ⟨r, xe_bast hc ht rfl hi hN (by rcases hv with rfl | rfl <;> decide) (by rw [xm_i]; exact h1), h2⟩
theorem xp_last {a n i : Nat} {v : Int64} (hc : xc_code y pc = some .lastore) (ht : T a = some (.inr (1, n))) (hi : i < n) (hN : n < 2 ^ 31) (h : xP y (pc + 1) lv (st) c q (xm z T R (xsJ A a i v)) P) : xP y pc lv (.long v :: .int (nI i) :: .ref a :: st) c q (xm z T R A) P := by
  obtain ⟨r, h1, h2⟩ := h
  exact ⟨r, xe_last hc ht rfl hi hN (by rw [xm_j]; exact h1), h2⟩
theorem xp_stld {a i : Nat} {L : List Int32} (hc : xc_code y pc = some .iaload) (ht : T a = none) (ha : ¬ a < 1000000) (hL : xc_ro (a - 1000000) = some L) (hi : i < L.length) (hN : L.length < 2 ^ 31) (h : xP y (pc + 1) lv (.int (L.getD i 0) :: st) c q (xm z T R A) P) : xP y pc lv (.int (nI i) :: .ref a :: st) c q (xm z T R A) P := by
  obtain ⟨r, h1, h2⟩ := h
  exact ⟨r, xe_stld hc ht ha hL rfl hi hN h1, h2⟩
theorem xp_ifeq {off : Int} {n : Nat} (t : Nat) (hc : xc_code y pc = some (.ifCond .eq off)) (ht : (pc : Int) + off = (t : Int)) (hn : n < 2 ^ 32) (h1 : n = 0 → xP y t lv st c q S P) (h2 : ¬ n = 0 → xP y (pc + 3) lv st c q S P) : xP y pc lv (.int (nI n) :: st) c q S P := by
  by_cases hb : n = 0
  · obtain ⟨r, k1, k2⟩ := h1 hb
    exact ⟨r, xe_if hc ht (fun _ => k1) (fun hf => (Bool.false_ne_true (hf.symm.trans (decide_eq_true ((nI_eq0 hn).mpr hb) : xcb .eq (nI n) 0 = true))).elim), k2⟩
  · obtain ⟨r, k1, k2⟩ := h2 hb
    exact ⟨r, xe_if hc ht (fun hf => absurd hf (by rw [Bool.not_eq_true]; exact decide_eq_false (fun z => hb ((nI_eq0 hn).mp z)))) (fun _ => k1), k2⟩
theorem xp_ifne {off : Int} {n : Nat} (t : Nat) (hc : xc_code y pc = some (.ifCond .ne off)) (ht : (pc : Int) + off = (t : Int)) (hn : n < 2 ^ 32) (h1 : ¬ n = 0 → xP y t lv st c q S P) (h2 : n = 0 → xP y (pc + 3) lv st c q S P) : xP y pc lv (.int (nI n) :: st) c q S P := by
  by_cases hb : ¬ n = 0
  · obtain ⟨r, k1, k2⟩ := h1 hb
    exact ⟨r, xe_if hc ht (fun _ => k1) (fun hf => (Bool.false_ne_true (hf.symm.trans (decide_eq_true ((not_congr (nI_eq0 hn)).mpr hb) : xcb .ne (nI n) 0 = true))).elim), k2⟩
  · obtain ⟨r, k1, k2⟩ := h2 (Classical.not_not.mp hb)
    exact ⟨r, xe_if hc ht (fun hf => absurd hf (by rw [Bool.not_eq_true]; exact decide_eq_false (fun z => hb ((not_congr (nI_eq0 hn)).mp z)))) (fun _ => k1), k2⟩
theorem xp_iflt {off : Int} {n : Nat} (t : Nat) (hc : xc_code y pc = some (.ifCond .lt off)) (ht : (pc : Int) + off = (t : Int)) (hn : n < 2 ^ 32) (h1 : 2 ^ 31 ≤ n → xP y t lv st c q S P) (h2 : n < 2 ^ 31 → xP y (pc + 3) lv st c q S P) : xP y pc lv (.int (nI n) :: st) c q S P := by
  by_cases hb : 2 ^ 31 ≤ n
  · obtain ⟨r, k1, k2⟩ := h1 hb
    exact ⟨r, xe_if hc ht (fun _ => k1) (fun hf => (Bool.false_ne_true (hf.symm.trans (decide_eq_true ((nI_neg hn).mpr hb) : xcb .lt (nI n) 0 = true))).elim), k2⟩
  · obtain ⟨r, k1, k2⟩ := h2 (by omega)
    exact ⟨r, xe_if hc ht (fun hf => absurd hf (by rw [Bool.not_eq_true]; exact decide_eq_false (fun z => hb ((nI_neg hn).mp z)))) (fun _ => k1), k2⟩
theorem nI_ge0 {a : Nat} (ha : a < 2 ^ 32) : (0 : Int32) ≤ nI a ↔ a < 2 ^ 31 := by
  rw [← Int32.not_lt, nI_neg ha]
  omega
theorem nI_gt0 {a : Nat} (ha : a < 2 ^ 32) : (0 : Int32) < nI a ↔ 0 < a ∧ a < 2 ^ 31 := by
  rw [Int32.lt_iff_le_and_ne, nI_ge0 ha, ne_comm, ne_eq, nI_eq0 ha]
  omega
theorem nI_le0 {a : Nat} (ha : a < 2 ^ 32) : nI a ≤ (0 : Int32) ↔ a = 0 ∨ 2 ^ 31 ≤ a := by
  rw [← Int32.not_lt, nI_gt0 ha]
  omega
theorem xp_ifge {off : Int} {n : Nat} (t : Nat) (hc : xc_code y pc = some (.ifCond .ge off)) (ht : (pc : Int) + off = (t : Int)) (hn : n < 2 ^ 32) (h1 : n < 2 ^ 31 → xP y t lv st c q S P) (h2 : 2 ^ 31 ≤ n → xP y (pc + 3) lv st c q S P) : xP y pc lv (.int (nI n) :: st) c q S P := by
  by_cases hb : n < 2 ^ 31
  · obtain ⟨r, k1, k2⟩ := h1 hb
    exact ⟨r, xe_if hc ht (fun _ => k1) (fun hf => (Bool.false_ne_true (hf.symm.trans (decide_eq_true ((nI_ge0 hn).mpr hb) : xcb .ge (nI n) 0 = true))).elim), k2⟩
  · obtain ⟨r, k1, k2⟩ := h2 (by omega)
    exact ⟨r, xe_if hc ht (fun hf => absurd hf (by rw [Bool.not_eq_true]; exact decide_eq_false (fun z => hb ((nI_ge0 hn).mp z)))) (fun _ => k1), k2⟩
theorem xp_ifgt {off : Int} {n : Nat} (t : Nat) (hc : xc_code y pc = some (.ifCond .gt off)) (ht : (pc : Int) + off = (t : Int)) (hn : n < 2 ^ 32) (h1 : 0 < n ∧ n < 2 ^ 31 → xP y t lv st c q S P) (h2 : n = 0 ∨ 2 ^ 31 ≤ n → xP y (pc + 3) lv st c q S P) : xP y pc lv (.int (nI n) :: st) c q S P := by
  by_cases hb : 0 < n ∧ n < 2 ^ 31
  · obtain ⟨r, k1, k2⟩ := h1 hb
    exact ⟨r, xe_if hc ht (fun _ => k1) (fun hf => (Bool.false_ne_true (hf.symm.trans (decide_eq_true ((nI_gt0 hn).mpr hb) : xcb .gt (nI n) 0 = true))).elim), k2⟩
  · obtain ⟨r, k1, k2⟩ := h2 (by omega)
    exact ⟨r, xe_if hc ht (fun hf => absurd hf (by rw [Bool.not_eq_true]; exact decide_eq_false (fun z => hb ((nI_gt0 hn).mp z)))) (fun _ => k1), k2⟩
theorem xp_ifle {off : Int} {n : Nat} (t : Nat) (hc : xc_code y pc = some (.ifCond .le off)) (ht : (pc : Int) + off = (t : Int)) (hn : n < 2 ^ 32) (h1 : n = 0 ∨ 2 ^ 31 ≤ n → xP y t lv st c q S P) (h2 : 0 < n ∧ n < 2 ^ 31 → xP y (pc + 3) lv st c q S P) : xP y pc lv (.int (nI n) :: st) c q S P := by
  by_cases hb : n = 0 ∨ 2 ^ 31 ≤ n
  · obtain ⟨r, k1, k2⟩ := h1 hb
    exact ⟨r, xe_if hc ht (fun _ => k1) (fun hf => (Bool.false_ne_true (hf.symm.trans (decide_eq_true ((nI_le0 hn).mpr hb) : xcb .le (nI n) 0 = true))).elim), k2⟩
  · obtain ⟨r, k1, k2⟩ := h2 (by omega)
    exact ⟨r, xe_if hc ht (fun hf => absurd hf (by rw [Bool.not_eq_true]; exact decide_eq_false (fun z => hb ((nI_le0 hn).mp z)))) (fun _ => k1), k2⟩
theorem xp_iceq {off : Int} {m n : Nat} (t : Nat) (hc : xc_code y pc = some (.if_icmp .eq off)) (ht : (pc : Int) + off = (t : Int)) (hm : m < 2 ^ 32) (hn : n < 2 ^ 32) (h1 : m = n → xP y t lv st c q S P) (h2 : ¬ m = n → xP y (pc + 3) lv st c q S P) : xP y pc lv (.int (nI n) :: .int (nI m) :: st) c q S P := by
  by_cases hb : m = n
  · obtain ⟨r, k1, k2⟩ := h1 hb
    exact ⟨r, xe_ic hc ht (fun _ => k1) (fun hf => (Bool.false_ne_true (hf.symm.trans (decide_eq_true ((nI_eq32 hm hn).mpr hb) : xcb .eq (nI m) (nI n) = true))).elim), k2⟩
  · obtain ⟨r, k1, k2⟩ := h2 hb
    exact ⟨r, xe_ic hc ht (fun hf => absurd hf (by rw [Bool.not_eq_true]; exact decide_eq_false (fun z => hb ((nI_eq32 hm hn).mp z)))) (fun _ => k1), k2⟩
theorem xp_icne {off : Int} {m n : Nat} (t : Nat) (hc : xc_code y pc = some (.if_icmp .ne off)) (ht : (pc : Int) + off = (t : Int)) (hm : m < 2 ^ 32) (hn : n < 2 ^ 32) (h1 : ¬ m = n → xP y t lv st c q S P) (h2 : m = n → xP y (pc + 3) lv st c q S P) : xP y pc lv (.int (nI n) :: .int (nI m) :: st) c q S P := by
  by_cases hb : ¬ m = n
  · obtain ⟨r, k1, k2⟩ := h1 hb
    exact ⟨r, xe_ic hc ht (fun _ => k1) (fun hf => (Bool.false_ne_true (hf.symm.trans (decide_eq_true ((not_congr (nI_eq32 hm hn)).mpr hb) : xcb .ne (nI m) (nI n) = true))).elim), k2⟩
  · obtain ⟨r, k1, k2⟩ := h2 (Classical.not_not.mp hb)
    exact ⟨r, xe_ic hc ht (fun hf => absurd hf (by rw [Bool.not_eq_true]; exact decide_eq_false (fun z => hb ((not_congr (nI_eq32 hm hn)).mp z)))) (fun _ => k1), k2⟩
theorem xp_iclt {off : Int} {m n : Nat} (t : Nat) (hc : xc_code y pc = some (.if_icmp .lt off)) (ht : (pc : Int) + off = (t : Int)) (hm : m < 2 ^ 31) (hn : n < 2 ^ 31) (h1 : m < n → xP y t lv st c q S P) (h2 : n ≤ m → xP y (pc + 3) lv st c q S P) : xP y pc lv (.int (nI n) :: .int (nI m) :: st) c q S P := by
  by_cases hb : m < n
  · obtain ⟨r, k1, k2⟩ := h1 hb
    exact ⟨r, xe_ic hc ht (fun _ => k1) (fun hf => (Bool.false_ne_true (hf.symm.trans (decide_eq_true ((nI_ltI hm hn).mpr hb) : xcb .lt (nI m) (nI n) = true))).elim), k2⟩
  · obtain ⟨r, k1, k2⟩ := h2 (by omega)
    exact ⟨r, xe_ic hc ht (fun hf => absurd hf (by rw [Bool.not_eq_true]; exact decide_eq_false (fun z => hb ((nI_ltI hm hn).mp z)))) (fun _ => k1), k2⟩
theorem xp_icge {off : Int} {m n : Nat} (t : Nat) (hc : xc_code y pc = some (.if_icmp .ge off)) (ht : (pc : Int) + off = (t : Int)) (hm : m < 2 ^ 31) (hn : n < 2 ^ 31) (h1 : n ≤ m → xP y t lv st c q S P) (h2 : m < n → xP y (pc + 3) lv st c q S P) : xP y pc lv (.int (nI n) :: .int (nI m) :: st) c q S P := by
  by_cases hb : n ≤ m
  · obtain ⟨r, k1, k2⟩ := h1 hb
    exact ⟨r, xe_ic hc ht (fun _ => k1) (fun hf => (Bool.false_ne_true (hf.symm.trans (decide_eq_true ((nI_leI hn hm).mpr hb) : xcb .ge (nI m) (nI n) = true))).elim), k2⟩
  · obtain ⟨r, k1, k2⟩ := h2 (by omega)
    exact ⟨r, xe_ic hc ht (fun hf => absurd hf (by rw [Bool.not_eq_true]; exact decide_eq_false (fun z => hb ((nI_leI hn hm).mp z)))) (fun _ => k1), k2⟩
theorem xp_icgt {off : Int} {m n : Nat} (t : Nat) (hc : xc_code y pc = some (.if_icmp .gt off)) (ht : (pc : Int) + off = (t : Int)) (hm : m < 2 ^ 31) (hn : n < 2 ^ 31) (h1 : n < m → xP y t lv st c q S P) (h2 : m ≤ n → xP y (pc + 3) lv st c q S P) : xP y pc lv (.int (nI n) :: .int (nI m) :: st) c q S P := by
  by_cases hb : n < m
  · obtain ⟨r, k1, k2⟩ := h1 hb
    exact ⟨r, xe_ic hc ht (fun _ => k1) (fun hf => (Bool.false_ne_true (hf.symm.trans (decide_eq_true ((nI_ltI hn hm).mpr hb) : xcb .gt (nI m) (nI n) = true))).elim), k2⟩
  · obtain ⟨r, k1, k2⟩ := h2 (by omega)
    exact ⟨r, xe_ic hc ht (fun hf => absurd hf (by rw [Bool.not_eq_true]; exact decide_eq_false (fun z => hb ((nI_ltI hn hm).mp z)))) (fun _ => k1), k2⟩
theorem xp_icle {off : Int} {m n : Nat} (t : Nat) (hc : xc_code y pc = some (.if_icmp .le off)) (ht : (pc : Int) + off = (t : Int)) (hm : m < 2 ^ 31) (hn : n < 2 ^ 31) (h1 : m ≤ n → xP y t lv st c q S P) (h2 : n < m → xP y (pc + 3) lv st c q S P) : xP y pc lv (.int (nI n) :: .int (nI m) :: st) c q S P := by
  by_cases hb : m ≤ n
  · obtain ⟨r, k1, k2⟩ := h1 hb
    exact ⟨r, xe_ic hc ht (fun _ => k1) (fun hf => (Bool.false_ne_true (hf.symm.trans (decide_eq_true ((nI_leI hm hn).mpr hb) : xcb .le (nI m) (nI n) = true))).elim), k2⟩
  · obtain ⟨r, k1, k2⟩ := h2 (by omega)
    exact ⟨r, xe_ic hc ht (fun hf => absurd hf (by rw [Bool.not_eq_true]; exact decide_eq_false (fun z => hb ((nI_leI hm hn).mp z)))) (fun _ => k1), k2⟩
theorem lg_cmp0 (a b : Int64) : lg_cmp a b = 0 ↔ a = b := by
  unfold lg_cmp
  split
  · next h => exact ⟨fun q => absurd q (by decide), fun q => absurd h (by rw [q]; exact Int64.lt_irrefl)⟩
  · split
    · next h => exact ⟨fun _ => h, fun _ => rfl⟩
    · next h => exact ⟨fun q => absurd q (by decide), fun q => absurd q h⟩
theorem xp_lceq {a b : Int64} {off : Int} (t : Nat) (hc : xc_code y pc = some .lcmp) (hc2 : xc_code y (pc + 1) = some (.ifCond .eq off)) (ht : ((pc + 1 : Nat) : Int) + off = (t : Int)) (h1 : a = b → xP y t lv st c q S P) (h2 : ¬ a = b → xP y (pc + 1 + 3) lv st c q S P) : xP y pc lv (.long b :: .long a :: st) c q S P := by
  by_cases hb : a = b
  · obtain ⟨r, k1, k2⟩ := h1 hb
    exact ⟨r, xe_lcmp hc (xe_if hc2 ht (fun _ => k1) (fun hf => (Bool.false_ne_true (hf.symm.trans (decide_eq_true ((lg_cmp0 a b).mpr hb) : xcb .eq (lg_cmp a b) 0 = true))).elim)), k2⟩
  · obtain ⟨r, k1, k2⟩ := h2 hb
    exact ⟨r, xe_lcmp hc (xe_if hc2 ht (fun hf => absurd hf (by rw [Bool.not_eq_true]; exact decide_eq_false (fun z => hb ((lg_cmp0 a b).mp z)))) (fun _ => k1)), k2⟩
theorem xp_lcne {a b : Int64} {off : Int} (t : Nat) (hc : xc_code y pc = some .lcmp) (hc2 : xc_code y (pc + 1) = some (.ifCond .ne off)) (ht : ((pc + 1 : Nat) : Int) + off = (t : Int)) (h1 : ¬ a = b → xP y t lv st c q S P) (h2 : a = b → xP y (pc + 1 + 3) lv st c q S P) : xP y pc lv (.long b :: .long a :: st) c q S P := by
  by_cases hb : a = b
  · obtain ⟨r, k1, k2⟩ := h2 hb
    exact ⟨r, xe_lcmp hc (xe_if hc2 ht (fun hf => absurd hf (by rw [Bool.not_eq_true]; exact decide_eq_false (fun z => z ((lg_cmp0 a b).mpr hb)))) (fun _ => k1)), k2⟩
  · obtain ⟨r, k1, k2⟩ := h1 hb
    exact ⟨r, xe_lcmp hc (xe_if hc2 ht (fun _ => k1) (fun hf => (Bool.false_ne_true (hf.symm.trans (decide_eq_true (fun z => hb ((lg_cmp0 a b).mp z)) : xcb .ne (lg_cmp a b) 0 = true))).elim)), k2⟩
theorem xp_lcge {a b : Int64} {off : Int} (t : Nat) (hc : xc_code y pc = some .lcmp) (hc2 : xc_code y (pc + 1) = some (.ifCond .ge off)) (ht : ((pc + 1 : Nat) : Int) + off = (t : Int)) (h1 : ¬ a < b → xP y t lv st c q S P) (h2 : a < b → xP y (pc + 1 + 3) lv st c q S P) : xP y pc lv (.long b :: .long a :: st) c q S P := by
  by_cases hb : a < b
  · obtain ⟨r, k1, k2⟩ := h2 hb
    exact ⟨r, xe_lcmp hc (xe_if hc2 ht (fun hf => absurd hf (by rw [Bool.not_eq_true]; exact decide_eq_false (fun z => Int64.not_le.mpr hb ((lg_cmp_ge a b).mp z)))) (fun _ => k1)), k2⟩
  · obtain ⟨r, k1, k2⟩ := h1 hb
    exact ⟨r, xe_lcmp hc (xe_if hc2 ht (fun _ => k1) (fun hf => (Bool.false_ne_true (hf.symm.trans (decide_eq_true ((lg_cmp_ge a b).mpr (Int64.not_lt.mp hb)) : xcb .ge (lg_cmp a b) 0 = true))).elim)), k2⟩
theorem xp_tsw {d lo hi off : Int} {offs : Array Int} {n : Nat} (t : Nat) (hc : xc_code y pc = some (.tableswitch d lo hi offs)) (hn : n < 2 ^ 31) (ho : (if (n : Int) < lo ∨ hi < (n : Int) then some d else offs[((n : Int) - lo).toNat]?) = some off) (ht : (pc : Int) + off = (t : Int)) (h : xP y t lv st c q S P) : xP y pc lv (.int (nI n) :: st) c q S P := by
  obtain ⟨r, h1, h2⟩ := h
  exact ⟨r, xe_tsw hc (by rw [nI_toInt hn]; exact ho) ht h1, h2⟩
theorem xp_lsw {d off : Int} {ps : Array (Int × Int)} {n : Nat} (t : Nat) (hc : xc_code y pc = some (.lookupswitch d ps)) (hn : n < 2 ^ 31) (hp : (ps.toList.zip (ps.toList.drop 1)).all (fun (a, next) => a.1 < next.1) = true) (ho : Op.lookupswitch.offset ps.toList d (n : Int) = off) (ht : (pc : Int) + off = (t : Int)) (h : xP y t lv st c q S P) : xP y pc lv (.int (nI n) :: st) c q S P := by
  obtain ⟨r, h1, h2⟩ := h
  exact ⟨r, xe_lsw hc hp (by rw [nI_toInt hn]; exact ho) ht h1, h2⟩
theorem xp_iv {x y2 na : Nat} {as : List Value} {v : Option Value} {S1 : xS} {st2 : List Value} (hc : xc_code y pc = some (.invokevirtual x)) (ho : xc_vrt (xc_own y) x = some (y2, na)) (hl : na ≤ st.length) (hv : xc_lev y2 < xc_lev y) (hm1 : c + xc_mc y2 ≤ xc_mc y) (hm2 : q + xc_ms y2 ≤ xc_ms y) (h3 : ((st.drop na).map fun v => v.category).sum ≤ 8) (ha : (st.take na).reverse = as) (h4 : xrcv y2 S as = true) (hF : xF y2 as S (.inr v, S1)) (hst : v.toList ++ st.drop na = st2) (h : xP y (pc + 3) lv st2 (c + xc_mc y2) (q + xc_ms y2) S1 P) : xP y pc lv st c q S P := by
  obtain ⟨r, k1, k2⟩ := h
  exact ⟨r, xe_iv hc ho ha hl hv hm1 hm2 h3 h4 hF hst k1, k2⟩
theorem xp_is {x y2 na : Nat} {as : List Value} {v : Option Value} {S1 : xS} {st2 : List Value} (hc : xc_code y pc = some (.invokestatic x)) (hmi : xc_min (xc_own y) x = false) (ho : xc_stt (xc_own y) x = some (y2, na)) (hl : na ≤ st.length) (hv : xc_lev y2 < xc_lev y) (hm1 : c + xc_mc y2 ≤ xc_mc y) (hm2 : q + xc_ms y2 ≤ xc_ms y) (h3 : ((st.drop na).map fun v => v.category).sum ≤ 8) (ha : (st.take na).reverse = as) (h4 : xrcv y2 S as = true) (hF : xF y2 as S (.inr v, S1)) (hst : v.toList ++ st.drop na = st2) (h : xP y (pc + 3) lv st2 (c + xc_mc y2) (q + xc_ms y2) S1 P) : xP y pc lv st c q S P := by
  obtain ⟨r, k1, k2⟩ := h
  exact ⟨r, xe_is hc hmi ho ha hl hv hm1 hm2 h3 h4 hF hst k1, k2⟩
theorem xp_min {x m n : Nat} (hc : xc_code y pc = some (.invokestatic x)) (hmi : xc_min (xc_own y) x = true) (h1 : c ≤ xc_mc y) (h2 : q ≤ xc_ms y) (h3 : (st.map fun v => v.category).sum ≤ 8) (hm : m < 2 ^ 31) (hn : n < 2 ^ 31) (h : xP y (pc + 3) lv (.int (nI (min m n)) :: st) c q S P) : xP y pc lv (.int (nI n) :: .int (nI m) :: st) c q S P := by
  obtain ⟨r, k1, k2⟩ := h
  refine ⟨r, xe_min hc hmi h1 h2 h3 ?_, k2⟩
  by_cases hq : n < m
  · rw [if_pos ((nI_ltI hn hm).mpr hq)]
    rw [show min m n = n by omega] at k1
    exact k1
  · rw [if_neg (fun z => hq ((nI_ltI hn hm).mp z))]
    rw [show min m n = m by omega] at k1
    exact k1
theorem xp_ireturn {v : Int32} (hc : xc_code y pc = some .ireturn) (h1 : c ≤ xc_mc y) (h2 : q ≤ xc_ms y) (h3 : xc_ret y = 1) (h : P (.inr (some (.int v)), S)) : xP y pc lv [.int v] c q S P := ⟨_, xe_ireturn hc h1 h2 h3, h⟩
theorem xp_zreturn {n : Nat} (hc : xc_code y pc = some .ireturn) (h1 : c ≤ xc_mc y) (h2 : q ≤ xc_ms y) (h3 : xc_ret y = 2) (hv : n = 0 ∨ n = 1) (h : P (.inr (some (.int (nI n))), S)) : xP y pc lv [.int (nI n)] c q S P := ⟨_, xe_zreturn hc h1 h2 h3 (by rcases hv with rfl | rfl <;> decide), h⟩
theorem xp_lreturn {v : Int64} (hc : xc_code y pc = some .lreturn) (h1 : c ≤ xc_mc y) (h2 : q ≤ xc_ms y) (h3 : xc_ret y = 3) (h : P (.inr (some (.long v)), S)) : xP y pc lv [.long v] c q S P := ⟨_, xe_lreturn hc h1 h2 h3, h⟩
theorem xp_areturn {v : Nat} (hc : xc_code y pc = some .areturn) (h1 : c ≤ xc_mc y) (h2 : q ≤ xc_ms y) (h3 : xc_ret y = 4) (h : P (.inr (some (.ref v)), S)) : xP y pc lv [.ref v] c q S P := ⟨_, xe_areturn hc h1 h2 h3, h⟩
theorem xp_return (hc : xc_code y pc = some .return_) (h1 : c ≤ xc_mc y) (h2 : q ≤ xc_ms y) (h3 : xc_ret y = 0) (h : P (.inr none, S)) : xP y pc lv [] c q S P := ⟨_, xe_return hc h1 h2 h3, h⟩
theorem xp_throw {x ex n : Nat} (hc : xc_code y pc = some (.new x)) (ho : xc_exc (xc_own y) x = some (ex, n)) (hcs : (st.map fun v => v.category).sum ≤ 8) (h1 : c + 1 ≤ xc_mc y) (h2 : q + n ≤ xc_ms y) (h3 : xc_thr y pc = true) (h : P (.inl ex, xm (z + 1) T R A)) : xP y pc lv st c q (xm z T R A) P := by
  refine ⟨_, xE_go hc ⟨0, ?_⟩, h⟩
  simp only [xstep, ho]
  rw [if_neg (by simp), if_pos hcs]
  simp only [xthr, if_pos h1, if_pos h2, if_pos h3]
  rfl
end PW
end
section
-- WHERE THINGS LIE: what is at which address, which reference leads where (printed by wip/gen/layout.py out of a run of the constructors)
def xT0l : List xT := [.inl 0, .inl 6, .inr (0, 6), .inr (0, 6), .inr (0, 180), .inr (0, 180), .inr (0, 180), .inr (0, 6), .inr (0, 18), .inr (0, 18), .inr (0, 18), .inl 2, .inl 9, .inr (3, 3), .inl 4, .inr (0, 24), .inr (0, 24), .inr (0, 24), .inl 1, .inr (0, 72), .inr (1, 72), .inr (0, 24), .inr (0, 24), .inl 8, .inr (4, 5), .inl 1, .inr (0, 1), .inr (1, 1), .inl 3, .inl 1, .inr (0, 11), .inr (1, 11), .inl 3, .inl 1, .inr (0, 11), .inr (1, 11), .inl 3, .inl 1, .inr (0, 11), .inr (1, 11), .inl 3, .inl 1, .inr (0, 11), .inr (1, 11), .inl 3, .inl 1, .inr (0, 11), .inr (1, 11), .inl 8, .inr (4, 5), .inl 1, .inr (0, 1), .inr (1, 1), .inl 3, .inl 1, .inr (0, 11), .inr (1, 11), .inl 3, .inl 1, .inr (0, 11), .inr (1, 11), .inl 3, .inl 1, .inr (0, 11), .inr (1, 11), .inl 3, .inl 1, .inr (0, 11), .inr (1, 11), .inl 3, .inl 1, .inr (0, 11), .inr (1, 11), .inl 8, .inr (4, 5), .inl 1, .inr (0, 1), .inr (1, 1), .inl 3, .inl 1, .inr (0, 11), .inr (1, 11), .inl 3, .inl 1, .inr (0, 11), .inr (1, 11), .inl 3, .inl 1, .inr (0, 11), .inr (1, 11), .inl 3, .inl 1, .inr (0, 11), .inr (1, 11), .inl 3, .inl 1, .inr (0, 11), .inr (1, 11), .inr (1, 40), .inl 5, .inr (0, 2400), .inl 10, .inl 7, .inl 9, .inr (3, 3), .inl 4, .inr (0, 24), .inr (0, 24), .inr (0, 24), .inl 1, .inr (0, 72), .inr (1, 72), .inr (0, 24), .inr (0, 24), .inl 8, .inr (4, 5), .inl 1, .inr (0, 1), .inr (1, 1), .inl 3, .inl 1, .inr (0, 11), .inr (1, 11), .inl 3, .inl 1, .inr (0, 11), .inr (1, 11), .inl 3, .inl 1, .inr (0, 11), .inr (1, 11), .inl 3, .inl 1, .inr (0, 11), .inr (1, 11), .inl 3, .inl 1, .inr (0, 11), .inr (1, 11), .inl 8, .inr (4, 5), .inl 1, .inr (0, 1), .inr (1, 1), .inl 3, .inl 1, .inr (0, 11), .inr (1, 11), .inl 3, .inl 1, .inr (0, 11), .inr (1, 11), .inl 3, .inl 1, .inr (0, 11), .inr (1, 11), .inl 3, .inl 1, .inr (0, 11), .inr (1, 11), .inl 3, .inl 1, .inr (0, 11), .inr (1, 11), .inl 8, .inr (4, 5), .inl 1, .inr (0, 1), .inr (1, 1), .inl 3, .inl 1, .inr (0, 11), .inr (1, 11), .inl 3, .inl 1, .inr (0, 11), .inr (1, 11), .inl 3, .inl 1, .inr (0, 11), .inr (1, 11), .inl 3, .inl 1, .inr (0, 11), .inr (1, 11), .inl 3, .inl 1, .inr (0, 11), .inr (1, 11), .inl 11, .inr (0, 6), .inr (0, 6), .inr (0, 6), .inr (0, 180), .inr (0, 180), .inr (0, 180), .inr (0, 18), .inr (0, 18), .inr (0, 18), .inr (0, 3), .inr (0, 3), .inr (0, 3), .inr (0, 15), .inr (0, 15), .inr (0, 15), .inr (0, 15), .inr (0, 240), .inr (1, 240), .inr (2, 24), .inr (2, 24), .inr (0, 24), .inr (0, 24), .inr (0, 24), .inr (1, 40), .inr (0, 2400), .inr (0, 24), .inr (0, 24), .inr (0, 3), .inr (0, 3), .inr (0, 3), .inr (0, 15), .inr (0, 15), .inr (0, 15), .inr (0, 15), .inr (0, 240), .inr (0, 24), .inr (0, 24), .inr (0, 24), .inr (1, 240), .inr (1, 1)]
def xR0l : List (List (Option Nat)) := [[some 1, some 11, some 99, some 101, some 102, none], [some 2, some 3, some 4, some 5, some 6, some 7, some 8, some 9, some 10], [], [], [], [], [], [], [], [], [], [some 1, none, some 98, none, none], [some 13, some 14, none, none, none], [some 23, some 48, some 73], [some 15, some 16, some 17, some 18, none, some 21, some 22, none], [], [], [], [some 19, some 20], [], [], [], [], [some 24, some 25, none, none, none], [some 28, some 32, some 36, some 40, some 44], [some 26, some 27], [], [], [some 29, none, none, none], [some 30, some 31], [], [], [some 33, none, none, none], [some 34, some 35], [], [], [some 37, none, none, none], [some 38, some 39], [], [], [some 41, none, none, none], [some 42, some 43], [], [], [some 45, none, none, none], [some 46, some 47], [], [], [some 49, some 50, none, none, none], [some 53, some 57, some 61, some 65, some 69], [some 51, some 52], [], [], [some 54, none, none, none], [some 55, some 56], [], [], [some 58, none, none, none], [some 59, some 60], [], [], [some 62, none, none, none], [some 63, some 64], [], [], [some 66, none, none, none], [some 67, some 68], [], [], [some 70, none, none, none], [some 71, some 72], [], [], [some 74, some 75, none, none, none], [some 78, some 82, some 86, some 90, some 94], [some 76, some 77], [], [], [some 79, none, none, none], [some 80, some 81], [], [], [some 83, none, none, none], [some 84, some 85], [], [], [some 87, none, none, none], [some 88, some 89], [], [], [some 91, none, none, none], [some 92, some 93], [], [], [some 95, none, none, none], [some 96, some 97], [], [], [], [some 100, none], [], [some 99], [some 99, none, none, none, none, none], [some 104, some 105, none, none, none], [some 114, some 139, some 164], [some 106, some 107, some 108, some 109, none, some 112, some 113, none], [], [], [], [some 110, some 111], [], [], [], [], [some 115, some 116, none, none, none], [some 119, some 123, some 127, some 131, some 135], [some 117, some 118], [], [], [some 120, none, none, none], [some 121, some 122], [], [], [some 124, none, none, none], [some 125, some 126], [], [], [some 128, none, none, none], [some 129, some 130], [], [], [some 132, none, none, none], [some 133, some 134], [], [], [some 136, none, none, none], [some 137, some 138], [], [], [some 140, some 141, none, none, none], [some 144, some 148, some 152, some 156, some 160], [some 142, some 143], [], [], [some 145, none, none, none], [some 146, some 147], [], [], [some 149, none, none, none], [some 150, some 151], [], [], [some 153, none, none, none], [some 154, some 155], [], [], [some 157, none, none, none], [some 158, some 159], [], [], [some 161, none, none, none], [some 162, some 163], [], [], [some 165, some 166, none, none, none], [some 169, some 173, some 177, some 181, some 185], [some 167, some 168], [], [], [some 170, none, none, none], [some 171, some 172], [], [], [some 174, none, none, none], [some 175, some 176], [], [], [some 178, none, none, none], [some 179, some 180], [], [], [some 182, none, none, none], [some 183, some 184], [], [], [some 186, none, none, none], [some 187, some 188], [], [], [some 190, some 191, some 192, some 193, some 194, some 195, some 196, some 197, some 198, none, none, none, none, none, none, none, none, some 199, some 200, some 201, some 202, some 203, some 204, some 205, some 206, some 207, some 208, some 209, some 210, some 211, some 212, some 213, some 214, some 215, some 216, none, none, none, none, none, none, some 217, some 218, some 219, some 220, some 221, some 222, some 223, some 224, some 225, some 226, some 227, some 228, none, none], [], [], [], [], [], [], [], [], [], [], [], [], [], [], [], [], [], [], [], [], [], [], [], [], [], [], [], [], [], [], [], [], [], [], [], [], [], [], [], []]
def xR0 (a k : Nat) : Option Nat := match xR0l[a]? with
  | some l => (match l[k]? with
    | some r => r
    | none => none)
  | none => none
/-- the layout: b is where the engine's world lies -/
def xLay (T : Nat → Option xT) (R : Nat → Nat → Option Nat) (b : Nat) : Prop := (b = 12 ∨ b = 103) ∧ (∀ a t, xT0l[a]? = some t → T a = some t) ∧ (∀ j, j < 3 → T (1000000 + j) = none) ∧ (∀ a k r, xR0 a k = some r → R a k = some r) ∧ R 0 5 = some (115 - b) ∧ R 11 1 = some b
theorem xLay.t {T : Nat → Option xT} {R : Nat → Nat → Option Nat} {b a : Nat} {t : xT} (h : xLay T R b) (ha : xT0l[a]? = some t) : T a = some t := h.2.1 a t ha
theorem xLay.r {T : Nat → Option xT} {R : Nat → Nat → Option Nat} {b a k r : Nat} (h : xLay T R b) (ha : xR0 a k = some r) : R a k = some r := h.2.2.2.1 a k r ha
/-- a row of cells -/
def xC0 (T : Nat → Option xT) (R : Nat → Nat → Option Nat) (a ka na n : Nat) : Prop := T a = some (.inl 1) ∧ R a 0 = some ka ∧ R a 1 = some na ∧ T ka = some (.inr (0, n)) ∧ T na = some (.inr (1, n))
def xF0 (T : Nat → Option xT) (R : Nat → Nat → Option Nat) (f : Nat) : Prop := T f = some (.inl 3) ∧ R f 0 = some (f + 1) ∧ xC0 T R (f + 1) (f + 2) (f + 3) 11
def xSt0 (T : Nat → Option xT) (R : Nat → Nat → Option Nat) (s : Nat) : Prop := T s = some (.inl 8) ∧ R s 0 = some (s + 1) ∧ T (s + 1) = some (.inr (4, 5)) ∧ R s 1 = some (s + 2) ∧ xC0 T R (s + 2) (s + 3) (s + 4) 1 ∧ ∀ k, k < 5 → R (s + 1) k = some (s + 5 + 4 * k) ∧ xF0 T R (s + 5 + 4 * k)
def xH0 (T : Nat → Option xT) (R : Nat → Nat → Option Nat) (w : Nat) : Prop := T (w + 2) = some (.inl 4) ∧ R (w + 2) 0 = some (w + 3) ∧ R (w + 2) 1 = some (w + 4) ∧ R (w + 2) 2 = some (w + 5) ∧ R (w + 2) 3 = some (w + 6) ∧ R (w + 2) 5 = some (w + 9) ∧ R (w + 2) 6 = some (w + 10) ∧ T (w + 3) = some (.inr (0, 24)) ∧ T (w + 4) = some (.inr (0, 24)) ∧ T (w + 5) = some (.inr (0, 24)) ∧ T (w + 9) = some (.inr (0, 24)) ∧ T (w + 10) = some (.inr (0, 24)) ∧ xC0 T R (w + 6) (w + 7) (w + 8) 72
def xW0 (T : Nat → Option xT) (R : Nat → Nat → Option Nat) (w : Nat) : Prop := T w = some (.inl 9) ∧ R w 0 = some (w + 1) ∧ R w 1 = some (w + 2) ∧ T (w + 1) = some (.inr (3, 3)) ∧ xH0 T R w ∧ ∀ t, t < 3 → R (w + 1) t = some (w + 11 + 25 * t) ∧ xSt0 T R (w + 11 + 25 * t)
def xf_C0 (a ka na n : Nat) : Bool := decide (xT0l[a]? = some (.inl 1)) && decide (xR0 a 0 = some ka) && decide (xR0 a 1 = some na) && decide (xT0l[ka]? = some (.inr (0, n))) && decide (xT0l[na]? = some (.inr (1, n)))
def xf_F0 (f : Nat) : Bool := decide (xT0l[f]? = some (.inl 3)) && decide (xR0 f 0 = some (f + 1)) && xf_C0 (f + 1) (f + 2) (f + 3) 11
def xf_S0 (s : Nat) : Bool := decide (xT0l[s]? = some (.inl 8)) && decide (xR0 s 0 = some (s + 1)) && decide (xT0l[s + 1]? = some (.inr (4, 5))) && decide (xR0 s 1 = some (s + 2)) && xf_C0 (s + 2) (s + 3) (s + 4) 1 && (List.range 5).all (fun k => decide (xR0 (s + 1) k = some (s + 5 + 4 * k)) && xf_F0 (s + 5 + 4 * k))
def xf_W0 (w : Nat) : Bool := decide (xT0l[w]? = some (.inl 9)) && decide (xR0 w 0 = some (w + 1)) && decide (xR0 w 1 = some (w + 2)) && decide (xT0l[w + 1]? = some (.inr (3, 3))) && (List.range 3).all (fun t => decide (xR0 (w + 1) t = some (w + 11 + 25 * t)) && xf_S0 (w + 11 + 25 * t))
def xf_H0 (w : Nat) : Bool := decide (xT0l[w + 2]? = some (.inl 4)) && decide (xR0 (w + 2) 0 = some (w + 3)) && decide (xR0 (w + 2) 1 = some (w + 4)) && decide (xR0 (w + 2) 2 = some (w + 5)) && decide (xR0 (w + 2) 3 = some (w + 6)) && decide (xR0 (w + 2) 5 = some (w + 9)) && decide (xR0 (w + 2) 6 = some (w + 10)) && decide (xT0l[w + 3]? = some (.inr (0, 24))) && decide (xT0l[w + 4]? = some (.inr (0, 24))) && decide (xT0l[w + 5]? = some (.inr (0, 24))) && decide (xT0l[w + 9]? = some (.inr (0, 24))) && decide (xT0l[w + 10]? = some (.inr (0, 24))) && xf_C0 (w + 6) (w + 7) (w + 8) 72
theorem xf_W0_ok : (xf_W0 12 && xf_H0 12 && (xf_W0 103 && xf_H0 103)) = true := by decide +kernel
section LY
variable {T : Nat → Option xT} {R : Nat → Nat → Option Nat} {b : Nat}
theorem xLay.c {a ka na n : Nat} (h : xLay T R b) (hc : xf_C0 a ka na n = true) : xC0 T R a ka na n := by
  unfold xf_C0 at hc
  simp only [Bool.and_eq_true, decide_eq_true_eq] at hc
  obtain ⟨⟨⟨⟨q1, q2⟩, q3⟩, q4⟩, q5⟩ := hc
  exact ⟨h.t q1, h.r q2, h.r q3, h.t q4, h.t q5⟩
theorem xLay.f {f : Nat} (h : xLay T R b) (hc : xf_F0 f = true) : xF0 T R f := by
  unfold xf_F0 at hc
  simp only [Bool.and_eq_true, decide_eq_true_eq] at hc
  exact ⟨h.t hc.1.1, h.r hc.1.2, h.c hc.2⟩
theorem xLay.s {s : Nat} (h : xLay T R b) (hc : xf_S0 s = true) : xSt0 T R s := by
  unfold xf_S0 at hc
  simp only [Bool.and_eq_true, decide_eq_true_eq] at hc
  obtain ⟨⟨⟨⟨⟨q1, q2⟩, q3⟩, q4⟩, q5⟩, q6⟩ := hc
  refine ⟨h.t q1, h.r q2, h.t q3, h.r q4, h.c q5, fun k hk => ?_⟩
  have q7 := List.all_eq_true.mp q6 k (List.mem_range.mpr hk)
  simp only [Bool.and_eq_true, decide_eq_true_eq] at q7
  exact ⟨h.r q7.1, h.f q7.2⟩
theorem xLay.hp {s : Nat} (h : xLay T R b) (hc : xf_H0 s = true) : xH0 T R s := by
  unfold xf_H0 at hc
  simp only [Bool.and_eq_true, decide_eq_true_eq] at hc
  obtain ⟨⟨⟨⟨⟨⟨⟨⟨⟨⟨⟨⟨q1, q2⟩, q3⟩, q4⟩, q5⟩, q6⟩, q7⟩, q8⟩, q9⟩, q10⟩, q11⟩, q12⟩, q13⟩ := hc
  exact ⟨h.t q1, h.r q2, h.r q3, h.r q4, h.r q5, h.r q6, h.r q7, h.t q8, h.t q9, h.t q10, h.t q11, h.t q12, h.c q13⟩
theorem xLay.w0 {w : Nat} (h : xLay T R b) (hc : xf_W0 w = true) (hh : xf_H0 w = true) : xW0 T R w := by
  unfold xf_W0 at hc
  simp only [Bool.and_eq_true, decide_eq_true_eq] at hc
  obtain ⟨⟨⟨⟨q1, q2⟩, q3⟩, q4⟩, q6⟩ := hc
  refine ⟨h.t q1, h.r q2, h.r q3, h.t q4, h.hp hh, fun k hk => ?_⟩
  have q7 := List.all_eq_true.mp q6 k (List.mem_range.mpr hk)
  simp only [Bool.and_eq_true, decide_eq_true_eq] at q7
  exact ⟨h.r q7.1, h.s q7.2⟩
theorem xLay.w {w : Nat} (h : xLay T R b) (hw : w = 12 ∨ w = 103) : xW0 T R w := by
  have h1 := xf_W0_ok
  simp only [Bool.and_eq_true] at h1
  rcases hw with rfl | rfl
  · exact h.w0 h1.1.1 h1.1.2
  · exact h.w0 h1.2.1 h1.2.2
end LY
theorem xF_eq {y : Nat} {as : List Value} {S : xS} {X : xR} (h : ∃ r, xF y as S r ∧ r = X) : xF y as S X := by
  obtain ⟨r, h1, rfl⟩ := h
  exact h1
theorem nI_inc (m : Nat) : nI m + Int32.ofInt 1 = nI (m + 1) := nI_1 m
theorem nI_inc5 (m : Nat) : nI m + Int32.ofInt 5 = nI (m + 5) := nI_add m 5
theorem nI_dec {m : Nat} (h : 1 ≤ m) : nI m + Int32.ofInt (-1) = nI (m - 1) := by
  rw [← nI_sub h]
  show nI m + (-1) = nI m - 1
  rw [Int32.sub_eq_add_neg]
theorem xrcv1 {y2 : Nat} {z : Nat} {T : Nat → Option xT} {R : Nat → Nat → Option Nat} {A : xQ} {a : Nat} {as : List Value} (hk : xc_kind y2 = 1) (ht : T a = some (.inl (xc_yc y2))) : xrcv y2 (xm z T R A) (.ref a :: as) = true := by
  have h1 : xt (xm z T R A) a = some (.inl (xc_yc y2)) := ht
  simp [xrcv, hk, h1]
theorem xrcv0 {y2 : Nat} (hk : xc_kind y2 = 0) (S : xS) (as : List Value) : xrcv y2 S as = true := by
  unfold xrcv
  split <;> simp [hk]
end
section
-- THE CLASS's SMALL METHODS
/-- a loop: n times, from i on -/
def xit (f : Nat → xQ → xQ) : Nat → Nat → xQ → xQ
  | 0, _, A => A
  | n + 1, i, A => xit f n (i + 1) (f i A)
theorem c23 {z : Nat} {T : Nat → Option xT} {R : Nat → Nat → Option Nat} {A : xQ} {a ka na n i k : Nat} {v : Int64} (hC : xC0 T R a ka na n) (hi : i < n) (hn : n < 2 ^ 31) : xF 23 [.ref a, .int (nI i), .int (nI k), .long v] (xm z T R A) (.inr (none), xm z T R (xsJ (xsI A ka i k) na i v)) := by
  obtain ⟨c1, c2, c3, c4, c5⟩ := hC
  refine xF_eq (xF_p (Nat.le_of_ble_eq_true rfl) ?_)
  refine xp_aload_n rfl rfl ?_
  refine xp_gfa rfl rfl (by decide) (by decide) (by assumption) (by assumption) ?_
  refine xp_iload_n rfl rfl ?_
  refine xp_iload_n rfl rfl ?_
  refine xp_iast rfl (by assumption) (by omega) (by omega) ?_
  refine xp_aload_n rfl rfl ?_
  refine xp_gfa rfl rfl (by decide) (by decide) (by assumption) (by assumption) ?_
  refine xp_iload_n rfl rfl ?_
  refine xp_lload_n rfl rfl ?_
  refine xp_last rfl (by assumption) (by omega) (by omega) ?_
  refine xp_return rfl (by decide) (by decide) (by decide) ?_
  rfl
theorem c24 {z : Nat} {T : Nat → Option xT} {R : Nat → Nat → Option Nat} {A : xQ} {a ka na n i d kd nd m j : Nat} (hC : xC0 T R a ka na n) (hD : xC0 T R d kd nd m) (hi : i < n) (hn : n < 2 ^ 31) (hj : j < m) (hm : m < 2 ^ 31) : xF 24 [.ref a, .int (nI i), .ref d, .int (nI j)] (xm z T R A) (.inr (none), xm z T R (xsJ (xsI A ka i (A.1 kd j)) na i (A.2 nd j))) := by
  obtain ⟨c1, c2, c3, c4, c5⟩ := hC
  obtain ⟨d1, d2, d3, d4, d5⟩ := hD
  refine xF_eq (xF_p (Nat.le_of_ble_eq_true rfl) ?_)
  refine xp_aload_n rfl rfl ?_
  refine xp_gfa rfl rfl (by decide) (by decide) (by assumption) (by assumption) ?_
  refine xp_iload_n rfl rfl ?_
  refine xp_aload_n rfl rfl ?_
  refine xp_gfa rfl rfl (by decide) (by decide) (by assumption) (by assumption) ?_
  refine xp_iload_n rfl rfl ?_
  refine xp_iald rfl (by assumption) (by omega) (by omega) ?_
  refine xp_iast rfl (by assumption) (by omega) (by omega) ?_
  refine xp_aload_n rfl rfl ?_
  refine xp_gfa rfl rfl (by decide) (by decide) (by assumption) (by assumption) ?_
  refine xp_iload_n rfl rfl ?_
  refine xp_aload_n rfl rfl ?_
  refine xp_gfa rfl rfl (by decide) (by decide) (by assumption) (by assumption) ?_
  refine xp_iload_n rfl rfl ?_
  refine xp_lald rfl (by assumption) (by omega) (by omega) ?_
  refine xp_last rfl (by assumption) (by omega) (by omega) ?_
  refine xp_return rfl (by decide) (by decide) (by decide) ?_
  rfl
/-- a cell is NULL from now on -/
def xnul1 (ka na i : Nat) (A : xQ) : xQ := xsJ (xsI A ka i 0) na i 0
theorem l25 {z : Nat} {T : Nat → Option xT} {R : Nat → Nat → Option Nat} {a ka na n lo hi : Nat} (hC : xC0 T R a ka na n) (hn : n < 2 ^ 31) (hh : hi ≤ n) : ∀ (m i : Nat) (A : xQ), i + m = hi → xP 25 2 [(0, .ref a), (1, .int (nI lo)), (2, .int (nI hi)), (3, .int (nI i))] [] 0 0 (xm z T R A) (fun r => r = (.inr none, xm z T R (xit (xnul1 ka na) m i A))) := by
  obtain ⟨c1, c2, c3, c4, c5⟩ := hC
  intro m
  induction m with
  | zero =>
    intro i A hi0
    refine xp_iload_n rfl rfl ?_
    refine xp_iload_n rfl rfl ?_
    refine xp_icge 27 rfl (by decide) (by omega) (by omega) (fun h4 => ?_) (fun h4 => ?_)
    · skip
      refine xp_return rfl (by decide) (by decide) (by decide) ?_
      rfl
    · exfalso; omega
  | succ m ih =>
    intro i A hi0
    refine xp_iload_n rfl rfl ?_
    refine xp_iload_n rfl rfl ?_
    refine xp_icge 27 rfl (by decide) (by omega) (by omega) (fun h4 => ?_) (fun h4 => ?_)
    · exfalso; omega
    · skip
      refine xp_aload_n rfl rfl ?_
      refine xp_gfa rfl rfl (by decide) (by decide) (by assumption) (by assumption) ?_
      refine xp_iload_n rfl rfl ?_
      refine xp_iconst (n := 0) rfl (by decide) ?_
      refine xp_iast rfl (by assumption) (by omega) (by omega) ?_
      refine xp_aload_n rfl rfl ?_
      refine xp_gfa rfl rfl (by decide) (by decide) (by assumption) (by assumption) ?_
      refine xp_iload_n rfl rfl ?_
      refine xp_lconst rfl rfl ?_
      refine xp_last rfl (by assumption) (by omega) (by omega) ?_
      refine xp_iinc rfl rfl (by decide) (nI_inc _) ?_
      refine xp_goto 2 rfl (by decide) ?_
      refine xp_weak [(0, .ref a), (1, .int (nI lo)), (2, .int (nI hi)), (3, .int (nI (i + 1)))] (xle_cons rfl (xle_cons rfl (xle_cons rfl (xle_cons rfl (xle_nil _))))) (by simp [xnd]) ?_
      exact ih (i + 1) _ (by omega)
theorem c25 {z : Nat} {T : Nat → Option xT} {R : Nat → Nat → Option Nat} {A : xQ} {a ka na n lo hi : Nat} (hC : xC0 T R a ka na n) (hn : n < 2 ^ 31) (hl : lo ≤ hi) (hh : hi ≤ n) : xF 25 [.ref a, .int (nI lo), .int (nI hi)] (xm z T R A) (.inr none, xm z T R (xit (xnul1 ka na) (hi - lo) lo A)) := by
  refine xF_eq (xF_p (Nat.le_of_ble_eq_true rfl) ?_)
  refine xp_iload_n rfl rfl ?_
  refine xp_istore_n rfl (by decide) ?_
  refine xp_weak [(0, .ref a), (1, .int (nI lo)), (2, .int (nI hi)), (3, .int (nI lo))] (xle_cons rfl (xle_cons rfl (xle_cons rfl (xle_cons rfl (xle_nil _))))) (by simp [xnd]) ?_
  exact l25 hC hn hh (hi - lo) lo A (by omega)
theorem c26 {z : Nat} {T : Nat → Option xT} {R : Nat → Nat → Option Nat} {A : xQ} {a ka na n i : Nat} (hC : xC0 T R a ka na n) (hi : i < n) (hn : n < 2 ^ 31) (hk : A.1 ka i < 2 ^ 31) : xF 26 [.ref a, .int (nI i)] (xm z T R A) (.inr (some (.int (nI (if A.1 ka i = 1 ∨ A.1 ka i = 2 then 1 else 0)))), xm z T R A) := by
  obtain ⟨c1, c2, c3, c4, c5⟩ := hC
  refine xF_eq (xF_p (Nat.le_of_ble_eq_true rfl) ?_)
  refine xp_aload_n rfl rfl ?_
  refine xp_gfa rfl rfl (by decide) (by decide) (by assumption) (by assumption) ?_
  refine xp_iload_n rfl rfl ?_
  refine xp_iald rfl (by assumption) (by omega) (by omega) ?_
  refine xp_iconst (n := 1) rfl (by decide) ?_
  refine xp_iceq 20 rfl (by decide) (by omega) (by omega) (fun h7 => ?_) (fun h7 => ?_)
  · skip
    refine xp_iconst (n := 1) rfl (by decide) ?_
    refine xp_goto 25 rfl (by decide) ?_
    refine xp_zreturn rfl (by decide) (by decide) (by decide) (by omega) ?_
    simp only [*]
    first | rfl | simp
  · skip
    refine xp_aload_n rfl rfl ?_
    refine xp_gfa rfl rfl (by decide) (by decide) (by assumption) (by assumption) ?_
    refine xp_iload_n rfl rfl ?_
    refine xp_iald rfl (by assumption) (by omega) (by omega) ?_
    refine xp_iconst (n := 2) rfl (by decide) ?_
    refine xp_icne 24 rfl (by decide) (by omega) (by omega) (fun h17 => ?_) (fun h17 => ?_)
    · skip
      refine xp_iconst (n := 0) rfl (by decide) ?_
      refine xp_zreturn rfl (by decide) (by decide) (by decide) (by omega) ?_
      simp only [*]
      first | rfl | simp
    · skip
      refine xp_iconst (n := 1) rfl (by decide) ?_
      refine xp_goto 25 rfl (by decide) ?_
      refine xp_zreturn rfl (by decide) (by decide) (by decide) (by omega) ?_
      simp only [*]
      first | rfl | simp
theorem c27 {z : Nat} {T : Nat → Option xT} {R : Nat → Nat → Option Nat} {A : xQ} {a ka na n i j : Nat} (hC : xC0 T R a ka na n) (hi : i < n) (hj : j < n) (hn : n < 2 ^ 31) (hk : A.1 ka i < 2 ^ 31) (hk2 : A.1 ka j < 2 ^ 31) : xF 27 [.ref a, .int (nI i), .int (nI j)] (xm z T R A) (.inr (some (.int (nI (if A.1 ka i = A.1 ka j ∧ A.2 na i = A.2 na j then 1 else 0)))), xm z T R A) := by
  obtain ⟨c1, c2, c3, c4, c5⟩ := hC
  refine xF_eq (xF_p (Nat.le_of_ble_eq_true rfl) ?_)
  refine xp_aload_n rfl rfl ?_
  refine xp_gfa rfl rfl (by decide) (by decide) (by assumption) (by assumption) ?_
  refine xp_iload_n rfl rfl ?_
  refine xp_iald rfl (by assumption) (by omega) (by omega) ?_
  refine xp_aload_n rfl rfl ?_
  refine xp_gfa rfl rfl (by decide) (by decide) (by assumption) (by assumption) ?_
  refine xp_iload_n rfl rfl ?_
  refine xp_iald rfl (by assumption) (by omega) (by omega) ?_
  refine xp_icne 35 rfl (by decide) (by omega) (by omega) (fun h12 => ?_) (fun h12 => ?_)
  · skip
    refine xp_iconst (n := 0) rfl (by decide) ?_
    refine xp_zreturn rfl (by decide) (by decide) (by decide) (by omega) ?_
    simp only [*]
    first | rfl | simp
  · skip
    refine xp_aload_n rfl rfl ?_
    refine xp_gfa rfl rfl (by decide) (by decide) (by assumption) (by assumption) ?_
    refine xp_iload_n rfl rfl ?_
    refine xp_lald rfl (by assumption) (by omega) (by omega) ?_
    refine xp_aload_n rfl rfl ?_
    refine xp_gfa rfl rfl (by decide) (by decide) (by assumption) (by assumption) ?_
    refine xp_iload_n rfl rfl ?_
    refine xp_lald rfl (by assumption) (by omega) (by omega) ?_
    refine xp_lcne 35 rfl rfl (by decide) (fun h27 => ?_) (fun h27 => ?_)
    · skip
      refine xp_iconst (n := 0) rfl (by decide) ?_
      refine xp_zreturn rfl (by decide) (by decide) (by decide) (by omega) ?_
      simp only [*]
      first | rfl | simp
    · skip
      refine xp_iconst (n := 1) rfl (by decide) ?_
      refine xp_goto 36 rfl (by decide) ?_
      refine xp_zreturn rfl (by decide) (by decide) (by decide) (by omega) ?_
      simp only [*]
      first | rfl | simp
theorem c54 {z : Nat} {T : Nat → Option xT} {R : Nat → Nat → Option Nat} {A : xQ} {f : Nat} (hF : xF0 T R f) : xF 54 [.ref f] (xm z T R A) (.inr (some (.int (nI (4 + A.1 f 3)))), xm z T R A) := by
  obtain ⟨f1, f2, hC⟩ := hF
  refine xF_eq (xF_p (Nat.le_of_ble_eq_true rfl) ?_)
  refine xp_iconst (n := 5) rfl (by decide) ?_
  refine xp_aload_n rfl rfl ?_
  refine xp_gfi rfl rfl (by decide) (by decide) (by assumption) ?_
  refine xp_iadd rfl ?_
  refine xp_iconst (n := 1) rfl (by decide) ?_
  refine xp_isub rfl (by omega) ?_
  refine xp_ireturn rfl (by decide) (by decide) (by decide) ?_
  rw [show 5 + A.1 f 3 - 1 = 4 + A.1 f 3 by omega]
/-- a value more on a frame's stack -/
def xpu (A : xQ) (f k : Nat) (v : Int64) : xQ := xsI (xsJ (xsI A (f + 2) (5 + A.1 f 3) k) (f + 3) (5 + A.1 f 3) v) f 3 (A.1 f 3 + 1)
theorem c55f {z : Nat} {T : Nat → Option xT} {R : Nat → Nat → Option Nat} {A : xQ} {f k : Nat} {v : Int64} (hF : xF0 T R f) (hs : A.1 f 3 = 6) : xF 55 [.ref f, .int (nI k), .long v] (xm z T R A) (.inr (some (.int (nI 6))), xm z T R A) := by
  obtain ⟨f1, f2, hC⟩ := hF
  refine xF_eq (xF_p (Nat.le_of_ble_eq_true rfl) ?_)
  refine xp_aload_n rfl rfl ?_
  refine xp_gfi rfl rfl (by decide) (by decide) (by assumption) ?_
  refine xp_bipush (n := 6) rfl (by decide) ?_
  refine xp_iclt 12 rfl (by decide) (by omega) (by omega) (fun h6 => ?_) (fun h6 => ?_)
  · exfalso; omega
  · skip
    refine xp_bipush (n := 6) rfl (by decide) ?_
    refine xp_ireturn rfl (by decide) (by decide) (by decide) ?_
    rfl
theorem c55 {z : Nat} {T : Nat → Option xT} {R : Nat → Nat → Option Nat} {A : xQ} {f k : Nat} {v : Int64} (hF : xF0 T R f) (hs : A.1 f 3 < 6) : xF 55 [.ref f, .int (nI k), .long v] (xm z T R A) (.inr (some (.int (nI 0))), xm z T R (xpu A f k v)) := by
  obtain ⟨f1, f2, hC⟩ := hF
  refine xF_eq (xF_p (Nat.le_of_ble_eq_true rfl) ?_)
  refine xp_aload_n rfl rfl ?_
  refine xp_gfi rfl rfl (by decide) (by decide) (by assumption) ?_
  refine xp_bipush (n := 6) rfl (by decide) ?_
  refine xp_iclt 12 rfl (by decide) (by omega) (by omega) (fun h6 => ?_) (fun h6 => ?_)
  · skip
    refine xp_aload_n rfl rfl ?_
    refine xp_gfa rfl rfl (by decide) (by decide) (by assumption) (by assumption) ?_
    refine xp_iconst (n := 5) rfl (by decide) ?_
    refine xp_aload_n rfl rfl ?_
    refine xp_gfi rfl rfl (by decide) (by decide) (by assumption) ?_
    refine xp_iadd rfl ?_
    refine xp_iload_n rfl rfl ?_
    refine xp_lload_n rfl rfl ?_
    refine xp_iv rfl rfl (Nat.le_of_ble_eq_true rfl) (by decide) (by decide) (by decide) (Nat.le_of_ble_eq_true rfl) rfl (xrcv1 (by decide) (by exact hC.1)) (c23 hC (by omega) (by omega)) rfl ?_
    refine xp_aload_n rfl rfl ?_
    refine xp_dup rfl rfl ?_
    refine xp_gfi rfl rfl (by decide) (by decide) (by assumption) ?_
    refine xp_iconst (n := 1) rfl (by decide) ?_
    refine xp_iadd rfl ?_
    refine xp_pfi rfl rfl (by decide) (by decide) (by decide) (by assumption) ?_
    refine xp_iconst (n := 0) rfl (by decide) ?_
    refine xp_ireturn rfl (by decide) (by decide) (by decide) ?_
    simp [xpu, xsI, xsJ, x2]
  · exfalso; omega
end
section
-- FRAMES, STRANDS, THE HEAP, THE WORLD: what they do, as functions of the memory
theorem xne {α : Type} {T : Nat → Option α} {a b : Nat} {x y : α} (h1 : T a = some x) (h2 : T b = some y) (h : x ≠ y) : a ≠ b := by
  rintro rfl
  rw [h1] at h2
  exact h (Option.some.inj h2)
theorem xsI_ne {A : xQ} {a k v b j : Nat} (h : b ≠ a ∨ j ≠ k) : (xsI A a k v).1 b j = A.1 b j := by
  show x2 A.1 a k v b j = _
  unfold x2
  split
  · split
    · omega
    · rfl
  · rfl
theorem xsI_eq {A : xQ} {a k v : Nat} : (xsI A a k v).1 a k = v := by
  show x2 A.1 a k v a k = _
  simp [x2]
theorem xsJ_ne {A : xQ} {a k : Nat} {v : Int64} {b j : Nat} (h : b ≠ a ∨ j ≠ k) : (xsJ A a k v).2 b j = A.2 b j := by
  show x2 A.2 a k v b j = _
  unfold x2
  split
  · split
    · omega
    · rfl
  · rfl
theorem xsJ_eq {A : xQ} {a k : Nat} {v : Int64} : (xsJ A a k v).2 a k = v := by
  show x2 A.2 a k v a k = _
  simp [x2]
theorem xit_keep {f : Nat → xQ → xQ} {b j : Nat} (hf : ∀ i A, (f i A).1 b j = A.1 b j) : ∀ (n i : Nat) (A : xQ), (xit f n i A).1 b j = A.1 b j := by
  intro n
  induction n with
  | zero => intro i A; rfl
  | succ n ih => intro i A; show (xit f n (i + 1) (f i A)).1 b j = _; rw [ih, hf]
theorem xit_keep2 {f : Nat → xQ → xQ} {b j : Nat} (hf : ∀ i A, (f i A).2 b j = A.2 b j) : ∀ (n i : Nat) (A : xQ), (xit f n i A).2 b j = A.2 b j := by
  intro n
  induction n with
  | zero => intro i A; rfl
  | succ n ih => intro i A; show (xit f n (i + 1) (f i A)).2 b j = _; rw [ih, hf]
theorem nI_div {m n : Nat} (hm : m < 2 ^ 31) (hn : n < 2 ^ 31) (h0 : 0 < n) : nI m / nI n = nI (m / n) := by
  apply Int32.toInt_inj.mp
  have hq : m / n < 2 ^ 31 := Nat.lt_of_le_of_lt (Nat.div_le_self _ _) hm
  rw [Int32.toInt_div, nI_toInt hm, nI_toInt hn, nI_toInt hq, ← Int.ofNat_tdiv]
  simp only [Int.bmod]
  have : ((m / n : Nat) : Int) < 2 ^ 31 := by exact_mod_cast hq
  have h2 : (0 : Int) ≤ ((m / n : Nat) : Int) := Int.natCast_nonneg _
  generalize ((m / n : Nat) : Int) = q at *
  omega
theorem nI_rem {m n : Nat} (hm : m < 2 ^ 31) (hn : n < 2 ^ 31) (h0 : 0 < n) : nI m - nI m / nI n * nI n = nI (m % n) := by
  rw [nI_div hm hn h0, nI_mul, nI_sub (Nat.div_mul_le_self m n)]
  congr 1
  have := Nat.div_add_mod' m n
  omega
def oN (v : Int64) : Nat := v.toInt32.toUInt32.toNat
theorem oN_lN {n : Nat} (h : n < 2 ^ 32) : oN (lN n) = n := by
  unfold oN
  rw [lN_i, nI_u]
  omega
theorem oN_i (v : Int64) : v.toInt32 = nI (oN v) := nI_all _
theorem oN_lt (v : Int64) : oN v < 2 ^ 32 := nI_lt32 _
/-- push, as the class does it: the error, the memory -/
def aPush (A : xQ) (f k : Nat) (v : Int64) : Nat × xQ := if A.1 f 3 < 6 then (0, xpu A f k v) else (6, A)
theorem c55a {z : Nat} {T : Nat → Option xT} {R : Nat → Nat → Option Nat} {A : xQ} {f k : Nat} {v : Int64} (hF : xF0 T R f) (hs : A.1 f 3 ≤ 6) : xF 55 [.ref f, .int (nI k), .long v] (xm z T R A) (.inr (some (.int (nI (aPush A f k v).1))), xm z T R (aPush A f k v).2) := by
  unfold aPush
  split
  · exact c55 hF (by omega)
  · exact c55f hF (by omega)
theorem c56 {z : Nat} {T : Nat → Option xT} {R : Nat → Nat → Option Nat} {A : xQ} {f a ka na n i : Nat} (hF : xF0 T R f) (hC : xC0 T R a ka na n) (hi : i < n) (hn : n < 2 ^ 31) (hs : A.1 f 3 ≤ 6) : xF 56 [.ref f, .ref a, .int (nI i)] (xm z T R A) (.inr (some (.int (nI (aPush A f (A.1 ka i) (A.2 na i)).1))), xm z T R (aPush A f (A.1 ka i) (A.2 na i)).2) := by
  obtain ⟨c1, c2, c3, c4, c5⟩ := hC
  refine xF_eq (xF_p (Nat.le_of_ble_eq_true rfl) ?_)
  refine xp_aload_n rfl rfl ?_
  refine xp_aload_n rfl rfl ?_
  refine xp_gfa rfl rfl (by decide) (by decide) (by assumption) (by assumption) ?_
  refine xp_iload_n rfl rfl ?_
  refine xp_iald rfl (by assumption) (by omega) (by omega) ?_
  refine xp_aload_n rfl rfl ?_
  refine xp_gfa rfl rfl (by decide) (by decide) (by assumption) (by assumption) ?_
  refine xp_iload_n rfl rfl ?_
  refine xp_lald rfl (by assumption) (by omega) (by omega) ?_
  refine xp_iv rfl rfl (Nat.le_of_ble_eq_true rfl) (by decide) (by decide) (by decide) (Nat.le_of_ble_eq_true rfl) rfl (xrcv1 (by decide) (by exact hF.1)) (c55a hF hs) rfl ?_
  refine xp_ireturn rfl (by decide) (by decide) (by decide) ?_
  rfl
/-- a value copied from cell j of (kb, nb) to cell i of (ka, na) -/
def aCopy (ka na i kb nb j : Nat) (A : xQ) : xQ := xsJ (xsI A ka i (A.1 kb j)) na i (A.2 nb j)
def aTake (A : xQ) (g f n a : Nat) : xQ := xsI (xit (fun i B => aCopy (g + 2) (g + 3) (1 + i) (f + 2) (f + 3) (5 + A.1 f 3 - a - n + i) B) n 0 A) f 3 (A.1 f 3 - (n + a))
theorem l57 {z : Nat} {T : Nat → Option xT} {R : Nat → Nat → Option Nat} {g f n a fs : Nat} (hF : xF0 T R f) (hG : xF0 T R g) (hn : n ≤ 2) (hfs : n + a ≤ fs) (hf6 : fs ≤ 6) : ∀ (m i : Nat) (A : xQ), i + m = n → A.1 f 3 = fs → xP 57 15 [(0, .ref g), (1, .ref f), (2, .int (nI n)), (3, .int (nI a)), (4, .int (nI (5 + fs - a - n))), (5, .int (nI i))] [] 0 0 (xm z T R A) (fun r => r = (.inr none, xm z T R (xsI (xit (fun i B => aCopy (g + 2) (g + 3) (1 + i) (f + 2) (f + 3) (5 + fs - a - n + i) B) m i A) f 3 (fs - (n + a))))) := by
  obtain ⟨f1, f2, hC⟩ := hF
  obtain ⟨g1, g2, hG⟩ := hG
  have hne : f ≠ g + 2 := xne f1 hG.2.2.2.1 (by simp)
  intro m
  induction m with
  | zero =>
    intro i A hi0 hs0
    refine xp_iload rfl rfl ?_
    refine xp_iload_n rfl rfl ?_
    refine xp_icge 47 rfl (by decide) (by omega) (by omega) (fun h18 => ?_) (fun h18 => ?_)
    · skip
      refine xp_aload_n rfl rfl ?_
      refine xp_dup rfl rfl ?_
      refine xp_gfi rfl rfl (by decide) (by decide) (by assumption) ?_
      refine xp_iload_n rfl rfl ?_
      refine xp_iload_n rfl rfl ?_
      refine xp_iadd rfl ?_
      refine xp_isub rfl (by rw [hs0]; omega) ?_
      refine xp_pfi rfl rfl (by decide) (by decide) (by decide) (by assumption) ?_
      refine xp_return rfl (by decide) (by decide) (by decide) ?_
      rw [hs0]
      rfl
    · exfalso; omega
  | succ m ih =>
    intro i A hi0 hs0
    refine xp_iload rfl rfl ?_
    refine xp_iload_n rfl rfl ?_
    refine xp_icge 47 rfl (by decide) (by omega) (by omega) (fun h18 => ?_) (fun h18 => ?_)
    · exfalso; omega
    · skip
      refine xp_aload_n rfl rfl ?_
      refine xp_gfa rfl rfl (by decide) (by decide) (by assumption) (by assumption) ?_
      refine xp_iconst (n := 1) rfl (by decide) ?_
      refine xp_iload rfl rfl ?_
      refine xp_iadd rfl ?_
      refine xp_aload_n rfl rfl ?_
      refine xp_gfa rfl rfl (by decide) (by decide) (by assumption) (by assumption) ?_
      refine xp_iload rfl rfl ?_
      refine xp_iload rfl rfl ?_
      refine xp_iadd rfl ?_
      refine xp_iv rfl rfl (Nat.le_of_ble_eq_true rfl) (by decide) (by decide) (by decide) (Nat.le_of_ble_eq_true rfl) rfl (xrcv1 (by decide) (by exact hG.1)) (c24 hG hC (by omega) (by omega) (by omega) (by omega)) rfl ?_
      refine xp_iinc rfl rfl (by decide) (nI_inc _) ?_
      refine xp_goto 15 rfl (by decide) ?_
      refine xp_weak [(0, .ref g), (1, .ref f), (2, .int (nI n)), (3, .int (nI a)), (4, .int (nI (5 + fs - a - n))), (5, .int (nI (i + 1)))] (xle_cons rfl (xle_cons rfl (xle_cons rfl (xle_cons rfl (xle_cons rfl (xle_cons rfl (xle_nil _))))))) (by simp [xnd]) ?_
      refine ih (i + 1) _ (by omega) ?_
      show (xsI _ _ _ _).1 f 3 = fs
      rw [xsI_ne (Or.inl hne)]
      exact hs0
theorem c57 {z : Nat} {T : Nat → Option xT} {R : Nat → Nat → Option Nat} {A : xQ} {g f n a : Nat} (hF : xF0 T R f) (hG : xF0 T R g) (hn : n ≤ 2) (hfs : n + a ≤ A.1 f 3) (hf6 : A.1 f 3 ≤ 6) : xF 57 [.ref g, .ref f, .int (nI n), .int (nI a)] (xm z T R A) (.inr none, xm z T R (aTake A g f n a)) := by
  refine xF_eq (xF_p (Nat.le_of_ble_eq_true rfl) ?_)
  have hF0 := hF
  obtain ⟨f1, f2, hC⟩ := hF
  refine xp_iconst (n := 5) rfl (by decide) ?_
  refine xp_aload_n rfl rfl ?_
  refine xp_gfi rfl rfl (by decide) (by decide) (by assumption) ?_
  refine xp_iadd rfl ?_
  refine xp_iload_n rfl rfl ?_
  refine xp_isub rfl (by omega) ?_
  refine xp_iload_n rfl rfl ?_
  refine xp_isub rfl (by omega) ?_
  refine xp_istore rfl (by decide) ?_
  refine xp_iconst (n := 0) rfl (by decide) ?_
  refine xp_istore rfl (by decide) ?_
  refine xp_weak [(0, .ref g), (1, .ref f), (2, .int (nI n)), (3, .int (nI a)), (4, .int (nI (5 + A.1 f 3 - a - n))), (5, .int (nI 0))] (xle_cons rfl (xle_cons rfl (xle_cons rfl (xle_cons rfl (xle_cons rfl (xle_cons rfl (xle_nil _))))))) (by simp [xnd]) ?_
  exact l57 hF0 hG hn hfs hf6 n 0 A (by omega) rfl
theorem c94 {z : Nat} {T : Nat → Option xT} {R : Nat → Nat → Option Nat} {A : xQ} {s st er : Nat} (hS : xSt0 T R s) : xF 94 [.ref s, .int (nI st), .int (nI er)] (xm z T R A) (.inr (none), xm z T R (xsI (xsI (xsI A s 2 st) s 4 er) s 3 0)) := by
  obtain ⟨s1, s2, s3, s4, s5, s6⟩ := hS
  refine xF_eq (xF_p (Nat.le_of_ble_eq_true rfl) ?_)
  refine xp_aload_n rfl rfl ?_
  refine xp_iload_n rfl rfl ?_
  refine xp_pfi rfl rfl (by decide) (by decide) (by decide) (by assumption) ?_
  refine xp_aload_n rfl rfl ?_
  refine xp_iload_n rfl rfl ?_
  refine xp_pfi rfl rfl (by decide) (by decide) (by decide) (by assumption) ?_
  refine xp_aload_n rfl rfl ?_
  refine xp_iconst (n := 0) rfl (by decide) ?_
  refine xp_pfi rfl rfl (by decide) (by decide) (by decide) (by assumption) ?_
  refine xp_return rfl (by decide) (by decide) (by decide) ?_
  rfl
def aOpen (A : xQ) (s fn : Nat) : xQ := xit (xnul1 (s + 5 + 4 * A.1 s 3 + 2) (s + 5 + 4 * A.1 s 3 + 3)) 5 0 (xsI (xsI (xsI (xsI A s 3 (A.1 s 3 + 1)) (s + 5 + 4 * A.1 s 3) 1 fn) (s + 5 + 4 * A.1 s 3) 2 0) (s + 5 + 4 * A.1 s 3) 3 0)
theorem c95 {z : Nat} {T : Nat → Option xT} {R : Nat → Nat → Option Nat} {A : xQ} {s fn : Nat} (hS : xSt0 T R s) (hd : A.1 s 3 < 5) : xF 95 [.ref s, .int (nI fn)] (xm z T R A) (.inr (some (.ref (s + 5 + 4 * A.1 s 3))), xm z T R (aOpen A s fn)) := by
  obtain ⟨s1, s2, s3, s4, s5, s6⟩ := hS
  obtain ⟨k1, hF⟩ := s6 _ hd
  obtain ⟨f1, f2, hC⟩ := hF
  refine xF_eq (xF_p (Nat.le_of_ble_eq_true rfl) ?_)
  refine xp_aload_n rfl rfl ?_
  refine xp_gfa rfl rfl (by decide) (by decide) (by assumption) (by assumption) ?_
  refine xp_aload_n rfl rfl ?_
  refine xp_gfi rfl rfl (by decide) (by decide) (by assumption) ?_
  refine xp_aald rfl (by assumption) (by decide) (by decide) (by omega) (by omega) (by assumption) ?_
  refine xp_astore_n rfl (by decide) ?_
  refine xp_aload_n rfl rfl ?_
  refine xp_dup rfl rfl ?_
  refine xp_gfi rfl rfl (by decide) (by decide) (by assumption) ?_
  refine xp_iconst (n := 1) rfl (by decide) ?_
  refine xp_iadd rfl ?_
  refine xp_pfi rfl rfl (by decide) (by decide) (by decide) (by assumption) ?_
  refine xp_aload_n rfl rfl ?_
  refine xp_iload_n rfl rfl ?_
  refine xp_pfi rfl rfl (by decide) (by decide) (by decide) (by assumption) ?_
  refine xp_aload_n rfl rfl ?_
  refine xp_iconst (n := 0) rfl (by decide) ?_
  refine xp_pfi rfl rfl (by decide) (by decide) (by decide) (by assumption) ?_
  refine xp_aload_n rfl rfl ?_
  refine xp_iconst (n := 0) rfl (by decide) ?_
  refine xp_pfi rfl rfl (by decide) (by decide) (by decide) (by assumption) ?_
  refine xp_aload_n rfl rfl ?_
  refine xp_gfa rfl rfl (by decide) (by decide) (by assumption) (by assumption) ?_
  refine xp_iconst (n := 0) rfl (by decide) ?_
  refine xp_iconst (n := 5) rfl (by decide) ?_
  refine xp_iv rfl rfl (Nat.le_of_ble_eq_true rfl) (by decide) (by decide) (by decide) (Nat.le_of_ble_eq_true rfl) rfl (xrcv1 (by decide) (by exact hC.1)) (c25 hC (by omega) (by omega) (by omega)) rfl ?_
  refine xp_aload_n rfl rfl ?_
  refine xp_areturn rfl (by decide) (by decide) (by decide) ?_
  rfl
theorem c96 {z : Nat} {T : Nat → Option xT} {R : Nat → Nat → Option Nat} {A : xQ} {s : Nat} (hS : xSt0 T R s) (h1 : 1 ≤ A.1 s 3) (h5 : A.1 s 3 ≤ 5) : xF 96 [.ref s] (xm z T R A) (.inr (some (.ref (s + 5 + 4 * (A.1 s 3 - 1)))), xm z T R A) := by
  obtain ⟨s1, s2, s3, s4, s5, s6⟩ := hS
  obtain ⟨k1, hF⟩ := s6 (A.1 s 3 - 1) (by omega)
  refine xF_eq (xF_p (Nat.le_of_ble_eq_true rfl) ?_)
  refine xp_aload_n rfl rfl ?_
  refine xp_gfa rfl rfl (by decide) (by decide) (by assumption) (by assumption) ?_
  refine xp_aload_n rfl rfl ?_
  refine xp_gfi rfl rfl (by decide) (by decide) (by assumption) ?_
  refine xp_iconst (n := 1) rfl (by decide) ?_
  refine xp_isub rfl (by omega) ?_
  refine xp_aald rfl (by assumption) (by decide) (by decide) (by omega) (by omega) (by assumption) ?_
  refine xp_areturn rfl (by decide) (by decide) (by decide) ?_
  rfl
theorem c25k {z : Nat} {T : Nat → Option xT} {R : Nat → Nat → Option Nat} {A : xQ} {a ka na n lo k : Nat} (hC : xC0 T R a ka na n) (hn : n < 2 ^ 31) (hh : lo + k ≤ n) : xF 25 [.ref a, .int (nI lo), .int (nI (lo + k))] (xm z T R A) (.inr none, xm z T R (xit (xnul1 ka na) k lo A)) := by
  have h9 := c25 (z := z) (A := A) (lo := lo) (hi := lo + k) hC hn (by omega) hh
  rw [show lo + k - lo = k by omega] at h9
  exact h9
def aClear (w : Nat) (A : xQ) : xQ := xsI (xit (fun i B => xsI B (w + 3) i 0) 24 0 A) (w + 2) 4 0
theorem l59 {z : Nat} {T : Nat → Option xT} {R : Nat → Nat → Option Nat} {w : Nat} (hH : xH0 T R w) : ∀ (m i : Nat) (A : xQ), i + m = 24 → xP 59 2 [(0, .ref (w + 2)), (1, .int (nI i))] [] 0 0 (xm z T R A) (fun r => r = (.inr (none), xm z T R (xsI (xit (fun i B => xsI B (w + 3) i 0) m i A) (w + 2) 4 0))) := by
  obtain ⟨h1, h2, h3, h4, h5, h6, h7, h8, h9, h10, h11, h12, hC⟩ := hH
  intro m
  induction m with
  | zero =>
    intro i A hi0
    refine xp_iload_n rfl rfl ?_
    refine xp_bipush (n := 24) rfl (by decide) ?_
    refine xp_icge 21 rfl (by decide) (by omega) (by omega) (fun h5 => ?_) (fun h5 => ?_)
    · skip
      refine xp_aload_n rfl rfl ?_
      refine xp_iconst (n := 0) rfl (by decide) ?_
      refine xp_pfi rfl rfl (by decide) (by decide) (by decide) (by assumption) ?_
      refine xp_return rfl (by decide) (by decide) (by decide) ?_
      rfl
    · exfalso; omega
  | succ m ih =>
    intro i A hi0
    refine xp_iload_n rfl rfl ?_
    refine xp_bipush (n := 24) rfl (by decide) ?_
    refine xp_icge 21 rfl (by decide) (by omega) (by omega) (fun h5 => ?_) (fun h5 => ?_)
    · exfalso; omega
    · skip
      refine xp_aload_n rfl rfl ?_
      refine xp_gfa rfl rfl (by decide) (by decide) (by assumption) (by assumption) ?_
      refine xp_iload_n rfl rfl ?_
      refine xp_iconst (n := 0) rfl (by decide) ?_
      refine xp_iast rfl (by assumption) (by omega) (by omega) ?_
      refine xp_iinc rfl rfl (by decide) (nI_inc _) ?_
      refine xp_goto 2 rfl (by decide) ?_
      refine xp_weak [(0, .ref (w + 2)), (1, .int (nI (i + 1)))] (xle_cons rfl (xle_cons rfl (xle_nil _))) (by simp [xnd]) ?_
      exact ih (i + 1) _ (by omega)
theorem c59 {z : Nat} {T : Nat → Option xT} {R : Nat → Nat → Option Nat} {A : xQ} {w : Nat} (hH : xH0 T R w) : xF 59 [.ref (w + 2)] (xm z T R A) (.inr (none), xm z T R (aClear w A)) := by
  refine xF_eq (xF_p (Nat.le_of_ble_eq_true rfl) ?_)
  refine xp_iconst (n := 0) rfl (by decide) ?_
  refine xp_istore_n rfl (by decide) ?_
  refine xp_weak [(0, .ref (w + 2)), (1, .int (nI 0))] (xle_cons rfl (xle_cons rfl (xle_nil _))) (by simp [xnd]) ?_
  exact l59 hH 24 0 A (by omega)
theorem c60 {z : Nat} {T : Nat → Option xT} {R : Nat → Nat → Option Nat} {A : xQ} {h n : Nat}  : xF 60 [.ref h, .int (nI n)] (xm z T R A) (.inr (some (.int (nI (n * 3)))), xm z T R A) := by
  refine xF_eq (xF_p (Nat.le_of_ble_eq_true rfl) ?_)
  refine xp_iload_n rfl rfl ?_
  refine xp_iconst (n := 3) rfl (by decide) ?_
  refine xp_imul rfl ?_
  refine xp_ireturn rfl (by decide) (by decide) (by decide) ?_
  rfl
def aShape (w o k fn sz : Nat) (A : xQ) : xQ := xsI (xsI (xsI A (w + 3) o k) (w + 4) o fn) (w + 5) o sz
theorem c62 {z : Nat} {T : Nat → Option xT} {R : Nat → Nat → Option Nat} {A : xQ} {w o k fn sz : Nat} (hH : xH0 T R w) (ho : o < 24) : xF 62 [.ref (w + 2), .int (nI o), .int (nI k), .int (nI fn), .int (nI sz)] (xm z T R A) (.inr (none), xm z T R (aShape w o k fn sz A)) := by
  obtain ⟨h1, h2, h3, h4, h5, h6, h7, h8, h9, h10, h11, h12, hC⟩ := hH
  refine xF_eq (xF_p (Nat.le_of_ble_eq_true rfl) ?_)
  refine xp_aload_n rfl rfl ?_
  refine xp_gfa rfl rfl (by decide) (by decide) (by assumption) (by assumption) ?_
  refine xp_iload_n rfl rfl ?_
  refine xp_iload_n rfl rfl ?_
  refine xp_iast rfl (by assumption) (by omega) (by omega) ?_
  refine xp_aload_n rfl rfl ?_
  refine xp_gfa rfl rfl (by decide) (by decide) (by assumption) (by assumption) ?_
  refine xp_iload_n rfl rfl ?_
  refine xp_iload_n rfl rfl ?_
  refine xp_iast rfl (by assumption) (by omega) (by omega) ?_
  refine xp_aload_n rfl rfl ?_
  refine xp_gfa rfl rfl (by decide) (by decide) (by assumption) (by assumption) ?_
  refine xp_iload_n rfl rfl ?_
  refine xp_iload rfl rfl ?_
  refine xp_iast rfl (by assumption) (by omega) (by omega) ?_
  refine xp_return rfl (by decide) (by decide) (by decide) ?_
  rfl
/-- the first free slot, of those from o on -/
def aFree (w : Nat) (A : xQ) : Nat → Nat → Nat
  | 0, o => o
  | n + 1, o => if A.1 (w + 3) o = 0 then o else aFree w A n (o + 1)
theorem aFree_le (w : Nat) (A : xQ) : ∀ n o, aFree w A n o ≤ o + n := by
  intro n
  induction n with
  | zero => intro o; exact Nat.le_refl _
  | succ n ih =>
    intro o
    unfold aFree
    split
    · omega
    · have := ih (o + 1); omega
/-- an object made in slot o -/
def aMakeAt (w k fn sz o : Nat) (A : xQ) : xQ := xsI (xit (xnul1 (w + 7) (w + 8)) 3 (o * 3) (aShape w o k fn sz A)) (w + 2) 4 ((xit (xnul1 (w + 7) (w + 8)) 3 (o * 3) (aShape w o k fn sz A)).1 (w + 2) 4 + 1)
def aMake (w k fn sz : Nat) (A : xQ) : xQ := aMakeAt w k fn sz (aFree w A 23 0) A
theorem l61b {z : Nat} {T : Nat → Option xT} {R : Nat → Nat → Option Nat} {A : xQ} {w k fn sz o : Nat} (hH : xH0 T R w) (ho : o < 24) : xP 61 26 [(0, .ref (w + 2)), (1, .int (nI k)), (2, .int (nI fn)), (3, .int (nI sz)), (4, .int (nI o))] [] 0 0 (xm z T R A) (fun r => r = (.inr (some (.int (nI o))), xm z T R (aMakeAt w k fn sz o A))) := by
  refine xp_aload_n rfl rfl ?_
  refine xp_iload rfl rfl ?_
  refine xp_iload_n rfl rfl ?_
  refine xp_iload_n rfl rfl ?_
  refine xp_iload_n rfl rfl ?_
  refine xp_iv rfl rfl (Nat.le_of_ble_eq_true rfl) (by decide) (by decide) (by decide) (Nat.le_of_ble_eq_true rfl) rfl (xrcv1 (by decide) (by exact hH.1)) (c62 hH (by omega)) rfl ?_
  refine xp_aload_n rfl rfl ?_
  refine xp_gfa rfl rfl (by decide) (by decide) (by first | assumption | exact hH.1 | exact hH.2.2.2.2.2.2.2.2.2.2.2.2.1) (by first | assumption | exact hH.2.1 | exact hH.2.2.2.2.1) ?_
  refine xp_aload_n rfl rfl ?_
  refine xp_iload rfl rfl ?_
  refine xp_iv rfl rfl (Nat.le_of_ble_eq_true rfl) (by decide) (by decide) (by decide) (Nat.le_of_ble_eq_true rfl) rfl (xrcv1 (by decide) (by exact hH.1)) (c60) rfl ?_
  refine xp_aload_n rfl rfl ?_
  refine xp_iload rfl rfl ?_
  refine xp_iv rfl rfl (Nat.le_of_ble_eq_true rfl) (by decide) (by decide) (by decide) (Nat.le_of_ble_eq_true rfl) rfl (xrcv1 (by decide) (by exact hH.1)) (c60) rfl ?_
  refine xp_iconst (n := 3) rfl (by decide) ?_
  refine xp_iadd rfl ?_
  refine xp_iv rfl rfl (Nat.le_of_ble_eq_true rfl) (by decide) (by decide) (by decide) (Nat.le_of_ble_eq_true rfl) rfl (xrcv1 (by decide) (by exact hH.2.2.2.2.2.2.2.2.2.2.2.2.1)) (c25k hH.2.2.2.2.2.2.2.2.2.2.2.2 (by omega) (by omega)) rfl ?_
  refine xp_aload_n rfl rfl ?_
  refine xp_dup rfl rfl ?_
  refine xp_gfi rfl rfl (by decide) (by decide) (by first | assumption | exact hH.1 | exact hH.2.2.2.2.2.2.2.2.2.2.2.2.1) ?_
  refine xp_iconst (n := 1) rfl (by decide) ?_
  refine xp_iadd rfl ?_
  refine xp_pfi rfl rfl (by decide) (by decide) (by decide) (by first | assumption | exact hH.1 | exact hH.2.2.2.2.2.2.2.2.2.2.2.2.1) ?_
  refine xp_iload rfl rfl ?_
  refine xp_ireturn rfl (by decide) (by decide) (by decide) ?_
  rfl
theorem l61 {z : Nat} {T : Nat → Option xT} {R : Nat → Nat → Option Nat} {A : xQ} {w k fn sz : Nat} (hH : xH0 T R w) (hk : ∀ o, o < 24 → A.1 (w + 3) o < 2 ^ 31) : ∀ (m i : Nat), i + m = 23 → xP 61 3 [(0, .ref (w + 2)), (1, .int (nI k)), (2, .int (nI fn)), (3, .int (nI sz)), (4, .int (nI i))] [] 0 0 (xm z T R A) (fun r => r = (.inr (some (.int (nI (aFree w A m i)))), xm z T R (aMakeAt w k fn sz (aFree w A m i) A))) := by
  intro m
  induction m with
  | zero =>
    intro i hi0
    refine xp_iload rfl rfl ?_
    refine xp_bipush (n := 23) rfl (by decide) ?_
    refine xp_icge 26 rfl (by decide) (by omega) (by omega) (fun h7 => ?_) (fun h7 => ?_)
    · skip
      refine xp_weak [(0, .ref (w + 2)), (1, .int (nI k)), (2, .int (nI fn)), (3, .int (nI sz)), (4, .int (nI i))] (xle_cons rfl (xle_cons rfl (xle_cons rfl (xle_cons rfl (xle_cons rfl (xle_nil _)))))) (by simp [xnd]) ?_
      exact l61b hH (by omega)
    · exfalso; omega
  | succ m ih =>
    intro i hi0
    have hk0 := hk i (by omega)
    refine xp_iload rfl rfl ?_
    refine xp_bipush (n := 23) rfl (by decide) ?_
    refine xp_icge 26 rfl (by decide) (by omega) (by omega) (fun h7 => ?_) (fun h7 => ?_)
    · exfalso; omega
    · skip
      refine xp_aload_n rfl rfl ?_
      refine xp_gfa rfl rfl (by decide) (by decide) (by first | assumption | exact hH.1 | exact hH.2.2.2.2.2.2.2.1) (by first | assumption | exact hH.2.1) ?_
      refine xp_iload rfl rfl ?_
      refine xp_iald rfl (by first | assumption | exact hH.1 | exact hH.2.2.2.2.2.2.2.1) (by omega) (by omega) ?_
      refine xp_ifeq 26 rfl (by decide) (by omega) (fun h17 => ?_) (fun h17 => ?_)
      · skip
        have e : aFree w A (m + 1) i = i := by
          show (if A.1 (w + 3) i = 0 then i else _) = _
          rw [if_pos h17]
        rw [e]
        refine xp_weak [(0, .ref (w + 2)), (1, .int (nI k)), (2, .int (nI fn)), (3, .int (nI sz)), (4, .int (nI i))] (xle_cons rfl (xle_cons rfl (xle_cons rfl (xle_cons rfl (xle_cons rfl (xle_nil _)))))) (by simp [xnd]) ?_
        exact l61b hH (by omega)
      · skip
        refine xp_iinc rfl rfl (by decide) (nI_inc _) ?_
        refine xp_goto 3 rfl (by decide) ?_
        refine xp_weak [(0, .ref (w + 2)), (1, .int (nI k)), (2, .int (nI fn)), (3, .int (nI sz)), (4, .int (nI (i + 1)))] (xle_cons rfl (xle_cons rfl (xle_cons rfl (xle_cons rfl (xle_cons rfl (xle_nil _)))))) (by simp [xnd]) ?_
        have e : aFree w A (m + 1) i = aFree w A m (i + 1) := by
          show (if A.1 (w + 3) i = 0 then i else _) = _
          rw [if_neg h17]
        rw [e]
        exact ih (i + 1) (by omega)
theorem c61 {z : Nat} {T : Nat → Option xT} {R : Nat → Nat → Option Nat} {A : xQ} {w k fn sz : Nat} (hH : xH0 T R w) (hk : ∀ o, o < 24 → A.1 (w + 3) o < 2 ^ 31) : xF 61 [.ref (w + 2), .int (nI k), .int (nI fn), .int (nI sz)] (xm z T R A) (.inr (some (.int (nI (aFree w A 23 0)))), xm z T R (aMake w k fn sz A)) := by
  refine xF_eq (xF_p (Nat.le_of_ble_eq_true rfl) ?_)
  refine xp_iconst (n := 0) rfl (by decide) ?_
  refine xp_istore rfl (by decide) ?_
  refine xp_weak [(0, .ref (w + 2)), (1, .int (nI k)), (2, .int (nI fn)), (3, .int (nI sz)), (4, .int (nI 0))] (xle_cons rfl (xle_cons rfl (xle_cons rfl (xle_cons rfl (xle_cons rfl (xle_nil _)))))) (by simp [xnd]) ?_
  exact l61 hH hk 23 0 (by omega)
def aBegin (w : Nat) (A : xQ) : xQ := xsI (xit (fun i B => xsI B (w + 9) i 4294967295) 24 0 A) (w + 2) 7 0
theorem l63 {z : Nat} {T : Nat → Option xT} {R : Nat → Nat → Option Nat} {w : Nat} (hH : xH0 T R w) : ∀ (m i : Nat) (A : xQ), i + m = 24 → xP 63 2 [(0, .ref (w + 2)), (1, .int (nI i))] [] 0 0 (xm z T R A) (fun r => r = (.inr (none), xm z T R (xsI (xit (fun i B => xsI B (w + 9) i 4294967295) m i A) (w + 2) 7 0))) := by
  obtain ⟨h1, h2, h3, h4, h5, h6, h7, h8, h9, h10, h11, h12, hC⟩ := hH
  intro m
  induction m with
  | zero =>
    intro i A hi0
    refine xp_iload_n rfl rfl ?_
    refine xp_bipush (n := 24) rfl (by decide) ?_
    refine xp_icge 21 rfl (by decide) (by omega) (by omega) (fun h5 => ?_) (fun h5 => ?_)
    · skip
      refine xp_aload_n rfl rfl ?_
      refine xp_iconst (n := 0) rfl (by decide) ?_
      refine xp_pfi rfl rfl (by decide) (by decide) (by decide) (by assumption) ?_
      refine xp_return rfl (by decide) (by decide) (by decide) ?_
      rfl
    · exfalso; omega
  | succ m ih =>
    intro i A hi0
    refine xp_iload_n rfl rfl ?_
    refine xp_bipush (n := 24) rfl (by decide) ?_
    refine xp_icge 21 rfl (by decide) (by omega) (by omega) (fun h5 => ?_) (fun h5 => ?_)
    · exfalso; omega
    · skip
      refine xp_aload_n rfl rfl ?_
      refine xp_gfa rfl rfl (by decide) (by decide) (by assumption) (by assumption) ?_
      refine xp_iload_n rfl rfl ?_
      refine xp_iconst (n := 4294967295) rfl (by decide) ?_
      refine xp_iast rfl (by assumption) (by omega) (by omega) ?_
      refine xp_iinc rfl rfl (by decide) (nI_inc _) ?_
      refine xp_goto 2 rfl (by decide) ?_
      refine xp_weak [(0, .ref (w + 2)), (1, .int (nI (i + 1)))] (xle_cons rfl (xle_cons rfl (xle_nil _))) (by simp [xnd]) ?_
      exact ih (i + 1) _ (by omega)
theorem c63 {z : Nat} {T : Nat → Option xT} {R : Nat → Nat → Option Nat} {A : xQ} {w : Nat} (hH : xH0 T R w) : xF 63 [.ref (w + 2)] (xm z T R A) (.inr (none), xm z T R (aBegin w A)) := by
  refine xF_eq (xF_p (Nat.le_of_ble_eq_true rfl) ?_)
  refine xp_iconst (n := 0) rfl (by decide) ?_
  refine xp_istore_n rfl (by decide) ?_
  refine xp_weak [(0, .ref (w + 2)), (1, .int (nI 0))] (xle_cons rfl (xle_cons rfl (xle_nil _))) (by simp [xnd]) ?_
  exact l63 hH 24 0 A (by omega)
/-- object n is met -/
def aMeet1 (w n : Nat) (A : xQ) : xQ := if A.1 (w + 9) n = 4294967295 then xsI (xsI (xsI A (w + 9) n (A.1 (w + 2) 7)) (w + 10) ((xsI A (w + 9) n (A.1 (w + 2) 7)).1 (w + 2) 7) n) (w + 2) 7 ((xsI (xsI A (w + 9) n (A.1 (w + 2) 7)) (w + 10) ((xsI A (w + 9) n (A.1 (w + 2) 7)).1 (w + 2) 7) n).1 (w + 2) 7 + 1) else A
/-- the value in cell i of (ka, na) is met -/
def aMeet (w ka na i : Nat) (A : xQ) : xQ := if A.1 ka i = 3 ∨ A.1 ka i = 4 then aMeet1 w (oN (A.2 na i)) A else A
theorem c64 {z : Nat} {T : Nat → Option xT} {R : Nat → Nat → Option Nat} {A : xQ} {w a ka na n i : Nat} (hH : xH0 T R w) (hD : xC0 T R a ka na n) (hi : i < n) (hn : n < 2 ^ 31) (hk : A.1 ka i ≤ 4) (ho : A.1 ka i = 3 ∨ A.1 ka i = 4 → oN (A.2 na i) < 24 ∧ A.1 (w + 9) (oN (A.2 na i)) < 2 ^ 32 ∧ (A.1 (w + 9) (oN (A.2 na i)) = 4294967295 → A.1 (w + 2) 7 < 24)) : xF 64 [.ref (w + 2), .ref a, .int (nI i)] (xm z T R A) (.inr (none), xm z T R (aMeet w ka na i A)) := by
  obtain ⟨h1, h2, h3, h4, h5, h6, h7, h8, h9, h10, h11, h12, hC⟩ := hH
  obtain ⟨d1, d2, d3, d4, d5⟩ := hD
  refine xF_eq (xF_p (Nat.le_of_ble_eq_true rfl) ?_)
  refine xp_aload_n rfl rfl ?_
  refine xp_gfa rfl rfl (by decide) (by decide) (by assumption) (by assumption) ?_
  refine xp_iload_n rfl rfl ?_
  refine xp_iald rfl (by assumption) (by omega) (by omega) ?_
  refine xp_iconst (n := 3) rfl (by decide) ?_
  refine xp_iceq 21 rfl (by decide) (by omega) (by omega) (fun h7 => ?_) (fun h7 => ?_)
  · skip
    obtain ⟨o1, o2, o3⟩ := ho (Or.inl h7)
    refine xp_aload_n rfl rfl ?_
    refine xp_gfa rfl rfl (by decide) (by decide) (by assumption) (by assumption) ?_
    refine xp_iload_n rfl rfl ?_
    refine xp_lald rfl (by assumption) (by omega) (by omega) ?_
    refine xp_l2i rfl ?_
    rw [oN_i]
    refine xp_istore_n rfl (by decide) ?_
    refine xp_aload_n rfl rfl ?_
    refine xp_gfa rfl rfl (by decide) (by decide) (by assumption) (by assumption) ?_
    refine xp_iload_n rfl rfl ?_
    refine xp_iald rfl (by assumption) (by omega) (by omega) ?_
    refine xp_iconst (n := 4294967295) rfl (by decide) ?_
    refine xp_icne 69 rfl (by decide) (by omega) (by omega) (fun h36 => ?_) (fun h36 => ?_)
    · skip
      refine xp_return rfl (by decide) (by decide) (by decide) ?_
      first
        | rw [show aMeet w ka na i A = aMeet1 w (oN (A.2 na i)) A from if_pos (Or.inl h7)]; unfold aMeet1; first | rw [if_neg h36] | (rw [if_pos h36])
        | rw [show aMeet w ka na i A = aMeet1 w (oN (A.2 na i)) A from if_pos (Or.inr h17)]; unfold aMeet1; first | rw [if_neg h36] | (rw [if_pos h36])
        | rw [show aMeet w ka na i A = A from if_neg (by omega)]
    · skip
      have o4 := o3 h36
      refine xp_aload_n rfl rfl ?_
      refine xp_gfa rfl rfl (by decide) (by decide) (by assumption) (by assumption) ?_
      refine xp_iload_n rfl rfl ?_
      refine xp_aload_n rfl rfl ?_
      refine xp_gfi rfl rfl (by decide) (by decide) (by assumption) ?_
      refine xp_iast rfl (by assumption) (by omega) (by omega) ?_
      refine xp_aload_n rfl rfl ?_
      refine xp_gfa rfl rfl (by decide) (by decide) (by assumption) (by assumption) ?_
      refine xp_aload_n rfl rfl ?_
      refine xp_gfi rfl rfl (by decide) (by decide) (by assumption) ?_
      refine xp_iload_n rfl rfl ?_
      refine xp_iast rfl (by assumption) (by rw [xsI_ne (Or.inl (xne h1 h11 (by simp)))]; exact o4) (by omega) ?_
      refine xp_aload_n rfl rfl ?_
      refine xp_dup rfl rfl ?_
      refine xp_gfi rfl rfl (by decide) (by decide) (by assumption) ?_
      refine xp_iconst (n := 1) rfl (by decide) ?_
      refine xp_iadd rfl ?_
      refine xp_pfi rfl rfl (by decide) (by decide) (by decide) (by assumption) ?_
      refine xp_return rfl (by decide) (by decide) (by decide) ?_
      first
        | rw [show aMeet w ka na i A = aMeet1 w (oN (A.2 na i)) A from if_pos (Or.inl h7)]; unfold aMeet1; first | rw [if_neg h36] | (rw [if_pos h36])
        | rw [show aMeet w ka na i A = aMeet1 w (oN (A.2 na i)) A from if_pos (Or.inr h17)]; unfold aMeet1; first | rw [if_neg h36] | (rw [if_pos h36])
        | rw [show aMeet w ka na i A = A from if_neg (by omega)]
  · skip
    refine xp_aload_n rfl rfl ?_
    refine xp_gfa rfl rfl (by decide) (by decide) (by assumption) (by assumption) ?_
    refine xp_iload_n rfl rfl ?_
    refine xp_iald rfl (by assumption) (by omega) (by omega) ?_
    refine xp_iconst (n := 4) rfl (by decide) ?_
    refine xp_iceq 21 rfl (by decide) (by omega) (by omega) (fun h17 => ?_) (fun h17 => ?_)
    · skip
      obtain ⟨o1, o2, o3⟩ := ho (Or.inr h17)
      refine xp_aload_n rfl rfl ?_
      refine xp_gfa rfl rfl (by decide) (by decide) (by assumption) (by assumption) ?_
      refine xp_iload_n rfl rfl ?_
      refine xp_lald rfl (by assumption) (by omega) (by omega) ?_
      refine xp_l2i rfl ?_
      rw [oN_i]
      refine xp_istore_n rfl (by decide) ?_
      refine xp_aload_n rfl rfl ?_
      refine xp_gfa rfl rfl (by decide) (by decide) (by assumption) (by assumption) ?_
      refine xp_iload_n rfl rfl ?_
      refine xp_iald rfl (by assumption) (by omega) (by omega) ?_
      refine xp_iconst (n := 4294967295) rfl (by decide) ?_
      refine xp_icne 69 rfl (by decide) (by omega) (by omega) (fun h36 => ?_) (fun h36 => ?_)
      · skip
        refine xp_return rfl (by decide) (by decide) (by decide) ?_
        first
          | rw [show aMeet w ka na i A = aMeet1 w (oN (A.2 na i)) A from if_pos (Or.inl h7)]; unfold aMeet1; first | rw [if_neg h36] | (rw [if_pos h36])
          | rw [show aMeet w ka na i A = aMeet1 w (oN (A.2 na i)) A from if_pos (Or.inr h17)]; unfold aMeet1; first | rw [if_neg h36] | (rw [if_pos h36])
          | rw [show aMeet w ka na i A = A from if_neg (by omega)]
      · skip
        have o4 := o3 h36
        refine xp_aload_n rfl rfl ?_
        refine xp_gfa rfl rfl (by decide) (by decide) (by assumption) (by assumption) ?_
        refine xp_iload_n rfl rfl ?_
        refine xp_aload_n rfl rfl ?_
        refine xp_gfi rfl rfl (by decide) (by decide) (by assumption) ?_
        refine xp_iast rfl (by assumption) (by omega) (by omega) ?_
        refine xp_aload_n rfl rfl ?_
        refine xp_gfa rfl rfl (by decide) (by decide) (by assumption) (by assumption) ?_
        refine xp_aload_n rfl rfl ?_
        refine xp_gfi rfl rfl (by decide) (by decide) (by assumption) ?_
        refine xp_iload_n rfl rfl ?_
        refine xp_iast rfl (by assumption) (by rw [xsI_ne (Or.inl (xne h1 h11 (by simp)))]; exact o4) (by omega) ?_
        refine xp_aload_n rfl rfl ?_
        refine xp_dup rfl rfl ?_
        refine xp_gfi rfl rfl (by decide) (by decide) (by assumption) ?_
        refine xp_iconst (n := 1) rfl (by decide) ?_
        refine xp_iadd rfl ?_
        refine xp_pfi rfl rfl (by decide) (by decide) (by decide) (by assumption) ?_
        refine xp_return rfl (by decide) (by decide) (by decide) ?_
        first
          | rw [show aMeet w ka na i A = aMeet1 w (oN (A.2 na i)) A from if_pos (Or.inl h7)]; unfold aMeet1; first | rw [if_neg h36] | (rw [if_pos h36])
          | rw [show aMeet w ka na i A = aMeet1 w (oN (A.2 na i)) A from if_pos (Or.inr h17)]; unfold aMeet1; first | rw [if_neg h36] | (rw [if_pos h36])
          | rw [show aMeet w ka na i A = A from if_neg (by omega)]
    · skip
      refine xp_return rfl (by decide) (by decide) (by decide) ?_
      first
        | rw [show aMeet w ka na i A = aMeet1 w (oN (A.2 na i)) A from if_pos (Or.inl h7)]; unfold aMeet1; first | rw [if_neg h36] | (rw [if_pos h36])
        | rw [show aMeet w ka na i A = aMeet1 w (oN (A.2 na i)) A from if_pos (Or.inr h17)]; unfold aMeet1; first | rw [if_neg h36] | (rw [if_pos h36])
        | rw [show aMeet w ka na i A = A from if_neg (by omega)]
def aDrop (w : Nat) (A : xQ) : xQ := xsI (xit (fun i B => if B.1 (w + 9) i = 4294967295 then xsI B (w + 3) i 0 else B) 24 0 A) (w + 2) 4 ((xit (fun i B => if B.1 (w + 9) i = 4294967295 then xsI B (w + 3) i 0 else B) 24 0 A).1 (w + 2) 7)
theorem l65 {z : Nat} {T : Nat → Option xT} {R : Nat → Nat → Option Nat} {w : Nat} (hH : xH0 T R w) : ∀ (m i : Nat) (A : xQ), i + m = 24 → (∀ o, o < 24 → A.1 (w + 9) o < 2 ^ 32) → xP 65 2 [(0, .ref (w + 2)), (1, .int (nI i))] [] 0 0 (xm z T R A) (fun r => r = (.inr none, xm z T R (xsI (xit (fun i B => if B.1 (w + 9) i = 4294967295 then xsI B (w + 3) i 0 else B) m i A) (w + 2) 4 ((xit (fun i B => if B.1 (w + 9) i = 4294967295 then xsI B (w + 3) i 0 else B) m i A).1 (w + 2) 7)))) := by
  obtain ⟨h1, h2, h3, h4, h5, h6, h7, h8, h9, h10, h11, h12, hC⟩ := hH
  intro m
  induction m with
  | zero =>
    intro i A hi0 hb0
    refine xp_iload_n rfl rfl ?_
    refine xp_bipush (n := 24) rfl (by decide) ?_
    refine xp_icge 31 rfl (by decide) (by omega) (by omega) (fun h5 => ?_) (fun h5 => ?_)
    · skip
      refine xp_aload_n rfl rfl ?_
      refine xp_aload_n rfl rfl ?_
      refine xp_gfi rfl rfl (by decide) (by decide) (by assumption) ?_
      refine xp_pfi rfl rfl (by decide) (by decide) (by decide) (by assumption) ?_
      refine xp_return rfl (by decide) (by decide) (by decide) ?_
      rfl
    · exfalso; omega
  | succ m ih =>
    intro i A hi0 hb0
    have hb1 := hb0 i (by omega)
    refine xp_iload_n rfl rfl ?_
    refine xp_bipush (n := 24) rfl (by decide) ?_
    refine xp_icge 31 rfl (by decide) (by omega) (by omega) (fun h5 => ?_) (fun h5 => ?_)
    · exfalso; omega
    · skip
      refine xp_aload_n rfl rfl ?_
      refine xp_gfa rfl rfl (by decide) (by decide) (by assumption) (by assumption) ?_
      refine xp_iload_n rfl rfl ?_
      refine xp_iald rfl (by assumption) (by omega) (by omega) ?_
      refine xp_iconst (n := 4294967295) rfl (by decide) ?_
      refine xp_icne 25 rfl (by decide) (by omega) (by omega) (fun h15 => ?_) (fun h15 => ?_)
      · skip
        refine xp_iinc rfl rfl (by decide) (nI_inc _) ?_
        refine xp_goto 2 rfl (by decide) ?_
        refine xp_weak [(0, .ref (w + 2)), (1, .int (nI (i + 1)))] (xle_cons rfl (xle_cons rfl (xle_nil _))) (by simp [xnd]) ?_
        have e : ∀ B, xit (fun i B => if B.1 (w + 9) i = 4294967295 then xsI B (w + 3) i 0 else B) (m + 1) i B = xit (fun i B => if B.1 (w + 9) i = 4294967295 then xsI B (w + 3) i 0 else B) m (i + 1) (if B.1 (w + 9) i = 4294967295 then xsI B (w + 3) i 0 else B) := fun B => rfl
        rw [e]
        first
          | rw [if_neg h15]; exact ih (i + 1) _ (by omega) hb0
          | rw [if_pos h15]; exact ih (i + 1) _ (by omega) (fun o ho => by rw [xsI_ne (Or.inl (by omega))]; exact hb0 o ho)
      · skip
        refine xp_aload_n rfl rfl ?_
        refine xp_gfa rfl rfl (by decide) (by decide) (by assumption) (by assumption) ?_
        refine xp_iload_n rfl rfl ?_
        refine xp_iconst (n := 0) rfl (by decide) ?_
        refine xp_iast rfl (by assumption) (by omega) (by omega) ?_
        refine xp_iinc rfl rfl (by decide) (nI_inc _) ?_
        refine xp_goto 2 rfl (by decide) ?_
        refine xp_weak [(0, .ref (w + 2)), (1, .int (nI (i + 1)))] (xle_cons rfl (xle_cons rfl (xle_nil _))) (by simp [xnd]) ?_
        have e : ∀ B, xit (fun i B => if B.1 (w + 9) i = 4294967295 then xsI B (w + 3) i 0 else B) (m + 1) i B = xit (fun i B => if B.1 (w + 9) i = 4294967295 then xsI B (w + 3) i 0 else B) m (i + 1) (if B.1 (w + 9) i = 4294967295 then xsI B (w + 3) i 0 else B) := fun B => rfl
        rw [e]
        first
          | rw [if_neg h15]; exact ih (i + 1) _ (by omega) hb0
          | rw [if_pos h15]; exact ih (i + 1) _ (by omega) (fun o ho => by rw [xsI_ne (Or.inl (by omega))]; exact hb0 o ho)
theorem c65 {z : Nat} {T : Nat → Option xT} {R : Nat → Nat → Option Nat} {A : xQ} {w : Nat} (hH : xH0 T R w) (hb : ∀ o, o < 24 → A.1 (w + 9) o < 2 ^ 32) : xF 65 [.ref (w + 2)] (xm z T R A) (.inr none, xm z T R (aDrop w A)) := by
  refine xF_eq (xF_p (Nat.le_of_ble_eq_true rfl) ?_)
  refine xp_iconst (n := 0) rfl (by decide) ?_
  refine xp_istore_n rfl (by decide) ?_
  refine xp_weak [(0, .ref (w + 2)), (1, .int (nI 0))] (xle_cons rfl (xle_cons rfl (xle_nil _))) (by simp [xnd]) ?_
  exact l65 hH 24 0 A (by omega) hb
end
section
-- THE WORLD: what is sound in it; who runs, the turn, the search for objects
def xcnt (p : Nat → Bool) : Nat → Nat
  | 0 => 0
  | n + 1 => xcnt p n + (if p n = true then 1 else 0)
theorem xcnt_congr {p q : Nat → Bool} : ∀ n, (∀ i, i < n → p i = q i) → xcnt p n = xcnt q n := by
  intro n
  induction n with
  | zero => intro _; rfl
  | succ n ih =>
    intro h
    unfold xcnt
    rw [ih (fun i hi => h i (by omega)), h n (by omega)]
theorem xcnt_le (p : Nat → Bool) : ∀ n, xcnt p n ≤ n := by
  intro n
  induction n with
  | zero => exact Nat.le_refl _
  | succ n ih =>
    unfold xcnt
    split <;> omega
theorem xcnt_lt {p : Nat → Bool} : ∀ {n o : Nat}, o < n → p o = false → xcnt p n < n := by
  intro n
  induction n with
  | zero => intro o h; omega
  | succ n ih =>
    intro o h hp
    unfold xcnt
    by_cases e : o = n
    · subst e
      have := xcnt_le p o
      simp [hp]
      omega
    · have := ih (o := o) (by omega) hp
      split <;> omega
theorem xcnt_set {p q : Nat → Bool} : ∀ {n o : Nat}, o < n → p o = false → q o = true → (∀ i, i ≠ o → q i = p i) → xcnt q n = xcnt p n + 1 := by
  intro n
  induction n with
  | zero => intro o h; omega
  | succ n ih =>
    intro o h hp hq he
    unfold xcnt
    by_cases e : o = n
    · subst e
      rw [xcnt_congr o (fun i hi => he i (by omega)), hp, hq]
      simp
    · rw [ih (by omega) hp hq he, he n (fun z => e z.symm)]
      omega
theorem xcnt_free {p : Nat → Bool} : ∀ {n : Nat}, xcnt p n < n → ∃ o, o < n ∧ p o = false := by
  intro n
  induction n with
  | zero => intro h; omega
  | succ n ih =>
    intro h
    unfold xcnt at h
    cases hp : p n with
    | false => exact ⟨n, by omega, hp⟩
    | true =>
      rw [hp] at h
      simp at h
      obtain ⟨o, h1, h2⟩ := ih h
      exact ⟨o, by omega, h2⟩
theorem xcnt_zero {p : Nat → Bool} : ∀ n, (∀ i, i < n → p i = false) → xcnt p n = 0 := by
  intro n
  induction n with
  | zero => intro _; rfl
  | succ n ih =>
    intro h
    unfold xcnt
    rw [ih (fun i hi => h i (by omega)), h n (by omega)]
    rfl
/-- a value is sound: its sort, and its object -/
def VC (w : Nat) (A : xQ) (ka na i : Nat) : Prop := A.1 ka i ≤ 4 ∧ (3 ≤ A.1 ka i → ∃ o, o < 24 ∧ A.2 na i = lN o ∧ A.1 (w + 3) o = A.1 ka i)
def FOk (w : Nat) (A : xQ) (f : Nat) : Prop := A.1 f 1 < 6 ∧ A.1 f 2 ≤ 30 ∧ A.1 f 3 ≤ 6 ∧ (A.1 (f + 2) 0 = 0 ∨ A.1 (f + 2) 0 = 4) ∧ ∀ c, c < 5 + A.1 f 3 → VC w A (f + 2) (f + 3) c
def SOk (w : Nat) (A : xQ) (s : Nat) : Prop := A.1 s 2 ≤ 2 ∧ A.1 s 3 ≤ 5 ∧ (A.1 s 2 = 0 → 1 ≤ A.1 s 3) ∧ (A.1 s 2 ≠ 0 → A.1 s 3 = 0) ∧ A.1 s 4 < 32 ∧ (A.1 s 2 = 1 → VC w A (s + 3) (s + 4) 0) ∧ ∀ k, k < A.1 s 3 → FOk w A (s + 5 + 4 * k)
def OOk (w : Nat) (A : xQ) (o : Nat) : Prop := (A.1 (w + 3) o = 0 ∨ A.1 (w + 3) o = 3 ∨ A.1 (w + 3) o = 4) ∧ (A.1 (w + 3) o = 3 → A.1 (w + 5) o = 3) ∧ (A.1 (w + 3) o = 4 → A.1 (w + 4) o < 6 ∧ A.1 (w + 5) o ≤ 2) ∧ (A.1 (w + 3) o ≠ 0 → ∀ j, j < A.1 (w + 5) o → VC w A (w + 7) (w + 8) (o * 3 + j))
def WOk (w : Nat) (A : xQ) : Prop := A.1 w 2 ≤ 3 ∧ (∀ t, t < A.1 w 2 → SOk w A (w + 11 + 25 * t)) ∧ ∀ o, o < 24 → OOk w A o
theorem OOk.sz {w : Nat} {A : xQ} {o : Nat} (h : OOk w A o) (h0 : A.1 (w + 3) o ≠ 0) : A.1 (w + 5) o ≤ 3 := by
  obtain ⟨h1, h2, h3, -⟩ := h
  rcases h1 with q | q | q
  · exact absurd q h0
  · rw [h2 q]; omega
  · have := (h3 q).2; omega
theorem c98 {z : Nat} {T : Nat → Option xT} {R : Nat → Nat → Option Nat} {A : xQ} {w : Nat} (hW : xW0 T R w) (h3 : A.1 w 2 ≤ 3) : xF 98 [.ref w] (xm z T R A) (.inr (some (.int (nI (if A.1 w 2 = 0 then 1 else 0)))), xm z T R A) := by
  obtain ⟨w1, w2, w3, w4, hH, hSt⟩ := hW
  refine xF_eq (xF_p (Nat.le_of_ble_eq_true rfl) ?_)
  refine xp_aload_n rfl rfl ?_
  refine xp_gfi rfl rfl (by decide) (by decide) (by assumption) ?_
  refine xp_ifne 11 rfl (by decide) (by omega) (fun h4 => ?_) (fun h4 => ?_)
  · skip
    refine xp_iconst (n := 0) rfl (by decide) ?_
    refine xp_zreturn rfl (by decide) (by decide) (by decide) (by omega) ?_
    simp only [*]
    first | rfl | simp
  · skip
    refine xp_iconst (n := 1) rfl (by decide) ?_
    refine xp_goto 12 rfl (by decide) ?_
    refine xp_zreturn rfl (by decide) (by decide) (by decide) (by omega) ?_
    simp only [*]
    first | rfl | simp
/-- does one of the n strands from t on run? -/
def aRuns (w : Nat) (A : xQ) : Nat → Nat → Nat
  | 0, _ => 0
  | n + 1, t => if A.1 (w + 11 + 25 * t) 2 = 0 then 1 else aRuns w A n (t + 1)
theorem aRuns_le (w : Nat) (A : xQ) : ∀ n t, aRuns w A n t = 0 ∨ aRuns w A n t = 1 := by
  intro n
  induction n with
  | zero => intro t; exact Or.inl rfl
  | succ n ih =>
    intro t
    unfold aRuns
    split
    · exact Or.inr rfl
    · exact ih _
theorem l99 {z : Nat} {T : Nat → Option xT} {R : Nat → Nat → Option Nat} {A : xQ} {w : Nat} (hW : xW0 T R w) (h3 : A.1 w 2 ≤ 3) (hb : ∀ t, t < A.1 w 2 → A.1 (w + 11 + 25 * t) 2 < 2 ^ 31) : ∀ (m t : Nat), t + m = A.1 w 2 → xP 99 2 [(0, .ref w), (1, .int (nI t))] [] 0 0 (xm z T R A) (fun r => r = (.inr (some (.int (nI (aRuns w A m t)))), xm z T R A)) := by
  obtain ⟨w1, w2, w3, w4, hH, hSt⟩ := hW
  intro m
  induction m with
  | zero =>
    intro t hi0
    refine xp_iload_n rfl rfl ?_
    refine xp_aload_n rfl rfl ?_
    refine xp_gfi rfl rfl (by decide) (by decide) (by assumption) ?_
    refine xp_icge 30 rfl (by decide) (by omega) (by omega) (fun h7 => ?_) (fun h7 => ?_)
    · skip
      refine xp_iconst (n := 0) rfl (by decide) ?_
      refine xp_zreturn rfl (by decide) (by decide) (by decide) (by omega) ?_
      rfl
    · exfalso; omega
  | succ m ih =>
    intro t hi0
    obtain ⟨k1, hS⟩ := hSt t (by omega)
    have hb0 := hb t (by omega)
    have k2 := hS.1
    refine xp_iload_n rfl rfl ?_
    refine xp_aload_n rfl rfl ?_
    refine xp_gfi rfl rfl (by decide) (by decide) (by assumption) ?_
    refine xp_icge 30 rfl (by decide) (by omega) (by omega) (fun h7 => ?_) (fun h7 => ?_)
    · exfalso; omega
    · skip
      refine xp_aload_n rfl rfl ?_
      refine xp_gfa rfl rfl (by decide) (by decide) (by assumption) (by assumption) ?_
      refine xp_iload_n rfl rfl ?_
      refine xp_aald rfl (by assumption) (by decide) (by decide) (by omega) (by omega) (by assumption) ?_
      refine xp_gfi rfl rfl (by decide) (by decide) (by assumption) ?_
      refine xp_ifne 24 rfl (by decide) (by omega) (fun h19 => ?_) (fun h19 => ?_)
      · skip
        refine xp_iinc rfl rfl (by decide) (nI_inc _) ?_
        refine xp_goto 2 rfl (by decide) ?_
        have e : aRuns w A (m + 1) t = aRuns w A m (t + 1) := if_neg h19
        rw [e]
        refine xp_weak [(0, .ref w), (1, .int (nI (t + 1)))] (xle_cons rfl (xle_cons rfl (xle_nil _))) (by simp [xnd]) ?_
        exact ih (t + 1) (by omega)
      · skip
        refine xp_iconst (n := 1) rfl (by decide) ?_
        refine xp_zreturn rfl (by decide) (by decide) (by decide) (by omega) ?_
        rw [show aRuns w A (m + 1) t = 1 from if_pos h19]
theorem c99 {z : Nat} {T : Nat → Option xT} {R : Nat → Nat → Option Nat} {A : xQ} {w : Nat} (hW : xW0 T R w) (h3 : A.1 w 2 ≤ 3) (hb : ∀ t, t < A.1 w 2 → A.1 (w + 11 + 25 * t) 2 < 2 ^ 31) : xF 99 [.ref w] (xm z T R A) (.inr (some (.int (nI (aRuns w A (A.1 w 2) 0)))), xm z T R A) := by
  refine xF_eq (xF_p (Nat.le_of_ble_eq_true rfl) ?_)
  refine xp_iconst (n := 0) rfl (by decide) ?_
  refine xp_istore_n rfl (by decide) ?_
  refine xp_weak [(0, .ref w), (1, .int (nI 0))] (xle_cons rfl (xle_cons rfl (xle_nil _))) (by simp [xnd]) ?_
  exact l99 hW h3 hb (A.1 w 2) 0 (by omega)
/-- the turn goes to the first that runs, of those behind it from the i-th on -/
def aPassL (w : Nat) (A : xQ) : Nat → Nat → xQ
  | 0, _ => A
  | n + 1, i => if A.1 (w + 11 + 25 * ((A.1 w 3 + i) % A.1 w 2)) 2 = 0 then xsI A w 3 ((A.1 w 3 + i) % A.1 w 2) else aPassL w A n (i + 1)
def aPass (w : Nat) (A : xQ) : xQ := aPassL w (xsI A w 4 0) (A.1 w 2) 1
theorem l100 {z : Nat} {T : Nat → Option xT} {R : Nat → Nat → Option Nat} {A : xQ} {w : Nat} (hW : xW0 T R w) (h3 : A.1 w 2 ≤ 3) (h2 : A.1 w 3 < 3) (hb : ∀ t, t < A.1 w 2 → A.1 (w + 11 + 25 * t) 2 < 2 ^ 31) : ∀ (m i : Nat), i + m = A.1 w 2 + 1 → 1 ≤ i → xP 100 7 [(0, .ref w), (1, .int (nI i))] [] 0 0 (xm z T R A) (fun r => r = (.inr none, xm z T R (aPassL w A m i))) := by
  obtain ⟨w1, w2, w3, w4, hH, hSt⟩ := hW
  intro m
  induction m with
  | zero =>
    intro i hi0 hi9
    refine xp_iload_n rfl rfl ?_
    refine xp_aload_n rfl rfl ?_
    refine xp_gfi rfl rfl (by decide) (by decide) (by assumption) ?_
    refine xp_icgt 51 rfl (by decide) (by omega) (by omega) (fun h12 => ?_) (fun h12 => ?_)
    · skip
      refine xp_return rfl (by decide) (by decide) (by decide) ?_
      rfl
    · exfalso; omega
  | succ m ih =>
    intro i hi0 hi9
    have hz : ¬ A.1 w 2 = 0 := by omega
    have hr : (A.1 w 3 + i) % A.1 w 2 < A.1 w 2 := Nat.mod_lt _ (by omega)
    obtain ⟨k1, hS⟩ := hSt _ (show (A.1 w 3 + i) % A.1 w 2 < 3 by omega)
    have hb0 := hb _ hr
    have k2 := hS.1
    refine xp_iload_n rfl rfl ?_
    refine xp_aload_n rfl rfl ?_
    refine xp_gfi rfl rfl (by decide) (by decide) (by assumption) ?_
    refine xp_icgt 51 rfl (by decide) (by omega) (by omega) (fun h12 => ?_) (fun h12 => ?_)
    · exfalso; omega
    · skip
      refine xp_aload_n rfl rfl ?_
      refine xp_gfi rfl rfl (by decide) (by decide) (by assumption) ?_
      refine xp_iload_n rfl rfl ?_
      refine xp_iadd rfl ?_
      refine xp_aload_n rfl rfl ?_
      refine xp_gfi rfl rfl (by decide) (by decide) (by assumption) ?_
      refine xp_irem rfl (by rw [← nI_0]; exact fun z => hz ((nI_eq32 (by omega) (by decide)).mp z)) ?_
      rw [nI_rem (by omega) (by omega) (by omega)]
      refine xp_istore_n rfl (by decide) ?_
      refine xp_aload_n rfl rfl ?_
      refine xp_gfa rfl rfl (by decide) (by decide) (by assumption) (by assumption) ?_
      refine xp_iload_n rfl rfl ?_
      refine xp_aald rfl (by assumption) (by decide) (by decide) (by omega) (by omega) (by assumption) ?_
      refine xp_gfi rfl rfl (by decide) (by decide) (by assumption) ?_
      refine xp_ifne 45 rfl (by decide) (by omega) (fun h36 => ?_) (fun h36 => ?_)
      · skip
        refine xp_iinc rfl rfl (by decide) (nI_inc _) ?_
        refine xp_goto 7 rfl (by decide) ?_
        have e : aPassL w A (m + 1) i = aPassL w A m (i + 1) := if_neg h36
        rw [e]
        refine xp_weak [(0, .ref w), (1, .int (nI (i + 1)))] (xle_cons rfl (xle_cons rfl (xle_nil _))) (by simp [xnd]) ?_
        exact ih (i + 1) (by omega) (by omega)
      · skip
        refine xp_aload_n rfl rfl ?_
        refine xp_iload_n rfl rfl ?_
        refine xp_pfi rfl rfl (by decide) (by decide) (by decide) (by assumption) ?_
        refine xp_return rfl (by decide) (by decide) (by decide) ?_
        rw [show aPassL w A (m + 1) i = xsI A w 3 ((A.1 w 3 + i) % A.1 w 2) from if_pos h36]
theorem c100 {z : Nat} {T : Nat → Option xT} {R : Nat → Nat → Option Nat} {A : xQ} {w : Nat} (hW : xW0 T R w) (h3 : A.1 w 2 ≤ 3) (h2 : A.1 w 3 < 3) (hb : ∀ t, t < A.1 w 2 → A.1 (w + 11 + 25 * t) 2 < 2 ^ 31) : xF 100 [.ref w] (xm z T R A) (.inr (none), xm z T R (aPass w A)) := by
  have hW0 := hW
  obtain ⟨w1, w2, w3, w4, hH, hSt⟩ := hW
  refine xF_eq (xF_p (Nat.le_of_ble_eq_true rfl) ?_)
  refine xp_aload_n rfl rfl ?_
  refine xp_iconst (n := 0) rfl (by decide) ?_
  refine xp_pfi rfl rfl (by decide) (by decide) (by decide) (by assumption) ?_
  refine xp_iconst (n := 1) rfl (by decide) ?_
  refine xp_istore_n rfl (by decide) ?_
  refine xp_weak [(0, .ref w), (1, .int (nI 1))] (xle_cons rfl (xle_cons rfl (xle_nil _))) (by simp [xnd]) ?_
  have e1 : (xsI A w 4 0).1 w 2 = A.1 w 2 := xsI_ne (Or.inr (by omega))
  have e2 : (xsI A w 4 0).1 w 3 = A.1 w 3 := xsI_ne (Or.inr (by omega))
  refine l100 hW0 (by rw [e1]; exact h3) (by rw [e2]; exact h2) (fun t ht => ?_) (A.1 w 2) 1 (by rw [e1]; omega) (by omega)
  rw [e1] at ht
  rw [xsI_ne (Or.inr (by omega))]
  exact hb t ht
end
section
-- THE SEARCH
/-- A differs from A0 in what a search writes, at the most -/
def Agr (w : Nat) (A0 A : xQ) : Prop := A.2 = A0.2 ∧ ∀ a k, a ≠ w + 9 → a ≠ w + 10 → (a ≠ w + 2 ∨ k ≠ 7) → A.1 a k = A0.1 a k
/-- what has been found -/
def FInv (w : Nat) (A : xQ) : Prop := (∀ o, o < 24 → A.1 (w + 9) o = 4294967295 ∨ A.1 (w + 9) o < A.1 (w + 2) 7) ∧ A.1 (w + 2) 7 = xcnt (fun o => !decide (A.1 (w + 9) o = 4294967295)) 24 ∧ ∀ i, i < A.1 (w + 2) 7 → A.1 (w + 10) i < 24 ∧ A.1 (w + 9) (A.1 (w + 10) i) = i ∧ A.1 (w + 3) (A.1 (w + 10) i) ≠ 0
def Srch (w : Nat) (A0 A : xQ) : Prop := Agr w A0 A ∧ FInv w A
theorem aMeet1_new {w n : Nat} {A : xQ} (h : A.1 (w + 9) n = 4294967295) : (∀ o, (aMeet1 w n A).1 (w + 9) o = if o = n then A.1 (w + 2) 7 else A.1 (w + 9) o) ∧ (∀ i, (aMeet1 w n A).1 (w + 10) i = if i = A.1 (w + 2) 7 then n else A.1 (w + 10) i) ∧ (aMeet1 w n A).1 (w + 2) 7 = A.1 (w + 2) 7 + 1 := by
  unfold aMeet1
  rw [if_pos h]
  refine ⟨fun o => ?_, fun i => ?_, ?_⟩ <;> simp [xsI, x2]
theorem Agr.rfl' (w : Nat) (A : xQ) : Agr w A A := ⟨rfl, fun _ _ _ _ _ => rfl⟩
theorem Agr.meet1 {w n : Nat} {A0 A : xQ} (h : Agr w A0 A) : Agr w A0 (aMeet1 w n A) := by
  unfold aMeet1
  split
  · refine ⟨h.1, fun a k h1 h2 h3 => ?_⟩
    rw [xsI_ne h3, xsI_ne (Or.inl h2), xsI_ne (Or.inl h1)]
    exact h.2 a k h1 h2 h3
  · exact h
theorem FInv.fc {w : Nat} {A : xQ} (h : FInv w A) {n : Nat} (hn : n < 24) (hu : A.1 (w + 9) n = 4294967295) : A.1 (w + 2) 7 < 24 := by
  rw [h.2.1]
  exact xcnt_lt hn (by simp [hu])
theorem FInv.fc2 {w : Nat} {A : xQ} (h : FInv w A) : A.1 (w + 2) 7 ≤ 24 := by
  rw [h.2.1]
  exact xcnt_le _ _
theorem FInv.meet1 {w n : Nat} {A : xQ} (h : FInv w A) (hn : n < 24) (hk : A.1 (w + 3) n ≠ 0) : FInv w (aMeet1 w n A) := by
  by_cases hu : A.1 (w + 9) n = 4294967295
  · obtain ⟨e1, e2, e3⟩ := aMeet1_new hu
    have hfc := h.fc hn hu
    obtain ⟨g1, g2, g3⟩ := h
    have e4 : ∀ o, (aMeet1 w n A).1 (w + 3) o = A.1 (w + 3) o := fun o => (Agr.meet1 (Agr.rfl' w A)).2 _ _ (by omega) (by omega) (by omega)
    refine ⟨fun o ho => ?_, ?_, fun i hi => ?_⟩
    · rw [e1, e3]
      split
      · exact Or.inr (by omega)
      · rcases g1 o ho with q | q
        · exact Or.inl q
        · exact Or.inr (by omega)
    · rw [e3, g2]
      refine (xcnt_set hn (by simp [hu]) ?_ (fun i hi => ?_)).symm
      · rw [e1, if_pos rfl]
        simp
        omega
      · rw [e1, if_neg hi]
    · rw [e3] at hi
      rw [e4, e2, e1]
      by_cases hq : i = A.1 (w + 2) 7
      · rw [if_pos hq, if_pos rfl]
        exact ⟨hn, hq.symm, hk⟩
      · rw [if_neg hq]
        obtain ⟨z1, z2, z3⟩ := g3 i (by omega)
        refine ⟨z1, ?_, z3⟩
        rw [if_neg (fun z => ?_)]
        · exact z2
        · rw [z, hu] at z2
          omega
  · unfold aMeet1
    rw [if_neg hu]
    exact h
theorem VC.o {w : Nat} {A : xQ} {ka na i : Nat} (h : VC w A ka na i) (hk : A.1 ka i = 3 ∨ A.1 ka i = 4) : oN (A.2 na i) < 24 ∧ A.1 (w + 3) (oN (A.2 na i)) = A.1 ka i := by
  obtain ⟨o, h1, h2, h3⟩ := h.2 (by omega)
  rw [h2, oN_lN (by omega)]
  exact ⟨h1, h3⟩
section SR
variable {w : Nat} {A0 A : xQ} {ka na i : Nat}
theorem Srch.k (h : Srch w A0 A) (h1 : ka ≠ w + 9) (h2 : ka ≠ w + 10) (h3 : ka ≠ w + 2) : A.1 ka i = A0.1 ka i := h.1.2 ka i h1 h2 (Or.inl h3)
theorem Srch.meet (h : Srch w A0 A) (hv : VC w A0 ka na i) (h1 : ka ≠ w + 9) (h2 : ka ≠ w + 10) (h3 : ka ≠ w + 2) : Srch w A0 (aMeet w ka na i A) := by
  unfold aMeet
  rw [h.k h1 h2 h3, h.1.1]
  split
  · next hk =>
    obtain ⟨o1, o2⟩ := hv.o hk
    refine ⟨h.1.meet1, h.2.meet1 o1 ?_⟩
    rw [h.1.2 _ _ (by omega) (by omega) (by omega), o2]
    omega
  · exact h
theorem Srch.c64 (h : Srch w A0 A) (hv : VC w A0 ka na i) (h1 : ka ≠ w + 9) (h2 : ka ≠ w + 10) (h3 : ka ≠ w + 2) : A.1 ka i ≤ 4 ∧ (A.1 ka i = 3 ∨ A.1 ka i = 4 → oN (A.2 na i) < 24 ∧ A.1 (w + 9) (oN (A.2 na i)) < 2 ^ 32 ∧ (A.1 (w + 9) (oN (A.2 na i)) = 4294967295 → A.1 (w + 2) 7 < 24)) := by
  rw [h.k h1 h2 h3, h.1.1]
  refine ⟨hv.1, fun hk => ?_⟩
  obtain ⟨o1, o2⟩ := hv.o hk
  refine ⟨o1, ?_, fun hu => h.2.fc o1 hu⟩
  rcases h.2.1 _ o1 with q | q
  · omega
  · have := h.2.fc2; omega
theorem Srch.it {n : Nat} {g : Nat → Nat} (hv : ∀ c, c < n → VC w A0 ka na (g c)) (h1 : ka ≠ w + 9) (h2 : ka ≠ w + 10) (h3 : ka ≠ w + 2) : ∀ (m j : Nat) (A : xQ), j + m ≤ n → Srch w A0 A → Srch w A0 (xit (fun j B => aMeet w ka na (g j) B) m j A) := by
  intro m
  induction m with
  | zero => intro j A _ h; exact h
  | succ m ih =>
    intro j A hj h
    exact ih (j + 1) _ (by omega) (h.meet (hv j (by omega)) h1 h2 h3)
end SR
def aMeetF (w f : Nat) (A : xQ) : xQ := xit (fun j B => aMeet w (f + 2) (f + 3) j B) (5 + A.1 f 3) 0 A
def aMeetS (w s : Nat) (A : xQ) : xQ := xit (fun k B => aMeetF w (s + 5 + 4 * k) B) (A.1 s 3) 0 (if A.1 s 2 = 1 then aMeet w (s + 3) (s + 4) 0 A else A)
def aMeetR (w : Nat) (A : xQ) : xQ := xit (fun t B => aMeetS w (w + 11 + 25 * t) B) (A.1 w 2) 0 A
def aMeetO (w i : Nat) (A : xQ) : xQ := xit (fun j B => aMeet w (w + 7) (w + 8) (A.1 (w + 10) i * 3 + j) B) (A.1 (w + 5) (A.1 (w + 10) i)) 0 A
def aBfs (w : Nat) : Nat → Nat → xQ → xQ
  | 0, _, A => A
  | n + 1, i, A => if i < A.1 (w + 2) 7 then aBfs w n (i + 1) (aMeetO w i A) else A
def aFind (w : Nat) (A : xQ) : xQ := aBfs w 24 0 (aMeetR w (aBegin w A))
theorem xit_fill (a v : Nat) : ∀ (m i : Nat) (B : xQ), (xit (fun i B => xsI B a i v) m i B).2 = B.2 ∧ ∀ b k, (xit (fun i B => xsI B a i v) m i B).1 b k = if b = a ∧ i ≤ k ∧ k < i + m then v else B.1 b k := by
  intro m
  induction m with
  | zero => intro i B; exact ⟨rfl, fun a k => by rw [if_neg (by omega)]; rfl⟩
  | succ m ih =>
    intro i B
    obtain ⟨z1, z2⟩ := ih (i + 1) (xsI B a i v)
    refine ⟨z1, fun b k => ?_⟩
    show (xit _ m (i + 1) (xsI B a i v)).1 b k = _
    rw [z2]
    by_cases h1 : b = a ∧ i + 1 ≤ k ∧ k < i + 1 + m
    · rw [if_pos h1, if_pos (by omega)]
    · rw [if_neg h1]
      by_cases h2 : b = a ∧ k = i
      · rw [if_pos (by omega), h2.1, h2.2, xsI_eq]
      · rw [if_neg (by omega), xsI_ne (by omega)]
theorem aBegin_s (w : Nat) (A : xQ) : Srch w A (aBegin w A) := by
  obtain ⟨z1, z2⟩ := xit_fill (w + 9) 4294967295 24 0 A
  unfold aBegin
  generalize xit (fun i B => xsI B (w + 9) i 4294967295) 24 0 A = X at z1 z2
  have e2 : ∀ o, o < 24 → (xsI X (w + 2) 7 0).1 (w + 9) o = 4294967295 := fun o ho => by
    rw [xsI_ne (Or.inl (by omega)), z2, if_pos (by omega)]
  have e3 : (xsI X (w + 2) 7 0).1 (w + 2) 7 = 0 := xsI_eq
  refine ⟨⟨z1, fun a k h1 h2 h3 => ?_⟩, fun o ho => Or.inl (e2 o ho), ?_, fun i hi => ?_⟩
  · rw [xsI_ne h3, z2, if_neg (by omega)]
  · rw [e3, xcnt_zero]
    intro i hi
    simp only [e2 i hi]
    rfl
  · rw [e3] at hi
    omega
section SK
variable {w : Nat} {A0 A : xQ} {T : Nat → Option xT} {R : Nat → Nat → Option Nat}
theorem xF0.k {f : Nat} (hW : xW0 T R w) (hF : xF0 T R f) : f + 2 ≠ w + 9 ∧ f + 2 ≠ w + 10 ∧ f + 2 ≠ w + 2 ∧ f ≠ w + 9 ∧ f ≠ w + 10 ∧ f ≠ w + 2 := by
  obtain ⟨f1, f2, c1, c2, c3, c4, c5⟩ := hF
  obtain ⟨w1, w2, w3, w4, ⟨h1, h2, h3, h4, h5, h6, h7, h8, h9, h10, h11, h12, hC⟩, hSt⟩ := hW
  exact ⟨xne c4 h11 (by simp), xne c4 h12 (by simp), xne c4 h1 (by simp), xne f1 h11 (by simp), xne f1 h12 (by simp), xne f1 h1 (by simp)⟩
theorem xSt0.k {s : Nat} (hW : xW0 T R w) (hS : xSt0 T R s) : s + 3 ≠ w + 9 ∧ s + 3 ≠ w + 10 ∧ s + 3 ≠ w + 2 ∧ s ≠ w + 9 ∧ s ≠ w + 10 ∧ s ≠ w + 2 := by
  obtain ⟨s1, s2, s3, s4, ⟨c1, c2, c3, c4, c5⟩, s6⟩ := hS
  obtain ⟨w1, w2, w3, w4, ⟨h1, h2, h3, h4, h5, h6, h7, h8, h9, h10, h11, h12, hC⟩, hSt⟩ := hW
  exact ⟨xne c4 h11 (by simp), xne c4 h12 (by simp), xne c4 h1 (by simp), xne s1 h11 (by simp), xne s1 h12 (by simp), xne s1 h1 (by simp)⟩
theorem Srch.mF {f : Nat} (h : Srch w A0 A) (hW : xW0 T R w) (hF : xF0 T R f) (hk : FOk w A0 f) : Srch w A0 (aMeetF w f A) := by
  obtain ⟨k1, k2, k3, k4, k5, k6⟩ := xF0.k hW hF
  unfold aMeetF
  rw [h.k k4 k5 k6]
  exact Srch.it (g := fun j => j) (fun c hc => hk.2.2.2.2 c hc) k1 k2 k3 _ 0 A (by omega) h
theorem Srch.mFs {s : Nat} (hW : xW0 T R w) (hS : xSt0 T R s) {d : Nat} (hd : d ≤ 5) (hk : ∀ k, k < d → FOk w A0 (s + 5 + 4 * k)) : ∀ (m k : Nat) (A : xQ), k + m = d → Srch w A0 A → Srch w A0 (xit (fun k B => aMeetF w (s + 5 + 4 * k) B) m k A) := by
  intro m
  induction m with
  | zero => intro k A _ h; exact h
  | succ m ih =>
    intro k A hk0 h
    exact ih (k + 1) _ (by omega) (h.mF hW (hS.2.2.2.2.2 k (by omega)).2 (hk k (by omega)))
theorem Srch.mS {s : Nat} (h : Srch w A0 A) (hW : xW0 T R w) (hS : xSt0 T R s) (hk : SOk w A0 s) : Srch w A0 (aMeetS w s A) := by
  obtain ⟨k1, k2, k3, k4, k5, k6⟩ := xSt0.k hW hS
  unfold aMeetS
  rw [h.k k4 k5 k6, h.k k4 k5 k6]
  refine Srch.mFs hW hS hk.2.1 hk.2.2.2.2.2.2 _ 0 _ (by omega) ?_
  split
  · next e => exact h.meet (hk.2.2.2.2.2.1 e) k1 k2 k3
  · exact h
theorem Srch.ww (h : Srch w A0 A) {k : Nat} : A.1 w k = A0.1 w k := h.1.2 w k (by omega) (by omega) (by omega)
theorem Srch.mRs (hW : xW0 T R w) {n : Nat} (hn : n ≤ 3) (hk : ∀ t, t < n → SOk w A0 (w + 11 + 25 * t)) : ∀ (m t : Nat) (A : xQ), t + m = n → Srch w A0 A → Srch w A0 (xit (fun t B => aMeetS w (w + 11 + 25 * t) B) m t A) := by
  intro m
  induction m with
  | zero => intro t A _ h; exact h
  | succ m ih =>
    intro t A ht h
    exact ih (t + 1) _ (by omega) (h.mS hW (hW.2.2.2.2.2 t (by omega)).2 (hk t (by omega)))
theorem Srch.mR (h : Srch w A0 A) (hW : xW0 T R w) (hk : WOk w A0) : Srch w A0 (aMeetR w A) := by
  unfold aMeetR
  rw [h.ww]
  exact Srch.mRs hW hk.1 hk.2.1 _ 0 A (by omega) h
theorem Srch.mO (h : Srch w A0 A) (hk : WOk w A0) {i : Nat} (hi : i < A.1 (w + 2) 7) : Srch w A0 (aMeetO w i A) := by
  obtain ⟨g1, g2, g3⟩ := h.2.2.2 i hi
  unfold aMeetO
  have e3 := h.1.2 (w + 3) (A.1 (w + 10) i) (by omega) (by omega) (by omega)
  rw [e3] at g3
  rw [h.1.2 (w + 5) _ (by omega) (by omega) (by omega)]
  exact Srch.it (g := fun j => A.1 (w + 10) i * 3 + j) (fun c hc => (hk.2.2 _ g1).2.2.2 g3 c hc) (by omega) (by omega) (by omega) _ 0 A (by omega) h
theorem Srch.bfs (hk : WOk w A0) : ∀ (n i : Nat) (A : xQ), Srch w A0 A → Srch w A0 (aBfs w n i A) := by
  intro n
  induction n with
  | zero => intro i A h; exact h
  | succ n ih =>
    intro i A h
    unfold aBfs
    split
    · next hi => exact ih _ _ (h.mO hk hi)
    · exact h
theorem Srch.find (hW : xW0 T R w) (hk : WOk w A0) : Srch w A0 (aFind w A0) := Srch.bfs hk _ _ _ ((aBegin_s w A0).mR hW hk)
end SK
theorem l101a {z : Nat} {T : Nat → Option xT} {R : Nat → Nat → Option Nat} {w : Nat} {A0 : xQ} {P : xR → Prop} {f t k n : Nat} (hW : xW0 T R w) (hF : xF0 T R f) (hs6 : A0.1 f 3 ≤ 6) (hn : n = 5 + A0.1 f 3) (hv : ∀ c, c < n → VC w A0 (f + 2) (f + 3) c) : ∀ (m j : Nat) (A : xQ), j + m = n → Srch w A0 A → xP 101 107 [(0, .ref w), (1, .int (nI t)), (2, .int (nI k))] [] 0 0 (xm z T R (xit (fun j B => aMeet w (f + 2) (f + 3) j B) m j A)) P → xP 101 77 [(0, .ref w), (1, .int (nI t)), (2, .int (nI k)), (3, .ref f), (4, .int (nI j))] [] 0 0 (xm z T R A) P := by
  obtain ⟨k1, k2, k3, k4, k5, k6⟩ := xF0.k hW hF
  have f1 := hF.1
  have f2 := hF.2.1
  intro m
  induction m with
  | zero =>
    intro j A hj hs hk
    have e := hs.k (i := 3) k4 k5 k6
    refine xp_iload rfl rfl ?_
    refine xp_iconst (n := 5) rfl (by decide) ?_
    refine xp_aload_n rfl rfl ?_
    refine xp_gfi rfl rfl (by decide) (by decide) (by first | assumption | exact hW.1 | exact hW.2.2.2.1 | exact hW.2.2.2.2.1.1) ?_
    refine xp_iadd rfl ?_
    refine xp_icge 107 rfl (by decide) (by omega) (by omega) (fun h85 => ?_) (fun h85 => ?_)
    · skip
      refine xp_weak [(0, .ref w), (1, .int (nI t)), (2, .int (nI k))] (xle_cons rfl (xle_cons rfl (xle_cons rfl (xle_nil _)))) (by simp [xnd]) ?_
      exact hk
    · exfalso; omega
  | succ m ih =>
    intro j A hj hs hk
    have e := hs.k (i := 3) k4 k5 k6
    have hvj := hv j (by omega)
    obtain ⟨m1, m2⟩ := hs.c64 hvj k1 k2 k3
    refine xp_iload rfl rfl ?_
    refine xp_iconst (n := 5) rfl (by decide) ?_
    refine xp_aload_n rfl rfl ?_
    refine xp_gfi rfl rfl (by decide) (by decide) (by first | assumption | exact hW.1 | exact hW.2.2.2.1 | exact hW.2.2.2.2.1.1) ?_
    refine xp_iadd rfl ?_
    refine xp_icge 107 rfl (by decide) (by omega) (by omega) (fun h85 => ?_) (fun h85 => ?_)
    · exfalso; omega
    · skip
      refine xp_aload_n rfl rfl ?_
      refine xp_gfa rfl rfl (by decide) (by decide) (by first | assumption | exact hW.1 | exact hW.2.2.2.1 | exact hW.2.2.2.2.1.1) (by first | assumption | exact hW.2.1 | exact hW.2.2.1) ?_
      refine xp_aload_n rfl rfl ?_
      refine xp_gfa rfl rfl (by decide) (by decide) (by first | assumption | exact hW.1 | exact hW.2.2.2.1 | exact hW.2.2.2.2.1.1) (by first | assumption | exact hW.2.1 | exact hW.2.2.1) ?_
      refine xp_iload rfl rfl ?_
      refine xp_iv rfl rfl (Nat.le_of_ble_eq_true rfl) (by decide) (by decide) (by decide) (Nat.le_of_ble_eq_true rfl) rfl (xrcv1 (by decide) (by exact hW.2.2.2.2.1.1)) (c64 hW.2.2.2.2.1 hF.2.2 (by omega) (by omega) m1 m2) rfl ?_
      refine xp_iinc rfl rfl (by decide) (nI_inc _) ?_
      refine xp_goto 77 rfl (by decide) ?_
      refine xp_weak [(0, .ref w), (1, .int (nI t)), (2, .int (nI k)), (3, .ref f), (4, .int (nI (j + 1)))] (xle_cons rfl (xle_cons rfl (xle_cons rfl (xle_cons rfl (xle_cons rfl (xle_nil _)))))) (by simp [xnd]) ?_
      exact ih (j + 1) _ (by omega) (hs.meet hvj k1 k2 k3) hk
theorem l101b {z : Nat} {T : Nat → Option xT} {R : Nat → Nat → Option Nat} {w : Nat} {A0 : xQ} {P : xR → Prop} {s t d : Nat} (ht : t < 3) (hs0 : s = w + 11 + 25 * t) (hW : xW0 T R w) (hd : d = A0.1 s 3) (hk0 : SOk w A0 s) : ∀ (m k : Nat) (A : xQ), k + m = d → Srch w A0 A → xP 101 113 [(0, .ref w), (1, .int (nI t))] [] 0 0 (xm z T R (xit (fun k B => aMeetF w (s + 5 + 4 * k) B) m k A)) P → xP 101 49 [(0, .ref w), (1, .int (nI t)), (2, .int (nI k))] [] 0 0 (xm z T R A) P := by
  obtain ⟨r1, hS⟩ := hW.2.2.2.2.2 t ht
  rw [← hs0] at r1 hS
  obtain ⟨k1, k2, k3, k4, k5, k6⟩ := xSt0.k hW hS
  have s1 := hS.1
  have s2 := hS.2.1
  have s3 := hS.2.2.1
  have hd5 := hk0.2.1
  intro m
  induction m with
  | zero =>
    intro k A hj hs hk
    have e := hs.k (i := 3) k4 k5 k6
    refine xp_iload_n rfl rfl ?_
    refine xp_aload_n rfl rfl ?_
    refine xp_gfa rfl rfl (by decide) (by decide) (by first | assumption | exact hW.1 | exact hW.2.2.2.1 | exact hW.2.2.2.2.1.1) (by first | assumption | exact hW.2.1 | exact hW.2.2.1) ?_
    refine xp_iload_n rfl rfl ?_
    refine xp_aald rfl (by first | assumption | exact hW.1 | exact hW.2.2.2.1 | exact hW.2.2.2.2.1.1) (by decide) (by decide) (by omega) (by omega) (by first | assumption | exact hW.2.1 | exact hW.2.2.1) ?_
    refine xp_gfi rfl rfl (by decide) (by decide) (by first | assumption | exact hW.1 | exact hW.2.2.2.1 | exact hW.2.2.2.2.1.1) ?_
    refine xp_icge 113 rfl (by decide) (by omega) (by omega) (fun h59 => ?_) (fun h59 => ?_)
    · skip
      refine xp_weak [(0, .ref w), (1, .int (nI t))] (xle_cons rfl (xle_cons rfl (xle_nil _))) (by simp [xnd]) ?_
      exact hk
    · exfalso; omega
  | succ m ih =>
    intro k A hj hs hk
    have e := hs.k (i := 3) k4 k5 k6
    obtain ⟨r2, hF⟩ := hS.2.2.2.2.2 k (by omega)
    have hfk := hk0.2.2.2.2.2.2 k (by omega)
    obtain ⟨n1, n2, n3, n4, n5, n6⟩ := xF0.k hW hF
    have e2 := hs.k (i := 3) n4 n5 n6
    refine xp_iload_n rfl rfl ?_
    refine xp_aload_n rfl rfl ?_
    refine xp_gfa rfl rfl (by decide) (by decide) (by first | assumption | exact hW.1 | exact hW.2.2.2.1 | exact hW.2.2.2.2.1.1) (by first | assumption | exact hW.2.1 | exact hW.2.2.1) ?_
    refine xp_iload_n rfl rfl ?_
    refine xp_aald rfl (by first | assumption | exact hW.1 | exact hW.2.2.2.1 | exact hW.2.2.2.2.1.1) (by decide) (by decide) (by omega) (by omega) (by first | assumption | exact hW.2.1 | exact hW.2.2.1) ?_
    refine xp_gfi rfl rfl (by decide) (by decide) (by first | assumption | exact hW.1 | exact hW.2.2.2.1 | exact hW.2.2.2.2.1.1) ?_
    refine xp_icge 113 rfl (by decide) (by omega) (by omega) (fun h59 => ?_) (fun h59 => ?_)
    · exfalso; omega
    · skip
      refine xp_aload_n rfl rfl ?_
      refine xp_gfa rfl rfl (by decide) (by decide) (by first | assumption | exact hW.1 | exact hW.2.2.2.1 | exact hW.2.2.2.2.1.1) (by first | assumption | exact hW.2.1 | exact hW.2.2.1) ?_
      refine xp_iload_n rfl rfl ?_
      refine xp_aald rfl (by first | assumption | exact hW.1 | exact hW.2.2.2.1 | exact hW.2.2.2.2.1.1) (by decide) (by decide) (by omega) (by omega) (by first | assumption | exact hW.2.1 | exact hW.2.2.1) ?_
      refine xp_gfa rfl rfl (by decide) (by decide) (by first | assumption | exact hW.1 | exact hW.2.2.2.1 | exact hW.2.2.2.2.1.1) (by first | assumption | exact hW.2.1 | exact hW.2.2.1) ?_
      refine xp_iload_n rfl rfl ?_
      refine xp_aald rfl (by first | assumption | exact hW.1 | exact hW.2.2.2.1 | exact hW.2.2.2.2.1.1) (by decide) (by decide) (by omega) (by omega) (by first | assumption | exact hW.2.1 | exact hW.2.2.1) ?_
      refine xp_astore_n rfl (by decide) ?_
      refine xp_iconst (n := 0) rfl (by decide) ?_
      refine xp_istore rfl (by decide) ?_
      refine xp_weak [(0, .ref w), (1, .int (nI t)), (2, .int (nI k)), (3, .ref (s + 5 + 4 * k)), (4, .int (nI 0))] (xle_cons rfl (xle_cons rfl (xle_cons rfl (xle_cons rfl (xle_cons rfl (xle_nil _)))))) (by simp [xnd]) ?_
      refine l101a hW hF hfk.2.2.1 rfl hfk.2.2.2.2 (5 + A0.1 (s + 5 + 4 * k) 3) 0 A (by omega) hs ?_
      rw [← e2]
      skip
      refine xp_iinc rfl rfl (by decide) (nI_inc _) ?_
      refine xp_goto 49 rfl (by decide) ?_
      refine xp_weak [(0, .ref w), (1, .int (nI t)), (2, .int (nI (k + 1)))] (xle_cons rfl (xle_cons rfl (xle_cons rfl (xle_nil _)))) (by simp [xnd]) ?_
      exact ih (k + 1) _ (by omega) (hs.mF hW hF hfk) hk
theorem l101c {z : Nat} {T : Nat → Option xT} {R : Nat → Nat → Option Nat} {w : Nat} {A0 : xQ} {P : xR → Prop} {n : Nat} (hW : xW0 T R w) (hn : n = A0.1 w 2) (hk0 : WOk w A0) : ∀ (m t : Nat) (A : xQ), t + m = n → Srch w A0 A → xP 101 119 [(0, .ref w)] [] 0 0 (xm z T R (xit (fun t B => aMeetS w (w + 11 + 25 * t) B) m t A)) P → xP 101 9 [(0, .ref w), (1, .int (nI t))] [] 0 0 (xm z T R A) P := by
  have hn3 := hk0.1
  intro m
  induction m with
  | zero =>
    intro t A hj hs hk
    have e := hs.ww (k := 2)
    refine xp_iload_n rfl rfl ?_
    refine xp_aload_n rfl rfl ?_
    refine xp_gfi rfl rfl (by decide) (by decide) (by first | assumption | exact hW.1 | exact hW.2.2.2.1 | exact hW.2.2.2.2.1.1) ?_
    refine xp_icge 119 rfl (by decide) (by omega) (by omega) (fun h14 => ?_) (fun h14 => ?_)
    · skip
      refine xp_weak [(0, .ref w)] (xle_cons rfl (xle_nil _)) (by simp [xnd]) ?_
      exact hk
    · exfalso; omega
  | succ m ih =>
    intro t A hj hs hk
    have e := hs.ww (k := 2)
    obtain ⟨r1, hS⟩ := hW.2.2.2.2.2 t (by omega)
    have hsk := hk0.2.1 t (by omega)
    obtain ⟨k1, k2, k3, k4, k5, k6⟩ := xSt0.k hW hS
    have s1 := hS.1
    have s2 := hS.2.1
    have s4 := hS.2.2.2.1
    have e2 := hs.k (i := 2) k4 k5 k6
    have e3 := hs.k (i := 3) k4 k5 k6
    have b1 := hsk.1
    refine xp_iload_n rfl rfl ?_
    refine xp_aload_n rfl rfl ?_
    refine xp_gfi rfl rfl (by decide) (by decide) (by first | assumption | exact hW.1 | exact hW.2.2.2.1 | exact hW.2.2.2.2.1.1) ?_
    refine xp_icge 119 rfl (by decide) (by omega) (by omega) (fun h14 => ?_) (fun h14 => ?_)
    · exfalso; omega
    · skip
      refine xp_aload_n rfl rfl ?_
      refine xp_gfa rfl rfl (by decide) (by decide) (by first | assumption | exact hW.1 | exact hW.2.2.2.1 | exact hW.2.2.2.2.1.1) (by first | assumption | exact hW.2.1 | exact hW.2.2.1) ?_
      refine xp_iload_n rfl rfl ?_
      refine xp_aald rfl (by first | assumption | exact hW.1 | exact hW.2.2.2.1 | exact hW.2.2.2.2.1.1) (by decide) (by decide) (by omega) (by omega) (by first | assumption | exact hW.2.1 | exact hW.2.2.1) ?_
      refine xp_gfi rfl rfl (by decide) (by decide) (by first | assumption | exact hW.1 | exact hW.2.2.2.1 | exact hW.2.2.2.2.1.1) ?_
      refine xp_iconst (n := 1) rfl (by decide) ?_
      refine xp_icne 47 rfl (by decide) (by omega) (by omega) (fun h27 => ?_) (fun h27 => ?_)
      · skip
        refine xp_iconst (n := 0) rfl (by decide) ?_
        refine xp_istore_n rfl (by decide) ?_
        have es : ∀ C, C = (if A.1 (w + 11 + 25 * t) 2 = 1 then aMeet w (w + 11 + 25 * t + 3) (w + 11 + 25 * t + 4) 0 A else A) → Srch w A0 C → xP 101 49 [(0, .ref w), (1, .int (nI t)), (2, .int (nI 0))] [] 0 0 (xm z T R C) P := by
          intro C hC hsC
          refine l101b (by omega) rfl hW rfl hsk (A0.1 (w + 11 + 25 * t) 3) 0 C (by omega) hsC ?_
          refine xp_iinc rfl rfl (by decide) (nI_inc _) ?_
          refine xp_goto 9 rfl (by decide) ?_
          refine xp_weak [(0, .ref w), (1, .int (nI (t + 1)))] (xle_cons rfl (xle_cons rfl (xle_nil _))) (by simp [xnd]) ?_
          have ea : aMeetS w (w + 11 + 25 * t) A = xit (fun k B => aMeetF w (w + 11 + 25 * t + 5 + 4 * k) B) (A0.1 (w + 11 + 25 * t) 3) 0 C := by unfold aMeetS; rw [e3, hC]
          rw [← ea]
          exact ih (t + 1) _ (by omega) (hs.mS hW hS hsk) hk
        refine xp_weak [(0, .ref w), (1, .int (nI t)), (2, .int (nI 0))] (xle_cons rfl (xle_cons rfl (xle_cons rfl (xle_nil _)))) (by simp [xnd]) ?_
        first
          | exact es _ (if_neg h27).symm hs
          | exact es _ (if_pos h27).symm (hs.meet (hsk.2.2.2.2.2.1 (by omega)) k1 k2 k3)
      · skip
        refine xp_aload_n rfl rfl ?_
        refine xp_gfa rfl rfl (by decide) (by decide) (by first | assumption | exact hW.1 | exact hW.2.2.2.1 | exact hW.2.2.2.2.1.1) (by first | assumption | exact hW.2.1 | exact hW.2.2.1) ?_
        refine xp_aload_n rfl rfl ?_
        refine xp_gfa rfl rfl (by decide) (by decide) (by first | assumption | exact hW.1 | exact hW.2.2.2.1 | exact hW.2.2.2.2.1.1) (by first | assumption | exact hW.2.1 | exact hW.2.2.1) ?_
        refine xp_iload_n rfl rfl ?_
        refine xp_aald rfl (by first | assumption | exact hW.1 | exact hW.2.2.2.1 | exact hW.2.2.2.2.1.1) (by decide) (by decide) (by omega) (by omega) (by first | assumption | exact hW.2.1 | exact hW.2.2.1) ?_
        refine xp_gfa rfl rfl (by decide) (by decide) (by first | assumption | exact hW.1 | exact hW.2.2.2.1 | exact hW.2.2.2.2.1.1) (by first | assumption | exact hW.2.1 | exact hW.2.2.1) ?_
        refine xp_iconst (n := 0) rfl (by decide) ?_
        refine xp_iv rfl rfl (Nat.le_of_ble_eq_true rfl) (by decide) (by decide) (by decide) (Nat.le_of_ble_eq_true rfl) rfl (xrcv1 (by decide) (by exact hW.2.2.2.2.1.1)) (c64 hW.2.2.2.2.1 hS.2.2.2.2.1 (by omega) (by omega) (hs.c64 (hsk.2.2.2.2.2.1 (by omega)) k1 k2 k3).1 (hs.c64 (hsk.2.2.2.2.2.1 (by omega)) k1 k2 k3).2) rfl ?_
        refine xp_iconst (n := 0) rfl (by decide) ?_
        refine xp_istore_n rfl (by decide) ?_
        have es : ∀ C, C = (if A.1 (w + 11 + 25 * t) 2 = 1 then aMeet w (w + 11 + 25 * t + 3) (w + 11 + 25 * t + 4) 0 A else A) → Srch w A0 C → xP 101 49 [(0, .ref w), (1, .int (nI t)), (2, .int (nI 0))] [] 0 0 (xm z T R C) P := by
          intro C hC hsC
          refine l101b (by omega) rfl hW rfl hsk (A0.1 (w + 11 + 25 * t) 3) 0 C (by omega) hsC ?_
          refine xp_iinc rfl rfl (by decide) (nI_inc _) ?_
          refine xp_goto 9 rfl (by decide) ?_
          refine xp_weak [(0, .ref w), (1, .int (nI (t + 1)))] (xle_cons rfl (xle_cons rfl (xle_nil _))) (by simp [xnd]) ?_
          have ea : aMeetS w (w + 11 + 25 * t) A = xit (fun k B => aMeetF w (w + 11 + 25 * t + 5 + 4 * k) B) (A0.1 (w + 11 + 25 * t) 3) 0 C := by unfold aMeetS; rw [e3, hC]
          rw [← ea]
          exact ih (t + 1) _ (by omega) (hs.mS hW hS hsk) hk
        refine xp_weak [(0, .ref w), (1, .int (nI t)), (2, .int (nI 0))] (xle_cons rfl (xle_cons rfl (xle_cons rfl (xle_nil _)))) (by simp [xnd]) ?_
        first
          | exact es _ (if_neg h27).symm hs
          | exact es _ (if_pos h27).symm (hs.meet (hsk.2.2.2.2.2.1 (by omega)) k1 k2 k3)
end
section
-- THE SEARCH, second half; room for an object
theorem l101d {z : Nat} {T : Nat → Option xT} {R : Nat → Nat → Option Nat} {w : Nat} {A0 : xQ} {P : xR → Prop} {o i n : Nat} (hW : xW0 T R w) (hH : xH0 T R w) (ho : o < 24) (hn : n = A0.1 (w + 5) o) (hn3 : n ≤ 3) (hv : ∀ c, c < n → VC w A0 (w + 7) (w + 8) (o * 3 + c)) : ∀ (m j : Nat) (A : xQ), j + m = n → Srch w A0 A → xP 101 193 [(0, .ref w), (1, .int (nI i))] [] 0 0 (xm z T R (xit (fun j B => aMeet w (w + 7) (w + 8) (o * 3 + j) B) m j A)) P → xP 101 150 [(0, .ref w), (1, .int (nI i)), (2, .int (nI o)), (3, .int (nI j))] [] 0 0 (xm z T R A) P := by
  have hH0 := hH
  obtain ⟨h1, h2, h3, h4, h5, h6, h7, h8, h9, h10, h11, h12, hCC⟩ := hH
  intro m
  induction m with
  | zero =>
    intro j A hj hs hk
    have e := hs.k (ka := w + 5) (i := o) (by omega) (by omega) (by omega)
    refine xp_iload_n rfl rfl ?_
    refine xp_aload_n rfl rfl ?_
    refine xp_gfa rfl rfl (by decide) (by decide) (by first | assumption | exact hW.1 | exact hCC.1) (by first | assumption | exact hW.2.2.1) ?_
    refine xp_gfa rfl rfl (by decide) (by decide) (by first | assumption | exact hW.1 | exact hCC.1) (by first | assumption | exact hW.2.2.1) ?_
    refine xp_iload_n rfl rfl ?_
    refine xp_iald rfl (by first | assumption | exact hW.1 | exact hCC.1) (by omega) (by omega) ?_
    refine xp_icge 193 rfl (by decide) (by omega) (by omega) (fun h160 => ?_) (fun h160 => ?_)
    · skip
      refine xp_weak [(0, .ref w), (1, .int (nI i))] (xle_cons rfl (xle_cons rfl (xle_nil _))) (by simp [xnd]) ?_
      exact hk
    · exfalso; omega
  | succ m ih =>
    intro j A hj hs hk
    have e := hs.k (ka := w + 5) (i := o) (by omega) (by omega) (by omega)
    have hvj := hv j (by omega)
    obtain ⟨m1, m2⟩ := hs.c64 hvj (by omega) (by omega) (by omega)
    refine xp_iload_n rfl rfl ?_
    refine xp_aload_n rfl rfl ?_
    refine xp_gfa rfl rfl (by decide) (by decide) (by first | assumption | exact hW.1 | exact hCC.1) (by first | assumption | exact hW.2.2.1) ?_
    refine xp_gfa rfl rfl (by decide) (by decide) (by first | assumption | exact hW.1 | exact hCC.1) (by first | assumption | exact hW.2.2.1) ?_
    refine xp_iload_n rfl rfl ?_
    refine xp_iald rfl (by first | assumption | exact hW.1 | exact hCC.1) (by omega) (by omega) ?_
    refine xp_icge 193 rfl (by decide) (by omega) (by omega) (fun h160 => ?_) (fun h160 => ?_)
    · exfalso; omega
    · skip
      refine xp_aload_n rfl rfl ?_
      refine xp_gfa rfl rfl (by decide) (by decide) (by first | assumption | exact hW.1 | exact hCC.1) (by first | assumption | exact hW.2.2.1) ?_
      refine xp_aload_n rfl rfl ?_
      refine xp_gfa rfl rfl (by decide) (by decide) (by first | assumption | exact hW.1 | exact hCC.1) (by first | assumption | exact hW.2.2.1) ?_
      refine xp_gfa rfl rfl (by decide) (by decide) (by first | assumption | exact hW.1 | exact hCC.1) (by first | assumption | exact hW.2.2.1) ?_
      refine xp_aload_n rfl rfl ?_
      refine xp_gfa rfl rfl (by decide) (by decide) (by first | assumption | exact hW.1 | exact hCC.1) (by first | assumption | exact hW.2.2.1) ?_
      refine xp_iload_n rfl rfl ?_
      refine xp_iv rfl rfl (Nat.le_of_ble_eq_true rfl) (by decide) (by decide) (by decide) (Nat.le_of_ble_eq_true rfl) rfl (xrcv1 (by decide) (by first | assumption | exact hW.1 | exact hCC.1)) (c60) rfl ?_
      refine xp_iload_n rfl rfl ?_
      refine xp_iadd rfl ?_
      refine xp_iv rfl rfl (Nat.le_of_ble_eq_true rfl) (by decide) (by decide) (by decide) (Nat.le_of_ble_eq_true rfl) rfl (xrcv1 (by decide) (by exact h1)) (c64 hH0 hCC (by omega) (by omega) m1 m2) rfl ?_
      refine xp_iinc rfl rfl (by decide) (nI_inc _) ?_
      refine xp_goto 150 rfl (by decide) ?_
      refine xp_weak [(0, .ref w), (1, .int (nI i)), (2, .int (nI o)), (3, .int (nI (j + 1)))] (xle_cons rfl (xle_cons rfl (xle_cons rfl (xle_cons rfl (xle_nil _))))) (by simp [xnd]) ?_
      exact ih (j + 1) _ (by omega) (hs.meet hvj (by omega) (by omega) (by omega)) hk
theorem l101e {z : Nat} {T : Nat → Option xT} {R : Nat → Nat → Option Nat} {w : Nat} {A0 : xQ} (hW : xW0 T R w) (hk0 : WOk w A0) : ∀ (m i : Nat) (A : xQ), i + m = 24 → Srch w A0 A → xP 101 121 [(0, .ref w), (1, .int (nI i))] [] 0 0 (xm z T R A) (fun r => r = (.inr none, xm z T R (aBfs w m i A))) := by
  have hH := hW.2.2.2.2.1
  have hH0 := hH
  obtain ⟨h1, h2, h3, h4, h5, h6, h7, h8, h9, h10, h11, h12, hCC⟩ := hH
  intro m
  induction m with
  | zero =>
    intro i A hj hs
    refine xp_iload_n rfl rfl ?_
    refine xp_bipush (n := 24) rfl (by decide) ?_
    refine xp_icge 199 rfl (by decide) (by omega) (by omega) (fun h124 => ?_) (fun h124 => ?_)
    · skip
      refine xp_return rfl (by decide) (by decide) (by decide) ?_
      rfl
    · exfalso; omega
  | succ m ih =>
    intro i A hj hs
    have hfc := hs.2.fc2
    refine xp_iload_n rfl rfl ?_
    refine xp_bipush (n := 24) rfl (by decide) ?_
    refine xp_icge 199 rfl (by decide) (by omega) (by omega) (fun h124 => ?_) (fun h124 => ?_)
    · exfalso; omega
    · skip
      refine xp_iload_n rfl rfl ?_
      refine xp_aload_n rfl rfl ?_
      refine xp_gfa rfl rfl (by decide) (by decide) (by first | assumption | exact hW.1 | exact hCC.1) (by first | assumption | exact hW.2.2.1) ?_
      refine xp_gfi rfl rfl (by decide) (by decide) (by first | assumption | exact hW.1 | exact hCC.1) ?_
      refine xp_icge 199 rfl (by decide) (by omega) (by omega) (fun h135 => ?_) (fun h135 => ?_)
      · skip
        have e : aBfs w (m + 1) i A = A := if_neg (by omega)
        rw [e]
        refine xp_return rfl (by decide) (by decide) (by decide) ?_
        rfl
      · skip
        obtain ⟨g1, g2, g3⟩ := hs.2.2.2 i h135
        have e3 := hs.1.2 (w + 3) (A.1 (w + 10) i) (by omega) (by omega) (by omega)
        have g4 := g3
        rw [e3] at g4
        have ob := hk0.2.2 _ g1
        refine xp_aload_n rfl rfl ?_
        refine xp_gfa rfl rfl (by decide) (by decide) (by first | assumption | exact hW.1 | exact hCC.1) (by first | assumption | exact hW.2.2.1) ?_
        refine xp_gfa rfl rfl (by decide) (by decide) (by first | assumption | exact hW.1 | exact hCC.1) (by first | assumption | exact hW.2.2.1) ?_
        refine xp_iload_n rfl rfl ?_
        refine xp_iald rfl (by first | assumption | exact hW.1 | exact hCC.1) (by omega) (by omega) ?_
        refine xp_istore_n rfl (by decide) ?_
        refine xp_iconst (n := 0) rfl (by decide) ?_
        refine xp_istore_n rfl (by decide) ?_
        have e : aBfs w (m + 1) i A = aBfs w m (i + 1) (aMeetO w i A) := if_pos h135
        rw [e]
        refine xp_weak [(0, .ref w), (1, .int (nI i)), (2, .int (nI (A.1 (w + 10) i))), (3, .int (nI 0))] (xle_cons rfl (xle_cons rfl (xle_cons rfl (xle_cons rfl (xle_nil _))))) (by simp [xnd]) ?_
        refine l101d hW hH0 g1 rfl (ob.sz g4) (fun c hc => ob.2.2.2 g4 c hc) (A0.1 (w + 5) (A.1 (w + 10) i)) 0 A (by omega) hs ?_
        refine xp_iinc rfl rfl (by decide) (nI_inc _) ?_
        refine xp_goto 121 rfl (by decide) ?_
        refine xp_weak [(0, .ref w), (1, .int (nI (i + 1)))] (xle_cons rfl (xle_cons rfl (xle_nil _))) (by simp [xnd]) ?_
        have ea : aMeetO w i A = xit (fun j B => aMeet w (w + 7) (w + 8) (A.1 (w + 10) i * 3 + j) B) (A0.1 (w + 5) (A.1 (w + 10) i)) 0 A := by
          unfold aMeetO
          rw [hs.k (ka := w + 5) (by omega) (by omega) (by omega)]
        rw [← ea]
        exact ih (i + 1) _ (by omega) (hs.mO hk0 h135)
theorem c101 {z : Nat} {T : Nat → Option xT} {R : Nat → Nat → Option Nat} {A : xQ} {w : Nat} (hW : xW0 T R w) (hk0 : WOk w A) : xF 101 [.ref w] (xm z T R A) (.inr (none), xm z T R (aFind w A)) := by
  have hH := hW.2.2.2.2.1
  refine xF_eq (xF_p (Nat.le_of_ble_eq_true rfl) ?_)
  refine xp_aload_n rfl rfl ?_
  refine xp_gfa rfl rfl (by decide) (by decide) (by first | assumption | exact hW.1 | exact hH.1) (by first | assumption | exact hW.2.2.1) ?_
  refine xp_iv rfl rfl (Nat.le_of_ble_eq_true rfl) (by decide) (by decide) (by decide) (Nat.le_of_ble_eq_true rfl) rfl (xrcv1 (by decide) (by first | assumption | exact hW.1 | exact hH.1)) (c63 hH) rfl ?_
  refine xp_iconst (n := 0) rfl (by decide) ?_
  refine xp_istore_n rfl (by decide) ?_
  refine xp_weak [(0, .ref w), (1, .int (nI 0))] (xle_cons rfl (xle_cons rfl (xle_nil _))) (by simp [xnd]) ?_
  have hs := aBegin_s w A
  refine l101c (A0 := A) hW rfl hk0 (A.1 w 2) 0 _ (by omega) hs ?_
  have er : aMeetR w (aBegin w A) = xit (fun t B => aMeetS w (w + 11 + 25 * t) B) (A.1 w 2) 0 (aBegin w A) := by unfold aMeetR; rw [hs.ww]
  rw [← er]
  refine xp_iconst (n := 0) rfl (by decide) ?_
  refine xp_istore_n rfl (by decide) ?_
  refine xp_weak [(0, .ref w), (1, .int (nI 0))] (xle_cons rfl (xle_cons rfl (xle_nil _))) (by simp [xnd]) ?_
  exact l101e hW hk0 24 0 _ (by omega) (hs.mR hW hk0)
/-- room for an object: the memory, after a search if all slots are taken -/
def aRoom (w : Nat) (A : xQ) : xQ := if A.1 (w + 2) 4 = 24 then aDrop w (aFind w A) else A
theorem aDrop_c (w : Nat) (A : xQ) : (aDrop w A).1 (w + 2) 4 = A.1 (w + 2) 7 := by
  unfold aDrop
  rw [xsI_eq]
  refine xit_keep (fun i B => ?_) 24 0 A
  split
  · exact xsI_ne (Or.inl (by omega))
  · rfl
theorem c102 {z : Nat} {T : Nat → Option xT} {R : Nat → Nat → Option Nat} {A : xQ} {w : Nat} (hW : xW0 T R w) (hk0 : WOk w A) (hc : A.1 (w + 2) 4 ≤ 24) : xF 102 [.ref w] (xm z T R A) (.inr (some (.int (nI (if (aRoom w A).1 (w + 2) 4 < 24 then 1 else 0)))), xm z T R (aRoom w A)) := by
  have hH := hW.2.2.2.2.1
  have hs := Srch.find hW hk0
  have hf2 := hs.2.fc2
  have hb : ∀ o, o < 24 → (aFind w A).1 (w + 9) o < 2 ^ 32 := fun o ho => by
    rcases hs.2.1 o ho with q | q <;> omega
  have hdc := aDrop_c w (aFind w A)
  refine xF_eq (xF_p (Nat.le_of_ble_eq_true rfl) ?_)
  refine xp_aload_n rfl rfl ?_
  refine xp_gfa rfl rfl (by decide) (by decide) (by first | assumption | exact hW.1 | exact hH.1) (by first | assumption | exact hW.2.2.1) ?_
  refine xp_gfi rfl rfl (by decide) (by decide) (by first | assumption | exact hW.1 | exact hH.1) ?_
  refine xp_bipush (n := 24) rfl (by decide) ?_
  refine xp_icne 23 rfl (by decide) (by omega) (by omega) (fun h9 => ?_) (fun h9 => ?_)
  · skip
    have er : aRoom w A = A := if_neg h9
    refine xp_aload_n rfl rfl ?_
    refine xp_gfa rfl rfl (by decide) (by decide) (by first | assumption | exact hW.1 | exact hH.1) (by first | assumption | exact hW.2.2.1) ?_
    refine xp_gfi rfl rfl (by decide) (by decide) (by first | assumption | exact hW.1 | exact hH.1) ?_
    refine xp_bipush (n := 24) rfl (by decide) ?_
    refine xp_icge 39 rfl (by decide) (by omega) (by omega) (fun h32 => ?_) (fun h32 => ?_)
    · skip
      refine xp_iconst (n := 0) rfl (by decide) ?_
      refine xp_zreturn rfl (by decide) (by decide) (by decide) (by omega) ?_
      first
        | (exfalso; omega)
        | (rw [er, if_pos (by omega)])
        | (rw [er, if_neg (by omega)])
    · skip
      refine xp_iconst (n := 1) rfl (by decide) ?_
      refine xp_goto 40 rfl (by decide) ?_
      refine xp_zreturn rfl (by decide) (by decide) (by decide) (by omega) ?_
      first
        | (exfalso; omega)
        | (rw [er, if_pos (by omega)])
        | (rw [er, if_neg (by omega)])
  · skip
    have er : aRoom w A = aDrop w (aFind w A) := if_pos h9
    refine xp_aload_n rfl rfl ?_
    refine xp_iv rfl rfl (Nat.le_of_ble_eq_true rfl) (by decide) (by decide) (by decide) (Nat.le_of_ble_eq_true rfl) rfl (xrcv1 (by decide) (by first | assumption | exact hW.1 | exact hH.1)) (c101 hW hk0) rfl ?_
    refine xp_aload_n rfl rfl ?_
    refine xp_gfa rfl rfl (by decide) (by decide) (by first | assumption | exact hW.1 | exact hH.1) (by first | assumption | exact hW.2.2.1) ?_
    refine xp_iv rfl rfl (Nat.le_of_ble_eq_true rfl) (by decide) (by decide) (by decide) (Nat.le_of_ble_eq_true rfl) rfl (xrcv1 (by decide) (by first | assumption | exact hW.1 | exact hH.1)) (c65 hH hb) rfl ?_
    refine xp_aload_n rfl rfl ?_
    refine xp_gfa rfl rfl (by decide) (by decide) (by first | assumption | exact hW.1 | exact hH.1) (by first | assumption | exact hW.2.2.1) ?_
    refine xp_gfi rfl rfl (by decide) (by decide) (by first | assumption | exact hW.1 | exact hH.1) ?_
    refine xp_bipush (n := 24) rfl (by decide) ?_
    refine xp_icge 39 rfl (by decide) (by omega) (by omega) (fun h32 => ?_) (fun h32 => ?_)
    · skip
      refine xp_iconst (n := 0) rfl (by decide) ?_
      refine xp_zreturn rfl (by decide) (by decide) (by decide) (by omega) ?_
      first
        | (exfalso; omega)
        | (rw [er, if_pos (by omega)])
        | (rw [er, if_neg (by omega)])
    · skip
      refine xp_iconst (n := 1) rfl (by decide) ?_
      refine xp_goto 40 rfl (by decide) ?_
      refine xp_zreturn rfl (by decide) (by decide) (by decide) (by omega) ?_
      first
        | (exfalso; omega)
        | (rw [er, if_pos (by omega)])
        | (rw [er, if_neg (by omega)])
end
section
-- THE ENGINE: its methods as functions of the memory: the error (0: none), the memory
def aCombine (op : Nat) (x y : Int64) : Int64 := if op = 8 then x + y else if op = 9 then x - y else if op = 10 then x * y else if y = 0 then 0 else x / y
def aPop (A : xQ) (f n : Nat) : xQ := xsI A f 3 (A.1 f 3 - n)
def aAnswer (A : xQ) (f b : Nat) : Nat × xQ := aPush (aPop A f 2) f 1 (if b = 0 then 0 else 1)
theorem c26t {z : Nat} {T : Nat → Option xT} {R : Nat → Nat → Option Nat} {A : xQ} {a ka na n i : Nat} (hC : xC0 T R a ka na n) (hi : i < n) (hn : n < 2 ^ 31) (hk : A.1 ka i = 1 ∨ A.1 ka i = 2) : xF 26 [.ref a, .int (nI i)] (xm z T R A) (.inr (some (.int (nI 1))), xm z T R A) := by
  have h := c26 (z := z) (A := A) hC hi hn (by omega)
  rw [if_pos hk] at h
  exact h
theorem c26f {z : Nat} {T : Nat → Option xT} {R : Nat → Nat → Option Nat} {A : xQ} {a ka na n i : Nat} (hC : xC0 T R a ka na n) (hi : i < n) (hn : n < 2 ^ 31) (hk4 : A.1 ka i ≤ 4) (hk : ¬ (A.1 ka i = 1 ∨ A.1 ka i = 2)) : xF 26 [.ref a, .int (nI i)] (xm z T R A) (.inr (some (.int (nI 0))), xm z T R A) := by
  have h := c26 (z := z) (A := A) hC hi hn (by omega)
  rw [if_neg hk] at h
  exact h
theorem aPop3 (A : xQ) (f n : Nat) : (aPop A f n).1 f 3 = A.1 f 3 - n := xsI_eq
theorem c37 {z : Nat} {T : Nat → Option xT} {R : Nat → Nat → Option Nat} {A : xQ} {op : Nat} {x y : Int64} (h1 : 8 ≤ op) (h2 : op ≤ 11) : xF 37 [.int (nI op), .long x, .long y] (xm z T R A) (.inr (some (.long (aCombine op x y))), xm z T R A) := by
  have h3 : op = 8 ∨ op = 9 ∨ op = 10 ∨ op = 11 := by omega
  rcases h3 with rfl | rfl | rfl | rfl
  · skip
    refine xF_eq (xF_p (Nat.le_of_ble_eq_true rfl) ?_)
    refine xp_iload_n rfl rfl ?_
    refine xp_tsw 28 rfl (by omega) (by first | rfl | (rw [if_pos (by omega)]) | (rw [if_neg (by omega)]; rfl)) (by decide) ?_
    refine xp_lload_n rfl rfl ?_
    refine xp_lload_n rfl rfl ?_
    refine xp_ladd rfl ?_
    refine xp_lreturn rfl (by decide) (by decide) (by decide) ?_
    rfl
  · skip
    refine xF_eq (xF_p (Nat.le_of_ble_eq_true rfl) ?_)
    refine xp_iload_n rfl rfl ?_
    refine xp_tsw 32 rfl (by omega) (by first | rfl | (rw [if_pos (by omega)]) | (rw [if_neg (by omega)]; rfl)) (by decide) ?_
    refine xp_lload_n rfl rfl ?_
    refine xp_lload_n rfl rfl ?_
    refine xp_lsub rfl ?_
    refine xp_lreturn rfl (by decide) (by decide) (by decide) ?_
    rfl
  · skip
    refine xF_eq (xF_p (Nat.le_of_ble_eq_true rfl) ?_)
    refine xp_iload_n rfl rfl ?_
    refine xp_tsw 36 rfl (by omega) (by first | rfl | (rw [if_pos (by omega)]) | (rw [if_neg (by omega)]; rfl)) (by decide) ?_
    refine xp_lload_n rfl rfl ?_
    refine xp_lload_n rfl rfl ?_
    refine xp_lmul rfl ?_
    refine xp_lreturn rfl (by decide) (by decide) (by decide) ?_
    rfl
  · by_cases h0 : y = 0
    · have e : aCombine 11 x y = 0 := by simp [aCombine, h0]
      rw [e]
      refine xF_eq (xF_p (Nat.le_of_ble_eq_true rfl) ?_)
      refine xp_iload_n rfl rfl ?_
      refine xp_tsw 40 rfl (by omega) (by first | rfl | (rw [if_pos (by omega)]) | (rw [if_neg (by omega)]; rfl)) (by decide) ?_
      refine xp_lload_n rfl rfl ?_
      refine xp_lconst rfl rfl ?_
      refine xp_lcne 50 rfl rfl (by decide) (fun h42 => ?_) (fun h42 => ?_)
      · exact absurd h0 h42
      · skip
        refine xp_lconst rfl rfl ?_
        refine xp_goto 53 rfl (by decide) ?_
        refine xp_lreturn rfl (by decide) (by decide) (by decide) ?_
        rfl
    · have e : aCombine 11 x y = x / y := by simp [aCombine, h0]
      rw [e]
      refine xF_eq (xF_p (Nat.le_of_ble_eq_true rfl) ?_)
      refine xp_iload_n rfl rfl ?_
      refine xp_tsw 40 rfl (by omega) (by first | rfl | (rw [if_pos (by omega)]) | (rw [if_neg (by omega)]; rfl)) (by decide) ?_
      refine xp_lload_n rfl rfl ?_
      refine xp_lconst rfl rfl ?_
      refine xp_lcne 50 rfl rfl (by decide) (fun h42 => ?_) (fun h42 => ?_)
      · skip
        refine xp_lload_n rfl rfl ?_
        refine xp_lload_n rfl rfl ?_
        refine xp_ldiv rfl h0 ?_
        refine xp_lreturn rfl (by decide) (by decide) (by decide) ?_
        rfl
      · exact absurd h42 h0
theorem c39 {z : Nat} {T : Nat → Option xT} {R : Nat → Nat → Option Nat} {A : xQ} {f b w : Nat} (hL : xLay T R w) (hF : xF0 T R f) (h2 : 2 ≤ A.1 f 3) (h6 : A.1 f 3 ≤ 6) (hb : b = 0 ∨ b = 1) : xF 39 [.ref 11, .ref f, .int (nI b)] (xm z T R A) (.inr (some (.int (nI (aAnswer A f b).1))), xm z T R (aAnswer A f b).2) := by
  obtain ⟨f1, f2, hC⟩ := hF
  have hF : xF0 T R f := ⟨f1, f2, hC⟩
  have hp := aPop3 A f 2
  rcases hb with rfl | rfl
  · skip
    refine xF_eq (xF_p (Nat.le_of_ble_eq_true rfl) ?_)
    refine xp_aload_n rfl rfl ?_
    refine xp_dup rfl rfl ?_
    refine xp_gfi rfl rfl (by decide) (by decide) (by first | assumption | exact hL.t rfl) ?_
    refine xp_iconst (n := 2) rfl (by decide) ?_
    refine xp_isub rfl (by omega) ?_
    refine xp_pfi rfl rfl (by decide) (by decide) (by decide) (by first | assumption | exact hL.t rfl) ?_
    refine xp_aload_n rfl rfl ?_
    refine xp_iconst (n := 1) rfl (by decide) ?_
    refine xp_iload_n rfl rfl ?_
    refine xp_ifeq 20 rfl (by decide) (by omega) (fun h13 => ?_) (fun h13 => ?_)
    · skip
      refine xp_lconst rfl rfl ?_
      refine xp_iv rfl rfl (Nat.le_of_ble_eq_true rfl) (by decide) (by decide) (by decide) (Nat.le_of_ble_eq_true rfl) rfl (xrcv1 (by decide) (by first | assumption | exact hL.t rfl)) (c55a (A := aPop A f 2) hF (by omega)) rfl ?_
      refine xp_ireturn rfl (by decide) (by decide) (by decide) ?_
      rfl
    · exfalso; omega
  · skip
    refine xF_eq (xF_p (Nat.le_of_ble_eq_true rfl) ?_)
    refine xp_aload_n rfl rfl ?_
    refine xp_dup rfl rfl ?_
    refine xp_gfi rfl rfl (by decide) (by decide) (by first | assumption | exact hL.t rfl) ?_
    refine xp_iconst (n := 2) rfl (by decide) ?_
    refine xp_isub rfl (by omega) ?_
    refine xp_pfi rfl rfl (by decide) (by decide) (by decide) (by first | assumption | exact hL.t rfl) ?_
    refine xp_aload_n rfl rfl ?_
    refine xp_iconst (n := 1) rfl (by decide) ?_
    refine xp_iload_n rfl rfl ?_
    refine xp_ifeq 20 rfl (by decide) (by omega) (fun h13 => ?_) (fun h13 => ?_)
    · exfalso; omega
    · skip
      refine xp_lconst rfl rfl ?_
      refine xp_goto 21 rfl (by decide) ?_
      refine xp_iv rfl rfl (Nat.le_of_ble_eq_true rfl) (by decide) (by decide) (by decide) (Nat.le_of_ble_eq_true rfl) rfl (xrcv1 (by decide) (by first | assumption | exact hL.t rfl)) (c55a (A := aPop A f 2) hF (by omega)) rfl ?_
      refine xp_ireturn rfl (by decide) (by decide) (by decide) ?_
      rfl
def aCompute (A : xQ) (f op : Nat) : Nat × xQ := if ¬ ((A.1 (f + 2) (3 + A.1 f 3) = 1 ∨ A.1 (f + 2) (3 + A.1 f 3) = 2) ∧ (A.1 (f + 2) (4 + A.1 f 3) = 1 ∨ A.1 (f + 2) (4 + A.1 f 3) = 2)) then (2, A) else if op = 11 ∧ A.2 (f + 3) (4 + A.1 f 3) = 0 then (1, A) else if A.1 (f + 2) (3 + A.1 f 3) = 2 ∨ A.1 (f + 2) (4 + A.1 f 3) = 2 then aPush (aPop A f 2) f 2 (aCombine op (A.2 (f + 3) (3 + A.1 f 3)) (A.2 (f + 3) (4 + A.1 f 3))) else aPush (aPop A f 2) f 1 (aCombine op (A.2 (f + 3) (3 + A.1 f 3)) (A.2 (f + 3) (4 + A.1 f 3))).toInt32.toInt64
theorem c36 {z : Nat} {T : Nat → Option xT} {R : Nat → Nat → Option Nat} {A : xQ} {f op w : Nat} (hL : xLay T R w) (hF : xF0 T R f) (h2 : 2 ≤ A.1 f 3) (h6 : A.1 f 3 ≤ 6) (hk1 : A.1 (f + 2) (3 + A.1 f 3) ≤ 4) (hk2 : A.1 (f + 2) (4 + A.1 f 3) ≤ 4) (ho : 8 ≤ op) (ho2 : op ≤ 11) : xF 36 [.ref 11, .ref f, .int (nI op)] (xm z T R A) (.inr (some (.int (nI (aCompute A f op).1))), xm z T R (aCompute A f op).2) := by
  have hF0 := hF
  obtain ⟨f1, f2, hC⟩ := hF
  obtain ⟨c1, c2, c3, c4, c5⟩ := id hC
  have hp := aPop3 A f 2
  have e0 : 4 + A.1 f 3 - 1 = 3 + A.1 f 3 := by omega
  by_cases hx : A.1 (f + 2) (3 + A.1 f 3) = 1 ∨ A.1 (f + 2) (3 + A.1 f 3) = 2
  · by_cases hy : A.1 (f + 2) (4 + A.1 f 3) = 1 ∨ A.1 (f + 2) (4 + A.1 f 3) = 2
    · by_cases hz : op = 11 ∧ A.2 (f + 3) (4 + A.1 f 3) = 0
      · have e : aCompute A f op = (1, A) := by unfold aCompute; rw [if_neg (fun z => z ⟨hx, hy⟩), if_pos hz]
        rw [e]
        refine xF_eq (xF_p (Nat.le_of_ble_eq_true rfl) ?_)
        refine xp_aload_n rfl rfl ?_
        refine xp_gfa rfl rfl (by decide) (by decide) (by first | assumption | exact hL.t rfl) (by first | assumption | exact hL.r rfl | exact hL.2.2.2.2.2) ?_
        refine xp_astore_n rfl (by decide) ?_
        refine xp_aload_n rfl rfl ?_
        refine xp_iv rfl rfl (Nat.le_of_ble_eq_true rfl) (by decide) (by decide) (by decide) (Nat.le_of_ble_eq_true rfl) rfl (xrcv1 (by decide) (by first | assumption | exact hL.t rfl)) (c54 hF0) rfl ?_
        refine xp_iconst (n := 1) rfl (by decide) ?_
        refine xp_isub rfl (by omega) ?_
        rw [e0]
        refine xp_istore rfl (by decide) ?_
        refine xp_aload_n rfl rfl ?_
        refine xp_iv rfl rfl (Nat.le_of_ble_eq_true rfl) (by decide) (by decide) (by decide) (Nat.le_of_ble_eq_true rfl) rfl (xrcv1 (by decide) (by first | assumption | exact hL.t rfl)) (c54 hF0) rfl ?_
        refine xp_istore rfl (by decide) ?_
        refine xp_aload_n rfl rfl ?_
        refine xp_iload rfl rfl ?_
        refine xp_iv rfl rfl (Nat.le_of_ble_eq_true rfl) (by decide) (by decide) (by decide) (Nat.le_of_ble_eq_true rfl) rfl (xrcv1 (by decide) (by first | assumption | exact hL.t rfl)) (c26t hC (by omega) (by omega) hx) rfl ?_
        refine xp_ifeq 37 rfl (by decide) (by omega) (fun h25 => ?_) (fun h25 => ?_)
        · exfalso; omega
        · skip
          refine xp_aload_n rfl rfl ?_
          refine xp_iload rfl rfl ?_
          refine xp_iv rfl rfl (Nat.le_of_ble_eq_true rfl) (by decide) (by decide) (by decide) (Nat.le_of_ble_eq_true rfl) rfl (xrcv1 (by decide) (by first | assumption | exact hL.t rfl)) (c26t hC (by omega) (by omega) hy) rfl ?_
          refine xp_ifne 39 rfl (by decide) (by omega) (fun h34 => ?_) (fun h34 => ?_)
          · skip
            refine xp_iload_n rfl rfl ?_
            refine xp_bipush (n := 11) rfl (by decide) ?_
            refine xp_icne 59 rfl (by decide) (by omega) (by omega) (fun h42 => ?_) (fun h42 => ?_)
            · exact absurd hz.1 h42
            · skip
              refine xp_aload_n rfl rfl ?_
              refine xp_gfa rfl rfl (by decide) (by decide) (by first | assumption | exact hL.t rfl) (by first | assumption | exact hL.r rfl | exact hL.2.2.2.2.2) ?_
              refine xp_iload rfl rfl ?_
              refine xp_lald rfl (by first | assumption | exact hL.t rfl) (by omega) (by omega) ?_
              refine xp_lconst rfl rfl ?_
              refine xp_lcne 59 rfl rfl (by decide) (fun h53 => ?_) (fun h53 => ?_)
              · exact absurd hz.2 h53
              · skip
                refine xp_iconst (n := 1) rfl (by decide) ?_
                refine xp_ireturn rfl (by decide) (by decide) (by decide) ?_
                rfl
          · exfalso; omega
      · by_cases hl : A.1 (f + 2) (3 + A.1 f 3) = 2 ∨ A.1 (f + 2) (4 + A.1 f 3) = 2
        · have e : aCompute A f op = aPush (aPop A f 2) f 2 (aCombine op (A.2 (f + 3) (3 + A.1 f 3)) (A.2 (f + 3) (4 + A.1 f 3))) := by unfold aCompute; rw [if_neg (fun z => z ⟨hx, hy⟩), if_neg hz, if_pos hl]
          rw [e]
          refine xF_eq (xF_p (Nat.le_of_ble_eq_true rfl) ?_)
          refine xp_aload_n rfl rfl ?_
          refine xp_gfa rfl rfl (by decide) (by decide) (by first | assumption | exact hL.t rfl) (by first | assumption | exact hL.r rfl | exact hL.2.2.2.2.2) ?_
          refine xp_astore_n rfl (by decide) ?_
          refine xp_aload_n rfl rfl ?_
          refine xp_iv rfl rfl (Nat.le_of_ble_eq_true rfl) (by decide) (by decide) (by decide) (Nat.le_of_ble_eq_true rfl) rfl (xrcv1 (by decide) (by first | assumption | exact hL.t rfl)) (c54 hF0) rfl ?_
          refine xp_iconst (n := 1) rfl (by decide) ?_
          refine xp_isub rfl (by omega) ?_
          rw [e0]
          refine xp_istore rfl (by decide) ?_
          refine xp_aload_n rfl rfl ?_
          refine xp_iv rfl rfl (Nat.le_of_ble_eq_true rfl) (by decide) (by decide) (by decide) (Nat.le_of_ble_eq_true rfl) rfl (xrcv1 (by decide) (by first | assumption | exact hL.t rfl)) (c54 hF0) rfl ?_
          refine xp_istore rfl (by decide) ?_
          refine xp_aload_n rfl rfl ?_
          refine xp_iload rfl rfl ?_
          refine xp_iv rfl rfl (Nat.le_of_ble_eq_true rfl) (by decide) (by decide) (by decide) (Nat.le_of_ble_eq_true rfl) rfl (xrcv1 (by decide) (by first | assumption | exact hL.t rfl)) (c26t hC (by omega) (by omega) hx) rfl ?_
          refine xp_ifeq 37 rfl (by decide) (by omega) (fun h25 => ?_) (fun h25 => ?_)
          · exfalso; omega
          · skip
            refine xp_aload_n rfl rfl ?_
            refine xp_iload rfl rfl ?_
            refine xp_iv rfl rfl (Nat.le_of_ble_eq_true rfl) (by decide) (by decide) (by decide) (Nat.le_of_ble_eq_true rfl) rfl (xrcv1 (by decide) (by first | assumption | exact hL.t rfl)) (c26t hC (by omega) (by omega) hy) rfl ?_
            refine xp_ifne 39 rfl (by decide) (by omega) (fun h34 => ?_) (fun h34 => ?_)
            · skip
              refine xp_iload_n rfl rfl ?_
              refine xp_bipush (n := 11) rfl (by decide) ?_
              refine xp_icne 59 rfl (by decide) (by omega) (by omega) (fun h42 => ?_) (fun h42 => ?_)
              · skip
                refine xp_iload_n rfl rfl ?_
                refine xp_aload_n rfl rfl ?_
                refine xp_gfa rfl rfl (by decide) (by decide) (by first | assumption | exact hL.t rfl) (by first | assumption | exact hL.r rfl | exact hL.2.2.2.2.2) ?_
                refine xp_iload rfl rfl ?_
                refine xp_lald rfl (by first | assumption | exact hL.t rfl) (by omega) (by omega) ?_
                refine xp_aload_n rfl rfl ?_
                refine xp_gfa rfl rfl (by decide) (by decide) (by first | assumption | exact hL.t rfl) (by first | assumption | exact hL.r rfl | exact hL.2.2.2.2.2) ?_
                refine xp_iload rfl rfl ?_
                refine xp_lald rfl (by first | assumption | exact hL.t rfl) (by omega) (by omega) ?_
                refine xp_is rfl rfl rfl (Nat.le_of_ble_eq_true rfl) (by decide) (by decide) (by decide) (Nat.le_of_ble_eq_true rfl) rfl (xrcv0 (by decide) _ _) (c37 ho ho2) rfl ?_
                refine xp_lstore rfl (by decide) ?_
                refine xp_aload_n rfl rfl ?_
                refine xp_gfa rfl rfl (by decide) (by decide) (by first | assumption | exact hL.t rfl) (by first | assumption | exact hL.r rfl | exact hL.2.2.2.2.2) ?_
                refine xp_iload rfl rfl ?_
                refine xp_iald rfl (by first | assumption | exact hL.t rfl) (by omega) (by omega) ?_
                refine xp_iconst (n := 2) rfl (by decide) ?_
                refine xp_iceq 101 rfl (by decide) (by omega) (by omega) (fun h87 => ?_) (fun h87 => ?_)
                · skip
                  refine xp_iconst (n := 1) rfl (by decide) ?_
                  refine xp_goto 106 rfl (by decide) ?_
                  refine xp_istore rfl (by decide) ?_
                  refine xp_aload_n rfl rfl ?_
                  refine xp_dup rfl rfl ?_
                  refine xp_gfi rfl rfl (by decide) (by decide) (by first | assumption | exact hL.t rfl) ?_
                  refine xp_iconst (n := 2) rfl (by decide) ?_
                  refine xp_isub rfl (by omega) ?_
                  refine xp_pfi rfl rfl (by decide) (by decide) (by decide) (by first | assumption | exact hL.t rfl) ?_
                  refine xp_iload rfl rfl ?_
                  refine xp_ifeq 133 rfl (by decide) (by omega) (fun h120 => ?_) (fun h120 => ?_)
                  · exact absurd h120 (by decide)
                  · skip
                    refine xp_aload_n rfl rfl ?_
                    refine xp_iconst (n := 2) rfl (by decide) ?_
                    refine xp_lload rfl rfl ?_
                    refine xp_iv rfl rfl (Nat.le_of_ble_eq_true rfl) (by decide) (by decide) (by decide) (Nat.le_of_ble_eq_true rfl) rfl (xrcv1 (by decide) (by first | assumption | exact hL.t rfl)) (c55a (A := aPop A f 2) hF0 (by omega)) rfl ?_
                    refine xp_goto 142 rfl (by decide) ?_
                    refine xp_ireturn rfl (by decide) (by decide) (by decide) ?_
                    rfl
                · skip
                  refine xp_aload_n rfl rfl ?_
                  refine xp_gfa rfl rfl (by decide) (by decide) (by first | assumption | exact hL.t rfl) (by first | assumption | exact hL.r rfl | exact hL.2.2.2.2.2) ?_
                  refine xp_iload rfl rfl ?_
                  refine xp_iald rfl (by first | assumption | exact hL.t rfl) (by omega) (by omega) ?_
                  refine xp_iconst (n := 2) rfl (by decide) ?_
                  refine xp_icne 105 rfl (by decide) (by omega) (by omega) (fun h98 => ?_) (fun h98 => ?_)
                  · exact absurd hl (by omega)
                  · skip
                    refine xp_iconst (n := 1) rfl (by decide) ?_
                    refine xp_goto 106 rfl (by decide) ?_
                    refine xp_istore rfl (by decide) ?_
                    refine xp_aload_n rfl rfl ?_
                    refine xp_dup rfl rfl ?_
                    refine xp_gfi rfl rfl (by decide) (by decide) (by first | assumption | exact hL.t rfl) ?_
                    refine xp_iconst (n := 2) rfl (by decide) ?_
                    refine xp_isub rfl (by omega) ?_
                    refine xp_pfi rfl rfl (by decide) (by decide) (by decide) (by first | assumption | exact hL.t rfl) ?_
                    refine xp_iload rfl rfl ?_
                    refine xp_ifeq 133 rfl (by decide) (by omega) (fun h120 => ?_) (fun h120 => ?_)
                    · exact absurd h120 (by decide)
                    · skip
                      refine xp_aload_n rfl rfl ?_
                      refine xp_iconst (n := 2) rfl (by decide) ?_
                      refine xp_lload rfl rfl ?_
                      refine xp_iv rfl rfl (Nat.le_of_ble_eq_true rfl) (by decide) (by decide) (by decide) (Nat.le_of_ble_eq_true rfl) rfl (xrcv1 (by decide) (by first | assumption | exact hL.t rfl)) (c55a (A := aPop A f 2) hF0 (by omega)) rfl ?_
                      refine xp_goto 142 rfl (by decide) ?_
                      refine xp_ireturn rfl (by decide) (by decide) (by decide) ?_
                      rfl
              · skip
                refine xp_aload_n rfl rfl ?_
                refine xp_gfa rfl rfl (by decide) (by decide) (by first | assumption | exact hL.t rfl) (by first | assumption | exact hL.r rfl | exact hL.2.2.2.2.2) ?_
                refine xp_iload rfl rfl ?_
                refine xp_lald rfl (by first | assumption | exact hL.t rfl) (by omega) (by omega) ?_
                refine xp_lconst rfl rfl ?_
                refine xp_lcne 59 rfl rfl (by decide) (fun h53 => ?_) (fun h53 => ?_)
                · skip
                  refine xp_iload_n rfl rfl ?_
                  refine xp_aload_n rfl rfl ?_
                  refine xp_gfa rfl rfl (by decide) (by decide) (by first | assumption | exact hL.t rfl) (by first | assumption | exact hL.r rfl | exact hL.2.2.2.2.2) ?_
                  refine xp_iload rfl rfl ?_
                  refine xp_lald rfl (by first | assumption | exact hL.t rfl) (by omega) (by omega) ?_
                  refine xp_aload_n rfl rfl ?_
                  refine xp_gfa rfl rfl (by decide) (by decide) (by first | assumption | exact hL.t rfl) (by first | assumption | exact hL.r rfl | exact hL.2.2.2.2.2) ?_
                  refine xp_iload rfl rfl ?_
                  refine xp_lald rfl (by first | assumption | exact hL.t rfl) (by omega) (by omega) ?_
                  refine xp_is rfl rfl rfl (Nat.le_of_ble_eq_true rfl) (by decide) (by decide) (by decide) (Nat.le_of_ble_eq_true rfl) rfl (xrcv0 (by decide) _ _) (c37 ho ho2) rfl ?_
                  refine xp_lstore rfl (by decide) ?_
                  refine xp_aload_n rfl rfl ?_
                  refine xp_gfa rfl rfl (by decide) (by decide) (by first | assumption | exact hL.t rfl) (by first | assumption | exact hL.r rfl | exact hL.2.2.2.2.2) ?_
                  refine xp_iload rfl rfl ?_
                  refine xp_iald rfl (by first | assumption | exact hL.t rfl) (by omega) (by omega) ?_
                  refine xp_iconst (n := 2) rfl (by decide) ?_
                  refine xp_iceq 101 rfl (by decide) (by omega) (by omega) (fun h87 => ?_) (fun h87 => ?_)
                  · skip
                    refine xp_iconst (n := 1) rfl (by decide) ?_
                    refine xp_goto 106 rfl (by decide) ?_
                    refine xp_istore rfl (by decide) ?_
                    refine xp_aload_n rfl rfl ?_
                    refine xp_dup rfl rfl ?_
                    refine xp_gfi rfl rfl (by decide) (by decide) (by first | assumption | exact hL.t rfl) ?_
                    refine xp_iconst (n := 2) rfl (by decide) ?_
                    refine xp_isub rfl (by omega) ?_
                    refine xp_pfi rfl rfl (by decide) (by decide) (by decide) (by first | assumption | exact hL.t rfl) ?_
                    refine xp_iload rfl rfl ?_
                    refine xp_ifeq 133 rfl (by decide) (by omega) (fun h120 => ?_) (fun h120 => ?_)
                    · exact absurd h120 (by decide)
                    · skip
                      refine xp_aload_n rfl rfl ?_
                      refine xp_iconst (n := 2) rfl (by decide) ?_
                      refine xp_lload rfl rfl ?_
                      refine xp_iv rfl rfl (Nat.le_of_ble_eq_true rfl) (by decide) (by decide) (by decide) (Nat.le_of_ble_eq_true rfl) rfl (xrcv1 (by decide) (by first | assumption | exact hL.t rfl)) (c55a (A := aPop A f 2) hF0 (by omega)) rfl ?_
                      refine xp_goto 142 rfl (by decide) ?_
                      refine xp_ireturn rfl (by decide) (by decide) (by decide) ?_
                      rfl
                  · skip
                    refine xp_aload_n rfl rfl ?_
                    refine xp_gfa rfl rfl (by decide) (by decide) (by first | assumption | exact hL.t rfl) (by first | assumption | exact hL.r rfl | exact hL.2.2.2.2.2) ?_
                    refine xp_iload rfl rfl ?_
                    refine xp_iald rfl (by first | assumption | exact hL.t rfl) (by omega) (by omega) ?_
                    refine xp_iconst (n := 2) rfl (by decide) ?_
                    refine xp_icne 105 rfl (by decide) (by omega) (by omega) (fun h98 => ?_) (fun h98 => ?_)
                    · exact absurd hl (by omega)
                    · skip
                      refine xp_iconst (n := 1) rfl (by decide) ?_
                      refine xp_goto 106 rfl (by decide) ?_
                      refine xp_istore rfl (by decide) ?_
                      refine xp_aload_n rfl rfl ?_
                      refine xp_dup rfl rfl ?_
                      refine xp_gfi rfl rfl (by decide) (by decide) (by first | assumption | exact hL.t rfl) ?_
                      refine xp_iconst (n := 2) rfl (by decide) ?_
                      refine xp_isub rfl (by omega) ?_
                      refine xp_pfi rfl rfl (by decide) (by decide) (by decide) (by first | assumption | exact hL.t rfl) ?_
                      refine xp_iload rfl rfl ?_
                      refine xp_ifeq 133 rfl (by decide) (by omega) (fun h120 => ?_) (fun h120 => ?_)
                      · exact absurd h120 (by decide)
                      · skip
                        refine xp_aload_n rfl rfl ?_
                        refine xp_iconst (n := 2) rfl (by decide) ?_
                        refine xp_lload rfl rfl ?_
                        refine xp_iv rfl rfl (Nat.le_of_ble_eq_true rfl) (by decide) (by decide) (by decide) (Nat.le_of_ble_eq_true rfl) rfl (xrcv1 (by decide) (by first | assumption | exact hL.t rfl)) (c55a (A := aPop A f 2) hF0 (by omega)) rfl ?_
                        refine xp_goto 142 rfl (by decide) ?_
                        refine xp_ireturn rfl (by decide) (by decide) (by decide) ?_
                        rfl
                · exact absurd ⟨h42, h53⟩ hz
            · exfalso; omega
        · have e : aCompute A f op = aPush (aPop A f 2) f 1 (aCombine op (A.2 (f + 3) (3 + A.1 f 3)) (A.2 (f + 3) (4 + A.1 f 3))).toInt32.toInt64 := by unfold aCompute; rw [if_neg (fun z => z ⟨hx, hy⟩), if_neg hz, if_neg hl]
          rw [e]
          refine xF_eq (xF_p (Nat.le_of_ble_eq_true rfl) ?_)
          refine xp_aload_n rfl rfl ?_
          refine xp_gfa rfl rfl (by decide) (by decide) (by first | assumption | exact hL.t rfl) (by first | assumption | exact hL.r rfl | exact hL.2.2.2.2.2) ?_
          refine xp_astore_n rfl (by decide) ?_
          refine xp_aload_n rfl rfl ?_
          refine xp_iv rfl rfl (Nat.le_of_ble_eq_true rfl) (by decide) (by decide) (by decide) (Nat.le_of_ble_eq_true rfl) rfl (xrcv1 (by decide) (by first | assumption | exact hL.t rfl)) (c54 hF0) rfl ?_
          refine xp_iconst (n := 1) rfl (by decide) ?_
          refine xp_isub rfl (by omega) ?_
          rw [e0]
          refine xp_istore rfl (by decide) ?_
          refine xp_aload_n rfl rfl ?_
          refine xp_iv rfl rfl (Nat.le_of_ble_eq_true rfl) (by decide) (by decide) (by decide) (Nat.le_of_ble_eq_true rfl) rfl (xrcv1 (by decide) (by first | assumption | exact hL.t rfl)) (c54 hF0) rfl ?_
          refine xp_istore rfl (by decide) ?_
          refine xp_aload_n rfl rfl ?_
          refine xp_iload rfl rfl ?_
          refine xp_iv rfl rfl (Nat.le_of_ble_eq_true rfl) (by decide) (by decide) (by decide) (Nat.le_of_ble_eq_true rfl) rfl (xrcv1 (by decide) (by first | assumption | exact hL.t rfl)) (c26t hC (by omega) (by omega) hx) rfl ?_
          refine xp_ifeq 37 rfl (by decide) (by omega) (fun h25 => ?_) (fun h25 => ?_)
          · exfalso; omega
          · skip
            refine xp_aload_n rfl rfl ?_
            refine xp_iload rfl rfl ?_
            refine xp_iv rfl rfl (Nat.le_of_ble_eq_true rfl) (by decide) (by decide) (by decide) (Nat.le_of_ble_eq_true rfl) rfl (xrcv1 (by decide) (by first | assumption | exact hL.t rfl)) (c26t hC (by omega) (by omega) hy) rfl ?_
            refine xp_ifne 39 rfl (by decide) (by omega) (fun h34 => ?_) (fun h34 => ?_)
            · skip
              refine xp_iload_n rfl rfl ?_
              refine xp_bipush (n := 11) rfl (by decide) ?_
              refine xp_icne 59 rfl (by decide) (by omega) (by omega) (fun h42 => ?_) (fun h42 => ?_)
              · skip
                refine xp_iload_n rfl rfl ?_
                refine xp_aload_n rfl rfl ?_
                refine xp_gfa rfl rfl (by decide) (by decide) (by first | assumption | exact hL.t rfl) (by first | assumption | exact hL.r rfl | exact hL.2.2.2.2.2) ?_
                refine xp_iload rfl rfl ?_
                refine xp_lald rfl (by first | assumption | exact hL.t rfl) (by omega) (by omega) ?_
                refine xp_aload_n rfl rfl ?_
                refine xp_gfa rfl rfl (by decide) (by decide) (by first | assumption | exact hL.t rfl) (by first | assumption | exact hL.r rfl | exact hL.2.2.2.2.2) ?_
                refine xp_iload rfl rfl ?_
                refine xp_lald rfl (by first | assumption | exact hL.t rfl) (by omega) (by omega) ?_
                refine xp_is rfl rfl rfl (Nat.le_of_ble_eq_true rfl) (by decide) (by decide) (by decide) (Nat.le_of_ble_eq_true rfl) rfl (xrcv0 (by decide) _ _) (c37 ho ho2) rfl ?_
                refine xp_lstore rfl (by decide) ?_
                refine xp_aload_n rfl rfl ?_
                refine xp_gfa rfl rfl (by decide) (by decide) (by first | assumption | exact hL.t rfl) (by first | assumption | exact hL.r rfl | exact hL.2.2.2.2.2) ?_
                refine xp_iload rfl rfl ?_
                refine xp_iald rfl (by first | assumption | exact hL.t rfl) (by omega) (by omega) ?_
                refine xp_iconst (n := 2) rfl (by decide) ?_
                refine xp_iceq 101 rfl (by decide) (by omega) (by omega) (fun h87 => ?_) (fun h87 => ?_)
                · exact absurd (Or.inl h87) hl
                · skip
                  refine xp_aload_n rfl rfl ?_
                  refine xp_gfa rfl rfl (by decide) (by decide) (by first | assumption | exact hL.t rfl) (by first | assumption | exact hL.r rfl | exact hL.2.2.2.2.2) ?_
                  refine xp_iload rfl rfl ?_
                  refine xp_iald rfl (by first | assumption | exact hL.t rfl) (by omega) (by omega) ?_
                  refine xp_iconst (n := 2) rfl (by decide) ?_
                  refine xp_icne 105 rfl (by decide) (by omega) (by omega) (fun h98 => ?_) (fun h98 => ?_)
                  · skip
                    refine xp_iconst (n := 0) rfl (by decide) ?_
                    refine xp_istore rfl (by decide) ?_
                    refine xp_aload_n rfl rfl ?_
                    refine xp_dup rfl rfl ?_
                    refine xp_gfi rfl rfl (by decide) (by decide) (by first | assumption | exact hL.t rfl) ?_
                    refine xp_iconst (n := 2) rfl (by decide) ?_
                    refine xp_isub rfl (by omega) ?_
                    refine xp_pfi rfl rfl (by decide) (by decide) (by decide) (by first | assumption | exact hL.t rfl) ?_
                    refine xp_iload rfl rfl ?_
                    refine xp_ifeq 133 rfl (by decide) (by omega) (fun h120 => ?_) (fun h120 => ?_)
                    · skip
                      refine xp_aload_n rfl rfl ?_
                      refine xp_iconst (n := 1) rfl (by decide) ?_
                      refine xp_lload rfl rfl ?_
                      refine xp_l2i rfl ?_
                      refine xp_i2l rfl ?_
                      refine xp_iv rfl rfl (Nat.le_of_ble_eq_true rfl) (by decide) (by decide) (by decide) (Nat.le_of_ble_eq_true rfl) rfl (xrcv1 (by decide) (by first | assumption | exact hL.t rfl)) (c55a (A := aPop A f 2) hF0 (by omega)) rfl ?_
                      refine xp_ireturn rfl (by decide) (by decide) (by decide) ?_
                      rfl
                    · exact absurd rfl h120
                  · exact absurd (Or.inr h98) hl
              · skip
                refine xp_aload_n rfl rfl ?_
                refine xp_gfa rfl rfl (by decide) (by decide) (by first | assumption | exact hL.t rfl) (by first | assumption | exact hL.r rfl | exact hL.2.2.2.2.2) ?_
                refine xp_iload rfl rfl ?_
                refine xp_lald rfl (by first | assumption | exact hL.t rfl) (by omega) (by omega) ?_
                refine xp_lconst rfl rfl ?_
                refine xp_lcne 59 rfl rfl (by decide) (fun h53 => ?_) (fun h53 => ?_)
                · skip
                  refine xp_iload_n rfl rfl ?_
                  refine xp_aload_n rfl rfl ?_
                  refine xp_gfa rfl rfl (by decide) (by decide) (by first | assumption | exact hL.t rfl) (by first | assumption | exact hL.r rfl | exact hL.2.2.2.2.2) ?_
                  refine xp_iload rfl rfl ?_
                  refine xp_lald rfl (by first | assumption | exact hL.t rfl) (by omega) (by omega) ?_
                  refine xp_aload_n rfl rfl ?_
                  refine xp_gfa rfl rfl (by decide) (by decide) (by first | assumption | exact hL.t rfl) (by first | assumption | exact hL.r rfl | exact hL.2.2.2.2.2) ?_
                  refine xp_iload rfl rfl ?_
                  refine xp_lald rfl (by first | assumption | exact hL.t rfl) (by omega) (by omega) ?_
                  refine xp_is rfl rfl rfl (Nat.le_of_ble_eq_true rfl) (by decide) (by decide) (by decide) (Nat.le_of_ble_eq_true rfl) rfl (xrcv0 (by decide) _ _) (c37 ho ho2) rfl ?_
                  refine xp_lstore rfl (by decide) ?_
                  refine xp_aload_n rfl rfl ?_
                  refine xp_gfa rfl rfl (by decide) (by decide) (by first | assumption | exact hL.t rfl) (by first | assumption | exact hL.r rfl | exact hL.2.2.2.2.2) ?_
                  refine xp_iload rfl rfl ?_
                  refine xp_iald rfl (by first | assumption | exact hL.t rfl) (by omega) (by omega) ?_
                  refine xp_iconst (n := 2) rfl (by decide) ?_
                  refine xp_iceq 101 rfl (by decide) (by omega) (by omega) (fun h87 => ?_) (fun h87 => ?_)
                  · exact absurd (Or.inl h87) hl
                  · skip
                    refine xp_aload_n rfl rfl ?_
                    refine xp_gfa rfl rfl (by decide) (by decide) (by first | assumption | exact hL.t rfl) (by first | assumption | exact hL.r rfl | exact hL.2.2.2.2.2) ?_
                    refine xp_iload rfl rfl ?_
                    refine xp_iald rfl (by first | assumption | exact hL.t rfl) (by omega) (by omega) ?_
                    refine xp_iconst (n := 2) rfl (by decide) ?_
                    refine xp_icne 105 rfl (by decide) (by omega) (by omega) (fun h98 => ?_) (fun h98 => ?_)
                    · skip
                      refine xp_iconst (n := 0) rfl (by decide) ?_
                      refine xp_istore rfl (by decide) ?_
                      refine xp_aload_n rfl rfl ?_
                      refine xp_dup rfl rfl ?_
                      refine xp_gfi rfl rfl (by decide) (by decide) (by first | assumption | exact hL.t rfl) ?_
                      refine xp_iconst (n := 2) rfl (by decide) ?_
                      refine xp_isub rfl (by omega) ?_
                      refine xp_pfi rfl rfl (by decide) (by decide) (by decide) (by first | assumption | exact hL.t rfl) ?_
                      refine xp_iload rfl rfl ?_
                      refine xp_ifeq 133 rfl (by decide) (by omega) (fun h120 => ?_) (fun h120 => ?_)
                      · skip
                        refine xp_aload_n rfl rfl ?_
                        refine xp_iconst (n := 1) rfl (by decide) ?_
                        refine xp_lload rfl rfl ?_
                        refine xp_l2i rfl ?_
                        refine xp_i2l rfl ?_
                        refine xp_iv rfl rfl (Nat.le_of_ble_eq_true rfl) (by decide) (by decide) (by decide) (Nat.le_of_ble_eq_true rfl) rfl (xrcv1 (by decide) (by first | assumption | exact hL.t rfl)) (c55a (A := aPop A f 2) hF0 (by omega)) rfl ?_
                        refine xp_ireturn rfl (by decide) (by decide) (by decide) ?_
                        rfl
                      · exact absurd rfl h120
                    · exact absurd (Or.inr h98) hl
                · exact absurd ⟨h42, h53⟩ hz
            · exfalso; omega
    · have e : aCompute A f op = (2, A) := by unfold aCompute; rw [if_pos (fun z => hy z.2)]
      rw [e]
      refine xF_eq (xF_p (Nat.le_of_ble_eq_true rfl) ?_)
      refine xp_aload_n rfl rfl ?_
      refine xp_gfa rfl rfl (by decide) (by decide) (by first | assumption | exact hL.t rfl) (by first | assumption | exact hL.r rfl | exact hL.2.2.2.2.2) ?_
      refine xp_astore_n rfl (by decide) ?_
      refine xp_aload_n rfl rfl ?_
      refine xp_iv rfl rfl (Nat.le_of_ble_eq_true rfl) (by decide) (by decide) (by decide) (Nat.le_of_ble_eq_true rfl) rfl (xrcv1 (by decide) (by first | assumption | exact hL.t rfl)) (c54 hF0) rfl ?_
      refine xp_iconst (n := 1) rfl (by decide) ?_
      refine xp_isub rfl (by omega) ?_
      rw [e0]
      refine xp_istore rfl (by decide) ?_
      refine xp_aload_n rfl rfl ?_
      refine xp_iv rfl rfl (Nat.le_of_ble_eq_true rfl) (by decide) (by decide) (by decide) (Nat.le_of_ble_eq_true rfl) rfl (xrcv1 (by decide) (by first | assumption | exact hL.t rfl)) (c54 hF0) rfl ?_
      refine xp_istore rfl (by decide) ?_
      refine xp_aload_n rfl rfl ?_
      refine xp_iload rfl rfl ?_
      refine xp_iv rfl rfl (Nat.le_of_ble_eq_true rfl) (by decide) (by decide) (by decide) (Nat.le_of_ble_eq_true rfl) rfl (xrcv1 (by decide) (by first | assumption | exact hL.t rfl)) (c26t hC (by omega) (by omega) hx) rfl ?_
      refine xp_ifeq 37 rfl (by decide) (by omega) (fun h25 => ?_) (fun h25 => ?_)
      · exfalso; omega
      · skip
        refine xp_aload_n rfl rfl ?_
        refine xp_iload rfl rfl ?_
        refine xp_iv rfl rfl (Nat.le_of_ble_eq_true rfl) (by decide) (by decide) (by decide) (Nat.le_of_ble_eq_true rfl) rfl (xrcv1 (by decide) (by first | assumption | exact hL.t rfl)) (c26f hC (by omega) (by omega) hk2 hy) rfl ?_
        refine xp_ifne 39 rfl (by decide) (by omega) (fun h34 => ?_) (fun h34 => ?_)
        · exfalso; omega
        · skip
          refine xp_iconst (n := 2) rfl (by decide) ?_
          refine xp_ireturn rfl (by decide) (by decide) (by decide) ?_
          rfl
  · have e : aCompute A f op = (2, A) := by unfold aCompute; rw [if_pos (fun z => hx z.1)]
    rw [e]
    refine xF_eq (xF_p (Nat.le_of_ble_eq_true rfl) ?_)
    refine xp_aload_n rfl rfl ?_
    refine xp_gfa rfl rfl (by decide) (by decide) (by first | assumption | exact hL.t rfl) (by first | assumption | exact hL.r rfl | exact hL.2.2.2.2.2) ?_
    refine xp_astore_n rfl (by decide) ?_
    refine xp_aload_n rfl rfl ?_
    refine xp_iv rfl rfl (Nat.le_of_ble_eq_true rfl) (by decide) (by decide) (by decide) (Nat.le_of_ble_eq_true rfl) rfl (xrcv1 (by decide) (by first | assumption | exact hL.t rfl)) (c54 hF0) rfl ?_
    refine xp_iconst (n := 1) rfl (by decide) ?_
    refine xp_isub rfl (by omega) ?_
    rw [e0]
    refine xp_istore rfl (by decide) ?_
    refine xp_aload_n rfl rfl ?_
    refine xp_iv rfl rfl (Nat.le_of_ble_eq_true rfl) (by decide) (by decide) (by decide) (Nat.le_of_ble_eq_true rfl) rfl (xrcv1 (by decide) (by first | assumption | exact hL.t rfl)) (c54 hF0) rfl ?_
    refine xp_istore rfl (by decide) ?_
    refine xp_aload_n rfl rfl ?_
    refine xp_iload rfl rfl ?_
    refine xp_iv rfl rfl (Nat.le_of_ble_eq_true rfl) (by decide) (by decide) (by decide) (Nat.le_of_ble_eq_true rfl) rfl (xrcv1 (by decide) (by first | assumption | exact hL.t rfl)) (c26f hC (by omega) (by omega) hk1 hx) rfl ?_
    refine xp_ifeq 37 rfl (by decide) (by omega) (fun h25 => ?_) (fun h25 => ?_)
    · skip
      refine xp_iconst (n := 2) rfl (by decide) ?_
      refine xp_ireturn rfl (by decide) (by decide) (by decide) ?_
      rfl
    · exfalso; omega
def aCompare (A : xQ) (f : Nat) : Nat × xQ := if ¬ ((A.1 (f + 2) (3 + A.1 f 3) = 1 ∨ A.1 (f + 2) (3 + A.1 f 3) = 2) ∧ (A.1 (f + 2) (4 + A.1 f 3) = 1 ∨ A.1 (f + 2) (4 + A.1 f 3) = 2)) then (2, A) else aAnswer A f (if A.2 (f + 3) (3 + A.1 f 3) < A.2 (f + 3) (4 + A.1 f 3) then 1 else 0)
theorem c38 {z : Nat} {T : Nat → Option xT} {R : Nat → Nat → Option Nat} {A : xQ} {f w : Nat} (hL : xLay T R w) (hF : xF0 T R f) (h2 : 2 ≤ A.1 f 3) (h6 : A.1 f 3 ≤ 6) (hk1 : A.1 (f + 2) (3 + A.1 f 3) ≤ 4) (hk2 : A.1 (f + 2) (4 + A.1 f 3) ≤ 4) : xF 38 [.ref 11, .ref f] (xm z T R A) (.inr (some (.int (nI (aCompare A f).1))), xm z T R (aCompare A f).2) := by
  have hF0 := hF
  obtain ⟨f1, f2, hC⟩ := hF
  obtain ⟨c1, c2, c3, c4, c5⟩ := id hC
  have e0 : 4 + A.1 f 3 - 1 = 3 + A.1 f 3 := by omega
  by_cases hx : A.1 (f + 2) (3 + A.1 f 3) = 1 ∨ A.1 (f + 2) (3 + A.1 f 3) = 2
  · by_cases hy : A.1 (f + 2) (4 + A.1 f 3) = 1 ∨ A.1 (f + 2) (4 + A.1 f 3) = 2
    · by_cases hl : A.2 (f + 3) (3 + A.1 f 3) < A.2 (f + 3) (4 + A.1 f 3)
      · have e : aCompare A f = aAnswer A f 1 := by unfold aCompare; rw [if_neg (fun z => z ⟨hx, hy⟩), if_pos hl]
        rw [e]
        refine xF_eq (xF_p (Nat.le_of_ble_eq_true rfl) ?_)
        refine xp_aload_n rfl rfl ?_
        refine xp_gfa rfl rfl (by decide) (by decide) (by first | assumption | exact hL.t rfl) (by first | assumption | exact hL.r rfl | exact hL.2.2.2.2.2) ?_
        refine xp_astore_n rfl (by decide) ?_
        refine xp_aload_n rfl rfl ?_
        refine xp_iv rfl rfl (Nat.le_of_ble_eq_true rfl) (by decide) (by decide) (by decide) (Nat.le_of_ble_eq_true rfl) rfl (xrcv1 (by decide) (by first | assumption | exact hL.t rfl)) (c54 hF0) rfl ?_
        refine xp_iconst (n := 1) rfl (by decide) ?_
        refine xp_isub rfl (by omega) ?_
        rw [e0]
        refine xp_istore_n rfl (by decide) ?_
        refine xp_aload_n rfl rfl ?_
        refine xp_iv rfl rfl (Nat.le_of_ble_eq_true rfl) (by decide) (by decide) (by decide) (Nat.le_of_ble_eq_true rfl) rfl (xrcv1 (by decide) (by first | assumption | exact hL.t rfl)) (c54 hF0) rfl ?_
        refine xp_istore rfl (by decide) ?_
        refine xp_aload_n rfl rfl ?_
        refine xp_iload_n rfl rfl ?_
        refine xp_iv rfl rfl (Nat.le_of_ble_eq_true rfl) (by decide) (by decide) (by decide) (Nat.le_of_ble_eq_true rfl) rfl (xrcv1 (by decide) (by first | assumption | exact hL.t rfl)) (c26t hC (by omega) (by omega) hx) rfl ?_
        refine xp_ifeq 35 rfl (by decide) (by omega) (fun h23 => ?_) (fun h23 => ?_)
        · exfalso; omega
        · skip
          refine xp_aload_n rfl rfl ?_
          refine xp_iload rfl rfl ?_
          refine xp_iv rfl rfl (Nat.le_of_ble_eq_true rfl) (by decide) (by decide) (by decide) (Nat.le_of_ble_eq_true rfl) rfl (xrcv1 (by decide) (by first | assumption | exact hL.t rfl)) (c26t hC (by omega) (by omega) hy) rfl ?_
          refine xp_ifne 37 rfl (by decide) (by omega) (fun h32 => ?_) (fun h32 => ?_)
          · skip
            refine xp_aload_n rfl rfl ?_
            refine xp_aload_n rfl rfl ?_
            refine xp_aload_n rfl rfl ?_
            refine xp_gfa rfl rfl (by decide) (by decide) (by first | assumption | exact hL.t rfl) (by first | assumption | exact hL.r rfl | exact hL.2.2.2.2.2) ?_
            refine xp_iload_n rfl rfl ?_
            refine xp_lald rfl (by first | assumption | exact hL.t rfl) (by omega) (by omega) ?_
            refine xp_aload_n rfl rfl ?_
            refine xp_gfa rfl rfl (by decide) (by decide) (by first | assumption | exact hL.t rfl) (by first | assumption | exact hL.r rfl | exact hL.2.2.2.2.2) ?_
            refine xp_iload rfl rfl ?_
            refine xp_lald rfl (by first | assumption | exact hL.t rfl) (by omega) (by omega) ?_
            refine xp_lcge 60 rfl rfl (by decide) (fun h52 => ?_) (fun h52 => ?_)
            · exact absurd hl h52
            · skip
              refine xp_iconst (n := 1) rfl (by decide) ?_
              refine xp_goto 61 rfl (by decide) ?_
              refine xp_iv rfl rfl (Nat.le_of_ble_eq_true rfl) (by decide) (by decide) (by decide) (Nat.le_of_ble_eq_true rfl) rfl (xrcv1 (by decide) (by first | assumption | exact hL.t rfl)) (c39 hL hF0 (by omega) (by omega) (Or.inr rfl)) rfl ?_
              refine xp_ireturn rfl (by decide) (by decide) (by decide) ?_
              rfl
          · exfalso; omega
      · have e : aCompare A f = aAnswer A f 0 := by unfold aCompare; rw [if_neg (fun z => z ⟨hx, hy⟩), if_neg hl]
        rw [e]
        refine xF_eq (xF_p (Nat.le_of_ble_eq_true rfl) ?_)
        refine xp_aload_n rfl rfl ?_
        refine xp_gfa rfl rfl (by decide) (by decide) (by first | assumption | exact hL.t rfl) (by first | assumption | exact hL.r rfl | exact hL.2.2.2.2.2) ?_
        refine xp_astore_n rfl (by decide) ?_
        refine xp_aload_n rfl rfl ?_
        refine xp_iv rfl rfl (Nat.le_of_ble_eq_true rfl) (by decide) (by decide) (by decide) (Nat.le_of_ble_eq_true rfl) rfl (xrcv1 (by decide) (by first | assumption | exact hL.t rfl)) (c54 hF0) rfl ?_
        refine xp_iconst (n := 1) rfl (by decide) ?_
        refine xp_isub rfl (by omega) ?_
        rw [e0]
        refine xp_istore_n rfl (by decide) ?_
        refine xp_aload_n rfl rfl ?_
        refine xp_iv rfl rfl (Nat.le_of_ble_eq_true rfl) (by decide) (by decide) (by decide) (Nat.le_of_ble_eq_true rfl) rfl (xrcv1 (by decide) (by first | assumption | exact hL.t rfl)) (c54 hF0) rfl ?_
        refine xp_istore rfl (by decide) ?_
        refine xp_aload_n rfl rfl ?_
        refine xp_iload_n rfl rfl ?_
        refine xp_iv rfl rfl (Nat.le_of_ble_eq_true rfl) (by decide) (by decide) (by decide) (Nat.le_of_ble_eq_true rfl) rfl (xrcv1 (by decide) (by first | assumption | exact hL.t rfl)) (c26t hC (by omega) (by omega) hx) rfl ?_
        refine xp_ifeq 35 rfl (by decide) (by omega) (fun h23 => ?_) (fun h23 => ?_)
        · exfalso; omega
        · skip
          refine xp_aload_n rfl rfl ?_
          refine xp_iload rfl rfl ?_
          refine xp_iv rfl rfl (Nat.le_of_ble_eq_true rfl) (by decide) (by decide) (by decide) (Nat.le_of_ble_eq_true rfl) rfl (xrcv1 (by decide) (by first | assumption | exact hL.t rfl)) (c26t hC (by omega) (by omega) hy) rfl ?_
          refine xp_ifne 37 rfl (by decide) (by omega) (fun h32 => ?_) (fun h32 => ?_)
          · skip
            refine xp_aload_n rfl rfl ?_
            refine xp_aload_n rfl rfl ?_
            refine xp_aload_n rfl rfl ?_
            refine xp_gfa rfl rfl (by decide) (by decide) (by first | assumption | exact hL.t rfl) (by first | assumption | exact hL.r rfl | exact hL.2.2.2.2.2) ?_
            refine xp_iload_n rfl rfl ?_
            refine xp_lald rfl (by first | assumption | exact hL.t rfl) (by omega) (by omega) ?_
            refine xp_aload_n rfl rfl ?_
            refine xp_gfa rfl rfl (by decide) (by decide) (by first | assumption | exact hL.t rfl) (by first | assumption | exact hL.r rfl | exact hL.2.2.2.2.2) ?_
            refine xp_iload rfl rfl ?_
            refine xp_lald rfl (by first | assumption | exact hL.t rfl) (by omega) (by omega) ?_
            refine xp_lcge 60 rfl rfl (by decide) (fun h52 => ?_) (fun h52 => ?_)
            · skip
              refine xp_iconst (n := 0) rfl (by decide) ?_
              refine xp_iv rfl rfl (Nat.le_of_ble_eq_true rfl) (by decide) (by decide) (by decide) (Nat.le_of_ble_eq_true rfl) rfl (xrcv1 (by decide) (by first | assumption | exact hL.t rfl)) (c39 hL hF0 (by omega) (by omega) (Or.inl rfl)) rfl ?_
              refine xp_ireturn rfl (by decide) (by decide) (by decide) ?_
              rfl
            · exact absurd h52 hl
          · exfalso; omega
    · have e : aCompare A f = (2, A) := by unfold aCompare; rw [if_pos (fun z => hy z.2)]
      rw [e]
      refine xF_eq (xF_p (Nat.le_of_ble_eq_true rfl) ?_)
      refine xp_aload_n rfl rfl ?_
      refine xp_gfa rfl rfl (by decide) (by decide) (by first | assumption | exact hL.t rfl) (by first | assumption | exact hL.r rfl | exact hL.2.2.2.2.2) ?_
      refine xp_astore_n rfl (by decide) ?_
      refine xp_aload_n rfl rfl ?_
      refine xp_iv rfl rfl (Nat.le_of_ble_eq_true rfl) (by decide) (by decide) (by decide) (Nat.le_of_ble_eq_true rfl) rfl (xrcv1 (by decide) (by first | assumption | exact hL.t rfl)) (c54 hF0) rfl ?_
      refine xp_iconst (n := 1) rfl (by decide) ?_
      refine xp_isub rfl (by omega) ?_
      rw [e0]
      refine xp_istore_n rfl (by decide) ?_
      refine xp_aload_n rfl rfl ?_
      refine xp_iv rfl rfl (Nat.le_of_ble_eq_true rfl) (by decide) (by decide) (by decide) (Nat.le_of_ble_eq_true rfl) rfl (xrcv1 (by decide) (by first | assumption | exact hL.t rfl)) (c54 hF0) rfl ?_
      refine xp_istore rfl (by decide) ?_
      refine xp_aload_n rfl rfl ?_
      refine xp_iload_n rfl rfl ?_
      refine xp_iv rfl rfl (Nat.le_of_ble_eq_true rfl) (by decide) (by decide) (by decide) (Nat.le_of_ble_eq_true rfl) rfl (xrcv1 (by decide) (by first | assumption | exact hL.t rfl)) (c26t hC (by omega) (by omega) hx) rfl ?_
      refine xp_ifeq 35 rfl (by decide) (by omega) (fun h23 => ?_) (fun h23 => ?_)
      · exfalso; omega
      · skip
        refine xp_aload_n rfl rfl ?_
        refine xp_iload rfl rfl ?_
        refine xp_iv rfl rfl (Nat.le_of_ble_eq_true rfl) (by decide) (by decide) (by decide) (Nat.le_of_ble_eq_true rfl) rfl (xrcv1 (by decide) (by first | assumption | exact hL.t rfl)) (c26f hC (by omega) (by omega) hk2 hy) rfl ?_
        refine xp_ifne 37 rfl (by decide) (by omega) (fun h32 => ?_) (fun h32 => ?_)
        · exfalso; omega
        · skip
          refine xp_iconst (n := 2) rfl (by decide) ?_
          refine xp_ireturn rfl (by decide) (by decide) (by decide) ?_
          rfl
  · have e : aCompare A f = (2, A) := by unfold aCompare; rw [if_pos (fun z => hx z.1)]
    rw [e]
    refine xF_eq (xF_p (Nat.le_of_ble_eq_true rfl) ?_)
    refine xp_aload_n rfl rfl ?_
    refine xp_gfa rfl rfl (by decide) (by decide) (by first | assumption | exact hL.t rfl) (by first | assumption | exact hL.r rfl | exact hL.2.2.2.2.2) ?_
    refine xp_astore_n rfl (by decide) ?_
    refine xp_aload_n rfl rfl ?_
    refine xp_iv rfl rfl (Nat.le_of_ble_eq_true rfl) (by decide) (by decide) (by decide) (Nat.le_of_ble_eq_true rfl) rfl (xrcv1 (by decide) (by first | assumption | exact hL.t rfl)) (c54 hF0) rfl ?_
    refine xp_iconst (n := 1) rfl (by decide) ?_
    refine xp_isub rfl (by omega) ?_
    rw [e0]
    refine xp_istore_n rfl (by decide) ?_
    refine xp_aload_n rfl rfl ?_
    refine xp_iv rfl rfl (Nat.le_of_ble_eq_true rfl) (by decide) (by decide) (by decide) (Nat.le_of_ble_eq_true rfl) rfl (xrcv1 (by decide) (by first | assumption | exact hL.t rfl)) (c54 hF0) rfl ?_
    refine xp_istore rfl (by decide) ?_
    refine xp_aload_n rfl rfl ?_
    refine xp_iload_n rfl rfl ?_
    refine xp_iv rfl rfl (Nat.le_of_ble_eq_true rfl) (by decide) (by decide) (by decide) (Nat.le_of_ble_eq_true rfl) rfl (xrcv1 (by decide) (by first | assumption | exact hL.t rfl)) (c26f hC (by omega) (by omega) hk1 hx) rfl ?_
    refine xp_ifeq 35 rfl (by decide) (by omega) (fun h23 => ?_) (fun h23 => ?_)
    · skip
      refine xp_iconst (n := 2) rfl (by decide) ?_
      refine xp_ireturn rfl (by decide) (by decide) (by decide) ?_
      rfl
    · exfalso; omega
def aBranch (A : xQ) (f p : Nat) : Nat × xQ := if A.1 (f + 2) (4 + A.1 f 3) = 1 then (0, aPop (xsI A f 2 (if A.2 (f + 3) (4 + A.1 f 3) = 0 then A.1 f 2 + 1 else p)) f 1) else (2, A)
theorem c40 {z : Nat} {T : Nat → Option xT} {R : Nat → Nat → Option Nat} {A : xQ} {f p w : Nat} (hL : xLay T R w) (hF : xF0 T R f) (h1 : 1 ≤ A.1 f 3) (h6 : A.1 f 3 ≤ 6) (hk : A.1 (f + 2) (4 + A.1 f 3) ≤ 4) : xF 40 [.ref 11, .ref f, .int (nI p)] (xm z T R A) (.inr (some (.int (nI (aBranch A f p).1))), xm z T R (aBranch A f p).2) := by
  have hF0 := hF
  obtain ⟨f1, f2, hC⟩ := hF
  obtain ⟨c1, c2, c3, c4, c5⟩ := id hC
  have ep : ∀ v, (xsI A f 2 v).1 f 3 = A.1 f 3 := fun v => xsI_ne (Or.inr (by omega))
  by_cases hq : A.1 (f + 2) (4 + A.1 f 3) = 1
  · by_cases hz : A.2 (f + 3) (4 + A.1 f 3) = 0
    · have e : aBranch A f p = (0, aPop (xsI A f 2 (A.1 f 2 + 1)) f 1) := by unfold aBranch; rw [if_pos hq, if_pos hz]
      rw [e]
      refine xF_eq (xF_p (Nat.le_of_ble_eq_true rfl) ?_)
      refine xp_aload_n rfl rfl ?_
      refine xp_gfa rfl rfl (by decide) (by decide) (by first | assumption | exact hL.t rfl) (by first | assumption | exact hL.r rfl | exact hL.2.2.2.2.2) ?_
      refine xp_gfa rfl rfl (by decide) (by decide) (by first | assumption | exact hL.t rfl) (by first | assumption | exact hL.r rfl | exact hL.2.2.2.2.2) ?_
      refine xp_aload_n rfl rfl ?_
      refine xp_iv rfl rfl (Nat.le_of_ble_eq_true rfl) (by decide) (by decide) (by decide) (Nat.le_of_ble_eq_true rfl) rfl (xrcv1 (by decide) (by first | assumption | exact hL.t rfl)) (c54 hF0) rfl ?_
      refine xp_iald rfl (by first | assumption | exact hL.t rfl) (by omega) (by omega) ?_
      refine xp_iconst (n := 1) rfl (by decide) ?_
      refine xp_iceq 18 rfl (by decide) (by omega) (by omega) (fun h13 => ?_) (fun h13 => ?_)
      · skip
        refine xp_aload_n rfl rfl ?_
        refine xp_aload_n rfl rfl ?_
        refine xp_gfa rfl rfl (by decide) (by decide) (by first | assumption | exact hL.t rfl) (by first | assumption | exact hL.r rfl | exact hL.2.2.2.2.2) ?_
        refine xp_gfa rfl rfl (by decide) (by decide) (by first | assumption | exact hL.t rfl) (by first | assumption | exact hL.r rfl | exact hL.2.2.2.2.2) ?_
        refine xp_aload_n rfl rfl ?_
        refine xp_iv rfl rfl (Nat.le_of_ble_eq_true rfl) (by decide) (by decide) (by decide) (Nat.le_of_ble_eq_true rfl) rfl (xrcv1 (by decide) (by first | assumption | exact hL.t rfl)) (c54 hF0) rfl ?_
        refine xp_lald rfl (by first | assumption | exact hL.t rfl) (by omega) (by omega) ?_
        refine xp_lconst rfl rfl ?_
        refine xp_lceq 40 rfl rfl (by decide) (fun h32 => ?_) (fun h32 => ?_)
        · skip
          refine xp_aload_n rfl rfl ?_
          refine xp_gfi rfl rfl (by decide) (by decide) (by first | assumption | exact hL.t rfl) ?_
          refine xp_iconst (n := 1) rfl (by decide) ?_
          refine xp_iadd rfl ?_
          refine xp_pfi rfl rfl (by decide) (by decide) (by decide) (by first | assumption | exact hL.t rfl) ?_
          refine xp_aload_n rfl rfl ?_
          refine xp_dup rfl rfl ?_
          refine xp_gfi rfl rfl (by decide) (by decide) (by first | assumption | exact hL.t rfl) ?_
          refine xp_iconst (n := 1) rfl (by decide) ?_
          refine xp_isub rfl (by rw [ep]; exact h1) ?_
          refine xp_pfi rfl rfl (by decide) (by decide) (by decide) (by first | assumption | exact hL.t rfl) ?_
          refine xp_iconst (n := 0) rfl (by decide) ?_
          refine xp_ireturn rfl (by decide) (by decide) (by decide) ?_
          rfl
        · exact absurd hz h32
      · exact absurd hq h13
    · have e : aBranch A f p = (0, aPop (xsI A f 2 p) f 1) := by unfold aBranch; rw [if_pos hq, if_neg hz]
      rw [e]
      refine xF_eq (xF_p (Nat.le_of_ble_eq_true rfl) ?_)
      refine xp_aload_n rfl rfl ?_
      refine xp_gfa rfl rfl (by decide) (by decide) (by first | assumption | exact hL.t rfl) (by first | assumption | exact hL.r rfl | exact hL.2.2.2.2.2) ?_
      refine xp_gfa rfl rfl (by decide) (by decide) (by first | assumption | exact hL.t rfl) (by first | assumption | exact hL.r rfl | exact hL.2.2.2.2.2) ?_
      refine xp_aload_n rfl rfl ?_
      refine xp_iv rfl rfl (Nat.le_of_ble_eq_true rfl) (by decide) (by decide) (by decide) (Nat.le_of_ble_eq_true rfl) rfl (xrcv1 (by decide) (by first | assumption | exact hL.t rfl)) (c54 hF0) rfl ?_
      refine xp_iald rfl (by first | assumption | exact hL.t rfl) (by omega) (by omega) ?_
      refine xp_iconst (n := 1) rfl (by decide) ?_
      refine xp_iceq 18 rfl (by decide) (by omega) (by omega) (fun h13 => ?_) (fun h13 => ?_)
      · skip
        refine xp_aload_n rfl rfl ?_
        refine xp_aload_n rfl rfl ?_
        refine xp_gfa rfl rfl (by decide) (by decide) (by first | assumption | exact hL.t rfl) (by first | assumption | exact hL.r rfl | exact hL.2.2.2.2.2) ?_
        refine xp_gfa rfl rfl (by decide) (by decide) (by first | assumption | exact hL.t rfl) (by first | assumption | exact hL.r rfl | exact hL.2.2.2.2.2) ?_
        refine xp_aload_n rfl rfl ?_
        refine xp_iv rfl rfl (Nat.le_of_ble_eq_true rfl) (by decide) (by decide) (by decide) (Nat.le_of_ble_eq_true rfl) rfl (xrcv1 (by decide) (by first | assumption | exact hL.t rfl)) (c54 hF0) rfl ?_
        refine xp_lald rfl (by first | assumption | exact hL.t rfl) (by omega) (by omega) ?_
        refine xp_lconst rfl rfl ?_
        refine xp_lceq 40 rfl rfl (by decide) (fun h32 => ?_) (fun h32 => ?_)
        · exact absurd h32 hz
        · skip
          refine xp_iload_n rfl rfl ?_
          refine xp_goto 46 rfl (by decide) ?_
          refine xp_pfi rfl rfl (by decide) (by decide) (by decide) (by first | assumption | exact hL.t rfl) ?_
          refine xp_aload_n rfl rfl ?_
          refine xp_dup rfl rfl ?_
          refine xp_gfi rfl rfl (by decide) (by decide) (by first | assumption | exact hL.t rfl) ?_
          refine xp_iconst (n := 1) rfl (by decide) ?_
          refine xp_isub rfl (by rw [ep]; exact h1) ?_
          refine xp_pfi rfl rfl (by decide) (by decide) (by decide) (by first | assumption | exact hL.t rfl) ?_
          refine xp_iconst (n := 0) rfl (by decide) ?_
          refine xp_ireturn rfl (by decide) (by decide) (by decide) ?_
          rfl
      · exact absurd hq h13
  · have e : aBranch A f p = (2, A) := by unfold aBranch; rw [if_neg hq]
    rw [e]
    refine xF_eq (xF_p (Nat.le_of_ble_eq_true rfl) ?_)
    refine xp_aload_n rfl rfl ?_
    refine xp_gfa rfl rfl (by decide) (by decide) (by first | assumption | exact hL.t rfl) (by first | assumption | exact hL.r rfl | exact hL.2.2.2.2.2) ?_
    refine xp_gfa rfl rfl (by decide) (by decide) (by first | assumption | exact hL.t rfl) (by first | assumption | exact hL.r rfl | exact hL.2.2.2.2.2) ?_
    refine xp_aload_n rfl rfl ?_
    refine xp_iv rfl rfl (Nat.le_of_ble_eq_true rfl) (by decide) (by decide) (by decide) (Nat.le_of_ble_eq_true rfl) rfl (xrcv1 (by decide) (by first | assumption | exact hL.t rfl)) (c54 hF0) rfl ?_
    refine xp_iald rfl (by first | assumption | exact hL.t rfl) (by omega) (by omega) ?_
    refine xp_iconst (n := 1) rfl (by decide) ?_
    refine xp_iceq 18 rfl (by decide) (by omega) (by omega) (fun h13 => ?_) (fun h13 => ?_)
    · exact absurd h13 hq
    · skip
      refine xp_iconst (n := 2) rfl (by decide) ?_
      refine xp_ireturn rfl (by decide) (by decide) (by decide) ?_
      rfl
def aThrow (A : xQ) (f : Nat) : Nat × xQ := if A.1 (f + 2) (4 + A.1 f 3) = 1 then (16 + oN (A.2 (f + 3) (4 + A.1 f 3) &&& 15), A) else (2, A)
theorem c41 {z : Nat} {T : Nat → Option xT} {R : Nat → Nat → Option Nat} {A : xQ} {f w : Nat} (hL : xLay T R w) (hF : xF0 T R f) (h1 : 1 ≤ A.1 f 3) (h6 : A.1 f 3 ≤ 6) (hk : A.1 (f + 2) (4 + A.1 f 3) ≤ 4) : xF 41 [.ref 11, .ref f] (xm z T R A) (.inr (some (.int (nI (aThrow A f).1))), xm z T R (aThrow A f).2) := by
  have hF0 := hF
  obtain ⟨f1, f2, hC⟩ := hF
  obtain ⟨c1, c2, c3, c4, c5⟩ := id hC
  by_cases hq : A.1 (f + 2) (4 + A.1 f 3) = 1
  · have e : aThrow A f = (16 + oN (A.2 (f + 3) (4 + A.1 f 3) &&& 15), A) := by unfold aThrow; rw [if_pos hq]
    rw [e]
    refine xF_eq (xF_p (Nat.le_of_ble_eq_true rfl) ?_)
    refine xp_aload_n rfl rfl ?_
    refine xp_gfa rfl rfl (by decide) (by decide) (by first | assumption | exact hL.t rfl) (by first | assumption | exact hL.r rfl | exact hL.2.2.2.2.2) ?_
    refine xp_gfa rfl rfl (by decide) (by decide) (by first | assumption | exact hL.t rfl) (by first | assumption | exact hL.r rfl | exact hL.2.2.2.2.2) ?_
    refine xp_aload_n rfl rfl ?_
    refine xp_iv rfl rfl (Nat.le_of_ble_eq_true rfl) (by decide) (by decide) (by decide) (Nat.le_of_ble_eq_true rfl) rfl (xrcv1 (by decide) (by first | assumption | exact hL.t rfl)) (c54 hF0) rfl ?_
    refine xp_iald rfl (by first | assumption | exact hL.t rfl) (by omega) (by omega) ?_
    refine xp_iconst (n := 1) rfl (by decide) ?_
    refine xp_iceq 18 rfl (by decide) (by omega) (by omega) (fun h13 => ?_) (fun h13 => ?_)
    · skip
      refine xp_bipush (n := 16) rfl (by decide) ?_
      refine xp_aload_n rfl rfl ?_
      refine xp_gfa rfl rfl (by decide) (by decide) (by first | assumption | exact hL.t rfl) (by first | assumption | exact hL.r rfl | exact hL.2.2.2.2.2) ?_
      refine xp_gfa rfl rfl (by decide) (by decide) (by first | assumption | exact hL.t rfl) (by first | assumption | exact hL.r rfl | exact hL.2.2.2.2.2) ?_
      refine xp_aload_n rfl rfl ?_
      refine xp_iv rfl rfl (Nat.le_of_ble_eq_true rfl) (by decide) (by decide) (by decide) (Nat.le_of_ble_eq_true rfl) rfl (xrcv1 (by decide) (by first | assumption | exact hL.t rfl)) (c54 hF0) rfl ?_
      refine xp_lald rfl (by first | assumption | exact hL.t rfl) (by omega) (by omega) ?_
      refine xp_ldc2 rfl rfl ?_
      refine xp_land rfl ?_
      refine xp_l2i rfl ?_
      rw [oN_i]
      refine xp_iadd rfl ?_
      refine xp_ireturn rfl (by decide) (by decide) (by decide) ?_
      rfl
    · exact absurd hq h13
  · have e : aThrow A f = (2, A) := by unfold aThrow; rw [if_neg hq]
    rw [e]
    refine xF_eq (xF_p (Nat.le_of_ble_eq_true rfl) ?_)
    refine xp_aload_n rfl rfl ?_
    refine xp_gfa rfl rfl (by decide) (by decide) (by first | assumption | exact hL.t rfl) (by first | assumption | exact hL.r rfl | exact hL.2.2.2.2.2) ?_
    refine xp_gfa rfl rfl (by decide) (by decide) (by first | assumption | exact hL.t rfl) (by first | assumption | exact hL.r rfl | exact hL.2.2.2.2.2) ?_
    refine xp_aload_n rfl rfl ?_
    refine xp_iv rfl rfl (Nat.le_of_ble_eq_true rfl) (by decide) (by decide) (by decide) (Nat.le_of_ble_eq_true rfl) rfl (xrcv1 (by decide) (by first | assumption | exact hL.t rfl)) (c54 hF0) rfl ?_
    refine xp_iald rfl (by first | assumption | exact hL.t rfl) (by omega) (by omega) ?_
    refine xp_iconst (n := 1) rfl (by decide) ?_
    refine xp_iceq 18 rfl (by decide) (by omega) (by omega) (fun h13 => ?_) (fun h13 => ?_)
    · exact absurd h13 hq
    · skip
      refine xp_iconst (n := 2) rfl (by decide) ?_
      refine xp_ireturn rfl (by decide) (by decide) (by decide) ?_
      rfl
def aSay (A : xQ) (f : Nat) : Nat × xQ := if A.1 (f + 2) (4 + A.1 f 3) = 1 ∨ A.1 (f + 2) (4 + A.1 f 3) = 2 then (0, aPop (xsI (if A.1 11 3 < 40 then xsJ A 98 (A.1 11 3) (A.2 (f + 3) (4 + A.1 f 3)) else A) 11 3 (A.1 11 3 + 1)) f 1) else (2, A)
theorem c42 {z : Nat} {T : Nat → Option xT} {R : Nat → Nat → Option Nat} {A : xQ} {f w : Nat} (hL : xLay T R w) (hF : xF0 T R f) (h1 : 1 ≤ A.1 f 3) (h6 : A.1 f 3 ≤ 6) (hk : A.1 (f + 2) (4 + A.1 f 3) ≤ 4) (hsd : A.1 11 3 < 2 ^ 31) : xF 42 [.ref 11, .ref f] (xm z T R A) (.inr (some (.int (nI (aSay A f).1))), xm z T R (aSay A f).2) := by
  have hF0 := hF
  obtain ⟨f1, f2, hC⟩ := hF
  obtain ⟨c1, c2, c3, c4, c5⟩ := id hC
  have hne : f ≠ 11 := xne f1 (hL.t (a := 11) rfl) (by simp)
  have ep : ∀ (B : xQ) v, (xsI B 11 3 v).1 f 3 = B.1 f 3 := fun B v => xsI_ne (Or.inl hne)
  by_cases hq : A.1 (f + 2) (4 + A.1 f 3) = 1 ∨ A.1 (f + 2) (4 + A.1 f 3) = 2
  · by_cases hz : A.1 11 3 < 40
    · have e : aSay A f = (0, aPop (xsI (xsJ A 98 (A.1 11 3) (A.2 (f + 3) (4 + A.1 f 3))) 11 3 (A.1 11 3 + 1)) f 1) := by unfold aSay; rw [if_pos hq, if_pos hz]
      rw [e]
      refine xF_eq (xF_p (Nat.le_of_ble_eq_true rfl) ?_)
      refine xp_aload_n rfl rfl ?_
      refine xp_gfa rfl rfl (by decide) (by decide) (by first | assumption | exact hL.t rfl) (by first | assumption | exact hL.r rfl | exact hL.2.2.2.2.2) ?_
      refine xp_aload_n rfl rfl ?_
      refine xp_iv rfl rfl (Nat.le_of_ble_eq_true rfl) (by decide) (by decide) (by decide) (Nat.le_of_ble_eq_true rfl) rfl (xrcv1 (by decide) (by first | assumption | exact hL.t rfl)) (c54 hF0) rfl ?_
      refine xp_iv rfl rfl (Nat.le_of_ble_eq_true rfl) (by decide) (by decide) (by decide) (Nat.le_of_ble_eq_true rfl) rfl (xrcv1 (by decide) (by first | assumption | exact hL.t rfl)) (c26t hC (by omega) (by omega) hq) rfl ?_
      refine xp_ifne 16 rfl (by decide) (by omega) (fun h11 => ?_) (fun h11 => ?_)
      · skip
        refine xp_aload_n rfl rfl ?_
        refine xp_gfi rfl rfl (by decide) (by decide) (by first | assumption | exact hL.t rfl) ?_
        refine xp_bipush (n := 40) rfl (by decide) ?_
        refine xp_icge 46 rfl (by decide) (by omega) (by omega) (fun h22 => ?_) (fun h22 => ?_)
        · exfalso; omega
        · skip
          refine xp_aload_n rfl rfl ?_
          refine xp_gfa rfl rfl (by decide) (by decide) (by first | assumption | exact hL.t rfl) (by first | assumption | exact hL.r rfl | exact hL.2.2.2.2.2) ?_
          refine xp_aload_n rfl rfl ?_
          refine xp_gfi rfl rfl (by decide) (by decide) (by first | assumption | exact hL.t rfl) ?_
          refine xp_aload_n rfl rfl ?_
          refine xp_gfa rfl rfl (by decide) (by decide) (by first | assumption | exact hL.t rfl) (by first | assumption | exact hL.r rfl | exact hL.2.2.2.2.2) ?_
          refine xp_gfa rfl rfl (by decide) (by decide) (by first | assumption | exact hL.t rfl) (by first | assumption | exact hL.r rfl | exact hL.2.2.2.2.2) ?_
          refine xp_aload_n rfl rfl ?_
          refine xp_iv rfl rfl (Nat.le_of_ble_eq_true rfl) (by decide) (by decide) (by decide) (Nat.le_of_ble_eq_true rfl) rfl (xrcv1 (by decide) (by first | assumption | exact hL.t rfl)) (c54 hF0) rfl ?_
          refine xp_lald rfl (by first | assumption | exact hL.t rfl) (by omega) (by omega) ?_
          refine xp_last rfl (by first | assumption | exact hL.t rfl) (by omega) (by omega) ?_
          refine xp_aload_n rfl rfl ?_
          refine xp_dup rfl rfl ?_
          refine xp_gfi rfl rfl (by decide) (by decide) (by first | assumption | exact hL.t rfl) ?_
          refine xp_iconst (n := 1) rfl (by decide) ?_
          refine xp_iadd rfl ?_
          refine xp_pfi rfl rfl (by decide) (by decide) (by decide) (by first | assumption | exact hL.t rfl) ?_
          refine xp_aload_n rfl rfl ?_
          refine xp_dup rfl rfl ?_
          refine xp_gfi rfl rfl (by decide) (by decide) (by first | assumption | exact hL.t rfl) ?_
          refine xp_iconst (n := 1) rfl (by decide) ?_
          refine xp_isub rfl (by rw [ep]; exact h1) ?_
          refine xp_pfi rfl rfl (by decide) (by decide) (by decide) (by first | assumption | exact hL.t rfl) ?_
          refine xp_iconst (n := 0) rfl (by decide) ?_
          refine xp_ireturn rfl (by decide) (by decide) (by decide) ?_
          rfl
      · exfalso; omega
    · have e : aSay A f = (0, aPop (xsI A 11 3 (A.1 11 3 + 1)) f 1) := by unfold aSay; rw [if_pos hq, if_neg hz]
      rw [e]
      refine xF_eq (xF_p (Nat.le_of_ble_eq_true rfl) ?_)
      refine xp_aload_n rfl rfl ?_
      refine xp_gfa rfl rfl (by decide) (by decide) (by first | assumption | exact hL.t rfl) (by first | assumption | exact hL.r rfl | exact hL.2.2.2.2.2) ?_
      refine xp_aload_n rfl rfl ?_
      refine xp_iv rfl rfl (Nat.le_of_ble_eq_true rfl) (by decide) (by decide) (by decide) (Nat.le_of_ble_eq_true rfl) rfl (xrcv1 (by decide) (by first | assumption | exact hL.t rfl)) (c54 hF0) rfl ?_
      refine xp_iv rfl rfl (Nat.le_of_ble_eq_true rfl) (by decide) (by decide) (by decide) (Nat.le_of_ble_eq_true rfl) rfl (xrcv1 (by decide) (by first | assumption | exact hL.t rfl)) (c26t hC (by omega) (by omega) hq) rfl ?_
      refine xp_ifne 16 rfl (by decide) (by omega) (fun h11 => ?_) (fun h11 => ?_)
      · skip
        refine xp_aload_n rfl rfl ?_
        refine xp_gfi rfl rfl (by decide) (by decide) (by first | assumption | exact hL.t rfl) ?_
        refine xp_bipush (n := 40) rfl (by decide) ?_
        refine xp_icge 46 rfl (by decide) (by omega) (by omega) (fun h22 => ?_) (fun h22 => ?_)
        · skip
          refine xp_aload_n rfl rfl ?_
          refine xp_dup rfl rfl ?_
          refine xp_gfi rfl rfl (by decide) (by decide) (by first | assumption | exact hL.t rfl) ?_
          refine xp_iconst (n := 1) rfl (by decide) ?_
          refine xp_iadd rfl ?_
          refine xp_pfi rfl rfl (by decide) (by decide) (by decide) (by first | assumption | exact hL.t rfl) ?_
          refine xp_aload_n rfl rfl ?_
          refine xp_dup rfl rfl ?_
          refine xp_gfi rfl rfl (by decide) (by decide) (by first | assumption | exact hL.t rfl) ?_
          refine xp_iconst (n := 1) rfl (by decide) ?_
          refine xp_isub rfl (by rw [ep]; exact h1) ?_
          refine xp_pfi rfl rfl (by decide) (by decide) (by decide) (by first | assumption | exact hL.t rfl) ?_
          refine xp_iconst (n := 0) rfl (by decide) ?_
          refine xp_ireturn rfl (by decide) (by decide) (by decide) ?_
          rfl
        · exfalso; omega
      · exfalso; omega
  · have e : aSay A f = (2, A) := by unfold aSay; rw [if_neg hq]
    rw [e]
    refine xF_eq (xF_p (Nat.le_of_ble_eq_true rfl) ?_)
    refine xp_aload_n rfl rfl ?_
    refine xp_gfa rfl rfl (by decide) (by decide) (by first | assumption | exact hL.t rfl) (by first | assumption | exact hL.r rfl | exact hL.2.2.2.2.2) ?_
    refine xp_aload_n rfl rfl ?_
    refine xp_iv rfl rfl (Nat.le_of_ble_eq_true rfl) (by decide) (by decide) (by decide) (Nat.le_of_ble_eq_true rfl) rfl (xrcv1 (by decide) (by first | assumption | exact hL.t rfl)) (c54 hF0) rfl ?_
    refine xp_iv rfl rfl (Nat.le_of_ble_eq_true rfl) (by decide) (by decide) (by decide) (Nat.le_of_ble_eq_true rfl) rfl (xrcv1 (by decide) (by first | assumption | exact hL.t rfl)) (c26f hC (by omega) (by omega) hk hq) rfl ?_
    refine xp_ifne 16 rfl (by decide) (by omega) (fun h11 => ?_) (fun h11 => ?_)
    · exfalso; omega
    · skip
      refine xp_iconst (n := 2) rfl (by decide) ?_
      refine xp_ireturn rfl (by decide) (by decide) (by decide) ?_
      rfl
end
section
-- THE ENGINE, second part: objects, calls, forks
def aTest (k want : Nat) : Nat := if k = 0 then 3 else if k = want then 0 else 2
theorem c46 {z : Nat} {T : Nat → Option xT} {R : Nat → Nat → Option Nat} {A : xQ} {a ka na n i k : Nat} (hC : xC0 T R a ka na n) (hi : i < n) (hn : n < 2 ^ 31) (hk4 : A.1 ka i ≤ 4) (hk : k ≤ 4) : xF 46 [.ref a, .int (nI i), .int (nI k)] (xm z T R A) (.inr (some (.int (nI (aTest (A.1 ka i) k)))), xm z T R A) := by
  obtain ⟨c1, c2, c3, c4, c5⟩ := hC
  unfold aTest
  refine xF_eq (xF_p (Nat.le_of_ble_eq_true rfl) ?_)
  refine xp_aload_n rfl rfl ?_
  refine xp_gfa rfl rfl (by decide) (by decide) (by assumption) (by assumption) ?_
  refine xp_iload_n rfl rfl ?_
  refine xp_iald rfl (by assumption) (by omega) (by omega) ?_
  refine xp_ifne 11 rfl (by decide) (by omega) (fun h6 => ?_) (fun h6 => ?_)
  · skip
    refine xp_aload_n rfl rfl ?_
    refine xp_gfa rfl rfl (by decide) (by decide) (by assumption) (by assumption) ?_
    refine xp_iload_n rfl rfl ?_
    refine xp_iald rfl (by assumption) (by omega) (by omega) ?_
    refine xp_iload_n rfl rfl ?_
    refine xp_icne 25 rfl (by decide) (by omega) (by omega) (fun h18 => ?_) (fun h18 => ?_)
    · skip
      refine xp_iconst (n := 2) rfl (by decide) ?_
      refine xp_ireturn rfl (by decide) (by decide) (by decide) ?_
      simp only [*]
      first | rfl | simp
    · skip
      refine xp_iconst (n := 0) rfl (by decide) ?_
      refine xp_goto 26 rfl (by decide) ?_
      refine xp_ireturn rfl (by decide) (by decide) (by decide) ?_
      simp only [*]
      first | rfl | simp
  · skip
    refine xp_iconst (n := 3) rfl (by decide) ?_
    refine xp_ireturn rfl (by decide) (by decide) (by decide) ?_
    simp only [*]
    first | rfl | simp
def aRecord (w : Nat) (A : xQ) (f : Nat) : Nat × xQ := if A.1 f 3 = 6 then (6, A) else aPush (aMake w 3 0 3 A) f 3 (lN (aFree w A 23 0))
theorem aMake_keep {w k fn sz b j : Nat} (A : xQ) (h3 : b ≠ w + 3) (h4 : b ≠ w + 4) (h5 : b ≠ w + 5) (h7 : b ≠ w + 7) (h2 : b ≠ w + 2) : (aMake w k fn sz A).1 b j = A.1 b j := by
  unfold aMake aMakeAt
  rw [xsI_ne (Or.inl h2), xit_keep (fun i B => by unfold xnul1; exact xsI_ne (Or.inl h7))]
  unfold aShape
  rw [xsI_ne (Or.inl h5), xsI_ne (Or.inl h4), xsI_ne (Or.inl h3)]
theorem xF0.ne {T : Nat → Option xT} {R : Nat → Nat → Option Nat} {w f : Nat} (hW : xW0 T R w) (hF : xF0 T R f) : f ≠ w ∧ f ≠ w + 2 ∧ f ≠ w + 3 ∧ f ≠ w + 4 ∧ f ≠ w + 5 ∧ f ≠ w + 7 ∧ f + 2 ≠ w + 2 ∧ f + 2 ≠ w + 3 ∧ f + 2 ≠ w + 4 ∧ f + 2 ≠ w + 5 ∧ f + 2 ≠ w + 7 ∧ f + 3 ≠ w + 8 := by
  obtain ⟨f1, f2, c1, c2, c3, c4, c5⟩ := hF
  obtain ⟨w1, w2, w3, w4, ⟨h1, h2, h3, h4, h5, h6, h7, h8, h9, h10, h11, h12, d1, d2, d3, d4, d5⟩, hSt⟩ := hW
  exact ⟨xne f1 w1 (by simp), xne f1 h1 (by simp), xne f1 h8 (by simp), xne f1 h9 (by simp), xne f1 h10 (by simp), xne f1 d4 (by simp), xne c4 h1 (by simp), xne c4 h8 (by simp), xne c4 h9 (by simp), xne c4 h10 (by simp), xne c4 d4 (by simp), xne c5 d5 (by simp)⟩
theorem c44 {z : Nat} {T : Nat → Option xT} {R : Nat → Nat → Option Nat} {A : xQ} {f w : Nat} (hL : xLay T R w) (hF : xF0 T R f) (hs6 : A.1 f 3 ≤ 6) (hkb : ∀ o, o < 24 → A.1 (w + 3) o < 2 ^ 31) : xF 44 [.ref 11, .ref f] (xm z T R A) (.inr (some (.int (nI (aRecord w A f).1))), xm z T R (aRecord w A f).2) := by
  have hF0 := hF
  obtain ⟨f1, f2, hC⟩ := hF
  obtain ⟨c1, c2, c3, c4, c5⟩ := id hC
  have hW := hL.w hL.1
  have hH := hW.2.2.2.2.1
  have w1 := hW.1
  have w2 := hW.2.1
  have w3 := hW.2.2.1
  have w4 := hW.2.2.2.1
  obtain ⟨h1, h2, h3, h4, h5, h6, h7, h8, h9, h10, h11, h12, hCC⟩ := id hH
  obtain ⟨d1, d2, d3, d4, d5⟩ := id hCC
  obtain ⟨n1, n2, n3, n4, n5, n6, n7, n8, n9, n10, n11, n12⟩ := xF0.ne hW hF0
  have hfr := aFree_le w A 23 0
  by_cases hq : A.1 f 3 = 6
  · have e : aRecord w A f = (6, A) := by unfold aRecord; rw [if_pos hq]
    rw [e]
    refine xF_eq (xF_p (Nat.le_of_ble_eq_true rfl) ?_)
    refine xp_aload_n rfl rfl ?_
    refine xp_gfi rfl rfl (by decide) (by decide) (by first | assumption | exact hL.t rfl) ?_
    refine xp_bipush (n := 6) rfl (by decide) ?_
    refine xp_icne 12 rfl (by decide) (by omega) (by omega) (fun h6 => ?_) (fun h6 => ?_)
    · exact absurd hq h6
    · skip
      refine xp_bipush (n := 6) rfl (by decide) ?_
      refine xp_ireturn rfl (by decide) (by decide) (by decide) ?_
      rfl
  · have e : aRecord w A f = aPush (aMake w 3 0 3 A) f 3 (lN (aFree w A 23 0)) := by unfold aRecord; rw [if_neg hq]
    rw [e]
    refine xF_eq (xF_p (Nat.le_of_ble_eq_true rfl) ?_)
    refine xp_aload_n rfl rfl ?_
    refine xp_gfi rfl rfl (by decide) (by decide) (by first | assumption | exact hL.t rfl) ?_
    refine xp_bipush (n := 6) rfl (by decide) ?_
    refine xp_icne 12 rfl (by decide) (by omega) (by omega) (fun h6 => ?_) (fun h6 => ?_)
    · skip
      refine xp_aload_n rfl rfl ?_
      refine xp_iconst (n := 3) rfl (by decide) ?_
      refine xp_aload_n rfl rfl ?_
      refine xp_gfa rfl rfl (by decide) (by decide) (by first | assumption | exact hL.t rfl) (by first | assumption | exact hL.r rfl | exact hL.2.2.2.2.2) ?_
      refine xp_gfa rfl rfl (by decide) (by decide) (by first | assumption | exact hL.t rfl) (by first | assumption | exact hL.r rfl | exact hL.2.2.2.2.2) ?_
      refine xp_iconst (n := 3) rfl (by decide) ?_
      refine xp_iconst (n := 0) rfl (by decide) ?_
      refine xp_iconst (n := 3) rfl (by decide) ?_
      refine xp_iv rfl rfl (Nat.le_of_ble_eq_true rfl) (by decide) (by decide) (by decide) (Nat.le_of_ble_eq_true rfl) rfl (xrcv1 (by decide) (by first | assumption | exact hL.t rfl)) (c61 hH hkb) rfl ?_
      refine xp_i2l rfl ?_
      rw [nI_l (by omega)]
      refine xp_iv rfl rfl (Nat.le_of_ble_eq_true rfl) (by decide) (by decide) (by decide) (Nat.le_of_ble_eq_true rfl) rfl (xrcv1 (by decide) (by first | assumption | exact hL.t rfl)) (c55a hF0 (by rw [aMake_keep A n3 n4 n5 n6 n2]; omega)) rfl ?_
      refine xp_ireturn rfl (by decide) (by decide) (by decide) ?_
      rfl
    · exact absurd h6 hq
def aClosure (w : Nat) (A : xQ) (f fn n : Nat) : Nat × xQ := if A.1 f 3 - n = 6 then (6, A) else aPush (xit (fun i B => aCopy (w + 7) (w + 8) (aFree w A 23 0 * 3 + i) (f + 2) (f + 3) (5 + (A.1 f 3 - n) + i) B) n 0 (aPop (aMake w 4 fn n A) f n)) f 4 (lN (aFree w A 23 0))
theorem l45 {z : Nat} {T : Nat → Option xT} {R : Nat → Nat → Option Nat} {f fn n w o s : Nat} {P : xR → Prop} (hL : xLay T R w) (hF : xF0 T R f) (hn : n ≤ 2) (hs : s + n ≤ 6) (ho : o < 24) : ∀ (m i : Nat) (A : xQ), i + m = n → A.1 f 3 = s → ((xit (fun i B => aCopy (w + 7) (w + 8) (o * 3 + i) (f + 2) (f + 3) (5 + s + i) B) m i A).1 f 3 = s → xP 45 89 [(0, .ref 11), (1, .ref f), (2, .int (nI fn)), (3, .int (nI n)), (4, .ref (w + 2)), (5, .int (nI o))] [] 0 0 (xm z T R (xit (fun i B => aCopy (w + 7) (w + 8) (o * 3 + i) (f + 2) (f + 3) (5 + s + i) B) m i A)) P) → xP 45 46 [(0, .ref 11), (1, .ref f), (2, .int (nI fn)), (3, .int (nI n)), (4, .ref (w + 2)), (5, .int (nI o)), (6, .int (nI i))] [] 0 0 (xm z T R A) P := by
  have hF0 := hF
  obtain ⟨f1, f2, hC⟩ := hF
  obtain ⟨c1, c2, c3, c4, c5⟩ := id hC
  have hW := hL.w hL.1
  have hH := hW.2.2.2.2.1
  have w1 := hW.1
  have w2 := hW.2.1
  have w3 := hW.2.2.1
  have w4 := hW.2.2.2.1
  obtain ⟨h1, h2, h3, h4, h5, h6, h7, h8, h9, h10, h11, h12, hCC⟩ := id hH
  obtain ⟨d1, d2, d3, d4, d5⟩ := id hCC
  obtain ⟨n1, n2, n3, n4, n5, n6, n7, n8, n9, n10, n11, n12⟩ := xF0.ne hW hF0
  intro m
  induction m with
  | zero =>
    intro i A hi0 hs0 hk
    refine xp_iload rfl rfl ?_
    refine xp_iload_n rfl rfl ?_
    refine xp_icge 89 rfl (by decide) (by omega) (by omega) (fun h49 => ?_) (fun h49 => ?_)
    · skip
      refine xp_weak [(0, .ref 11), (1, .ref f), (2, .int (nI fn)), (3, .int (nI n)), (4, .ref (w + 2)), (5, .int (nI o))] (xle_cons rfl (xle_cons rfl (xle_cons rfl (xle_cons rfl (xle_cons rfl (xle_cons rfl (xle_nil _))))))) (by simp [xnd]) ?_
      exact hk hs0
    · exfalso; omega
  | succ m ih =>
    intro i A hi0 hs0 hk
    refine xp_iload rfl rfl ?_
    refine xp_iload_n rfl rfl ?_
    refine xp_icge 89 rfl (by decide) (by omega) (by omega) (fun h49 => ?_) (fun h49 => ?_)
    · exfalso; omega
    · skip
      refine xp_aload rfl rfl ?_
      refine xp_gfa rfl rfl (by decide) (by decide) (by first | assumption | exact hL.t rfl) (by first | assumption | exact hL.r rfl | exact hL.2.2.2.2.2) ?_
      refine xp_aload rfl rfl ?_
      refine xp_iload rfl rfl ?_
      refine xp_iv rfl rfl (Nat.le_of_ble_eq_true rfl) (by decide) (by decide) (by decide) (Nat.le_of_ble_eq_true rfl) rfl (xrcv1 (by decide) (by first | assumption | exact hL.t rfl)) (c60) rfl ?_
      refine xp_iload rfl rfl ?_
      refine xp_iadd rfl ?_
      refine xp_aload_n rfl rfl ?_
      refine xp_gfa rfl rfl (by decide) (by decide) (by first | assumption | exact hL.t rfl) (by first | assumption | exact hL.r rfl | exact hL.2.2.2.2.2) ?_
      refine xp_iconst (n := 5) rfl (by decide) ?_
      refine xp_aload_n rfl rfl ?_
      refine xp_gfi rfl rfl (by decide) (by decide) (by first | assumption | exact hL.t rfl) ?_
      refine xp_iadd rfl ?_
      refine xp_iload rfl rfl ?_
      refine xp_iadd rfl ?_
      refine xp_iv rfl rfl (Nat.le_of_ble_eq_true rfl) (by decide) (by decide) (by decide) (Nat.le_of_ble_eq_true rfl) rfl (xrcv1 (by decide) (by first | assumption | exact hL.t rfl)) (c24 hCC hC (by omega) (by omega) (by omega) (by omega)) rfl ?_
      refine xp_iinc rfl rfl (by decide) (nI_inc _) ?_
      refine xp_goto 46 rfl (by decide) ?_
      rw [hs0]
      refine xp_weak [(0, .ref 11), (1, .ref f), (2, .int (nI fn)), (3, .int (nI n)), (4, .ref (w + 2)), (5, .int (nI o)), (6, .int (nI (i + 1)))] (xle_cons rfl (xle_cons rfl (xle_cons rfl (xle_cons rfl (xle_cons rfl (xle_cons rfl (xle_cons rfl (xle_nil _)))))))) (by simp [xnd]) ?_
      refine ih (i + 1) _ (by omega) ?_ hk
      show (xsI _ _ _ _).1 f 3 = s
      rw [xsI_ne (Or.inl n6)]
      exact hs0
theorem c45 {z : Nat} {T : Nat → Option xT} {R : Nat → Nat → Option Nat} {A : xQ} {f fn n w : Nat} (hL : xLay T R w) (hF : xF0 T R f) (hs6 : A.1 f 3 ≤ 6) (hn : n ≤ 2) (hns : n ≤ A.1 f 3) (hkb : ∀ o, o < 24 → A.1 (w + 3) o < 2 ^ 31) : xF 45 [.ref 11, .ref f, .int (nI fn), .int (nI n)] (xm z T R A) (.inr (some (.int (nI (aClosure w A f fn n).1))), xm z T R (aClosure w A f fn n).2) := by
  have hF0 := hF
  obtain ⟨f1, f2, hC⟩ := hF
  obtain ⟨c1, c2, c3, c4, c5⟩ := id hC
  have hW := hL.w hL.1
  have hH := hW.2.2.2.2.1
  have w1 := hW.1
  have w2 := hW.2.1
  have w3 := hW.2.2.1
  have w4 := hW.2.2.2.1
  obtain ⟨h1, h2, h3, h4, h5, h6, h7, h8, h9, h10, h11, h12, hCC⟩ := id hH
  obtain ⟨d1, d2, d3, d4, d5⟩ := id hCC
  obtain ⟨n1, n2, n3, n4, n5, n6, n7, n8, n9, n10, n11, n12⟩ := xF0.ne hW hF0
  have hfr := aFree_le w A 23 0
  have hmk : (aMake w 4 fn n A).1 f 3 = A.1 f 3 := aMake_keep A n3 n4 n5 n6 n2
  by_cases hq : A.1 f 3 - n = 6
  · have e : aClosure w A f fn n = (6, A) := by unfold aClosure; rw [if_pos hq]
    rw [e]
    refine xF_eq (xF_p (Nat.le_of_ble_eq_true rfl) ?_)
    refine xp_aload_n rfl rfl ?_
    refine xp_gfi rfl rfl (by decide) (by decide) (by first | assumption | exact hL.t rfl) ?_
    refine xp_iload_n rfl rfl ?_
    refine xp_isub rfl (by omega) ?_
    refine xp_bipush (n := 6) rfl (by decide) ?_
    refine xp_icne 14 rfl (by decide) (by omega) (by omega) (fun h8 => ?_) (fun h8 => ?_)
    · exact absurd hq h8
    · skip
      refine xp_bipush (n := 6) rfl (by decide) ?_
      refine xp_ireturn rfl (by decide) (by decide) (by decide) ?_
      rfl
  · have e : aClosure w A f fn n = aPush (xit (fun i B => aCopy (w + 7) (w + 8) (aFree w A 23 0 * 3 + i) (f + 2) (f + 3) (5 + (A.1 f 3 - n) + i) B) n 0 (aPop (aMake w 4 fn n A) f n)) f 4 (lN (aFree w A 23 0)) := by unfold aClosure; rw [if_neg hq]
    rw [e]
    refine xF_eq (xF_p (Nat.le_of_ble_eq_true rfl) ?_)
    refine xp_aload_n rfl rfl ?_
    refine xp_gfi rfl rfl (by decide) (by decide) (by first | assumption | exact hL.t rfl) ?_
    refine xp_iload_n rfl rfl ?_
    refine xp_isub rfl (by omega) ?_
    refine xp_bipush (n := 6) rfl (by decide) ?_
    refine xp_icne 14 rfl (by decide) (by omega) (by omega) (fun h8 => ?_) (fun h8 => ?_)
    · skip
      refine xp_aload_n rfl rfl ?_
      refine xp_gfa rfl rfl (by decide) (by decide) (by first | assumption | exact hL.t rfl) (by first | assumption | exact hL.r rfl | exact hL.2.2.2.2.2) ?_
      refine xp_gfa rfl rfl (by decide) (by decide) (by first | assumption | exact hL.t rfl) (by first | assumption | exact hL.r rfl | exact hL.2.2.2.2.2) ?_
      refine xp_astore rfl (by decide) ?_
      refine xp_aload rfl rfl ?_
      refine xp_iconst (n := 4) rfl (by decide) ?_
      refine xp_iload_n rfl rfl ?_
      refine xp_iload_n rfl rfl ?_
      refine xp_iv rfl rfl (Nat.le_of_ble_eq_true rfl) (by decide) (by decide) (by decide) (Nat.le_of_ble_eq_true rfl) rfl (xrcv1 (by decide) (by first | assumption | exact hL.t rfl)) (c61 hH hkb) rfl ?_
      refine xp_istore rfl (by decide) ?_
      refine xp_aload_n rfl rfl ?_
      refine xp_dup rfl rfl ?_
      refine xp_gfi rfl rfl (by decide) (by decide) (by first | assumption | exact hL.t rfl) ?_
      refine xp_iload_n rfl rfl ?_
      refine xp_isub rfl (by rw [hmk]; omega) ?_
      refine xp_pfi rfl rfl (by decide) (by decide) (by decide) (by first | assumption | exact hL.t rfl) ?_
      refine xp_iconst (n := 0) rfl (by decide) ?_
      refine xp_istore rfl (by decide) ?_
      refine xp_weak [(0, .ref 11), (1, .ref f), (2, .int (nI fn)), (3, .int (nI n)), (4, .ref (w + 2)), (5, .int (nI (aFree w A 23 0))), (6, .int (nI 0))] (xle_cons rfl (xle_cons rfl (xle_cons rfl (xle_cons rfl (xle_cons rfl (xle_cons rfl (xle_cons rfl (xle_nil _)))))))) (by simp [xnd]) ?_
      refine l45 (s := A.1 f 3 - n) hL hF0 hn (by omega) (by omega) n 0 (aPop (aMake w 4 fn n A) f n) (by omega) (by rw [aPop3, hmk]) (fun hk3 => ?_)
      refine xp_aload_n rfl rfl ?_
      refine xp_iconst (n := 4) rfl (by decide) ?_
      refine xp_iload rfl rfl ?_
      refine xp_i2l rfl ?_
      rw [nI_l (by omega)]
      refine xp_iv rfl rfl (Nat.le_of_ble_eq_true rfl) (by decide) (by decide) (by decide) (Nat.le_of_ble_eq_true rfl) rfl (xrcv1 (by decide) (by first | assumption | exact hL.t rfl)) (c55a hF0 (by rw [hk3]; omega)) rfl ?_
      refine xp_ireturn rfl (by decide) (by decide) (by decide) ?_
      rfl
    · exact absurd h8 hq
def aGet (w : Nat) (A : xQ) (f i : Nat) : Nat × xQ := if A.1 (f + 2) (4 + A.1 f 3) = 3 then (0, aCopy (f + 2) (f + 3) (4 + A.1 f 3) (w + 7) (w + 8) (oN (A.2 (f + 3) (4 + A.1 f 3)) * 3 + i) A) else (aTest (A.1 (f + 2) (4 + A.1 f 3)) 3, A)
theorem c47 {z : Nat} {T : Nat → Option xT} {R : Nat → Nat → Option Nat} {A : xQ} {f i w : Nat} (hL : xLay T R w) (hF : xF0 T R f) (h1s : 1 ≤ A.1 f 3) (hs6 : A.1 f 3 ≤ 6) (hk4 : A.1 (f + 2) (4 + A.1 f 3) ≤ 4) (ho : A.1 (f + 2) (4 + A.1 f 3) = 3 → oN (A.2 (f + 3) (4 + A.1 f 3)) < 24) (hi : i < 3) : xF 47 [.ref 11, .ref f, .int (nI i)] (xm z T R A) (.inr (some (.int (nI (aGet w A f i).1))), xm z T R (aGet w A f i).2) := by
  have hF0 := hF
  obtain ⟨f1, f2, hC⟩ := hF
  obtain ⟨c1, c2, c3, c4, c5⟩ := id hC
  have hW := hL.w hL.1
  have hH := hW.2.2.2.2.1
  have w1 := hW.1
  have w2 := hW.2.1
  have w3 := hW.2.2.1
  have w4 := hW.2.2.2.1
  obtain ⟨h1, h2, h3, h4, h5, h6, h7, h8, h9, h10, h11, h12, hCC⟩ := id hH
  obtain ⟨d1, d2, d3, d4, d5⟩ := id hCC
  by_cases hq : A.1 (f + 2) (4 + A.1 f 3) = 3
  · have o1 := ho hq
    have e : aGet w A f i = (0, aCopy (f + 2) (f + 3) (4 + A.1 f 3) (w + 7) (w + 8) (oN (A.2 (f + 3) (4 + A.1 f 3)) * 3 + i) A) := by unfold aGet; rw [if_pos hq]
    have et : aTest (A.1 (f + 2) (4 + A.1 f 3)) 3 = 0 := by rw [hq]; rfl
    rw [e]
    refine xF_eq (xF_p (Nat.le_of_ble_eq_true rfl) ?_)
    refine xp_aload_n rfl rfl ?_
    refine xp_iv rfl rfl (Nat.le_of_ble_eq_true rfl) (by decide) (by decide) (by decide) (Nat.le_of_ble_eq_true rfl) rfl (xrcv1 (by decide) (by first | assumption | exact hL.t rfl)) (c54 hF0) rfl ?_
    refine xp_istore_n rfl (by decide) ?_
    refine xp_aload_n rfl rfl ?_
    refine xp_gfa rfl rfl (by decide) (by decide) (by first | assumption | exact hL.t rfl) (by first | assumption | exact hL.r rfl | exact hL.2.2.2.2.2) ?_
    refine xp_iload_n rfl rfl ?_
    refine xp_iconst (n := 3) rfl (by decide) ?_
    refine xp_is rfl rfl rfl (Nat.le_of_ble_eq_true rfl) (by decide) (by decide) (by decide) (Nat.le_of_ble_eq_true rfl) rfl (xrcv0 (by decide) _ _) (c46 hC (by omega) (by omega) hk4 (by omega)) rfl ?_
    rw [et]
    refine xp_istore rfl (by decide) ?_
    refine xp_iload rfl rfl ?_
    refine xp_ifeq 24 rfl (by decide) (by omega) (fun h18 => ?_) (fun h18 => ?_)
    · skip
      refine xp_aload_n rfl rfl ?_
      refine xp_gfa rfl rfl (by decide) (by decide) (by first | assumption | exact hL.t rfl) (by first | assumption | exact hL.r rfl | exact hL.2.2.2.2.2) ?_
      refine xp_gfa rfl rfl (by decide) (by decide) (by first | assumption | exact hL.t rfl) (by first | assumption | exact hL.r rfl | exact hL.2.2.2.2.2) ?_
      refine xp_astore rfl (by decide) ?_
      refine xp_aload_n rfl rfl ?_
      refine xp_gfa rfl rfl (by decide) (by decide) (by first | assumption | exact hL.t rfl) (by first | assumption | exact hL.r rfl | exact hL.2.2.2.2.2) ?_
      refine xp_iload_n rfl rfl ?_
      refine xp_aload rfl rfl ?_
      refine xp_gfa rfl rfl (by decide) (by decide) (by first | assumption | exact hL.t rfl) (by first | assumption | exact hL.r rfl | exact hL.2.2.2.2.2) ?_
      refine xp_aload rfl rfl ?_
      refine xp_aload_n rfl rfl ?_
      refine xp_gfa rfl rfl (by decide) (by decide) (by first | assumption | exact hL.t rfl) (by first | assumption | exact hL.r rfl | exact hL.2.2.2.2.2) ?_
      refine xp_gfa rfl rfl (by decide) (by decide) (by first | assumption | exact hL.t rfl) (by first | assumption | exact hL.r rfl | exact hL.2.2.2.2.2) ?_
      refine xp_iload_n rfl rfl ?_
      refine xp_lald rfl (by first | assumption | exact hL.t rfl) (by omega) (by omega) ?_
      refine xp_l2i rfl ?_
      rw [oN_i]
      refine xp_iv rfl rfl (Nat.le_of_ble_eq_true rfl) (by decide) (by decide) (by decide) (Nat.le_of_ble_eq_true rfl) rfl (xrcv1 (by decide) (by first | assumption | exact hL.t rfl)) (c60) rfl ?_
      refine xp_iload_n rfl rfl ?_
      refine xp_iadd rfl ?_
      refine xp_iv rfl rfl (Nat.le_of_ble_eq_true rfl) (by decide) (by decide) (by decide) (Nat.le_of_ble_eq_true rfl) rfl (xrcv1 (by decide) (by first | assumption | exact hL.t rfl)) (c24 hC hCC (by omega) (by omega) (by omega) (by omega)) rfl ?_
      refine xp_iconst (n := 0) rfl (by decide) ?_
      refine xp_ireturn rfl (by decide) (by decide) (by decide) ?_
      rfl
    · exfalso; omega
  · have e : aGet w A f i = (aTest (A.1 (f + 2) (4 + A.1 f 3)) 3, A) := by unfold aGet; rw [if_neg hq]
    have et : aTest (A.1 (f + 2) (4 + A.1 f 3)) 3 = 2 ∨ aTest (A.1 (f + 2) (4 + A.1 f 3)) 3 = 3 := by unfold aTest; split <;> simp [hq]
    rw [e]
    refine xF_eq (xF_p (Nat.le_of_ble_eq_true rfl) ?_)
    refine xp_aload_n rfl rfl ?_
    refine xp_iv rfl rfl (Nat.le_of_ble_eq_true rfl) (by decide) (by decide) (by decide) (Nat.le_of_ble_eq_true rfl) rfl (xrcv1 (by decide) (by first | assumption | exact hL.t rfl)) (c54 hF0) rfl ?_
    refine xp_istore_n rfl (by decide) ?_
    refine xp_aload_n rfl rfl ?_
    refine xp_gfa rfl rfl (by decide) (by decide) (by first | assumption | exact hL.t rfl) (by first | assumption | exact hL.r rfl | exact hL.2.2.2.2.2) ?_
    refine xp_iload_n rfl rfl ?_
    refine xp_iconst (n := 3) rfl (by decide) ?_
    refine xp_is rfl rfl rfl (Nat.le_of_ble_eq_true rfl) (by decide) (by decide) (by decide) (Nat.le_of_ble_eq_true rfl) rfl (xrcv0 (by decide) _ _) (c46 hC (by omega) (by omega) hk4 (by omega)) rfl ?_
    refine xp_istore rfl (by decide) ?_
    refine xp_iload rfl rfl ?_
    refine xp_ifeq 24 rfl (by decide) (by omega) (fun h18 => ?_) (fun h18 => ?_)
    · exfalso; omega
    · skip
      refine xp_iload rfl rfl ?_
      refine xp_ireturn rfl (by decide) (by decide) (by decide) ?_
      rfl
def aPut (w : Nat) (A : xQ) (f i : Nat) : Nat × xQ := if A.1 (f + 2) (3 + A.1 f 3) = 3 then (0, aPop (aCopy (w + 7) (w + 8) (oN (A.2 (f + 3) (3 + A.1 f 3)) * 3 + i) (f + 2) (f + 3) (4 + A.1 f 3) A) f 2) else (aTest (A.1 (f + 2) (3 + A.1 f 3)) 3, A)
theorem c48 {z : Nat} {T : Nat → Option xT} {R : Nat → Nat → Option Nat} {A : xQ} {f i w : Nat} (hL : xLay T R w) (hF : xF0 T R f) (h2s : 2 ≤ A.1 f 3) (hs6 : A.1 f 3 ≤ 6) (hk4 : A.1 (f + 2) (3 + A.1 f 3) ≤ 4) (ho : A.1 (f + 2) (3 + A.1 f 3) = 3 → oN (A.2 (f + 3) (3 + A.1 f 3)) < 24) (hi : i < 3) : xF 48 [.ref 11, .ref f, .int (nI i)] (xm z T R A) (.inr (some (.int (nI (aPut w A f i).1))), xm z T R (aPut w A f i).2) := by
  have hF0 := hF
  obtain ⟨f1, f2, hC⟩ := hF
  obtain ⟨c1, c2, c3, c4, c5⟩ := id hC
  have hW := hL.w hL.1
  have hH := hW.2.2.2.2.1
  have w1 := hW.1
  have w2 := hW.2.1
  have w3 := hW.2.2.1
  have w4 := hW.2.2.2.1
  obtain ⟨h1, h2, h3, h4, h5, h6, h7, h8, h9, h10, h11, h12, hCC⟩ := id hH
  obtain ⟨d1, d2, d3, d4, d5⟩ := id hCC
  obtain ⟨n1, n2, n3, n4, n5, n6, n7, n8, n9, n10, n11, n12⟩ := xF0.ne hW hF0
  have e0 : 4 + A.1 f 3 - 1 = 3 + A.1 f 3 := by omega
  have e1 : 3 + A.1 f 3 + 1 = 4 + A.1 f 3 := by omega
  by_cases hq : A.1 (f + 2) (3 + A.1 f 3) = 3
  · have o1 := ho hq
    have e : aPut w A f i = (0, aPop (aCopy (w + 7) (w + 8) (oN (A.2 (f + 3) (3 + A.1 f 3)) * 3 + i) (f + 2) (f + 3) (4 + A.1 f 3) A) f 2) := by unfold aPut; rw [if_pos hq]
    have et : aTest (A.1 (f + 2) (3 + A.1 f 3)) 3 = 0 := by rw [hq]; rfl
    rw [e]
    refine xF_eq (xF_p (Nat.le_of_ble_eq_true rfl) ?_)
    refine xp_aload_n rfl rfl ?_
    refine xp_iv rfl rfl (Nat.le_of_ble_eq_true rfl) (by decide) (by decide) (by decide) (Nat.le_of_ble_eq_true rfl) rfl (xrcv1 (by decide) (by first | assumption | exact hL.t rfl)) (c54 hF0) rfl ?_
    refine xp_iconst (n := 1) rfl (by decide) ?_
    refine xp_isub rfl (by omega) ?_
    rw [e0]
    refine xp_istore_n rfl (by decide) ?_
    refine xp_aload_n rfl rfl ?_
    refine xp_gfa rfl rfl (by decide) (by decide) (by first | assumption | exact hL.t rfl) (by first | assumption | exact hL.r rfl | exact hL.2.2.2.2.2) ?_
    refine xp_iload_n rfl rfl ?_
    refine xp_iconst (n := 3) rfl (by decide) ?_
    refine xp_is rfl rfl rfl (Nat.le_of_ble_eq_true rfl) (by decide) (by decide) (by decide) (Nat.le_of_ble_eq_true rfl) rfl (xrcv0 (by decide) _ _) (c46 hC (by omega) (by omega) hk4 (by omega)) rfl ?_
    rw [et]
    refine xp_istore rfl (by decide) ?_
    refine xp_iload rfl rfl ?_
    refine xp_ifeq 26 rfl (by decide) (by omega) (fun h20 => ?_) (fun h20 => ?_)
    · skip
      refine xp_aload_n rfl rfl ?_
      refine xp_gfa rfl rfl (by decide) (by decide) (by first | assumption | exact hL.t rfl) (by first | assumption | exact hL.r rfl | exact hL.2.2.2.2.2) ?_
      refine xp_gfa rfl rfl (by decide) (by decide) (by first | assumption | exact hL.t rfl) (by first | assumption | exact hL.r rfl | exact hL.2.2.2.2.2) ?_
      refine xp_astore rfl (by decide) ?_
      refine xp_aload rfl rfl ?_
      refine xp_gfa rfl rfl (by decide) (by decide) (by first | assumption | exact hL.t rfl) (by first | assumption | exact hL.r rfl | exact hL.2.2.2.2.2) ?_
      refine xp_aload rfl rfl ?_
      refine xp_aload_n rfl rfl ?_
      refine xp_gfa rfl rfl (by decide) (by decide) (by first | assumption | exact hL.t rfl) (by first | assumption | exact hL.r rfl | exact hL.2.2.2.2.2) ?_
      refine xp_gfa rfl rfl (by decide) (by decide) (by first | assumption | exact hL.t rfl) (by first | assumption | exact hL.r rfl | exact hL.2.2.2.2.2) ?_
      refine xp_iload_n rfl rfl ?_
      refine xp_lald rfl (by first | assumption | exact hL.t rfl) (by omega) (by omega) ?_
      refine xp_l2i rfl ?_
      rw [oN_i]
      refine xp_iv rfl rfl (Nat.le_of_ble_eq_true rfl) (by decide) (by decide) (by decide) (Nat.le_of_ble_eq_true rfl) rfl (xrcv1 (by decide) (by first | assumption | exact hL.t rfl)) (c60) rfl ?_
      refine xp_iload_n rfl rfl ?_
      refine xp_iadd rfl ?_
      refine xp_aload_n rfl rfl ?_
      refine xp_gfa rfl rfl (by decide) (by decide) (by first | assumption | exact hL.t rfl) (by first | assumption | exact hL.r rfl | exact hL.2.2.2.2.2) ?_
      refine xp_iload_n rfl rfl ?_
      refine xp_iconst (n := 1) rfl (by decide) ?_
      refine xp_iadd rfl ?_
      rw [e1]
      refine xp_iv rfl rfl (Nat.le_of_ble_eq_true rfl) (by decide) (by decide) (by decide) (Nat.le_of_ble_eq_true rfl) rfl (xrcv1 (by decide) (by first | assumption | exact hL.t rfl)) (c24 hCC hC (by omega) (by omega) (by omega) (by omega)) rfl ?_
      refine xp_aload_n rfl rfl ?_
      refine xp_dup rfl rfl ?_
      refine xp_gfi rfl rfl (by decide) (by decide) (by first | assumption | exact hL.t rfl) ?_
      refine xp_iconst (n := 2) rfl (by decide) ?_
      refine xp_isub rfl (by show 2 ≤ (xsI _ _ _ _).1 f 3; rw [xsI_ne (Or.inl n6)]; exact h2s) ?_
      refine xp_pfi rfl rfl (by decide) (by decide) (by decide) (by first | assumption | exact hL.t rfl) ?_
      refine xp_iconst (n := 0) rfl (by decide) ?_
      refine xp_ireturn rfl (by decide) (by decide) (by decide) ?_
      rfl
    · exfalso; omega
  · have e : aPut w A f i = (aTest (A.1 (f + 2) (3 + A.1 f 3)) 3, A) := by unfold aPut; rw [if_neg hq]
    have et : aTest (A.1 (f + 2) (3 + A.1 f 3)) 3 = 2 ∨ aTest (A.1 (f + 2) (3 + A.1 f 3)) 3 = 3 := by unfold aTest; split <;> simp [hq]
    rw [e]
    refine xF_eq (xF_p (Nat.le_of_ble_eq_true rfl) ?_)
    refine xp_aload_n rfl rfl ?_
    refine xp_iv rfl rfl (Nat.le_of_ble_eq_true rfl) (by decide) (by decide) (by decide) (Nat.le_of_ble_eq_true rfl) rfl (xrcv1 (by decide) (by first | assumption | exact hL.t rfl)) (c54 hF0) rfl ?_
    refine xp_iconst (n := 1) rfl (by decide) ?_
    refine xp_isub rfl (by omega) ?_
    rw [e0]
    refine xp_istore_n rfl (by decide) ?_
    refine xp_aload_n rfl rfl ?_
    refine xp_gfa rfl rfl (by decide) (by decide) (by first | assumption | exact hL.t rfl) (by first | assumption | exact hL.r rfl | exact hL.2.2.2.2.2) ?_
    refine xp_iload_n rfl rfl ?_
    refine xp_iconst (n := 3) rfl (by decide) ?_
    refine xp_is rfl rfl rfl (Nat.le_of_ble_eq_true rfl) (by decide) (by decide) (by decide) (Nat.le_of_ble_eq_true rfl) rfl (xrcv0 (by decide) _ _) (c46 hC (by omega) (by omega) hk4 (by omega)) rfl ?_
    refine xp_istore rfl (by decide) ?_
    refine xp_iload rfl rfl ?_
    refine xp_ifeq 26 rfl (by decide) (by omega) (fun h20 => ?_) (fun h20 => ?_)
    · exfalso; omega
    · skip
      refine xp_iload rfl rfl ?_
      refine xp_ireturn rfl (by decide) (by decide) (by decide) ?_
      rfl
def aHeld (w : Nat) (A : xQ) (f k : Nat) : Nat × xQ := if A.1 (f + 2) 0 = 4 then (if k < A.1 (w + 5) (oN (A.2 (f + 3) 0)) then aPush A f (A.1 (w + 7) (oN (A.2 (f + 3) 0) * 3 + k)) (A.2 (w + 8) (oN (A.2 (f + 3) 0) * 3 + k)) else (3, A)) else (3, A)
theorem c49 {z : Nat} {T : Nat → Option xT} {R : Nat → Nat → Option Nat} {A : xQ} {f k w : Nat} (hL : xLay T R w) (hF : xF0 T R f) (hs6 : A.1 f 3 ≤ 6) (hk4 : A.1 (f + 2) 0 ≤ 4) (ho : A.1 (f + 2) 0 = 4 → oN (A.2 (f + 3) 0) < 24 ∧ A.1 (w + 5) (oN (A.2 (f + 3) 0)) ≤ 3) (hk : k < 2) : xF 49 [.ref 11, .ref f, .int (nI k)] (xm z T R A) (.inr (some (.int (nI (aHeld w A f k).1))), xm z T R (aHeld w A f k).2) := by
  have hF0 := hF
  obtain ⟨f1, f2, hC⟩ := hF
  obtain ⟨c1, c2, c3, c4, c5⟩ := id hC
  have hW := hL.w hL.1
  have hH := hW.2.2.2.2.1
  have w1 := hW.1
  have w2 := hW.2.1
  have w3 := hW.2.2.1
  have w4 := hW.2.2.2.1
  obtain ⟨h1, h2, h3, h4, h5, h6, h7, h8, h9, h10, h11, h12, hCC⟩ := id hH
  obtain ⟨d1, d2, d3, d4, d5⟩ := id hCC
  by_cases hq : A.1 (f + 2) 0 = 4
  · obtain ⟨o1, o2⟩ := ho hq
    by_cases hz : k < A.1 (w + 5) (oN (A.2 (f + 3) 0))
    · have e : aHeld w A f k = aPush A f (A.1 (w + 7) (oN (A.2 (f + 3) 0) * 3 + k)) (A.2 (w + 8) (oN (A.2 (f + 3) 0) * 3 + k)) := by unfold aHeld; rw [if_pos hq, if_pos hz]
      rw [e]
      refine xF_eq (xF_p (Nat.le_of_ble_eq_true rfl) ?_)
      refine xp_aload_n rfl rfl ?_
      refine xp_gfa rfl rfl (by decide) (by decide) (by first | assumption | exact hL.t rfl) (by first | assumption | exact hL.r rfl | exact hL.2.2.2.2.2) ?_
      refine xp_gfa rfl rfl (by decide) (by decide) (by first | assumption | exact hL.t rfl) (by first | assumption | exact hL.r rfl | exact hL.2.2.2.2.2) ?_
      refine xp_iconst (n := 0) rfl (by decide) ?_
      refine xp_iald rfl (by first | assumption | exact hL.t rfl) (by omega) (by omega) ?_
      refine xp_iconst (n := 4) rfl (by decide) ?_
      refine xp_iceq 15 rfl (by decide) (by omega) (by omega) (fun h10 => ?_) (fun h10 => ?_)
      · skip
        refine xp_aload_n rfl rfl ?_
        refine xp_gfa rfl rfl (by decide) (by decide) (by first | assumption | exact hL.t rfl) (by first | assumption | exact hL.r rfl | exact hL.2.2.2.2.2) ?_
        refine xp_gfa rfl rfl (by decide) (by decide) (by first | assumption | exact hL.t rfl) (by first | assumption | exact hL.r rfl | exact hL.2.2.2.2.2) ?_
        refine xp_astore_n rfl (by decide) ?_
        refine xp_aload_n rfl rfl ?_
        refine xp_gfa rfl rfl (by decide) (by decide) (by first | assumption | exact hL.t rfl) (by first | assumption | exact hL.r rfl | exact hL.2.2.2.2.2) ?_
        refine xp_gfa rfl rfl (by decide) (by decide) (by first | assumption | exact hL.t rfl) (by first | assumption | exact hL.r rfl | exact hL.2.2.2.2.2) ?_
        refine xp_iconst (n := 0) rfl (by decide) ?_
        refine xp_lald rfl (by first | assumption | exact hL.t rfl) (by omega) (by omega) ?_
        refine xp_l2i rfl ?_
        rw [oN_i]
        refine xp_istore rfl (by decide) ?_
        refine xp_iload_n rfl rfl ?_
        refine xp_aload_n rfl rfl ?_
        refine xp_gfa rfl rfl (by decide) (by decide) (by first | assumption | exact hL.t rfl) (by first | assumption | exact hL.r rfl | exact hL.2.2.2.2.2) ?_
        refine xp_iload rfl rfl ?_
        refine xp_iald rfl (by first | assumption | exact hL.t rfl) (by omega) (by omega) ?_
        refine xp_iclt 48 rfl (by decide) (by omega) (by omega) (fun h43 => ?_) (fun h43 => ?_)
        · skip
          refine xp_aload_n rfl rfl ?_
          refine xp_aload_n rfl rfl ?_
          refine xp_gfa rfl rfl (by decide) (by decide) (by first | assumption | exact hL.t rfl) (by first | assumption | exact hL.r rfl | exact hL.2.2.2.2.2) ?_
          refine xp_aload_n rfl rfl ?_
          refine xp_iload rfl rfl ?_
          refine xp_iv rfl rfl (Nat.le_of_ble_eq_true rfl) (by decide) (by decide) (by decide) (Nat.le_of_ble_eq_true rfl) rfl (xrcv1 (by decide) (by first | assumption | exact hL.t rfl)) (c60) rfl ?_
          refine xp_iload_n rfl rfl ?_
          refine xp_iadd rfl ?_
          refine xp_iv rfl rfl (Nat.le_of_ble_eq_true rfl) (by decide) (by decide) (by decide) (Nat.le_of_ble_eq_true rfl) rfl (xrcv1 (by decide) (by first | assumption | exact hL.t rfl)) (c56 hF0 hCC (by omega) (by omega) hs6) rfl ?_
          refine xp_ireturn rfl (by decide) (by decide) (by decide) ?_
          rfl
        · exfalso; omega
      · exact absurd hq h10
    · have e : aHeld w A f k = (3, A) := by unfold aHeld; rw [if_pos hq, if_neg hz]
      rw [e]
      refine xF_eq (xF_p (Nat.le_of_ble_eq_true rfl) ?_)
      refine xp_aload_n rfl rfl ?_
      refine xp_gfa rfl rfl (by decide) (by decide) (by first | assumption | exact hL.t rfl) (by first | assumption | exact hL.r rfl | exact hL.2.2.2.2.2) ?_
      refine xp_gfa rfl rfl (by decide) (by decide) (by first | assumption | exact hL.t rfl) (by first | assumption | exact hL.r rfl | exact hL.2.2.2.2.2) ?_
      refine xp_iconst (n := 0) rfl (by decide) ?_
      refine xp_iald rfl (by first | assumption | exact hL.t rfl) (by omega) (by omega) ?_
      refine xp_iconst (n := 4) rfl (by decide) ?_
      refine xp_iceq 15 rfl (by decide) (by omega) (by omega) (fun h10 => ?_) (fun h10 => ?_)
      · skip
        refine xp_aload_n rfl rfl ?_
        refine xp_gfa rfl rfl (by decide) (by decide) (by first | assumption | exact hL.t rfl) (by first | assumption | exact hL.r rfl | exact hL.2.2.2.2.2) ?_
        refine xp_gfa rfl rfl (by decide) (by decide) (by first | assumption | exact hL.t rfl) (by first | assumption | exact hL.r rfl | exact hL.2.2.2.2.2) ?_
        refine xp_astore_n rfl (by decide) ?_
        refine xp_aload_n rfl rfl ?_
        refine xp_gfa rfl rfl (by decide) (by decide) (by first | assumption | exact hL.t rfl) (by first | assumption | exact hL.r rfl | exact hL.2.2.2.2.2) ?_
        refine xp_gfa rfl rfl (by decide) (by decide) (by first | assumption | exact hL.t rfl) (by first | assumption | exact hL.r rfl | exact hL.2.2.2.2.2) ?_
        refine xp_iconst (n := 0) rfl (by decide) ?_
        refine xp_lald rfl (by first | assumption | exact hL.t rfl) (by omega) (by omega) ?_
        refine xp_l2i rfl ?_
        rw [oN_i]
        refine xp_istore rfl (by decide) ?_
        refine xp_iload_n rfl rfl ?_
        refine xp_aload_n rfl rfl ?_
        refine xp_gfa rfl rfl (by decide) (by decide) (by first | assumption | exact hL.t rfl) (by first | assumption | exact hL.r rfl | exact hL.2.2.2.2.2) ?_
        refine xp_iload rfl rfl ?_
        refine xp_iald rfl (by first | assumption | exact hL.t rfl) (by omega) (by omega) ?_
        refine xp_iclt 48 rfl (by decide) (by omega) (by omega) (fun h43 => ?_) (fun h43 => ?_)
        · exfalso; omega
        · skip
          refine xp_iconst (n := 3) rfl (by decide) ?_
          refine xp_ireturn rfl (by decide) (by decide) (by decide) ?_
          rfl
      · exact absurd hq h10
  · have e : aHeld w A f k = (3, A) := by unfold aHeld; rw [if_neg hq]
    rw [e]
    refine xF_eq (xF_p (Nat.le_of_ble_eq_true rfl) ?_)
    refine xp_aload_n rfl rfl ?_
    refine xp_gfa rfl rfl (by decide) (by decide) (by first | assumption | exact hL.t rfl) (by first | assumption | exact hL.r rfl | exact hL.2.2.2.2.2) ?_
    refine xp_gfa rfl rfl (by decide) (by decide) (by first | assumption | exact hL.t rfl) (by first | assumption | exact hL.r rfl | exact hL.2.2.2.2.2) ?_
    refine xp_iconst (n := 0) rfl (by decide) ?_
    refine xp_iald rfl (by first | assumption | exact hL.t rfl) (by omega) (by omega) ?_
    refine xp_iconst (n := 4) rfl (by decide) ?_
    refine xp_iceq 15 rfl (by decide) (by omega) (by omega) (fun h10 => ?_) (fun h10 => ?_)
    · exact absurd h10 hq
    · skip
      refine xp_iconst (n := 3) rfl (by decide) ?_
      refine xp_ireturn rfl (by decide) (by decide) (by decide) ?_
      rfl
end
section
theorem xpure {L : Nat} {xs : Nat → Int32} (hL : L ≤ 2560) : ∃ (n : Nat) (S1 : xS), xlev L xs n 0 [(0, .ref 1000003)] [] 0 0 xS0 = some (.inr (some (.int 1)), S1) := by
  sorry
end
section
-- THE CLAIM, out of the law's run in the evaluator
theorem whole_start {p : Program} {e : Env} {s : State} {m : MethodId} {below : List Frame} {meth : Method} {c : Code} (l : Launch) (hfl : l.stackTraces = false) {b L : Nat} {xs : Nat → Int32} (hL : L ≤ 2560) (C0 : lw_At p s m meth c b L xs) : W p l e room_1 s m #[Value.ref b] below meth c s.heap [] 0 0 (lw_Z below #[Value.ref b] s) (entryFrame m ([Value.ref b] : List Value).toArray 8) :=
  xstart l hfl C0 (xpure hL)
set_option maxHeartbeats 4000000 in
theorem lw_walk (l : Launch) (hfl : l.stackTraces = false) (b : Addr) (xs : List Int32) : MetFree l x (headSpec (Jvm.Cond.code x code maxLocals ret :: tables_1) room_1) (lw_P b xs) (fun _ _ _ _ _ => True) lw_Q := by
  refine MetFree.of_bodyS (code := code) (maxLocals := maxLocals) (ret := ret) (by decide) ?_ ?_
  · intro args s m h hn
    obtain ⟨meth, c, h1, h2, h3, h4, h5, h6, -, -⟩ := Cond.code_spec hn (atoms_spec (ws := Jvm.Cond.code x code maxLocals ret :: tables_1) h _ List.mem_cons_self)
    exact ⟨meth, c, h1, h2, h3, h4, h5, h6⟩
  · intro p e s m args below meth c s₁ B hml0 hP _
    obtain ⟨rfl, hx, hbd, hgv⟩ := hP
    obtain ⟨scr, harrAt, hlist, hof, hsmall⟩ := hx
    obtain ⟨hcb, hkn, -, -⟩ := State.arrayAt?_spec harrAt
    have hown : s.vm.findClass R_law = some m.cls := findClass_of_methodNamed B.named
    have hts0 : ∀ c ∈ (Jvm.Cond.code x code maxLocals ret :: tables_1), c.before #[Value.ref b] s = true := atoms_spec (ws := Jvm.Cond.code x code maxLocals ret :: tables_1) B.pre
    have hts : ∀ w ∈ lw_tbl, w.before #[Value.ref b] s = true := k2_hts_sels lw_privs (fun w hw => hts0 w (List.mem_cons_of_mem _ hw)) lw_privs_ok
    have hml : c.maxLocals = 8 := B.maxLocals_eq (hts0 _ List.mem_cons_self)
    have X₀ : Stand p l e room_1 s m #[Value.ref b] below meth c s₁ [] 0 0 := Stand.of_body B
    have hh0 : s₁.heap = s.heap := by rw [B.state]; rfl
    have hsz : scr.slots.size = xs.length := by rw [← Array.length_toList, hlist, List.length_map]
    have hval : ∀ j : Nat, j < xs.length → scr.slots[j]? = some (.int (xs.getD j 0)) := fun j hj => by
      rw [← Array.getElem?_toList, hlist]
      simp [hj]
    have hbl : b < s.heap.size := (Array.getElem?_eq_some_iff.mp hcb).1
    have hX : va_X b xs.length (fun j => xs.getD j 0) s s.heap := ⟨scr, hcb, hof, hkn, hsz, hval⟩
    have K : W p l e room_1 s m #[Value.ref b] below meth c s₁.heap [] 0 0 (lw_Z below #[Value.ref b] s) (entryFrame m ([Value.ref b] : List Value).toArray 8) := by
      rw [hh0]
      exact whole_start l hfl hbd ⟨B.exec, B.bytes, B.returns, hml, hown, hts, hX, hbl, B.notSynchronized, hgv⟩
    obtain ⟨t, a1, o, b1, b2, b3⟩ := K s₁ rfl X₀
    exact ⟨t, o, a1, b1, b2, b3⟩
theorem lw_pre_spec {args : Array Value} {s : State} (h : (Jvm.Cond.and given_1 narrow_1).before args s = true) (hr : rest_1_c.before args s = true) : ∃ (b : Addr) (xs : List Int32), lw_P b xs args s := by
  have hs := flat_of_before _ h
  have hq := flat_of_before _ hr
  have hc : (Cond.count 1).before args s = true := hs _ (by decide +kernel)
  have harr : (Cond.arrayOf (.arg 0) .int).before args s = true := hs _ (by decide +kernel)
  have hle : (Cond.le (.length (.arg 0)) (.int 2560)).before args s = true := hs _ (by decide +kernel)
  have hlen : (Cond.isInt (.length (.arg 0))).before args s = true := hq _ (by decide +kernel)
  have hall : (Cond.all (.arg 0) (.isInt (.elem (.arg 0) (.index 0)))).before args s = true := hq _ (by decide +kernel)
  obtain ⟨b, xs, hb, hx⟩ := State.ints_of_pre rfl harr hlen hall
  have hsm : xs.length < 2 ^ 31 := hx.choose_spec.2.2.2
  have hev : (Term.length (.arg 0)).eval args s none [] s = some (.int xs.length.toInt32) := hx.length_eval hb
  have hv := Cond.le_ints hev (show (Term.int 2560).eval args s none [] s = some (.int 2560) from rfl)
  have hd : xs.length.toInt32 ≤ 2560 := by
    simpa [Cond.before, Cond.holds, hv] using hle
  have hN : xs.length ≤ 2560 := (Int32.ofNat_le_ofNat hsm (by decide)).mp (show Int32.ofNat xs.length ≤ Int32.ofNat 2560 from hd)
  exact ⟨b, xs, Cond.one_arg hc (show args[0]? = some (.ref b) from hb), hx, hN, h⟩
theorem lw_comes (l : Launch) (hfl : l.stackTraces = false) : Comes l x (Jvm.Cond.code x code maxLocals ret :: tables_1) room_1 (fun tb e args s => Calls_1 tb e args s ∧ rest_1 tb e args s ∧ Pre_1 tb e args s)
    (fun _ _ args s o t => lw_Q args s o t) := by
  intro p e ha hc hk s m args below hf hfit hheap happ hpre
  obtain ⟨b, xs, hP⟩ := lw_pre_spec hpre.2.2 hpre.2.1
  obtain ⟨k, o, h1, h2, h3, hQ⟩ := lw_walk l hfl b xs p e ha hc hk s m args below hf ((Spec.applies_iff_loose hf).mp happ).1 hP trivial
  exact ⟨k, o, h1, h2, h3, hQ⟩
theorem lw_frame {s t : State} {o : Outcome} {args : Array Value} (h : Framed s o t [] 601024 7293034) :
    Framed s o t (fieldLocs frame_1_writes args s ++ arrayLocs frame_1_arrays args s ++ staticLocs frame_1_statics s) 601024 7293034 := h
theorem lw_limb (L : Cond) (hL : ∀ (args : Array Value) (s t : State), L.after args s (.returned (some (.int 1))) t = true) :
    ArmFor flags0 classFile x code maxLocals ret World_1 tables_1 room_1 Calls_1 rest_1 Pre_1
      (fun tb e a s o t => postC L tb e a s o t ∧ Framed s o t (fieldLocs frame_1_writes a s ++ arrayLocs frame_1_arrays a s ++ staticLocs frame_1_statics s) 601024 7293034) := by
  intro l hfl _ _ p e ha hc hk s m args below hf hfit hheap happ hpre
  obtain ⟨k, o, h1, h2, h3, rfl, hF⟩ := lw_comes l (by unfold Launch.stackTraces; rw [hfl]; decide) p e ha hc hk s m args below hf hfit hheap happ hpre
  exact ⟨k, _, h1, h2, h3, hL args s _, lw_frame hF⟩
theorem i_vc : Claimed_1_1 ∧ Claimed_1_2 := ⟨lw_limb limb_1_1 (fun args s t => by simp [limb_1_1, Cond.after, Cond.holds, Cond.value]), lw_limb limb_1_2 (fun args s t => Cond.after_iff.mpr (by
  first | (rw [show limb_1_2 = Cond.eq .result (.int 1) from rfl, Cond.eq_ints (x := 1) (y := 1) rfl rfl]; simp; done) | (simp [limb_1_2, Cond.value, Term.eval]; done)))⟩
end
