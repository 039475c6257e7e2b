section
-- ===== PART A: goes FIRST, ahead of the names: the tables' words, and 'selects' of the private methods out of them =====
/-- a private method of a class that the tables say can be made, by its rows of tables_1 -/
def lw_okq (q : MethodName × Nat) : Prop := (q.1.cls ≠ "java/lang/invoke/MethodHandle" ∧ q.1.cls ≠ "java/lang/invoke/VarHandle") ∧ Cond.instantiable q.1.cls q.2 ∈ tables_1 ∧ Cond.privateMethod q.1 ∈ tables_1 ∧ Cond.instanceMethod q.1 ∈ tables_1
theorem lw_p0 : lw_okq (⟨"PastTree", "demandUp", "()V"⟩, 4) := ⟨⟨by decide +kernel, by decide +kernel⟩, List.mem_of_getElem? (i := 17) (by decide +kernel), List.mem_of_getElem? (i := 198) (by decide +kernel), List.mem_of_getElem? (i := 199) (by decide +kernel)⟩
theorem lw_p1 : lw_okq (⟨"java/lang/Throwable", "fillInStackTrace", "(I)Ljava/lang/Throwable;"⟩, 6) := ⟨⟨by decide +kernel, by decide +kernel⟩, List.mem_of_getElem? (i := 242) (by decide +kernel), List.mem_of_getElem? (i := 240) (by decide +kernel), List.mem_of_getElem? (i := 241) (by decide +kernel)⟩
theorem lw_p2 : lw_okq (⟨"PastTree$Tree", "isRefused", "()Z"⟩, 12) := ⟨⟨by decide +kernel, by decide +kernel⟩, List.mem_of_getElem? (i := 25) (by decide +kernel), List.mem_of_getElem? (i := 276) (by decide +kernel), List.mem_of_getElem? (i := 277) (by decide +kernel)⟩
theorem lw_p3 : lw_okq (⟨"PastTree$Tree", "descend", "(II)LPastTree$Page;"⟩, 12) := ⟨⟨by decide +kernel, by decide +kernel⟩, List.mem_of_getElem? (i := 25) (by decide +kernel), List.mem_of_getElem? (i := 288) (by decide +kernel), List.mem_of_getElem? (i := 289) (by decide +kernel)⟩
theorem lw_p4 : lw_okq (⟨"PastTree$Tree", "remember", "(LPastTree$Page;)V"⟩, 12) := ⟨⟨by decide +kernel, by decide +kernel⟩, List.mem_of_getElem? (i := 25) (by decide +kernel), List.mem_of_getElem? (i := 293) (by decide +kernel), List.mem_of_getElem? (i := 294) (by decide +kernel)⟩
theorem lw_p5 : lw_okq (⟨"PastTree$Tree", "setRoot", "(II)V"⟩, 12) := ⟨⟨by decide +kernel, by decide +kernel⟩, List.mem_of_getElem? (i := 25) (by decide +kernel), List.mem_of_getElem? (i := 338) (by decide +kernel), List.mem_of_getElem? (i := 339) (by decide +kernel)⟩
theorem lw_p6 : lw_okq (⟨"PastTree$Tree", "changePage", "(III)Z"⟩, 12) := ⟨⟨by decide +kernel, by decide +kernel⟩, List.mem_of_getElem? (i := 25) (by decide +kernel), List.mem_of_getElem? (i := 342) (by decide +kernel), List.mem_of_getElem? (i := 343) (by decide +kernel)⟩
theorem lw_p7 : lw_okq (⟨"PastTree$Tree", "passed", "(I)LPastTree$Page;"⟩, 12) := ⟨⟨by decide +kernel, by decide +kernel⟩, List.mem_of_getElem? (i := 25) (by decide +kernel), List.mem_of_getElem? (i := 346) (by decide +kernel), List.mem_of_getElem? (i := 347) (by decide +kernel)⟩
theorem lw_p8 : lw_okq (⟨"PastTree$Tree", "listWhatStays", "(LPastTree$Page;)V"⟩, 12) := ⟨⟨by decide +kernel, by decide +kernel⟩, List.mem_of_getElem? (i := 25) (by decide +kernel), List.mem_of_getElem? (i := 350) (by decide +kernel), List.mem_of_getElem? (i := 351) (by decide +kernel)⟩
theorem lw_p9 : lw_okq (⟨"PastTree$Tree", "letGoAndCome", "(LPastTree$Page;I)V"⟩, 12) := ⟨⟨by decide +kernel, by decide +kernel⟩, List.mem_of_getElem? (i := 25) (by decide +kernel), List.mem_of_getElem? (i := 368) (by decide +kernel), List.mem_of_getElem? (i := 369) (by decide +kernel)⟩
theorem lw_p10 : lw_okq (⟨"PastTree$Tree", "remakeRoot", "(II)V"⟩, 12) := ⟨⟨by decide +kernel, by decide +kernel⟩, List.mem_of_getElem? (i := 25) (by decide +kernel), List.mem_of_getElem? (i := 380) (by decide +kernel), List.mem_of_getElem? (i := 381) (by decide +kernel)⟩
theorem lw_p11 : lw_okq (⟨"PastTree$Tree", "makeFromList", "(II)V"⟩, 12) := ⟨⟨by decide +kernel, by decide +kernel⟩, List.mem_of_getElem? (i := 25) (by decide +kernel), List.mem_of_getElem? (i := 384) (by decide +kernel), List.mem_of_getElem? (i := 385) (by decide +kernel)⟩
theorem lw_p12 : lw_okq (⟨"PastTree$Tree", "makePage", "(IILPastTree$Row;II)LPastTree$Page;"⟩, 12) := ⟨⟨by decide +kernel, by decide +kernel⟩, List.mem_of_getElem? (i := 25) (by decide +kernel), List.mem_of_getElem? (i := 388) (by decide +kernel), List.mem_of_getElem? (i := 389) (by decide +kernel)⟩
theorem lw_p13 : lw_okq (⟨"PastTree$Tree", "remakeBelow", "(LPastTree$Page;III)V"⟩, 12) := ⟨⟨by decide +kernel, by decide +kernel⟩, List.mem_of_getElem? (i := 25) (by decide +kernel), List.mem_of_getElem? (i := 399) (by decide +kernel), List.mem_of_getElem? (i := 400) (by decide +kernel)⟩
theorem lw_p14 : lw_okq (⟨"PastTree", "demandVersion", "(I)V"⟩, 4) := ⟨⟨by decide +kernel, by decide +kernel⟩, List.mem_of_getElem? (i := 17) (by decide +kernel), List.mem_of_getElem? (i := 484) (by decide +kernel), List.mem_of_getElem? (i := 485) (by decide +kernel)⟩
theorem lw_p15 : lw_okq (⟨"PastTree", "demandPage", "(I)V"⟩, 4) := ⟨⟨by decide +kernel, by decide +kernel⟩, List.mem_of_getElem? (i := 17) (by decide +kernel), List.mem_of_getElem? (i := 592) (by decide +kernel), List.mem_of_getElem? (i := 593) (by decide +kernel)⟩
def lw_privs_1 : List (MethodName × Nat) := [(⟨"PastTree", "demandUp", "()V"⟩, 4), (⟨"java/lang/Throwable", "fillInStackTrace", "(I)Ljava/lang/Throwable;"⟩, 6), (⟨"PastTree$Tree", "isRefused", "()Z"⟩, 12), (⟨"PastTree$Tree", "descend", "(II)LPastTree$Page;"⟩, 12), (⟨"PastTree$Tree", "remember", "(LPastTree$Page;)V"⟩, 12), (⟨"PastTree$Tree", "setRoot", "(II)V"⟩, 12), (⟨"PastTree$Tree", "changePage", "(III)Z"⟩, 12), (⟨"PastTree$Tree", "passed", "(I)LPastTree$Page;"⟩, 12), (⟨"PastTree$Tree", "listWhatStays", "(LPastTree$Page;)V"⟩, 12), (⟨"PastTree$Tree", "letGoAndCome", "(LPastTree$Page;I)V"⟩, 12), (⟨"PastTree$Tree", "remakeRoot", "(II)V"⟩, 12), (⟨"PastTree$Tree", "makeFromList", "(II)V"⟩, 12), (⟨"PastTree$Tree", "makePage", "(IILPastTree$Row;II)LPastTree$Page;"⟩, 12), (⟨"PastTree$Tree", "remakeBelow", "(LPastTree$Page;III)V"⟩, 12), (⟨"PastTree", "demandVersion", "(I)V"⟩, 4), (⟨"PastTree", "demandPage", "(I)V"⟩, 4)]
theorem lw_r1 : ∀ q ∈ lw_privs_1, lw_okq q := List.forall_mem_cons.mpr ⟨lw_p0, List.forall_mem_cons.mpr ⟨lw_p1, List.forall_mem_cons.mpr ⟨lw_p2, List.forall_mem_cons.mpr ⟨lw_p3, List.forall_mem_cons.mpr ⟨lw_p4, List.forall_mem_cons.mpr ⟨lw_p5, List.forall_mem_cons.mpr ⟨lw_p6, List.forall_mem_cons.mpr ⟨lw_p7, List.forall_mem_cons.mpr ⟨lw_p8, List.forall_mem_cons.mpr ⟨lw_p9, List.forall_mem_cons.mpr ⟨lw_p10, List.forall_mem_cons.mpr ⟨lw_p11, List.forall_mem_cons.mpr ⟨lw_p12, List.forall_mem_cons.mpr ⟨lw_p13, List.forall_mem_cons.mpr ⟨lw_p14, List.forall_mem_cons.mpr ⟨lw_p15, fun _ h => absurd h List.not_mem_nil⟩⟩⟩⟩⟩⟩⟩⟩⟩⟩⟩⟩⟩⟩⟩⟩
theorem lw_p16 : lw_okq (⟨"PastTree$Tree", "isDenseAt", "(I)Z"⟩, 12) := ⟨⟨by decide +kernel, by decide +kernel⟩, List.mem_of_getElem? (i := 25) (by decide +kernel), List.mem_of_getElem? (i := 663) (by decide +kernel), List.mem_of_getElem? (i := 664) (by decide +kernel)⟩
theorem lw_p17 : lw_okq (⟨"PastTree", "waitingRecords", "()I"⟩, 4) := ⟨⟨by decide +kernel, by decide +kernel⟩, List.mem_of_getElem? (i := 17) (by decide +kernel), List.mem_of_getElem? (i := 676) (by decide +kernel), List.mem_of_getElem? (i := 677) (by decide +kernel)⟩
theorem lw_p18 : lw_okq (⟨"PastTree$Disk", "writeBlock", "()Z"⟩, 7) := ⟨⟨by decide +kernel, by decide +kernel⟩, List.mem_of_getElem? (i := 140) (by decide +kernel), List.mem_of_getElem? (i := 696) (by decide +kernel), List.mem_of_getElem? (i := 697) (by decide +kernel)⟩
theorem lw_p19 : lw_okq (⟨"PastTreeModel", "copyPages", "(III)V"⟩, 44) := ⟨⟨by decide +kernel, by decide +kernel⟩, List.mem_of_getElem? (i := 772) (by decide +kernel), List.mem_of_getElem? (i := 778) (by decide +kernel), List.mem_of_getElem? (i := 779) (by decide +kernel)⟩
theorem lw_p20 : lw_okq (⟨"PastTreeModel", "isRefused", "()Z"⟩, 44) := ⟨⟨by decide +kernel, by decide +kernel⟩, List.mem_of_getElem? (i := 772) (by decide +kernel), List.mem_of_getElem? (i := 923) (by decide +kernel), List.mem_of_getElem? (i := 924) (by decide +kernel)⟩
theorem lw_p21 : lw_okq (⟨"PastTreeModel", "fails", "(ZZZZ)Z"⟩, 44) := ⟨⟨by decide +kernel, by decide +kernel⟩, List.mem_of_getElem? (i := 772) (by decide +kernel), List.mem_of_getElem? (i := 927) (by decide +kernel), List.mem_of_getElem? (i := 928) (by decide +kernel)⟩
theorem lw_p22 : lw_okq (⟨"PastTreeModel", "update", "(IZJ)V"⟩, 44) := ⟨⟨by decide +kernel, by decide +kernel⟩, List.mem_of_getElem? (i := 772) (by decide +kernel), List.mem_of_getElem? (i := 931) (by decide +kernel), List.mem_of_getElem? (i := 932) (by decide +kernel)⟩
theorem lw_p23 : lw_okq (⟨"PastTreeModel", "standing", "(III)I"⟩, 44) := ⟨⟨by decide +kernel, by decide +kernel⟩, List.mem_of_getElem? (i := 772) (by decide +kernel), List.mem_of_getElem? (i := 935) (by decide +kernel), List.mem_of_getElem? (i := 936) (by decide +kernel)⟩
theorem lw_p24 : lw_okq (⟨"PastTreeModel", "isAlive", "(II)Z"⟩, 44) := ⟨⟨by decide +kernel, by decide +kernel⟩, List.mem_of_getElem? (i := 772) (by decide +kernel), List.mem_of_getElem? (i := 939) (by decide +kernel), List.mem_of_getElem? (i := 940) (by decide +kernel)⟩
theorem lw_p25 : lw_okq (⟨"PastTreeModel", "leafEntry", "(II)I"⟩, 44) := ⟨⟨by decide +kernel, by decide +kernel⟩, List.mem_of_getElem? (i := 772) (by decide +kernel), List.mem_of_getElem? (i := 943) (by decide +kernel), List.mem_of_getElem? (i := 944) (by decide +kernel)⟩
theorem lw_p26 : lw_okq (⟨"PastTreeModel", "change", "(IIZ)Z"⟩, 44) := ⟨⟨by decide +kernel, by decide +kernel⟩, List.mem_of_getElem? (i := 772) (by decide +kernel), List.mem_of_getElem? (i := 947) (by decide +kernel), List.mem_of_getElem? (i := 948) (by decide +kernel)⟩
theorem lw_p27 : lw_okq (⟨"PastTreeModel", "listAlive", "(II)V"⟩, 44) := ⟨⟨by decide +kernel, by decide +kernel⟩, List.mem_of_getElem? (i := 772) (by decide +kernel), List.mem_of_getElem? (i := 951) (by decide +kernel), List.mem_of_getElem? (i := 952) (by decide +kernel)⟩
theorem lw_p28 : lw_okq (⟨"PastTreeModel", "list", "(IJ)V"⟩, 44) := ⟨⟨by decide +kernel, by decide +kernel⟩, List.mem_of_getElem? (i := 772) (by decide +kernel), List.mem_of_getElem? (i := 955) (by decide +kernel), List.mem_of_getElem? (i := 956) (by decide +kernel)⟩
theorem lw_p29 : lw_okq (⟨"PastTreeModel", "append", "(IIJI)V"⟩, 44) := ⟨⟨by decide +kernel, by decide +kernel⟩, List.mem_of_getElem? (i := 772) (by decide +kernel), List.mem_of_getElem? (i := 959) (by decide +kernel), List.mem_of_getElem? (i := 960) (by decide +kernel)⟩
theorem lw_p30 : lw_okq (⟨"PastTreeModel", "entryOf", "(III)I"⟩, 44) := ⟨⟨by decide +kernel, by decide +kernel⟩, List.mem_of_getElem? (i := 772) (by decide +kernel), List.mem_of_getElem? (i := 963) (by decide +kernel), List.mem_of_getElem? (i := 964) (by decide +kernel)⟩
theorem lw_p31 : lw_okq (⟨"PastTreeModel", "neighbour", "(III)I"⟩, 44) := ⟨⟨by decide +kernel, by decide +kernel⟩, List.mem_of_getElem? (i := 772) (by decide +kernel), List.mem_of_getElem? (i := 967) (by decide +kernel), List.mem_of_getElem? (i := 968) (by decide +kernel)⟩
def lw_privs_2 : List (MethodName × Nat) := [(⟨"PastTree$Tree", "isDenseAt", "(I)Z"⟩, 12), (⟨"PastTree", "waitingRecords", "()I"⟩, 4), (⟨"PastTree$Disk", "writeBlock", "()Z"⟩, 7), (⟨"PastTreeModel", "copyPages", "(III)V"⟩, 44), (⟨"PastTreeModel", "isRefused", "()Z"⟩, 44), (⟨"PastTreeModel", "fails", "(ZZZZ)Z"⟩, 44), (⟨"PastTreeModel", "update", "(IZJ)V"⟩, 44), (⟨"PastTreeModel", "standing", "(III)I"⟩, 44), (⟨"PastTreeModel", "isAlive", "(II)Z"⟩, 44), (⟨"PastTreeModel", "leafEntry", "(II)I"⟩, 44), (⟨"PastTreeModel", "change", "(IIZ)Z"⟩, 44), (⟨"PastTreeModel", "listAlive", "(II)V"⟩, 44), (⟨"PastTreeModel", "list", "(IJ)V"⟩, 44), (⟨"PastTreeModel", "append", "(IIJI)V"⟩, 44), (⟨"PastTreeModel", "entryOf", "(III)I"⟩, 44), (⟨"PastTreeModel", "neighbour", "(III)I"⟩, 44)]
theorem lw_r2 : ∀ q ∈ lw_privs_2, lw_okq q := List.forall_mem_cons.mpr ⟨lw_p16, List.forall_mem_cons.mpr ⟨lw_p17, List.forall_mem_cons.mpr ⟨lw_p18, List.forall_mem_cons.mpr ⟨lw_p19, List.forall_mem_cons.mpr ⟨lw_p20, List.forall_mem_cons.mpr ⟨lw_p21, List.forall_mem_cons.mpr ⟨lw_p22, List.forall_mem_cons.mpr ⟨lw_p23, List.forall_mem_cons.mpr ⟨lw_p24, List.forall_mem_cons.mpr ⟨lw_p25, List.forall_mem_cons.mpr ⟨lw_p26, List.forall_mem_cons.mpr ⟨lw_p27, List.forall_mem_cons.mpr ⟨lw_p28, List.forall_mem_cons.mpr ⟨lw_p29, List.forall_mem_cons.mpr ⟨lw_p30, List.forall_mem_cons.mpr ⟨lw_p31, fun _ h => absurd h List.not_mem_nil⟩⟩⟩⟩⟩⟩⟩⟩⟩⟩⟩⟩⟩⟩⟩⟩
theorem lw_p32 : lw_okq (⟨"PastTreeModel", "remake", "(IIZII)V"⟩, 44) := ⟨⟨by decide +kernel, by decide +kernel⟩, List.mem_of_getElem? (i := 772) (by decide +kernel), List.mem_of_getElem? (i := 971) (by decide +kernel), List.mem_of_getElem? (i := 972) (by decide +kernel)⟩
theorem lw_p33 : lw_okq (⟨"PastTreeModel", "newPage", "(II)I"⟩, 44) := ⟨⟨by decide +kernel, by decide +kernel⟩, List.mem_of_getElem? (i := 772) (by decide +kernel), List.mem_of_getElem? (i := 975) (by decide +kernel), List.mem_of_getElem? (i := 976) (by decide +kernel)⟩
theorem lw_p34 : lw_okq (⟨"PastTreeModel", "record", "(ZIJ)V"⟩, 44) := ⟨⟨by decide +kernel, by decide +kernel⟩, List.mem_of_getElem? (i := 772) (by decide +kernel), List.mem_of_getElem? (i := 979) (by decide +kernel), List.mem_of_getElem? (i := 980) (by decide +kernel)⟩
theorem lw_p35 : lw_okq (⟨"PastTreeModel", "isDown", "()Z"⟩, 44) := ⟨⟨by decide +kernel, by decide +kernel⟩, List.mem_of_getElem? (i := 772) (by decide +kernel), List.mem_of_getElem? (i := 991) (by decide +kernel), List.mem_of_getElem? (i := 992) (by decide +kernel)⟩
theorem lw_p36 : lw_okq (⟨"PastTreeModel", "isVersion", "(I)Z"⟩, 44) := ⟨⟨by decide +kernel, by decide +kernel⟩, List.mem_of_getElem? (i := 772) (by decide +kernel), List.mem_of_getElem? (i := 999) (by decide +kernel), List.mem_of_getElem? (i := 1000) (by decide +kernel)⟩
theorem lw_p37 : lw_okq (⟨"PastTreeModel", "collect", "(I)V"⟩, 44) := ⟨⟨by decide +kernel, by decide +kernel⟩, List.mem_of_getElem? (i := 772) (by decide +kernel), List.mem_of_getElem? (i := 1011) (by decide +kernel), List.mem_of_getElem? (i := 1012) (by decide +kernel)⟩
theorem lw_p38 : lw_okq (⟨"PastTreeModel", "leaves", "(I)I"⟩, 44) := ⟨⟨by decide +kernel, by decide +kernel⟩, List.mem_of_getElem? (i := 772) (by decide +kernel), List.mem_of_getElem? (i := 1015) (by decide +kernel), List.mem_of_getElem? (i := 1016) (by decide +kernel)⟩
theorem lw_p39 : lw_okq (⟨"PastTreeModel", "isPage", "(I)Z"⟩, 44) := ⟨⟨by decide +kernel, by decide +kernel⟩, List.mem_of_getElem? (i := 772) (by decide +kernel), List.mem_of_getElem? (i := 1039) (by decide +kernel), List.mem_of_getElem? (i := 1040) (by decide +kernel)⟩
theorem lw_p40 : lw_okq (⟨"PastTreeModel", "serves", "(II)Z"⟩, 44) := ⟨⟨by decide +kernel, by decide +kernel⟩, List.mem_of_getElem? (i := 772) (by decide +kernel), List.mem_of_getElem? (i := 1047) (by decide +kernel), List.mem_of_getElem? (i := 1048) (by decide +kernel)⟩
theorem lw_p41 : lw_okq (⟨"PastTreeModel", "aliveIn", "(II)I"⟩, 44) := ⟨⟨by decide +kernel, by decide +kernel⟩, List.mem_of_getElem? (i := 772) (by decide +kernel), List.mem_of_getElem? (i := 1051) (by decide +kernel), List.mem_of_getElem? (i := 1052) (by decide +kernel)⟩
theorem lw_p42 : lw_okq (⟨"PastTreeModel", "writes", "()Z"⟩, 44) := ⟨⟨by decide +kernel, by decide +kernel⟩, List.mem_of_getElem? (i := 772) (by decide +kernel), List.mem_of_getElem? (i := 1075) (by decide +kernel), List.mem_of_getElem? (i := 1076) (by decide +kernel)⟩
theorem lw_p43 : lw_okq (⟨"PastTreeModel", "goDown", "()V"⟩, 44) := ⟨⟨by decide +kernel, by decide +kernel⟩, List.mem_of_getElem? (i := 772) (by decide +kernel), List.mem_of_getElem? (i := 1079) (by decide +kernel), List.mem_of_getElem? (i := 1080) (by decide +kernel)⟩
theorem lw_p44 : lw_okq (⟨"PastTreeModel", "dirtyPages", "()I"⟩, 44) := ⟨⟨by decide +kernel, by decide +kernel⟩, List.mem_of_getElem? (i := 772) (by decide +kernel), List.mem_of_getElem? (i := 1087) (by decide +kernel), List.mem_of_getElem? (i := 1088) (by decide +kernel)⟩
def lw_privs_3 : List (MethodName × Nat) := [(⟨"PastTreeModel", "remake", "(IIZII)V"⟩, 44), (⟨"PastTreeModel", "newPage", "(II)I"⟩, 44), (⟨"PastTreeModel", "record", "(ZIJ)V"⟩, 44), (⟨"PastTreeModel", "isDown", "()Z"⟩, 44), (⟨"PastTreeModel", "isVersion", "(I)Z"⟩, 44), (⟨"PastTreeModel", "collect", "(I)V"⟩, 44), (⟨"PastTreeModel", "leaves", "(I)I"⟩, 44), (⟨"PastTreeModel", "isPage", "(I)Z"⟩, 44), (⟨"PastTreeModel", "serves", "(II)Z"⟩, 44), (⟨"PastTreeModel", "aliveIn", "(II)I"⟩, 44), (⟨"PastTreeModel", "writes", "()Z"⟩, 44), (⟨"PastTreeModel", "goDown", "()V"⟩, 44), (⟨"PastTreeModel", "dirtyPages", "()I"⟩, 44)]
theorem lw_r3 : ∀ q ∈ lw_privs_3, lw_okq q := List.forall_mem_cons.mpr ⟨lw_p32, List.forall_mem_cons.mpr ⟨lw_p33, List.forall_mem_cons.mpr ⟨lw_p34, List.forall_mem_cons.mpr ⟨lw_p35, List.forall_mem_cons.mpr ⟨lw_p36, List.forall_mem_cons.mpr ⟨lw_p37, List.forall_mem_cons.mpr ⟨lw_p38, List.forall_mem_cons.mpr ⟨lw_p39, List.forall_mem_cons.mpr ⟨lw_p40, List.forall_mem_cons.mpr ⟨lw_p41, List.forall_mem_cons.mpr ⟨lw_p42, List.forall_mem_cons.mpr ⟨lw_p43, List.forall_mem_cons.mpr ⟨lw_p44, fun _ h => absurd h List.not_mem_nil⟩⟩⟩⟩⟩⟩⟩⟩⟩⟩⟩⟩⟩
def lw_privs : List (MethodName × Nat) := lw_privs_1 ++ (lw_privs_2 ++ (lw_privs_3))
def lw_tbl : List Cond := k2_sels lw_privs ++ tables_1
theorem lw_privs_ok : ∀ q ∈ lw_privs, lw_okq q := by
  show ∀ q ∈ lw_privs_1 ++ (lw_privs_2 ++ (lw_privs_3)), lw_okq q
  exact List.forall_mem_append.mpr ⟨lw_r1, List.forall_mem_append.mpr ⟨lw_r2, lw_r3⟩⟩
end
section
/-! ===== BEGIN words of one list among another's, by their places ===== -/
theorem goodIn_r {big : List Cond} (ws : List Cond) (ps : List Nat) (hp : ws = ps.filterMap (fun i => big[i]?)) (h : ws.all goodWord = true) : GoodIn big ws := by
  intro w hw
  have h1 := List.all_eq_true.mp h w hw
  rw [hp] at hw
  obtain ⟨i, -, hi⟩ := List.mem_filterMap.mp hw
  have hm : w ∈ big := by first | exact List.mem_of_getElem? hi | exact List.getElem?_mem hi
  exact ⟨hm, good_of_word h1⟩
theorem goodIn_app {big a b : List Cond} (ha : GoodIn big a) (hb : GoodIn big b) : GoodIn big (a ++ b) := fun w h => (List.mem_append.mp h).elim (ha w) (hb w)
theorem goodIn_ca {big a b : List Cond} {c : Cond} (ha : GoodIn big (c :: a)) (hb : GoodIn big b) : GoodIn big (c :: (a ++ b)) := fun w h => (List.mem_cons.mp h).elim (fun e => ha w (List.mem_cons.mpr (Or.inl e))) (fun h => (List.mem_append.mp h).elim (fun h => ha w (List.mem_cons.mpr (Or.inr h))) (hb w))
theorem goodIn_sub {big ws : List Cond} (hm : ∀ w ∈ ws, w ∈ big) (h : ws.all goodWord = true) : GoodIn big ws := fun w hw => ⟨hm w hw, good_of_word (List.all_eq_true.mp h w hw)⟩
/-! ===== END ===== -/

/-! ===== BEGIN exceptions that leave a method, and their catching by the caller (launches without stack traces) ===== -/
section VXA
/-! The laws vx_back, vx_callV, vx_callS, vx_callSW, vx_throw0, vx_throwS follow proofs of the library, with one case more: JvmDerived/Free/Laws.lean (Back.of_free), Shelf42/LK1.lean (callV, callS), Shelf/KitTraced.lean (throwNew0V, throwNewS). -/
/-- where a method has thrown q: the class by its name, the cell, what was written, the world -/
def vx_T (XC : String → State → State → Prop) (st : State) (q : Addr) (t : State) (mc ms : Nat) (free : Addr → Prop) : Prop :=
  ∃ (E : String) (ce : Cell) (L : List Loc), XC E st t ∧ t.heap[q]? = some ce ∧ ce.vm = .none ∧ st.vm.findClass E = some ce.cls ∧ st.WarmedH t.vm ∧ st.sameButNew ({ t with vm := st.vm } : State) L mc ms ∧ ∀ z ∈ L, free z.base
def vx_Q (Qc : Array Value → State → Outcome → State → Prop) (XC : String → State → State → Prop) (mc ms : Nat) (free : Addr → Prop) : Array Value → State → Outcome → State → Prop := fun a st o t =>
  (Qc a st o t ∧ ∃ L, FrameEnd st o t L mc ms ∧ ∀ q ∈ L, free q.base) ∨ ∃ q, o = .threw q ∧ vx_T XC st q t mc ms free
/-- a callee that returns or throws -/
def vx_Met (l : Launch) (y : MethodName) (ws : List Cond) (rm : Room) (Pc : Array Value → State → Prop) (Qc : Array Value → State → Outcome → State → Prop) (XC : String → State → State → Prop) (mc ms : Nat) (free : Addr → Prop) : Prop :=
  MetFree l y (headSpec ws rm) Pc (fun _ _ _ _ _ => True) (vx_Q Qc XC mc ms free)
def vx_Post (XC : String → State → State → Prop) (mc ms : Nat) (free : Addr → Prop) : Pt → Array Value → Addr → Pt → Prop := fun A a q B =>
  ∃ (g : JFrame) (mk : MethodId) (t : State) (L : List Loc) (E : String) (ce : Cell), B.U.heap = t.heap ∧ B.U.vm = t.vm ∧ XC E (A.U.calling g mk a) t ∧ t.heap[q]? = some ce ∧ ce.vm = .none ∧ A.U.vm.findClass E = some ce.cls ∧ B.locs = A.locs ++ L ∧ (∀ z ∈ L, free z.base) ∧ B.cells = A.cells + mc ∧ B.slots = A.slots + ms
def vx_Back (l : Launch) (R : Room) (p : Program) (e : Env) (below : List Frame) (s : State) (sargs : Array Value) (y : MethodName) (len W9 : Nat)
    (Pre : Pt → Array Value → Prop) (Post : Pt → Array Value → Option Value → Pt → Prop) (PostX : Pt → Array Value → Addr → Pt → Prop) : Prop :=
  ∀ (m : MethodId) (meth : Method) (c : Code) (A : Pt) (g : JFrame) (ig : Instr) (mk : MethodId) (a : Array Value),
    Stand p l e R s m sargs below meth c A.U A.locs A.cells A.slots → g.method = m → g.locals.size = c.maxLocals → decode c.code g.pc = .ok (ig, len) →
    2 * g.monitorRoom + (g.stack.map fun v => v.category).sum ≤ W9 → A.U.methodNamed? y = some mk → Pre A a →
    (∃ (v : Option Value) (B : Pt), Stand p l e R s m sargs below meth c B.U B.locs B.cells B.slots ∧ Post A a v B ∧
      Steps p.tables e below (doInvoke e (A.U.setTop g) [] mk a).1 (B.U.setTop { g with pc := g.pc + len, stack := v.toList ++ g.stack })) ∨
    (∃ (q : Addr) (B : Pt), Stand p l e R s m sargs below meth c B.U B.locs B.cells B.slots ∧ PostX A a q B ∧
      Steps p.tables e below (doInvoke e (A.U.setTop g) [] mk a).1 ((B.U.setTop g).pushFrame (.throwing q)))
section Payer
variable {l : Launch} {R : Room} {p : Program} {e : Env} {below : List Frame} {s : State} {sargs : Array Value} {y : MethodName} {len W9 : Nat}
theorem vx_back {ws : List Cond} {rm : Room} {Pc : Array Value → State → Prop} {Qc : Array Value → State → Outcome → State → Prop} {XC : String → State → State → Prop} {mc ms : Nat} {free : Addr → Prop} {bytes : ByteArray} {maxL : Nat} {ret : Option FieldType}
    (hM : vx_Met l y ws rm Pc Qc XC mc ms free) (hblind : FrameBlind Pc) (hrc : rm.cells = mc) (hrs : rm.slots = ms)
    (hframes : rm.frames + 1 ≤ R.frames) (hlocals : W9 + (maxL + 11) + rm.locals ≤ R.locals)
    (hws : ∀ w ∈ ws, ∀ a' U, s.WarmedH U.vm → w.before a' U = true) (hcode : Cond.code y bytes maxL ret ∈ ws) (hinit : ∀ a' U, s.WarmedH U.vm → (Cond.initialized y.cls).before a' U = true) :
    vx_Back l R p e below s sargs y len W9 (PreOf R mc ms Pc) (PostOf Qc mc ms free) (vx_Post XC mc ms free) := by
  intro m meth c A g ig mk a X hg hsize hdg hW hn hp
  have h1 : (headSpec ws rm).pre.before a A.U = true := atoms_intro fun w hw => hws w hw _ _ X.warmed
  have h2 : (Cond.code y bytes maxL ret).before a A.U = true := hws _ hcode _ _ X.warmed
  have h3 : (Cond.initialized y.cls).before a A.U = true := hinit _ _ X.warmed
  have h4 : A.cells + (headSpec ws rm).room.cells ≤ R.cells := by rw [show (headSpec ws rm).room.cells = mc from hrc]; exact hp.1
  have h5 : A.slots + (headSpec ws rm).room.slots ≤ R.slots := by rw [show (headSpec ws rm).room.slots = ms from hrs]; exact hp.2.1
  have hPc : Pc a (A.U.calling g mk a) := hblind _ _ _ _ hp.2.2
  obtain ⟨U, Ls, c0, s0⟩ := A
  dsimp only [Pt.U, Pt.locs, Pt.cells, Pt.slots] at h1 h2 h3 h4 h5 X hn hPc ⊢
  obtain ⟨methY, cY, hmY, hcY, -, hlY, -, -, -, -⟩ := Cond.code_spec hn h2
  obtain ⟨kY, hkY, -⟩ := className_of_methodNamed hn
  have hinitY : kY.init = .initialized := Cond.initialized_spec (findClass_of_methodNamed hn) hkY h3
  have h : At U g.method c below := by rw [hg]; exact X.here
  have hlocals9 : W9 + (maxL + 11) + (headSpec ws rm).room.locals ≤ R.locals := hlocals
  have happ : (headSpec ws rm).appliesLoose y e.platform (U.calling g mk a) = true :=
    Spec.appliesLoose_calling (g := g) h hdg hn hkY hinitY
      (X.room_calling (g := g) (R' := (headSpec ws rm).room) hsize hmY hcY hframes (by rw [hlY]; omega) h4 h5) h1
  obtain ⟨mid, hmid⟩ := h.above
  have hfr : (U.setTop g).frames = (.java g :: mid) ++ below := by rw [State.frames_setTop' g h.top, hmid]; rfl
  obtain ⟨o, s₂, hsteps, -, hend, hq⟩ := Steps.callFree hM p X.admits X.cas X.clock (acts := []) hfr happ hPc trivial
  have hq' : vx_Q Qc XC mc ms free a (U.calling g mk a) o s₂ := hq
  rw [State.frames_setTop' g h.top] at hend
  obtain ⟨g₀, hg0⟩ := Option.isSome_iff_exists.mp h.top
  obtain ⟨r, hr⟩ := State.topJava?_eq_some.mp hg0
  have hr' : (({ U with heap := s₂.heap, slotsUsed := s₂.slotsUsed } : State).setVm s₂.vm).frames = .java g₀ :: r := hr
  rcases hq' with ⟨hqc, L, hfe, hL⟩ | ⟨q, rfl, E, ce, L, hx, hce, hcv, hcl, hW₂, hsm, hL⟩
  · obtain ⟨⟨v, rfl⟩, hW₂, e2, q2, q3, q4, q5, q6⟩ := id hfe
    have e3 : s₂ = ({ (U.calling g mk a).setFrames s₂.frames with heap := s₂.heap, slotsUsed := s₂.slotsUsed } : State).setVm s₂.vm := by
      have : s₂ = ({ s₂ with vm := (U.calling g mk a).vm } : State).setVm s₂.vm := rfl
      rw [e2] at this
      exact this
    obtain ⟨c₂, i₂, len₂, hc₂, hd₂, hf₂⟩ := hend
    have hW' : U.WarmedH s₂.vm := hW₂
    have hcc : c₂ = c := by
      have h1 : s₂.code? g.method = U.code? g.method := by
        rw [State.code?_eq, State.code?_eq, hW'.alike.method?]
      exact Option.some.inj (hc₂.symm.trans (h1.trans h.code))
    subst hcc
    have hlen : len₂ = len := by rw [hdg] at hd₂; cases hd₂; rfl
    subst hlen
    have hs₂ : s₂ = (({ U with heap := s₂.heap, slotsUsed := s₂.slotsUsed } : State).setVm s₂.vm).setTop { g with pc := g.pc + len₂, stack := v.toList ++ g.stack } := by
      refine e3.trans ?_
      rw [hf₂, State.calling_eq h.top, State.setFrames_setFrames, State.setTop_of_frames _ hr', hr]
      rfl
    have hsame : U.sameButNew ({ U with heap := s₂.heap, slotsUsed := s₂.slotsUsed } : State) L mc ms := by
      refine ⟨?_, q2, q3, q4, q5, q6⟩
      obtain ⟨t, ht, -⟩ := State.frames_cons hr
      show ({ U with heap := s₂.heap, slotsUsed := s₂.slotsUsed } : State) = { U.setFrames U.frames with heap := s₂.heap, slotsUsed := s₂.slotsUsed }
      rw [State.setFrames_self ht]
    subst hg
    refine Or.inl ⟨v, ⟨(({ U with heap := s₂.heap, slotsUsed := s₂.slotsUsed } : State).setVm s₂.vm), Ls ++ L, c0 + mc, s0 + ms⟩,
      ⟨X.admits, X.cas, X.clock, X.frames, X.room, X.hears, X.method, X.code, (X.here.setHeapUsed s₂.heap s₂.slotsUsed).setVm hW'.alike, X.tail, State.WarmedH.trans X.warmed hW', X.limits, X.bytes, X.same.trans (hsame.setVm s.vm)⟩,
      ⟨g, mk, s₂, L, rfl, rfl, hqc, rfl, hL, rfl, rfl⟩, ?_⟩
    show Steps p.tables e below _ ((({ U with heap := s₂.heap, slotsUsed := s₂.slotsUsed } : State).setVm s₂.vm).setTop { g with pc := g.pc + len₂, stack := v.toList ++ g.stack })
    rw [← hs₂]
    exact hsteps
  · obtain ⟨e2, q2, q3, q4, q5, q6⟩ := id hsm
    have e3 : s₂ = ({ (U.calling g mk a).setFrames s₂.frames with heap := s₂.heap, slotsUsed := s₂.slotsUsed } : State).setVm s₂.vm := by
      have : s₂ = ({ s₂ with vm := (U.calling g mk a).vm } : State).setVm s₂.vm := rfl
      rw [e2] at this
      exact this
    have hf₂ : s₂.frames = .throwing q :: .java g :: U.frames.tail := hend
    have hW' : U.WarmedH s₂.vm := hW₂
    have hs₂ : s₂ = ((({ U with heap := s₂.heap, slotsUsed := s₂.slotsUsed } : State).setVm s₂.vm).setTop g).pushFrame (.throwing q) := by
      refine e3.trans ?_
      rw [hf₂, State.calling_eq h.top, State.setFrames_setFrames, State.pushFrame, State.frames_setTop _ hr', State.setTop_of_frames _ hr', State.setFrames_setFrames, hr]
      rfl
    have hsame : U.sameButNew ({ U with heap := s₂.heap, slotsUsed := s₂.slotsUsed } : State) L mc ms := by
      refine ⟨?_, q2, q3, q4, q5, q6⟩
      obtain ⟨t, ht, -⟩ := State.frames_cons hr
      show ({ U with heap := s₂.heap, slotsUsed := s₂.slotsUsed } : State) = { U.setFrames U.frames with heap := s₂.heap, slotsUsed := s₂.slotsUsed }
      rw [State.setFrames_self ht]
    subst hg
    refine Or.inr ⟨q, ⟨(({ U with heap := s₂.heap, slotsUsed := s₂.slotsUsed } : State).setVm s₂.vm), Ls ++ L, c0 + mc, s0 + ms⟩,
      ⟨X.admits, X.cas, X.clock, X.frames, X.room, X.hears, X.method, X.code, (X.here.setHeapUsed s₂.heap s₂.slotsUsed).setVm hW'.alike, X.tail, State.WarmedH.trans X.warmed hW', X.limits, X.bytes, X.same.trans (hsame.setVm s.vm)⟩,
      ⟨g, mk, s₂, L, E, ce, rfl, rfl, hx, hce, hcv, hcl, rfl, hL, rfl, rfl⟩, ?_⟩
    show Steps p.tables e below _ (((({ U with heap := s₂.heap, slotsUsed := s₂.slotsUsed } : State).setVm s₂.vm).setTop g).pushFrame (.throwing q))
    rw [← hs₂]
    exact hsteps
end Payer
section Calls
variable {p : Program} {l : Launch} {e : Env} {R : Room} {s : State} {m : MethodId} {args : Array Value} {below : List Frame} {meth : Method} {c : Code} {T : State} {locs : List Loc} {cells slots : Nat}
theorem vx_callV (X : Stand p l e R s m args below meth c T locs cells slots) (hexec : p.tables.exec = Jvm.exec) {own C : String} {index : Nat} {y : MethodName} {bytes : ByteArray} {maxL : Nat} {ret : Option FieldType}
    (hown : s.vm.findClass own = some m.cls) (hlink : (Cond.methodLink own index y).before args s = true) (hinst : (Cond.instanceMethod y).before args s = true) (hsel : (Cond.selects C y y).before args s = true)
    (hcode : (Cond.code y bytes maxL ret).before args s = true) (hy : y.cls ≠ "java/lang/invoke/MethodHandle" ∧ y.cls ≠ "java/lang/invoke/VarHandle")
    {W9 : Nat} {Pre : Pt → Array Value → Prop} {Post : Pt → Array Value → Option Value → Pt → Prop} {PostX : Pt → Array Value → Addr → Pt → Prop} (hK : vx_Back l R p e below s args y 3 W9 Pre Post PostX)
    {b : Addr} {cellB : Cell} (hcell : T.heap[b]? = some cellB) (hobj : cellB.vm.isStatics = false) (hcls : s.vm.findClass C = some cellB.cls)
    {g : JFrame} (hg : g.method = m) (hsize : g.locals.size = c.maxLocals) {argsL rest : List Value} (hlen : ∀ sig, parseMethodDescriptor y.desc = some sig → argsL.length = sig.parameters.length)
    (hstack : g.stack = argsL.reverse ++ .ref b :: rest) (hW : 2 * g.monitorRoom + (rest.map fun v => v.category).sum ≤ W9) (hdg : decode c.code g.pc = .ok (.invokevirtual index, 3))
    (hpre : ∀ vm₁, s.WarmedH vm₁ → Pre ⟨T.setVm vm₁, locs, cells, slots⟩ (Value.ref b :: argsL).toArray) :
    (∃ (v : Option Value) (vm₁ : Vm) (B : Pt), s.WarmedH vm₁ ∧ Stand p l e R s m args below meth c B.U B.locs B.cells B.slots ∧ Post ⟨T.setVm vm₁, locs, cells, slots⟩ (Value.ref b :: argsL).toArray v B ∧
      ∀ target, Steps p.tables e below (B.U.setTop { g with pc := g.pc + 3, stack := v.toList ++ rest }) target → Steps p.tables e below (T.setTop g) target) ∨
    (∃ (q : Addr) (vm₁ : Vm) (B : Pt), s.WarmedH vm₁ ∧ Stand p l e R s m args below meth c B.U B.locs B.cells B.slots ∧ PostX ⟨T.setVm vm₁, locs, cells, slots⟩ (Value.ref b :: argsL).toArray q B ∧
      Steps p.tables e below (T.setTop g) ((B.U.setTop { g with stack := rest }).pushFrame (.throwing q))) := by
  obtain ⟨mk, methM, hnamed, hmethM, hstM, habM⟩ := Cond.instanceMethod_spec hinst
  obtain ⟨methM', cM, hmethM', -, -, -, -, -, -, hsigM⟩ := Cond.code_spec hnamed hcode
  cases hmethM.symm.trans hmethM'
  obtain ⟨c2, r2, m2, q1, q2, q3, q4, kP, hkP, hkPi⟩ := Cond.selects_spec hsel
  cases hcls.symm.trans q1
  cases (State.methodFound?_of_named hnamed hy).symm.trans q2
  cases hnamed.symm.trans q3
  have hselP : selectMethod e.platform s.vm cellB.cls mk = .method mk := by rw [Launch.admits_selectMethod X.admits]; exact q4
  obtain ⟨vm₁, X₁, hstep₁⟩ := X.invokevirtual hexec hown hlink hnamed hmethM hstM hkP hkPi hy (a := b) (cell := cellB) hcell
    (fun z h => by rw [h] at hobj; cases hobj) hselP hmethM habM hkP hkPi (g := g) hg (argsL := argsL) (rest := rest) (hlen _ hsigM) hstack hdg
  rcases hK m meth c ⟨T.setVm vm₁, locs, cells, slots⟩ { g with stack := rest } (.invokevirtual index) mk (Value.ref b :: argsL).toArray X₁ hg hsize hdg hW (X₁.named hnamed) (hpre vm₁ X₁.warmed) with ⟨v, B, X', hpost, hsteps⟩ | ⟨q, B, X', hpost, hsteps⟩
  · exact Or.inl ⟨v, vm₁, B, X₁.warmed, X', hpost, fun target h => hstep₁ _ fun acts => by rw [doInvoke_state]; exact hsteps.trans h⟩
  · exact Or.inr ⟨q, vm₁, B, X₁.warmed, X', hpost, hstep₁ _ fun acts => by rw [doInvoke_state]; exact hsteps⟩
theorem vx_callS (X : Stand p l e R s m args below meth c T locs cells slots) (hexec : p.tables.exec = Jvm.exec) {own : String} {index : Nat} {y : MethodName} {bytes : ByteArray} {maxL : Nat} {ret : Option FieldType}
    (hown : s.vm.findClass own = some m.cls) (hlink : (Cond.methodLink own index y).before args s = true) (hstat : (Cond.static y).before args s = true) (hinit : (Cond.initialized y.cls).before args s = true)
    (hcode : (Cond.code y bytes maxL ret).before args s = true) (hy : y.cls ≠ "java/lang/invoke/MethodHandle" ∧ y.cls ≠ "java/lang/invoke/VarHandle")
    {W9 : Nat} {Pre : Pt → Array Value → Prop} {Post : Pt → Array Value → Option Value → Pt → Prop} {PostX : Pt → Array Value → Addr → Pt → Prop} (hK : vx_Back l R p e below s args y 3 W9 Pre Post PostX)
    {g : JFrame} (hg : g.method = m) (hsize : g.locals.size = c.maxLocals) {argsL rest : List Value} (hlen : ∀ sig, parseMethodDescriptor y.desc = some sig → argsL.length = sig.parameters.length)
    (hstack : g.stack = argsL.reverse ++ rest) (hW : 2 * g.monitorRoom + (rest.map fun v => v.category).sum ≤ W9) (hdg : decode c.code g.pc = .ok (.invokestatic index, 3))
    (hpre : ∀ vm₁, s.WarmedH vm₁ → Pre ⟨T.setVm vm₁, locs, cells, slots⟩ argsL.toArray) :
    (∃ (v : Option Value) (vm₁ : Vm) (B : Pt), s.WarmedH vm₁ ∧ Stand p l e R s m args below meth c B.U B.locs B.cells B.slots ∧ Post ⟨T.setVm vm₁, locs, cells, slots⟩ argsL.toArray v B ∧
      ∀ target, Steps p.tables e below (B.U.setTop { g with pc := g.pc + 3, stack := v.toList ++ rest }) target → Steps p.tables e below (T.setTop g) target) ∨
    (∃ (q : Addr) (vm₁ : Vm) (B : Pt), s.WarmedH vm₁ ∧ Stand p l e R s m args below meth c B.U B.locs B.cells B.slots ∧ PostX ⟨T.setVm vm₁, locs, cells, slots⟩ argsL.toArray q B ∧
      Steps p.tables e below (T.setTop g) ((B.U.setTop { g with stack := rest }).pushFrame (.throwing q))) := by
  obtain ⟨mk, hnamed⟩ := Cond.code_named hcode
  obtain ⟨methM, cM, hmethM, -, -, -, -, -, -, hsigM⟩ := Cond.code_spec hnamed hcode
  have hstatic : methM.isStatic = true := Cond.static_spec hnamed hmethM hstat
  obtain ⟨kP, hkP, -⟩ := className_of_methodNamed hnamed
  have hinitP : kP.init = .initialized := Cond.initialized_spec (findClass_of_methodNamed hnamed) hkP hinit
  obtain ⟨vm₁, X₁, hstep₁⟩ := X.invokestatic hexec hown hlink hnamed hmethM hstatic hkP hinitP hy (g := g) hg (argsL := argsL) (rest := rest) (hlen _ hsigM) hstack hdg
  rcases hK m meth c ⟨T.setVm vm₁, locs, cells, slots⟩ { g with stack := rest } (.invokestatic index) mk argsL.toArray X₁ hg hsize hdg hW (X₁.named hnamed) (hpre vm₁ X₁.warmed) with ⟨v, B, X', hpost, hsteps⟩ | ⟨q, B, X', hpost, hsteps⟩
  · exact Or.inl ⟨v, vm₁, B, X₁.warmed, X', hpost, fun target h => hstep₁ _ fun acts => by rw [doInvoke_state]; exact hsteps.trans h⟩
  · exact Or.inr ⟨q, vm₁, B, X₁.warmed, X', hpost, hstep₁ _ fun acts => by rw [doInvoke_state]; exact hsteps⟩
end Calls
theorem vx_cls {s : State} {T : State} {vm₁ : Vm} {E : String} {k : ClassId} (hW : s.WarmedH vm₁) (h : (T.setVm vm₁).vm.findClass E = some k) : s.vm.findClass E = some k := by
  have h1 : vm₁.findClass E = some k := h
  rw [hW.alike.findClass] at h1
  exact h1
/-- the method's frame g, with q thrown over it -/
def vx_W (p : Program) (l : Launch) (e : Env) (R : Room) (s : State) (m : MethodId) (args : Array Value) (below : List Frame) (meth : Method) (c : Code) (H : Heap) (locs : List Loc) (cells slots : Nat) (Q : State → Prop) (g : JFrame) (q : Addr) : Prop :=
  ∀ T : State, T.heap = H → Stand p l e R s m args below meth c T locs cells slots → ∃ t, Steps p.tables e below ((T.setTop g).pushFrame (.throwing q)) t ∧ Q t
def vx_Run (p : Program) (l : Launch) (e : Env) (R : Room) (s : State) (m : MethodId) (args : Array Value) (below : List Frame) (meth : Method) (c : Code) (H : Heap) (locs : List Loc) (cells slots mc ms : Nat) (g : JFrame) (rest : List Value) (Qa : State → Outcome → State → Prop) (XC : String → State → State → Prop) (free : Addr → Prop) : Prop :=
  ∀ T : State, T.heap = H → Stand p l e R s m args below meth c T locs cells slots →
    (∃ (v : Option Value) (st₀ t T' : State) (L : List Loc), st₀.heap = H ∧ Stand p l e R s m args below meth c T' (locs ++ L) (cells + mc) (slots + ms) ∧ (∀ q ∈ L, free q.base) ∧ T'.heap = t.heap ∧ T'.vm = t.vm ∧ Qa st₀ (.returned v) t ∧
      Goes p e below T g T' { g with pc := g.pc + 3, stack := v.toList ++ rest }) ∨
    (∃ (q : Addr) (st₀ t T' : State) (L : List Loc) (E : String) (ce : Cell), st₀.heap = H ∧ Stand p l e R s m args below meth c T' (locs ++ L) (cells + mc) (slots + ms) ∧ (∀ z ∈ L, free z.base) ∧ T'.heap = t.heap ∧ T'.vm = t.vm ∧ XC E st₀ t ∧ t.heap[q]? = some ce ∧ ce.vm = .none ∧ s.vm.findClass E = some ce.cls ∧
      Steps p.tables e below (T.setTop g) ((T'.setTop { g with stack := rest }).pushFrame (.throwing q)))
def vx_X {S : Type} (px : S → Prop) (B : String → S → State → Prop) (A : Nat → Prop) : String → State → State → Prop := fun E st t => ∃ u : S, px u ∧ B E u t ∧ va_F A st t
section Runs
variable {p : Program} {l : Launch} {e : Env} {R : Room} {s : State} {m : MethodId} {args : Array Value} {below : List Frame} {meth : Method} {c : Code} {H : Heap} {locs : List Loc} {cells slots : Nat}
variable {y : MethodName} {bytes cc : ByteArray} {maxL nL mc ms n index : Nat} {ret : Option FieldType} {ws : List Cond} {rm : Room} {Pc : Array Value → State → Prop} {Qc : Array Value → State → Outcome → State → Prop} {XC : String → State → State → Prop} {free : Addr → Prop} {Ts : List Cond} {own C : String} {b : Addr} {As rest : List Value} {g : JFrame}
theorem vx_callBack (cb : CallB R s args own index y bytes maxL ret ws rm mc ms n) (hM : vx_Met l y ws rm Pc Qc XC mc ms free) (hbl : FrameBlind Pc) : vx_Back l R p e below s args y 3 8 (PreOf R mc ms Pc) (PostOf Qc mc ms free) (vx_Post XC mc ms free) := by
  obtain ⟨hrc, hrs, hfr, hlo, hws, hcw, -, hini, -⟩ := cb
  exact vx_back (bytes := bytes) (maxL := maxL) (ret := ret) hM hbl hrc hrs hfr hlo hws hcw (fun a' U hW => word_at hW (Or.inl (by first | rfl | simp [Cond.onTables, Cond.keeps, Cond.steady])) hini)
theorem vx_runV (S : CallFix p m c cc nL s args Ts own) (hM : vx_Met l y ws rm Pc Qc XC mc ms free) (cw : CallW R s args own C index y bytes maxL ret ws rm mc ms n) (hp : PreV s H C b Pc As)
    (hg : g.method = m) (hn : As.length = n) (hsize : g.locals.size = nL) (hstack : g.stack = As.reverse ++ .ref b :: rest) (hW : 2 * g.monitorRoom + (rest.map fun v => v.category).sum ≤ 8) (hdg : decode cc g.pc = .ok (.invokevirtual index, 3)) (hf : cells + mc ≤ R.cells ∧ slots + ms ≤ R.slots) :
    vx_Run p l e R s m args below meth c H locs cells slots mc ms g rest (Qc (Value.ref b :: As).toArray) XC free := by
  have hK : vx_Back l R p e below s args y 3 8 (PreOf R mc ms Pc) (PostOf Qc mc ms free) (vx_Post XC mc ms free) := vx_callBack cw.1 hM hp.1
  obtain ⟨⟨-, -, -, -, -, -, hcode, -, hy, hlen, hl⟩, hin, hse⟩ := cw
  obtain ⟨hx, hb, hml, ho, -⟩ := S
  obtain ⟨-, ⟨cellB, hcB, hoB, hclB⟩, hPc⟩ := hp
  intro T hT X
  rcases vx_callV X hx (C := C) (bytes := bytes) (maxL := maxL) (ret := ret) ho hl hin hse hcode hy hK (by rw [hT]; exact hcB) hoB hclB hg (hsize.trans hml.symm) (argsL := As) (rest := rest) (fun sig h => hn.trans (hlen sig h)) hstack hW (by rw [hb]; exact hdg)
    (fun vm₁ hW₁ => ⟨hf.1, hf.2, hPc (T.setVm vm₁) hT hW₁⟩) with ⟨v, vm₁, ⟨U', l2, c2, s2⟩, hW₁, X', ⟨g', mk, t, L, e1, e2, hq, h1, hL, h2, h3⟩, st⟩ | ⟨q, vm₁, ⟨U', l2, c2, s2⟩, hW₁, X', ⟨g', mk, t, L, E, ce, e1, e2, hq, hce, hcv, hcl, h1, hL, h2, h3⟩, st⟩
  · dsimp only [Pt.U, Pt.locs, Pt.cells, Pt.slots] at X' e1 e2 h1 h2 h3 st
    subst h1; subst h2; subst h3
    exact Or.inl ⟨v, (T.setVm vm₁).calling g' mk (Value.ref b :: As).toArray, t, U', L, hT, X', hL, e1, e2, hq, st⟩
  · dsimp only [Pt.U, Pt.locs, Pt.cells, Pt.slots] at X' e1 e2 h1 h2 h3 st hcl
    subst h1; subst h2; subst h3
    exact Or.inr ⟨q, (T.setVm vm₁).calling g' mk (Value.ref b :: As).toArray, t, U', L, E, ce, hT, X', hL, e1, e2, hq, hce, hcv, vx_cls hW₁ hcl, st⟩
theorem vx_runS (S : CallFix p m c cc nL s args Ts own) (hM : vx_Met l y ws rm Pc Qc XC mc ms free) (cw : CallB R s args own index y bytes maxL ret ws rm mc ms n ∧ (Cond.static y).before args s = true) (hp : PreS s H Pc As)
    (hg : g.method = m) (hn : As.length = n) (hsize : g.locals.size = nL) (hstack : g.stack = As.reverse ++ rest) (hW : 2 * g.monitorRoom + (rest.map fun v => v.category).sum ≤ 8) (hdg : decode cc g.pc = .ok (.invokestatic index, 3)) (hf : cells + mc ≤ R.cells ∧ slots + ms ≤ R.slots) :
    vx_Run p l e R s m args below meth c H locs cells slots mc ms g rest (Qc As.toArray) XC free := by
  have hK : vx_Back l R p e below s args y 3 8 (PreOf R mc ms Pc) (PostOf Qc mc ms free) (vx_Post XC mc ms free) := vx_callBack cw.1 hM hp.1
  obtain ⟨⟨-, -, -, -, -, -, hcode, hini, hy, hlen, hl⟩, hstt⟩ := cw
  obtain ⟨hx, hb, hml, ho, -⟩ := S
  intro T hT X
  rcases vx_callS X hx (bytes := bytes) (maxL := maxL) (ret := ret) ho hl hstt hini hcode hy hK hg (hsize.trans hml.symm) (argsL := As) (rest := rest) (fun sig h => hn.trans (hlen sig h)) hstack hW (by rw [hb]; exact hdg)
    (fun vm₁ hW₁ => ⟨hf.1, hf.2, hp.2 (T.setVm vm₁) hT hW₁⟩) with ⟨v, vm₁, ⟨U', l2, c2, s2⟩, hW₁, X', ⟨g', mk, t, L, e1, e2, hq, h1, hL, h2, h3⟩, st⟩ | ⟨q, vm₁, ⟨U', l2, c2, s2⟩, hW₁, X', ⟨g', mk, t, L, E, ce, e1, e2, hq, hce, hcv, hcl, h1, hL, h2, h3⟩, st⟩
  · dsimp only [Pt.U, Pt.locs, Pt.cells, Pt.slots] at X' e1 e2 h1 h2 h3 st
    subst h1; subst h2; subst h3
    exact Or.inl ⟨v, (T.setVm vm₁).calling g' mk As.toArray, t, U', L, hT, X', hL, e1, e2, hq, st⟩
  · dsimp only [Pt.U, Pt.locs, Pt.cells, Pt.slots] at X' e1 e2 h1 h2 h3 st hcl
    subst h1; subst h2; subst h3
    exact Or.inr ⟨q, (T.setVm vm₁).calling g' mk As.toArray, t, U', L, E, ce, hT, X', hL, e1, e2, hq, hce, hcv, vx_cls hW₁ hcl, st⟩
end Runs
section Rows
variable {p : Program} {l : Launch} {e : Env} {R : Room} {s : State} {m : MethodId} {args : Array Value} {below : List Frame} {meth : Method} {c : Code} {H : Heap} {locs : List Loc} {cells slots : Nat} {Q : State → Prop}
variable {mc ms : Nat} {free : Addr → Prop} {A0 A1 : Nat → Prop} {H0 : Heap} {a : Array Value} {pc : Nat} {ls : Array Slot} {st0 rest : List Value}
theorem vx_keep {st₀ t T' : State} {L : List Loc} (h0 : st₀.heap = H) (e1 : T'.heap = t.heap) (hS : va_S A0 H0 H locs) (hA : ∀ q, q < H.size → A1 q → A0 q) (hf : ∀ q, free q → A0 q) (hL : ∀ q ∈ L, free q.base) (hF : va_F A1 st₀ t) :
    H.size ≤ T'.heap.size ∧ (∀ q : Nat, q < H.size → ¬ A1 q → T'.heap[q]? = H[q]?) ∧ va_S A0 H0 T'.heap (locs ++ L) := by
  obtain ⟨hz, hk⟩ := hF
  rw [h0] at hz hk
  exact ⟨by rw [e1]; exact hz, fun q h1 h2 => by rw [e1]; exact hk q h1 h2,
    ⟨Nat.le_trans hS.1 (by rw [e1]; exact hz), fun q h1 h2 => by rw [e1, hk q (Nat.lt_of_lt_of_le h1 hS.1) (fun z => h2 (hA q (Nat.lt_of_lt_of_le h1 hS.1) z))]; exact hS.2.1 q h1 h2, fun q hq => by
      rcases List.mem_append.mp hq with h | h
      · exact hS.2.2 q h
      · exact hf _ (hL q h)⟩⟩
theorem vx_calli {S SX : Type} {post : Int32 → S → Prop} {px : SX → Prop} {B : S → State → Prop} {BX : String → SX → State → Prop} {AX : Nat → Prop} (hr : vx_Run p l e R s m args below meth c H locs cells slots mc ms (F0 m pc ls st0) rest (va_Qi post B A1 a) (vx_X px BX AX) free) (hS : va_S A0 H0 H locs) (hA : ∀ q, q < H.size → A1 q → A0 q) (hf : ∀ q, free q → A0 q) (hAX : ∀ q, q < H.size → AX q → A0 q)
    (kx : ∀ (E : String) (ce : Cell) (q9 : Addr) (u : SX) (t : State) (H1 : Heap) (locs1 : List Loc), t.heap = H1 → s.vm.Alike t.vm → px u → BX E u t → H.size ≤ H1.size → (∀ q : Nat, q < H.size → ¬ AX q → H1[q]? = H[q]?) → va_S A0 H0 H1 locs1 → H1[q9]? = some ce → ce.vm = .none → s.vm.findClass E = some ce.cls → vx_W p l e R s m args below meth c H1 locs1 (cells + mc) (slots + ms) Q (F0 m pc ls rest) q9)
    (kk : ∀ (r : Int32) (u : S) (t : State) (H1 : Heap) (locs1 : List Loc), t.heap = H1 → s.vm.Alike t.vm → post r u → B u t → H.size ≤ H1.size → (∀ q : Nat, q < H.size → ¬ A1 q → H1[q]? = H[q]?) → va_S A0 H0 H1 locs1 → W p l e R s m args below meth c H1 locs1 (cells + mc) (slots + ms) Q (F0 m (pc + 3) ls (.int r :: rest))) : W p l e R s m args below meth c H locs cells slots Q (F0 m pc ls st0) := by
  intro T hT X
  rcases hr T hT X with ⟨v, st₀, t, T', L, h0, X', hL, e1, e2, ⟨⟨r, u, hv, hp, hb⟩, hF⟩, st⟩ | ⟨q, st₀, t, T', L, E, ce, h0, X', hL, e1, e2, ⟨u, hp, hb, hF⟩, hce, hcv, hcl, st⟩
  · cases hv
    obtain ⟨k1, k2, k3⟩ := vx_keep h0 e1 hS hA hf hL hF
    obtain ⟨t2, a1, b1⟩ := kk r u t T'.heap (locs ++ L) e1.symm (by rw [← e2]; exact X'.warmed.alike) hp hb k1 k2 k3 T' rfl X'
    exact ⟨t2, st t2 a1, b1⟩
  · obtain ⟨k1, k2, k3⟩ := vx_keep h0 e1 hS hAX hf hL hF
    obtain ⟨t2, a1, b1⟩ := kx E ce q u t T'.heap (locs ++ L) e1.symm (by rw [← e2]; exact X'.warmed.alike) hp hb k1 k2 k3 (by rw [e1]; exact hce) hcv hcl T' rfl X'
    exact ⟨t2, st.trans a1, b1⟩
theorem vx_calll {S SX : Type} {post : Int64 → S → Prop} {px : SX → Prop} {B : S → State → Prop} {BX : String → SX → State → Prop} {AX : Nat → Prop} (hr : vx_Run p l e R s m args below meth c H locs cells slots mc ms (F0 m pc ls st0) rest (va_Ql post B A1 a) (vx_X px BX AX) free) (hS : va_S A0 H0 H locs) (hA : ∀ q, q < H.size → A1 q → A0 q) (hf : ∀ q, free q → A0 q) (hAX : ∀ q, q < H.size → AX q → A0 q)
    (kx : ∀ (E : String) (ce : Cell) (q9 : Addr) (u : SX) (t : State) (H1 : Heap) (locs1 : List Loc), t.heap = H1 → s.vm.Alike t.vm → px u → BX E u t → H.size ≤ H1.size → (∀ q : Nat, q < H.size → ¬ AX q → H1[q]? = H[q]?) → va_S A0 H0 H1 locs1 → H1[q9]? = some ce → ce.vm = .none → s.vm.findClass E = some ce.cls → vx_W p l e R s m args below meth c H1 locs1 (cells + mc) (slots + ms) Q (F0 m pc ls rest) q9)
    (kk : ∀ (r : Int64) (u : S) (t : State) (H1 : Heap) (locs1 : List Loc), t.heap = H1 → s.vm.Alike t.vm → post r u → B u t → H.size ≤ H1.size → (∀ q : Nat, q < H.size → ¬ A1 q → H1[q]? = H[q]?) → va_S A0 H0 H1 locs1 → W p l e R s m args below meth c H1 locs1 (cells + mc) (slots + ms) Q (F0 m (pc + 3) ls (.long r :: rest))) : W p l e R s m args below meth c H locs cells slots Q (F0 m pc ls st0) := by
  intro T hT X
  rcases hr T hT X with ⟨v, st₀, t, T', L, h0, X', hL, e1, e2, ⟨⟨r, u, hv, hp, hb⟩, hF⟩, st⟩ | ⟨q, st₀, t, T', L, E, ce, h0, X', hL, e1, e2, ⟨u, hp, hb, hF⟩, hce, hcv, hcl, st⟩
  · cases hv
    obtain ⟨k1, k2, k3⟩ := vx_keep h0 e1 hS hA hf hL hF
    obtain ⟨t2, a1, b1⟩ := kk r u t T'.heap (locs ++ L) e1.symm (by rw [← e2]; exact X'.warmed.alike) hp hb k1 k2 k3 T' rfl X'
    exact ⟨t2, st t2 a1, b1⟩
  · obtain ⟨k1, k2, k3⟩ := vx_keep h0 e1 hS hAX hf hL hF
    obtain ⟨t2, a1, b1⟩ := kx E ce q u t T'.heap (locs ++ L) e1.symm (by rw [← e2]; exact X'.warmed.alike) hp hb k1 k2 k3 (by rw [e1]; exact hce) hcv hcl T' rfl X'
    exact ⟨t2, st.trans a1, b1⟩
theorem vx_callf {S SX : Type} {post : UInt32 → S → Prop} {px : SX → Prop} {B : S → State → Prop} {BX : String → SX → State → Prop} {AX : Nat → Prop} (hr : vx_Run p l e R s m args below meth c H locs cells slots mc ms (F0 m pc ls st0) rest (va_Qf post B A1 a) (vx_X px BX AX) free) (hS : va_S A0 H0 H locs) (hA : ∀ q, q < H.size → A1 q → A0 q) (hf : ∀ q, free q → A0 q) (hAX : ∀ q, q < H.size → AX q → A0 q)
    (kx : ∀ (E : String) (ce : Cell) (q9 : Addr) (u : SX) (t : State) (H1 : Heap) (locs1 : List Loc), t.heap = H1 → s.vm.Alike t.vm → px u → BX E u t → H.size ≤ H1.size → (∀ q : Nat, q < H.size → ¬ AX q → H1[q]? = H[q]?) → va_S A0 H0 H1 locs1 → H1[q9]? = some ce → ce.vm = .none → s.vm.findClass E = some ce.cls → vx_W p l e R s m args below meth c H1 locs1 (cells + mc) (slots + ms) Q (F0 m pc ls rest) q9)
    (kk : ∀ (r : UInt32) (u : S) (t : State) (H1 : Heap) (locs1 : List Loc), t.heap = H1 → s.vm.Alike t.vm → post r u → B u t → H.size ≤ H1.size → (∀ q : Nat, q < H.size → ¬ A1 q → H1[q]? = H[q]?) → va_S A0 H0 H1 locs1 → W p l e R s m args below meth c H1 locs1 (cells + mc) (slots + ms) Q (F0 m (pc + 3) ls (.float r :: rest))) : W p l e R s m args below meth c H locs cells slots Q (F0 m pc ls st0) := by
  intro T hT X
  rcases hr T hT X with ⟨v, st₀, t, T', L, h0, X', hL, e1, e2, ⟨⟨r, u, hv, hp, hb⟩, hF⟩, st⟩ | ⟨q, st₀, t, T', L, E, ce, h0, X', hL, e1, e2, ⟨u, hp, hb, hF⟩, hce, hcv, hcl, st⟩
  · cases hv
    obtain ⟨k1, k2, k3⟩ := vx_keep h0 e1 hS hA hf hL hF
    obtain ⟨t2, a1, b1⟩ := kk r u t T'.heap (locs ++ L) e1.symm (by rw [← e2]; exact X'.warmed.alike) hp hb k1 k2 k3 T' rfl X'
    exact ⟨t2, st t2 a1, b1⟩
  · obtain ⟨k1, k2, k3⟩ := vx_keep h0 e1 hS hAX hf hL hF
    obtain ⟨t2, a1, b1⟩ := kx E ce q u t T'.heap (locs ++ L) e1.symm (by rw [← e2]; exact X'.warmed.alike) hp hb k1 k2 k3 (by rw [e1]; exact hce) hcv hcl T' rfl X'
    exact ⟨t2, st.trans a1, b1⟩
theorem vx_calld {S SX : Type} {post : UInt64 → S → Prop} {px : SX → Prop} {B : S → State → Prop} {BX : String → SX → State → Prop} {AX : Nat → Prop} (hr : vx_Run p l e R s m args below meth c H locs cells slots mc ms (F0 m pc ls st0) rest (va_Qd post B A1 a) (vx_X px BX AX) free) (hS : va_S A0 H0 H locs) (hA : ∀ q, q < H.size → A1 q → A0 q) (hf : ∀ q, free q → A0 q) (hAX : ∀ q, q < H.size → AX q → A0 q)
    (kx : ∀ (E : String) (ce : Cell) (q9 : Addr) (u : SX) (t : State) (H1 : Heap) (locs1 : List Loc), t.heap = H1 → s.vm.Alike t.vm → px u → BX E u t → H.size ≤ H1.size → (∀ q : Nat, q < H.size → ¬ AX q → H1[q]? = H[q]?) → va_S A0 H0 H1 locs1 → H1[q9]? = some ce → ce.vm = .none → s.vm.findClass E = some ce.cls → vx_W p l e R s m args below meth c H1 locs1 (cells + mc) (slots + ms) Q (F0 m pc ls rest) q9)
    (kk : ∀ (r : UInt64) (u : S) (t : State) (H1 : Heap) (locs1 : List Loc), t.heap = H1 → s.vm.Alike t.vm → post r u → B u t → H.size ≤ H1.size → (∀ q : Nat, q < H.size → ¬ A1 q → H1[q]? = H[q]?) → va_S A0 H0 H1 locs1 → W p l e R s m args below meth c H1 locs1 (cells + mc) (slots + ms) Q (F0 m (pc + 3) ls (.double r :: rest))) : W p l e R s m args below meth c H locs cells slots Q (F0 m pc ls st0) := by
  intro T hT X
  rcases hr T hT X with ⟨v, st₀, t, T', L, h0, X', hL, e1, e2, ⟨⟨r, u, hv, hp, hb⟩, hF⟩, st⟩ | ⟨q, st₀, t, T', L, E, ce, h0, X', hL, e1, e2, ⟨u, hp, hb, hF⟩, hce, hcv, hcl, st⟩
  · cases hv
    obtain ⟨k1, k2, k3⟩ := vx_keep h0 e1 hS hA hf hL hF
    obtain ⟨t2, a1, b1⟩ := kk r u t T'.heap (locs ++ L) e1.symm (by rw [← e2]; exact X'.warmed.alike) hp hb k1 k2 k3 T' rfl X'
    exact ⟨t2, st t2 a1, b1⟩
  · obtain ⟨k1, k2, k3⟩ := vx_keep h0 e1 hS hAX hf hL hF
    obtain ⟨t2, a1, b1⟩ := kx E ce q u t T'.heap (locs ++ L) e1.symm (by rw [← e2]; exact X'.warmed.alike) hp hb k1 k2 k3 (by rw [e1]; exact hce) hcv hcl T' rfl X'
    exact ⟨t2, st.trans a1, b1⟩
theorem vx_callv {S SX : Type} {post : S → Prop} {px : SX → Prop} {B : S → State → Prop} {BX : String → SX → State → Prop} {AX : Nat → Prop} (hr : vx_Run p l e R s m args below meth c H locs cells slots mc ms (F0 m pc ls st0) rest (va_Qv post B A1 a) (vx_X px BX AX) free) (hS : va_S A0 H0 H locs) (hA : ∀ q, q < H.size → A1 q → A0 q) (hf : ∀ q, free q → A0 q) (hAX : ∀ q, q < H.size → AX q → A0 q)
    (kx : ∀ (E : String) (ce : Cell) (q9 : Addr) (u : SX) (t : State) (H1 : Heap) (locs1 : List Loc), t.heap = H1 → s.vm.Alike t.vm → px u → BX E u t → H.size ≤ H1.size → (∀ q : Nat, q < H.size → ¬ AX q → H1[q]? = H[q]?) → va_S A0 H0 H1 locs1 → H1[q9]? = some ce → ce.vm = .none → s.vm.findClass E = some ce.cls → vx_W p l e R s m args below meth c H1 locs1 (cells + mc) (slots + ms) Q (F0 m pc ls rest) q9)
    (kk : ∀ (u : S) (t : State) (H1 : Heap) (locs1 : List Loc), t.heap = H1 → s.vm.Alike t.vm → post u → B u t → H.size ≤ H1.size → (∀ q : Nat, q < H.size → ¬ A1 q → H1[q]? = H[q]?) → va_S A0 H0 H1 locs1 → W p l e R s m args below meth c H1 locs1 (cells + mc) (slots + ms) Q (F0 m (pc + 3) ls (rest))) : W p l e R s m args below meth c H locs cells slots Q (F0 m pc ls st0) := by
  intro T hT X
  rcases hr T hT X with ⟨v, st₀, t, T', L, h0, X', hL, e1, e2, ⟨⟨u, hv, hp, hb⟩, hF⟩, st⟩ | ⟨q, st₀, t, T', L, E, ce, h0, X', hL, e1, e2, ⟨u, hp, hb, hF⟩, hce, hcv, hcl, st⟩
  · cases hv
    obtain ⟨k1, k2, k3⟩ := vx_keep h0 e1 hS hA hf hL hF
    obtain ⟨t2, a1, b1⟩ := kk u t T'.heap (locs ++ L) e1.symm (by rw [← e2]; exact X'.warmed.alike) hp hb k1 k2 k3 T' rfl X'
    exact ⟨t2, st t2 a1, b1⟩
  · obtain ⟨k1, k2, k3⟩ := vx_keep h0 e1 hS hAX hf hL hF
    obtain ⟨t2, a1, b1⟩ := kx E ce q u t T'.heap (locs ++ L) e1.symm (by rw [← e2]; exact X'.warmed.alike) hp hb k1 k2 k3 (by rw [e1]; exact hce) hcv hcl T' rfl X'
    exact ⟨t2, st.trans a1, b1⟩
/-- caught by the row x of this method's table; the rows ahead don't take it -/
theorem vx_catch {own name : String} {E : String} {ce : Cell} {q : Addr} (hown : s.vm.findClass own = some m.cls) (pre : List ExceptionTableEntry) (x : ExceptionTableEntry) (suf : List ExceptionTableEntry) (hsplit : c.exceptionTable.toList = pre ++ x :: suf)
    (hpass : ∀ z ∈ pre, covers z pc = false ∨ (z.catchType ≠ 0 ∧ ∃ nm : String, (Cond.classLink own z.catchType nm).before args s = true ∧ va_Nc E nm s)) (hx : covers x pc = true) (h0 : x.catchType ≠ 0)
    (hlink : (Cond.classLink own x.catchType name).before args s = true) (hcast : (Cond.castable E name).before args s = true) (hcell : H[q]? = some ce) (hv : ce.vm = .none) (hcl : s.vm.findClass E = some ce.cls)
    (kk : W p l e R s m args below meth c H locs cells slots Q (F0 m x.handlerPc ls [.ref q])) : vx_W p l e R s m args below meth c H locs cells slots Q (F0 m pc ls rest) q := by
  intro T hT X
  have hpl : e.platform.magicAccessors = ({} : Platform).magicAccessors := by rw [X.admits.platform]
  obtain ⟨c3, c4, hc3, hc4, hasg⟩ := Cond.castable_spec hcast
  cases Option.some.inj (hc3.symm.trans hcl)
  obtain ⟨c5, hc5, hcl5⟩ := Cond.classLink_spec hown hlink e.platform hpl
  cases Option.some.inj (hc4.symm.trans hc5)
  obtain ⟨vm', X', st⟩ := X.thenCaughtThrough q (g := F0 m pc ls rest) rfl (Steps.refl _) (by rw [hT]; exact hcell) (by rw [hv]; rfl) (by obtain ⟨k9, h9, -⟩ := Vm.findClass_spec hcl; exact ⟨k9, h9⟩) pre x suf hsplit
    (fun z hz => by
      rcases hpass z hz with h | ⟨hz0, nm, hl1, hn1⟩
      · exact Or.inl h
      · obtain ⟨c6, hc6, hcl6⟩ := Cond.classLink_spec hown hl1 e.platform hpl
        obtain ⟨a8, b8, h1, h2, h3⟩ := hn1
        cases Option.some.inj (h1.symm.trans hcl)
        cases Option.some.inj (h2.symm.trans hc6)
        exact Or.inr ⟨hz0, _, hcl6, h3⟩) hx (Or.inr ⟨h0, c4, hcl5, hasg⟩)
  obtain ⟨t, a1, b1⟩ := kk (T.setVm vm') hT X'
  exact ⟨t, st.trans a1, b1⟩
end Rows
section Ends
variable {p : Program} {l : Launch} {e : Env} {R : Room} {s : State} {m : MethodId} {args : Array Value} {below : List Frame} {meth : Method} {c : Code} {H : Heap} {locs : List Loc} {cells slots : Nat} {Q : State → Prop}
variable {mc ms : Nat} {free : Addr → Prop} {A0 A1 : Nat → Prop} {H0 : Heap} {a : Array Value} {ls : Array Slot} {st0 rest : List Value}
variable {Qc : Array Value → State → Outcome → State → Prop} {XC : String → State → State → Prop}
/-- what a body that may throw owes at its end -/
def vx_MQ (below : List Frame) (Qc : Array Value → State → Outcome → State → Prop) (XC : String → State → State → Prop) (a : Array Value) (s : State) (mc ms : Nat) (free : Addr → Prop) : State → Prop := fun t =>
  ∃ o, t.status = .running ∧ Ended t below o ∧ vx_Q Qc XC mc ms free a s o t
theorem vx_ret {g : JFrame} {mc ms : Nat} (k : W p l e R s m args below meth c H locs cells slots (MQ below Qc args s mc ms free) g) : W p l e R s m args below meth c H locs cells slots (vx_MQ below Qc XC args s mc ms free) g := by
  intro T hT X
  obtain ⟨t, a1, o, b1, b2, b3, b4⟩ := k T hT X
  exact ⟨t, a1, o, b1, b2, Or.inl ⟨b3, b4⟩⟩
/-- not caught here: it goes on to the caller -/
theorem vx_widen {g : JFrame} {q : Addr} {k n : Nat} (h1 : cells ≤ k) (h2 : slots ≤ n) (kk : vx_W p l e R s m args below meth c H locs k n Q g q) : vx_W p l e R s m args below meth c H locs cells slots Q g q := fun T hT X => kk T hT (stand_widen X h1 h2)
theorem vx_out {pc : Nat} {E : String} {ce : Cell} {q : Addr} {mc ms : Nat} (hout : ∀ x ∈ c.exceptionTable.toList, covers x pc = false) (hlocks : meth.locks = false) (hcell : H[q]? = some ce) (hv : ce.vm = .none) (hcl : s.vm.findClass E = some ce.cls)
    (hx : ∀ t : State, t.heap = H → s.vm.Alike t.vm → XC E s t) (hf : ∀ z ∈ locs, free z.base) (hc : cells ≤ mc) (hs : slots ≤ ms) :
    vx_W p l e R s m args below meth c H locs cells slots (vx_MQ below Qc XC args s mc ms free) (F0 m pc ls rest) q := by
  intro T hT X
  obtain ⟨st1, hrun, hend, hW, hsm⟩ := X.leaveThrown q (g := F0 m pc ls rest) rfl rfl rfl hout hlocks
  have hcell9 : (T.setFrames (.throwing q :: below)).heap[q]? = some ce := by
    show T.heap[q]? = some ce
    rw [hT]; exact hcell
  exact ⟨_, st1, .threw q, hrun, hend, Or.inr ⟨q, rfl, E, ce, locs, hx _ hT hW.alike, hcell9, hv, hcl, hW, hsm.mono hc hs, hf⟩⟩
theorem vx_frame {U : State} {k n : Nat} (h : s.sameButNew ({ U with vm := s.vm } : State) locs k n) : s.heap.size ≤ U.heap.size ∧ ∀ q : Nat, q < s.heap.size → (∀ z ∈ locs, z.base ≠ q) → U.heap[q]? = s.heap[q]? := by
  obtain ⟨-, h2, -, -, -, h6⟩ := h
  refine ⟨h2, fun q hq hz => ?_⟩
  obtain ⟨c9, e1, e2, e3, e4⟩ := h6 q _ (Array.getElem?_eq_getElem hq)
  have hs : c9.slots = (s.heap[q]).slots := Array.ext_getElem? fun i => e4 i fun hm => hz _ hm rfl
  have h9 : c9 = s.heap[q] := by
    rw [hs] at e2
    exact e2
  have e5 : U.heap[q]? = some c9 := e1
  rw [e5, h9, Array.getElem?_eq_getElem hq]
/-- the words of a throw but the four that speak of the heap -/
def vx_no (w : Cond) : Bool := decide (w ≠ .isRef (.static Bundle.tN "UNASSIGNED_STACK" Bundle.steD)) && decide (w ≠ .isRef (.static Bundle.tN "SUPPRESSED_SENTINEL" Bundle.listD)) && decide (w ≠ .laysStatic Bundle.tN "UNASSIGNED_STACK" Bundle.steD) && decide (w ≠ .laysStatic Bundle.tN "SUPPRESSED_SENTINEL" Bundle.listD)
def vx_at0 (own : String) (ic : Nat) (X : String) (names : List String) : List Cond := (Bundle.ownAtoms0 own ic X names).filter vx_no
def vx_atS (own : String) (ic : Nat) (X : String) (names : List String) : List Cond := (Bundle.ownAtoms own ic X names).filter vx_no
/-- a word that the tables alone decide, or a good one -/
def vx_ot (w : Cond) : Bool := w.onTables || goodWord w
theorem vx_ot_at {args a' : Array Value} {s U : State} {w : Cond} (hW : s.WarmedH U.vm) (hvm : s.vm = U.vm) (hg : vx_ot w = true) (h : w.before args s = true) : w.before a' U = true := by
  simp only [vx_ot, Bool.or_eq_true] at hg
  rcases hg with hg | hg
  · exact va_tabs hg hvm h
  · exact word_at hW (good_of_word hg) h
/-- a list's words: the good ones out of the method's own list, the others by premises of their own -/
theorem vx_hat {args : Array Value} {s : State} {L B : List Cond} (h1 : ∀ w ∈ L.filter goodWord, w.before args s = true) (h2 : ∀ w ∈ L.filter (fun w => !goodWord w), w ∈ B) (h3 : ∀ w ∈ B, w.before args s = true) : ∀ w ∈ L, w.before args s = true := by
  intro w hw
  by_cases g : goodWord w = true
  · exact h1 w (List.mem_filter.mpr ⟨hw, g⟩)
  · refine h3 w (h2 w (List.mem_filter.mpr ⟨hw, ?_⟩))
    show (!goodWord w) = true
    cases hgw : goodWord w
    · rfl
    · exact absurd hgw g
theorem vx_c {args : Array Value} {s : State} {w : Cond} {B : List Cond} (h : w.before args s = true) (t : ∀ w ∈ B, w.before args s = true) : ∀ w' ∈ w :: B, w'.before args s = true := fun w' h' => (List.mem_cons.mp h').elim (fun e => by rw [e]; exact h) (t w')
theorem vx_n {args : Array Value} {s : State} : ∀ w ∈ ([] : List Cond), w.before args s = true := fun _ h => nomatch h
theorem vx_own {args : Array Value} {s : State} {L : List Cond} (h1 : ∀ w ∈ L.filter vx_no, w.before args s = true)
    (hU : (Cond.isRef (.static Bundle.tN "UNASSIGNED_STACK" Bundle.steD)).before args s = true) (hN : (Cond.isRef (.static Bundle.tN "SUPPRESSED_SENTINEL" Bundle.listD)).before args s = true)
    (lU : (Cond.laysStatic Bundle.tN "UNASSIGNED_STACK" Bundle.steD).before args s = true) (lN : (Cond.laysStatic Bundle.tN "SUPPRESSED_SENTINEL" Bundle.listD).before args s = true) : ∀ w ∈ L, w.before args s = true := by
  intro w hw
  by_cases e1 : w = .isRef (.static Bundle.tN "UNASSIGNED_STACK" Bundle.steD)
  · rw [e1]; exact hU
  · by_cases e2 : w = .isRef (.static Bundle.tN "SUPPRESSED_SENTINEL" Bundle.listD)
    · rw [e2]; exact hN
    · by_cases e3 : w = .laysStatic Bundle.tN "UNASSIGNED_STACK" Bundle.steD
      · rw [e3]; exact lU
      · by_cases e4 : w = .laysStatic Bundle.tN "SUPPRESSED_SENTINEL" Bundle.listD
        · rw [e4]; exact lN
        · exact h1 w (List.mem_filter.mpr ⟨hw, by unfold vx_no; rw [decide_eq_true e1, decide_eq_true e2, decide_eq_true e3, decide_eq_true e4]; rfl⟩)
/-- where a static field lies, its class's statics cell in H -/
def vx_L (C n d : String) (A : Nat → Prop) (U : State) (H : Heap) : Prop := ∃ (c : ClassId) (k : Class) (i : Nat) (f : Field) (a : Nat) (cell : Cell), U.vm.findClass C = some c ∧ U.fieldFound? C n d = some (c, k, i, f) ∧ f.isStatic = true ∧ k.statics = some a ∧ H[a]? = some cell ∧ cell.vm.isStatics = true ∧ cell.cls = c ∧ f.slot < cell.slots.size ∧ k.staticTypes[f.slot]? = some f.type ∧ ¬ A a
theorem vx_L.moved {C n d : String} {A : Nat → Prop} {u U : State} {H : Heap} (hvm : u.vm.Alike U.vm) (h : vx_L C n d A u H) : vx_L C n d A U H := by
  obtain ⟨c, k, i, f, a, cell, h1, h2, h3, h4, h5, h6, h7, h8, h9, h10⟩ := h
  obtain ⟨k', hi', he⟩ := State.fieldFound?_setVm hvm h2
  exact ⟨c, k', i, f, a, cell, by rw [hvm.findClass]; exact h1, hi', h3, by rw [he]; exact h4, h5, h6, h7, h8, by rw [he]; exact h9, h10⟩
theorem vx_L.kept {C n d : String} {A : Nat → Prop} {U : State} {H H1 : Heap} (h : vx_L C n d A U H) (hq : ∀ a : Nat, a < H.size → ¬ A a → H1[a]? = H[a]?) : vx_L C n d A U H1 := by
  obtain ⟨c, k, i, f, a, cell, h1, h2, h3, h4, h5, h6, h7, h8, h9, h10⟩ := h
  exact ⟨c, k, i, f, a, cell, h1, h2, h3, h4, by rw [hq a (Array.getElem?_eq_some_iff.mp h5).1 h10]; exact h5, h6, h7, h8, h9, h10⟩
theorem vx_L.narrow {C n d : String} {A B : Nat → Prop} {U : State} {H : Heap} (h : vx_L C n d A U H) (hAB : ∀ q, B q → A q) : vx_L C n d B U H := by
  obtain ⟨c, k, i, f, a, cell, h1, h2, h3, h4, h5, h6, h7, h8, h9, h10⟩ := h
  exact ⟨c, k, i, f, a, cell, h1, h2, h3, h4, h5, h6, h7, h8, h9, fun z => h10 (hAB _ z)⟩
theorem vx_L.word {C n d : String} {A : Nat → Prop} {s : State} {args : Array Value} (h : vx_L C n d A s s.heap) : (Cond.laysStatic C n d).before args s = true := by
  obtain ⟨c, k, i, f, a, cell, h1, h2, h3, h4, h5, h6, h7, h8, h9, -⟩ := h
  show (Cond.laysStatic C n d).holds args s none s [] = true
  exact Cond.laysStatic_of h1 h2 h3 h4 h5 h6 h7 h8 h9
/-- .. and what it holds: null or some reference -/
def vx_Zq (C n d : String) (A : Nat → Prop) (U : State) (H : Heap) : Prop := va_Zq C n d A U H ∧ vx_L C n d A U H
theorem vx_Zq.moved {C n d : String} {A : Nat → Prop} {u U : State} {H : Heap} (hvm : u.vm.Alike U.vm) (h : vx_Zq C n d A u H) : vx_Zq C n d A U H := ⟨va_Zq.moved hvm h.1, vx_L.moved hvm h.2⟩
theorem vx_Zq.kept {C n d : String} {A : Nat → Prop} {U : State} {H H1 : Heap} (h : vx_Zq C n d A U H) (hq : ∀ a : Nat, a < H.size → ¬ A a → H1[a]? = H[a]?) : vx_Zq C n d A U H1 := ⟨va_Zq.kept h.1 hq, vx_L.kept h.2 hq⟩
theorem vx_Zq.narrow {C n d : String} {A B : Nat → Prop} {U : State} {H : Heap} (h : vx_Zq C n d A U H) (hAB : ∀ q, B q → A q) : vx_Zq C n d B U H := ⟨va_Zq.narrow h.1 hAB, vx_L.narrow h.2 hAB⟩
theorem vx_Zqof {args : Array Value} {s : State} {C n d : String} {A : Nat → Prop} (hl : (Cond.laysStatic C n d).before args s = true) (hini : (Cond.initialized C).before args s = true) (h : (Cond.isRef (.static C n d)).before args s = true) (hA : ∀ a : Nat, a < s.heap.size → ¬ A a) : vx_Zq C n d A s s.heap := by
  refine ⟨va_Zqof hl hini h hA, ?_⟩
  obtain ⟨c, k, i, f, a, cell, h1, h2, h3, h4, h5, h6, h7, h8, h9⟩ := Cond.laysStatic_spec hl
  exact ⟨c, k, i, f, a, cell, h1, h2, h3, h4, h5, h6, h7, h8, h9, hA a (Array.getElem?_eq_some_iff.mp h5).1⟩
theorem vx_isRef {C n d : String} {v : Value} {A : Nat → Prop} {s : State} {args : Array Value} (h : va_Z C n d v A s s.heap) (hv : v.isRef = true) : (Cond.isRef (.static C n d)).before args s = true := by
  obtain ⟨cf, kf, fi, f, a, cell, h1, h2, h3, h4, h5, h6, h7, -⟩ := h
  have he : (Term.static C n d).eval args s none [] s = some v := by
    simp [Term.eval, State.fieldNamed?, h1, h2, h4, h5, h6, h7]
  simp only [Cond.before, Cond.holds, Cond.value, he]
  cases v <;> simp_all [Value.isRef]
theorem vx_isRefq {C n d : String} {A : Nat → Prop} {s : State} {args : Array Value} (h : va_Zq C n d A s s.heap) : (Cond.isRef (.static C n d)).before args s = true := by
  rcases h with h | ⟨t, h⟩
  · exact vx_isRef h rfl
  · exact vx_isRef h rfl
/-- the same frame, seen from here: as if the method were called anew in this heap -/
theorem vx_rebase {T : State} (X : Stand p l e R s m args below meth c T locs cells slots) {R' : Room} (hf : R'.frames ≤ R.frames) (hl : R'.locals ≤ R.locals) (hc : cells + R'.cells ≤ R.cells) (hs : slots + R'.slots ≤ R.slots) :
    Stand p l e R' ((T.setVm s.vm).setFrames (.invoking m args :: below)) m args below meth c T [] 0 0 := by
  have htop : (T.setVm s.vm).topJava?.isSome := X.here.top
  have hF : ((T.setVm s.vm).setFrames (.invoking m args :: below)).frames = .invoking m args :: below := State.frames_setFrames _ (State.cur_lt_of_top htop)
  obtain ⟨g₀, hg0⟩ := Option.isSome_iff_exists.mp htop
  obtain ⟨r, hr⟩ := State.topJava?_eq_some.mp hg0
  have hl9 : e.platform.stackLimits (T.setVm s.vm).me = e.platform.stackLimits s.me := X.limits
  have hb9 : (T.setVm s.vm).me.stackBytes = s.me.stackBytes := X.bytes
  refine ⟨X.admits, X.cas, X.clock, hF, ?_, X.hears, X.method, X.code, X.here, X.tail, X.warmed, ?_, ?_, ?_⟩
  · have h := X.room
    have hU : ((T.setVm s.vm).setFrames (.invoking m args :: below)).localsInUse = s.localsInUse := by
      rw [State.localsInUse_invoking hF (meth := meth) (c := c) X.method X.code, State.localsInUse_invoking X.frames X.method X.code]
    simp only [State.hasRoom, Bool.and_eq_true, decide_eq_true_eq] at h ⊢
    obtain ⟨⟨⟨⟨h1, h2, h3, h4, h5, h6⟩, h7⟩, h8⟩, h9⟩ := h
    rw [X.frames, List.length_cons] at h2 h3
    have q1 := X.heapSize
    have q2 := X.used
    simp only [hF, hU, List.length_cons, State.stackLimits_setFrames, State.stackBytes_setFrames, hl9, hb9]
    refine ⟨⟨⟨⟨by omega, by omega, by omega, by omega, by omega, h6⟩, ?_⟩, ?_⟩, X.book⟩
    · show T.heap.size + R'.cells ≤ e.platform.maxCells
      omega
    · show T.slotsUsed + R'.slots ≤ e.platform.maxSlots
      omega
  · rw [State.stackLimits_setFrames]; rfl
  · rw [State.stackBytes_setFrames]; rfl
  · refine ⟨?_, Nat.le_refl _, Nat.le_refl _, ?_, ?_, fun a c9 h9 => ⟨c9, h9, rfl, rfl, fun _ _ => rfl⟩⟩
    · obtain ⟨t, ht, -⟩ := State.frames_cons hr
      show T.setVm s.vm = { ((T.setVm s.vm).setFrames (.invoking m args :: below)).setFrames (T.setVm s.vm).frames with heap := T.heap, slotsUsed := T.slotsUsed }
      rw [State.setFrames_setFrames, State.setFrames_self ht]
      rfl
    · show T.slotsUsed = T.slotsUsed + ((T.heap.toList.drop T.heap.size).map (·.slots.size)).sum
      rw [List.drop_eq_nil_of_le (Nat.le_of_eq Array.length_toList)]
      rfl
    · show ((T.heap.toList.drop T.heap.size).map (·.slots.size)).sum ≤ 0
      rw [List.drop_eq_nil_of_le (Nat.le_of_eq Array.length_toList)]
      exact Nat.le_refl _
/-- 'throw new E()': new; dup; invokespecial; athrow -/
theorem vx_throw0 {cc : ByteArray} {pc : Nat} (hexec : p.tables.exec = Jvm.exec) (hb : c.code = cc) (hl : l.stackTraces = false) {own cls : String} {names : List String} {ik ic mc ms : Nat} {A : Nat → Prop}
    (hown : s.vm.findClass own = some m.cls) (hcls : Bundle.fit cls = true) (hnames : ∀ n ∈ names, Bundle.fit n = true)
    (hk : (Cond.classLink own ik cls).before args s = true) (hini : (Cond.initialized cls).before args s = true) (hat : ∀ w ∈ vx_at0 own ic cls names, w.before args s = true)
    (hgood : ∀ w ∈ Cond.classLink own ik cls :: Cond.initialized cls :: vx_at0 own ic cls names, vx_ot w = true)
    (hU : vx_Zq Bundle.tN "UNASSIGNED_STACK" Bundle.steD A s s.heap) (hN : vx_Zq Bundle.tN "SUPPRESSED_SENTINEL" Bundle.listD A s s.heap) (hS : va_S A s.heap H locs) (hsize : ls.size = c.maxLocals)
    (d0 : decode cc pc = .ok (.new ik, 3)) (d3 : decode cc (pc + 3) = .ok (.dup, 1)) (d4 : decode cc (pc + 4) = .ok (.invokespecial ic, 3)) (d7 : decode cc (pc + 7) = .ok (.athrow, 1))
    (hout : ∀ x ∈ c.exceptionTable.toList, covers x (pc + 7) = false)
    (hRframes : names.length + 3 < R.frames) (hRlocals : (rest.map fun v => v.category).sum + (13 * (names.length + 1) + 42) ≤ R.locals) (hRcells : cells + 1 ≤ R.cells) (hRslots : slots + 6 ≤ R.slots) (hlocks : meth.locks = false)
    (hx : ∀ t : State, s.vm.Alike t.vm → H.size ≤ t.heap.size → (∀ q : Nat, q < H.size → t.heap[q]? = H[q]?) → XC cls s t)
    (hf : ∀ z ∈ locs, free z.base) (hc : cells + 1 ≤ mc) (hs : slots + 6 ≤ ms) :
    W p l e R s m args below meth c H locs cells slots (vx_MQ below Qc XC args s mc ms free) (F0 m pc ls rest) := by
  intro T hT X
  have htr : e.platform.stackTraces = false := (show e.platform.stackTraces = l.stackTraces by rw [X.admits.platform]).trans hl
  have Y := vx_rebase X (R' := { frames := R.frames, locals := R.locals, cells := 1, slots := 6 }) (Nat.le_refl _) (Nat.le_refl _) hRcells hRslots
  obtain ⟨s', hA⟩ : ∃ z, z = (T.setVm s.vm).setFrames (.invoking m args :: below) := ⟨_, rfl⟩
  rw [← hA] at Y
  have hvm : s'.vm = s.vm := by rw [hA]; rfl
  have hhp : s'.heap = H := by rw [hA]; exact hT
  have hW0 : s.WarmedH s'.vm := by rw [hvm]; exact State.WarmedH.refl s
  have hat' : ∀ w ∈ vx_at0 own ic cls names, w.before args s' = true := fun w hw => vx_ot_at hW0 hvm.symm (hgood w (List.mem_cons_of_mem _ (List.mem_cons_of_mem _ hw))) (hat w hw)
  have hk' : (Cond.classLink own ik cls).before args s' = true := vx_ot_at hW0 hvm.symm (hgood _ List.mem_cons_self) hk
  have hini' : (Cond.initialized cls).before args s' = true := vx_ot_at hW0 hvm.symm (hgood _ (List.mem_cons_of_mem _ List.mem_cons_self)) hini
  have hU' : vx_Zq Bundle.tN "UNASSIGNED_STACK" Bundle.steD A s' s'.heap := by rw [hhp]; exact vx_Zq.moved hW0.alike (hU.kept hS.2.1)
  have hN' : vx_Zq Bundle.tN "SUPPRESSED_SENTINEL" Bundle.listD A s' s'.heap := by rw [hhp]; exact vx_Zq.moved hW0.alike (hN.kept hS.2.1)
  have h : ∀ w ∈ Bundle.ownAtoms0 own ic cls names, w.before args s' = true := vx_own hat' (vx_isRefq hU'.1) (vx_isRefq hN'.1) hU'.2.word hN'.2.word
  have hown' : s'.vm.findClass own = some m.cls := by rw [hvm]; exact hown
  have hins : (Cond.instantiable cls 6).before args s' = true := h _ (by simp [Bundle.ownAtoms0])
  obtain ⟨vm₁, cX, kX, hfX, hkX, -, -, X₁, st1⟩ := Y.newCold hexec (own := own) (C := cls) (index := ik) (n := 6) hown' hk' hins hini'
    (g := F0 m pc ls rest) rfl (by rw [hb]; exact d0) (Nat.le_refl _) (Nat.le_refl _)
  generalize hT1 : (T.setVm vm₁).pushCell { cls := cX, slots := kX.instanceTypes.map defaultValue, vm := .none } = T1 at X₁ st1
  have hcat : (Value.ref T.heap.size).category = 1 := rfl
  have hcellA : T1.heap[T.heap.size]? = some (freshCell cX kX) := by rw [← hT1]; exact State.heap_pushCell_size _ _
  have d3' : decode c.code (pc + 3) = .ok (.dup, 1) := by rw [hb]; exact d3
  obtain ⟨U, hsteps, hrun, hend, hW, hsame, ce, hce, hO⟩ := X₁.ctorThrow0 hexec htr (own := own) (cls := cls) (names := names) (ic := ic) hown' hcls hnames h (fun x hx => nomatch hx) hfX hkX hcellA (by rw [hhp, hT]; exact Nat.le_refl _)
    (g := { method := m, pc := pc + 4, locals := ls, stack := .ref T.heap.size :: .ref T.heap.size :: rest, locked := none }) rfl hsize rfl rfl (rest := rest) rfl
    (by rw [hb]; exact d4) (by rw [hb]; exact d7) hout hRframes (by simp only [List.map_cons, List.sum_cons, hcat]; omega) hlocks
  obtain ⟨f1, f2⟩ := vx_frame hsame
  rw [hhp] at f1 f2
  have hWs : s.WarmedH U.vm := State.WarmedH.trans hW0 hW
  have hcl : s.vm.findClass cls = some ce.cls := by
    have h9 := hO.cls
    rw [hvm] at h9
    exact h9
  have hall : s.sameButNew ({ U with vm := s.vm } : State) locs mc ms := by
    subst hA
    obtain ⟨e1, e2⟩ := hsame
    rw [State.setFrames_setFrames] at e1
    have h2 : (T.setVm s.vm).sameButNew ({ U with vm := s.vm } : State) [] (0 + 1) (0 + 6) := ⟨e1, e2⟩
    have h3 := X.same.trans h2
    rw [List.append_nil] at h3
    exact h3.mono hc hs
  refine ⟨U, ?_, .threw T.heap.size, hrun, hend, Or.inr ⟨T.heap.size, rfl, cls, ce, locs, hx U hWs.alike f1 (fun q hq => f2 q hq (fun z hz => nomatch hz)), hce, hO.vm, hcl, hWs, hall, hf⟩⟩
  refine st1 _ ?_
  show Steps p.tables e below (T1.setTop { method := m, pc := pc + 3, locals := ls, stack := .ref T.heap.size :: rest, locked := none }) _
  jvm_step X₁.here [X₁.here.top, hexec, d3', Value.category]
  exact hsteps
/-- 'throw new E("text")': new; dup; ldc; invokespecial; athrow -/
theorem vx_throwS {cc : ByteArray} {pc : Nat} (hexec : p.tables.exec = Jvm.exec) (hb : c.code = cc) (hl : l.stackTraces = false) {own cls text : String} {names : List String} {ik is ic mc ms sa : Nat} {A : Nat → Prop}
    (hown : s.vm.findClass own = some m.cls) (hcls : Bundle.fit cls = true) (hnames : ∀ n ∈ names, Bundle.fit n = true)
    (hk : (Cond.classLink own ik cls).before args s = true) (hini : (Cond.initialized cls).before args s = true) (hstr : vk_R own is text sa s) (hat : ∀ w ∈ vx_atS own ic cls names, w.before args s = true)
    (hgood : ∀ w ∈ Cond.classLink own ik cls :: Cond.initialized cls :: vx_atS own ic cls names, vx_ot w = true)
    (hU : vx_Zq Bundle.tN "UNASSIGNED_STACK" Bundle.steD A s s.heap) (hN : vx_Zq Bundle.tN "SUPPRESSED_SENTINEL" Bundle.listD A s s.heap) (hS : va_S A s.heap H locs) (hsize : ls.size = c.maxLocals)
    (d0 : decode cc pc = .ok (.new ik, 3)) (d3 : decode cc (pc + 3) = .ok (.dup, 1)) (d4 : decode cc (pc + 4) = .ok (.ldc is, 2)) (d6 : decode cc (pc + 6) = .ok (.invokespecial ic, 3)) (d9 : decode cc (pc + 9) = .ok (.athrow, 1))
    (hout : ∀ x ∈ c.exceptionTable.toList, covers x (pc + 9) = false)
    (hRframes : names.length + 3 < R.frames) (hRlocals : (rest.map fun v => v.category).sum + (13 * (names.length + 1) + 43) ≤ R.locals) (hRcells : cells + 1 ≤ R.cells) (hRslots : slots + 6 ≤ R.slots) (hlocks : meth.locks = false)
    (hx : ∀ t : State, s.vm.Alike t.vm → H.size ≤ t.heap.size → (∀ q : Nat, q < H.size → t.heap[q]? = H[q]?) → XC cls s t)
    (hf : ∀ z ∈ locs, free z.base) (hc : cells + 1 ≤ mc) (hs : slots + 6 ≤ ms) :
    W p l e R s m args below meth c H locs cells slots (vx_MQ below Qc XC args s mc ms free) (F0 m pc ls rest) := by
  intro T hT X
  have htr : e.platform.stackTraces = false := (show e.platform.stackTraces = l.stackTraces by rw [X.admits.platform]).trans hl
  have Y := vx_rebase X (R' := { frames := R.frames, locals := R.locals, cells := 1, slots := 6 }) (Nat.le_refl _) (Nat.le_refl _) hRcells hRslots
  obtain ⟨s', hA⟩ : ∃ z, z = (T.setVm s.vm).setFrames (.invoking m args :: below) := ⟨_, rfl⟩
  rw [← hA] at Y
  have hvm : s'.vm = s.vm := by rw [hA]; rfl
  have hhp : s'.heap = H := by rw [hA]; exact hT
  have hW0 : s.WarmedH s'.vm := by rw [hvm]; exact State.WarmedH.refl s
  have hat' : ∀ w ∈ vx_atS own ic cls names, w.before args s' = true := fun w hw => vx_ot_at hW0 hvm.symm (hgood w (List.mem_cons_of_mem _ (List.mem_cons_of_mem _ hw))) (hat w hw)
  have hk' : (Cond.classLink own ik cls).before args s' = true := vx_ot_at hW0 hvm.symm (hgood _ List.mem_cons_self) hk
  have hini' : (Cond.initialized cls).before args s' = true := vx_ot_at hW0 hvm.symm (hgood _ (List.mem_cons_of_mem _ List.mem_cons_self)) hini
  have hU' : vx_Zq Bundle.tN "UNASSIGNED_STACK" Bundle.steD A s' s'.heap := by rw [hhp]; exact vx_Zq.moved hW0.alike (hU.kept hS.2.1)
  have hN' : vx_Zq Bundle.tN "SUPPRESSED_SENTINEL" Bundle.listD A s' s'.heap := by rw [hhp]; exact vx_Zq.moved hW0.alike (hN.kept hS.2.1)
  have h : ∀ w ∈ Bundle.ownAtoms own ic cls names, w.before args s' = true := vx_own hat' (vx_isRefq hU'.1) (vx_isRefq hN'.1) hU'.2.word hN'.2.word
  have hown' : s'.vm.findClass own = some m.cls := by rw [hvm]; exact hown
  have hins : (Cond.instantiable cls 6).before args s' = true := h _ (by simp [Bundle.ownAtoms])
  obtain ⟨vm₁, cX, kX, hfX, hkX, -, -, X₁, st1⟩ := Y.newCold hexec (own := own) (C := cls) (index := ik) (n := 6) hown' hk' hins hini'
    (g := F0 m pc ls rest) rfl (by rw [hb]; exact d0) (Nat.le_refl _) (Nat.le_refl _)
  generalize hT1 : (T.setVm vm₁).pushCell { cls := cX, slots := kX.instanceTypes.map defaultValue, vm := .none } = T1 at X₁ st1
  have hcat : (Value.ref T.heap.size).category = 1 := rfl
  have hcellA : T1.heap[T.heap.size]? = some (freshCell cX kX) := by rw [← hT1]; exact State.heap_pushCell_size _ _
  have d3' : decode c.code (pc + 3) = .ok (.dup, 1) := by rw [hb]; exact d3
  have d4' : decode c.code (pc + 4) = .ok (.ldc is, 2) := by rw [hb]; exact d4
  have hstr' : vk_R own is text sa s' := vk_R.warm hW0 hstr
  obtain ⟨U, hsteps, hrun, hend, hW, hsame, ce, hce, hO⟩ := X₁.ctorThrowS hexec htr (own := own) (cls := cls) (names := names) (ic := ic) hown' hcls hnames h (fun x hx => nomatch hx) hfX hkX hcellA (by rw [hhp, hT]; exact Nat.le_refl _) (msg := .ref sa) rfl
    (g := { method := m, pc := pc + 6, locals := ls, stack := .ref sa :: .ref T.heap.size :: .ref T.heap.size :: rest, locked := none }) rfl hsize rfl rfl (rest := rest) rfl
    (by rw [hb]; exact d6) (by rw [hb]; exact d9) hout hRframes (by simp only [List.map_cons, List.sum_cons, hcat]; omega) hlocks
  obtain ⟨f1, f2⟩ := vx_frame hsame
  rw [hhp] at f1 f2
  have hWs : s.WarmedH U.vm := State.WarmedH.trans hW0 hW
  have hcl : s.vm.findClass cls = some ce.cls := by
    have h9 := hO.cls
    rw [hvm] at h9
    exact h9
  have hall : s.sameButNew ({ U with vm := s.vm } : State) locs mc ms := by
    subst hA
    obtain ⟨e1, e2⟩ := hsame
    rw [State.setFrames_setFrames] at e1
    have h2 : (T.setVm s.vm).sameButNew ({ U with vm := s.vm } : State) [] (0 + 1) (0 + 6) := ⟨e1, e2⟩
    have h3 := X.same.trans h2
    rw [List.append_nil] at h3
    exact h3.mono hc hs
  refine ⟨U, ?_, .threw T.heap.size, hrun, hend, Or.inr ⟨T.heap.size, rfl, cls, ce, locs, hx U hWs.alike f1 (fun q hq => f2 q hq (fun z hz => nomatch hz)), hce, hO.vm, hcl, hWs, hall, hf⟩⟩
  refine st1 _ ?_
  show Steps p.tables e below (T1.setTop { method := m, pc := pc + 3, locals := ls, stack := .ref T.heap.size :: rest, locked := none }) _
  jvm_step X₁.here [X₁.here.top, hexec, d3', Value.category]
  exact X₁.ldcString hexec (own := own) (text := text) (index := is) (a := sa) hown' hstr'.1 hstr'.2
    (g := { method := m, pc := pc + 4, locals := ls, stack := .ref T.heap.size :: .ref T.heap.size :: rest, locked := none }) rfl d4' _ hsteps
/-- 'throw new E("text")', the text by a wide index -/
theorem vx_throwSW {cc : ByteArray} {pc : Nat} (hexec : p.tables.exec = Jvm.exec) (hb : c.code = cc) (hl : l.stackTraces = false) {own cls text : String} {names : List String} {ik is ic mc ms sa : Nat} {A : Nat → Prop}
    (hown : s.vm.findClass own = some m.cls) (hcls : Bundle.fit cls = true) (hnames : ∀ n ∈ names, Bundle.fit n = true)
    (hk : (Cond.classLink own ik cls).before args s = true) (hini : (Cond.initialized cls).before args s = true) (hstr : vk_R own is text sa s) (hat : ∀ w ∈ vx_atS own ic cls names, w.before args s = true)
    (hgood : ∀ w ∈ Cond.classLink own ik cls :: Cond.initialized cls :: vx_atS own ic cls names, vx_ot w = true)
    (hU : vx_Zq Bundle.tN "UNASSIGNED_STACK" Bundle.steD A s s.heap) (hN : vx_Zq Bundle.tN "SUPPRESSED_SENTINEL" Bundle.listD A s s.heap) (hS : va_S A s.heap H locs) (hsize : ls.size = c.maxLocals)
    (d0 : decode cc pc = .ok (.new ik, 3)) (d3 : decode cc (pc + 3) = .ok (.dup, 1)) (d4 : decode cc (pc + 4) = .ok (.ldc_w is, 3)) (d7 : decode cc (pc + 7) = .ok (.invokespecial ic, 3)) (d10 : decode cc (pc + 10) = .ok (.athrow, 1))
    (hout : ∀ x ∈ c.exceptionTable.toList, covers x (pc + 10) = false)
    (hRframes : names.length + 3 < R.frames) (hRlocals : (rest.map fun v => v.category).sum + (13 * (names.length + 1) + 43) ≤ R.locals) (hRcells : cells + 1 ≤ R.cells) (hRslots : slots + 6 ≤ R.slots) (hlocks : meth.locks = false)
    (hx : ∀ t : State, s.vm.Alike t.vm → H.size ≤ t.heap.size → (∀ q : Nat, q < H.size → t.heap[q]? = H[q]?) → XC cls s t)
    (hf : ∀ z ∈ locs, free z.base) (hc : cells + 1 ≤ mc) (hs : slots + 6 ≤ ms) :
    W p l e R s m args below meth c H locs cells slots (vx_MQ below Qc XC args s mc ms free) (F0 m pc ls rest) := by
  intro T hT X
  have htr : e.platform.stackTraces = false := (show e.platform.stackTraces = l.stackTraces by rw [X.admits.platform]).trans hl
  have Y := vx_rebase X (R' := { frames := R.frames, locals := R.locals, cells := 1, slots := 6 }) (Nat.le_refl _) (Nat.le_refl _) hRcells hRslots
  obtain ⟨s', hA⟩ : ∃ z, z = (T.setVm s.vm).setFrames (.invoking m args :: below) := ⟨_, rfl⟩
  rw [← hA] at Y
  have hvm : s'.vm = s.vm := by rw [hA]; rfl
  have hhp : s'.heap = H := by rw [hA]; exact hT
  have hW0 : s.WarmedH s'.vm := by rw [hvm]; exact State.WarmedH.refl s
  have hat' : ∀ w ∈ vx_atS own ic cls names, w.before args s' = true := fun w hw => vx_ot_at hW0 hvm.symm (hgood w (List.mem_cons_of_mem _ (List.mem_cons_of_mem _ hw))) (hat w hw)
  have hk' : (Cond.classLink own ik cls).before args s' = true := vx_ot_at hW0 hvm.symm (hgood _ List.mem_cons_self) hk
  have hini' : (Cond.initialized cls).before args s' = true := vx_ot_at hW0 hvm.symm (hgood _ (List.mem_cons_of_mem _ List.mem_cons_self)) hini
  have hU' : vx_Zq Bundle.tN "UNASSIGNED_STACK" Bundle.steD A s' s'.heap := by rw [hhp]; exact vx_Zq.moved hW0.alike (hU.kept hS.2.1)
  have hN' : vx_Zq Bundle.tN "SUPPRESSED_SENTINEL" Bundle.listD A s' s'.heap := by rw [hhp]; exact vx_Zq.moved hW0.alike (hN.kept hS.2.1)
  have h : ∀ w ∈ Bundle.ownAtoms own ic cls names, w.before args s' = true := vx_own hat' (vx_isRefq hU'.1) (vx_isRefq hN'.1) hU'.2.word hN'.2.word
  have hown' : s'.vm.findClass own = some m.cls := by rw [hvm]; exact hown
  have hins : (Cond.instantiable cls 6).before args s' = true := h _ (by simp [Bundle.ownAtoms])
  obtain ⟨vm₁, cX, kX, hfX, hkX, -, -, X₁, st1⟩ := Y.newCold hexec (own := own) (C := cls) (index := ik) (n := 6) hown' hk' hins hini'
    (g := F0 m pc ls rest) rfl (by rw [hb]; exact d0) (Nat.le_refl _) (Nat.le_refl _)
  generalize hT1 : (T.setVm vm₁).pushCell { cls := cX, slots := kX.instanceTypes.map defaultValue, vm := .none } = T1 at X₁ st1
  have hcat : (Value.ref T.heap.size).category = 1 := rfl
  have hcellA : T1.heap[T.heap.size]? = some (freshCell cX kX) := by rw [← hT1]; exact State.heap_pushCell_size _ _
  have d3' : decode c.code (pc + 3) = .ok (.dup, 1) := by rw [hb]; exact d3
  have d4' : decode c.code (pc + 4) = .ok (.ldc_w is, 3) := by rw [hb]; exact d4
  have hstr' : vk_R own is text sa s' := vk_R.warm hW0 hstr
  obtain ⟨U, hsteps, hrun, hend, hW, hsame, ce, hce, hO⟩ := X₁.ctorThrowS hexec htr (own := own) (cls := cls) (names := names) (ic := ic) hown' hcls hnames h (fun x hx => nomatch hx) hfX hkX hcellA (by rw [hhp, hT]; exact Nat.le_refl _) (msg := .ref sa) rfl
    (g := { method := m, pc := pc + 7, locals := ls, stack := .ref sa :: .ref T.heap.size :: .ref T.heap.size :: rest, locked := none }) rfl hsize rfl rfl (rest := rest) rfl
    (by rw [hb]; exact d7) (by rw [hb]; exact d10) hout hRframes (by simp only [List.map_cons, List.sum_cons, hcat]; omega) hlocks
  obtain ⟨f1, f2⟩ := vx_frame hsame
  rw [hhp] at f1 f2
  have hWs : s.WarmedH U.vm := State.WarmedH.trans hW0 hW
  have hcl : s.vm.findClass cls = some ce.cls := by
    have h9 := hO.cls
    rw [hvm] at h9
    exact h9
  have hall : s.sameButNew ({ U with vm := s.vm } : State) locs mc ms := by
    subst hA
    obtain ⟨e1, e2⟩ := hsame
    rw [State.setFrames_setFrames] at e1
    have h2 : (T.setVm s.vm).sameButNew ({ U with vm := s.vm } : State) [] (0 + 1) (0 + 6) := ⟨e1, e2⟩
    have h3 := X.same.trans h2
    rw [List.append_nil] at h3
    exact h3.mono hc hs
  refine ⟨U, ?_, .threw T.heap.size, hrun, hend, Or.inr ⟨T.heap.size, rfl, cls, ce, locs, hx U hWs.alike f1 (fun q hq => f2 q hq (fun z hz => nomatch hz)), hce, hO.vm, hcl, hWs, hall, hf⟩⟩
  refine st1 _ ?_
  show Steps p.tables e below (T1.setTop { method := m, pc := pc + 3, locals := ls, stack := .ref T.heap.size :: rest, locked := none }) _
  jvm_step X₁.here [X₁.here.top, hexec, d3', Value.category]
  exact X₁.ldcStringW hexec (own := own) (text := text) (index := is) (a := sa) hown' hstr'.1 hstr'.2
    (g := { method := m, pc := pc + 4, locals := ls, stack := .ref T.heap.size :: .ref T.heap.size :: rest, locked := none }) rfl d4' _ hsteps
end Ends
section Bodies
variable {l : Launch}
theorem vx_ofW {y : MethodName} {ws ws' : List Cond} {rm : Room} {Pc : Array Value → State → Prop} {Qc : Array Value → State → Outcome → State → Prop} {XC : String → State → State → Prop} {mc ms : Nat} {free : Addr → Prop} {cc : ByteArray} {maxL : Nat} {ret : Option FieldType}
    (hy : plainName y.cls = true) (hw : ws = Cond.code y cc maxL ret :: ws')
    (body : ∀ p e s m args below meth c s₁, BodyLoose p l y (headSpec ws rm) cc maxL ret e s m args below meth c s₁ → c.maxLocals = maxL → (∀ x ∈ c.exceptionTable.toList, False) → Pc args s →
      W p l e (headSpec ws rm).room s m args below meth c s.heap [] 0 0 (vx_MQ below Qc XC args s mc ms free) (entryFrame m args maxL)) : vx_Met l y ws rm Pc Qc XC mc ms free := by
  refine MetFree.of_bodyS (code := cc) (maxLocals := maxL) (ret := ret) hy ?_ ?_
  · intro args s m h hn
    obtain ⟨meth, c, h1, h2, h3, h4, h5, h6, -, -⟩ := Cond.code_spec hn (atoms_spec (ws := ws) h _ (by rw [hw]; exact List.mem_cons_self))
    exact ⟨meth, c, h1, h2, h3, h4, h5, h6⟩
  · intro p e s m args below meth c s₁ B hml hP _
    have hh0 : s₁.heap = s.heap := by rw [B.state]; rfl
    have ht : ∀ x ∈ c.exceptionTable.toList, False := by
      obtain ⟨meth9, c9, h1, h2, -, -, -, -, h7, -⟩ := Cond.code_spec B.named (atoms_spec (ws := ws) B.pre _ (by rw [hw]; exact List.mem_cons_self))
      cases Option.some.inj (h1.symm.trans B.method)
      cases Option.some.inj (h2.symm.trans (Stand.of_body B).code)
      intro x hx
      rw [Array.isEmpty_iff.mp h7] at hx
      cases hx
    obtain ⟨t, a1, o, b1, b2, b3⟩ := body p e s m args below meth c s₁ B hml ht hP s₁ hh0 (Stand.of_body B)
    exact ⟨t, o, a1, b1, b2, b3⟩
/-- the table of a body with handlers -/
theorem vx_table {p : Program} {x y : MethodName} {S : Spec} {cc bytes : ByteArray} {maxL maxL' : Nat} {ret ret' : Option FieldType} {e : Env} {s s₁ : State} {m : MethodId} {args : Array Value} {below : List Frame} {meth : Method} {c : Code} {hh : List (Nat × Nat × Nat × Nat)}
    (B : BodyLoose p l y S cc maxL ret e s m args below meth c s₁) (h : (Cond.codeWith y bytes maxL' ret' hh).before args s = true) : c.exceptionTable.toList = tableOf hh := by
  obtain ⟨m9, meth9, c9, hn9, h1, h2, -, -, h6, -⟩ := Cond.codeWith_spec h
  cases Option.some.inj (hn9.symm.trans B.named)
  cases Option.some.inj (h1.symm.trans B.method)
  cases Option.some.inj (h2.symm.trans (Stand.of_body B).code)
  rw [← h6, table_eq]
end Bodies
end VXA
/-! ===== END ===== -/
/-! ===== BEGIN a static call of a method with an exception table ===== -/
section VXS
variable {p : Program} {l : Launch} {e : Env} {R : Room} {s : State} {m : MethodId} {args : Array Value} {below : List Frame} {meth : Method} {c : Code} {T : State} {H : Heap} {locs : List Loc} {cells slots : Nat}
abbrev vx_CSW (R : Room) (s : State) (args : Array Value) (own : String) (index : Nat) (y : MethodName) (bytes : ByteArray) (maxL : Nat) (ret : Option FieldType) (hh : List (Nat × Nat × Nat × Nat)) (ws : List Cond) (rm : Room) (mc ms n : Nat) : Prop :=
  (rm.cells = mc ∧ rm.slots = ms ∧ rm.frames + 1 ≤ R.frames ∧ 8 + (maxL + 11) + rm.locals ≤ R.locals ∧ (∀ w ∈ ws, ∀ (a' : Array Value) (U : State), s.WarmedH U.vm → w.before a' U = true) ∧ Cond.codeWith y bytes maxL ret hh ∈ ws) ∧
  (Cond.codeWith y bytes maxL ret hh).before args s = true ∧ (Cond.initialized y.cls).before args s = true ∧ (y.cls ≠ "java/lang/invoke/MethodHandle" ∧ y.cls ≠ "java/lang/invoke/VarHandle") ∧
  (∀ sig, parseMethodDescriptor y.desc = some sig → n = sig.parameters.length) ∧ (Cond.methodLink own index y).before args s = true ∧ (Cond.static y).before args s = true
theorem vx_cwSW {own : String} {index maxL mc ms : Nat} {y : MethodName} {bytes : ByteArray} {ret : Option FieldType} {hh : List (Nat × Nat × Nat × Nat)} {Ts ws ws' : List Cond} {rm : Room} (n : Nat) (ht : ∀ w ∈ Ts, w.before args s = true) (hT : GoodIn Ts (va_wsS own index y ws)) (hw : ws = Cond.codeWith y bytes maxL ret hh :: ws') (hrc : rm.cells = mc) (hrs : rm.slots = ms)
    (hd : y.cls ≠ "java/lang/invoke/MethodHandle" ∧ y.cls ≠ "java/lang/invoke/VarHandle" ∧ (parseMethodDescriptor y.desc).map (fun d => d.parameters.length) = some n) (hR : rm.frames + 1 ≤ R.frames ∧ 8 + (maxL + 11) + rm.locals ≤ R.locals) :
    vx_CSW R s args own index y bytes maxL ret hh ws rm mc ms n := by
  have ok : ∀ w ∈ va_wsS own index y ws, w.before args s = true := fun w h => ht w (hT w h).1
  have hG : GoodIn Ts ws := fun w h => hT w (by unfold va_wsS; exact List.mem_append_right _ h)
  have hc : Cond.codeWith y bytes maxL ret hh ∈ ws := by rw [hw]; exact List.mem_cons_self
  refine ⟨⟨hrc, hrs, hR.1, hR.2, pay_in ht hG, hc⟩, ht _ (hG _ hc).1, ok _ (by simp [va_wsS]), ⟨hd.1, hd.2.1⟩, fun sig h => ?_, ok _ (by simp [va_wsS]), ok _ (by simp [va_wsS])⟩
  have h2 := hd.2.2
  rw [h] at h2
  exact (Option.some.inj h2).symm
theorem vx_callSW (X : Stand p l e R s m args below meth c T locs cells slots) (hexec : p.tables.exec = Jvm.exec) {own : String} {index : Nat} {y : MethodName} {bytes : ByteArray} {maxL : Nat} {ret : Option FieldType} {hh : List (Nat × Nat × Nat × Nat)}
    (hown : s.vm.findClass own = some m.cls) (hlink : (Cond.methodLink own index y).before args s = true) (hstat : (Cond.static y).before args s = true) (hinit : (Cond.initialized y.cls).before args s = true)
    (hcode : (Cond.codeWith y bytes maxL ret hh).before args s = true) (hy : y.cls ≠ "java/lang/invoke/MethodHandle" ∧ y.cls ≠ "java/lang/invoke/VarHandle")
    {W9 : Nat} {Pre : Pt → Array Value → Prop} {Post : Pt → Array Value → Option Value → Pt → Prop} (hK : Back l R p e below s args y 3 W9 Pre Post)
    {g : JFrame} (hg : g.method = m) (hsize : g.locals.size = c.maxLocals) {argsL rest : List Value} (hlen : ∀ sig, parseMethodDescriptor y.desc = some sig → argsL.length = sig.parameters.length)
    (hstack : g.stack = argsL.reverse ++ rest) (hW : 2 * g.monitorRoom + (rest.map fun v => v.category).sum ≤ W9) (hdg : decode c.code g.pc = .ok (.invokestatic index, 3))
    (hpre : ∀ vm₁, s.WarmedH vm₁ → Pre ⟨T.setVm vm₁, locs, cells, slots⟩ argsL.toArray) :
    ∃ (v : Option Value) (vm₁ : Vm) (B : Pt), s.WarmedH vm₁ ∧ Stand p l e R s m args below meth c B.U B.locs B.cells B.slots ∧ Post ⟨T.setVm vm₁, locs, cells, slots⟩ argsL.toArray v B ∧
      ∀ target, Steps p.tables e below (B.U.setTop { g with pc := g.pc + 3, stack := v.toList ++ rest }) target → Steps p.tables e below (T.setTop g) target := by
  obtain ⟨mk, methM, cM, hnamed, hmethM, -, -, -, -, -, -, hsigM⟩ := Cond.codeWith_spec hcode
  have hstatic : methM.isStatic = true := Cond.static_spec hnamed hmethM hstat
  obtain ⟨kP, hkP, -⟩ := className_of_methodNamed hnamed
  have hinitP : kP.init = .initialized := Cond.initialized_spec (findClass_of_methodNamed hnamed) hkP hinit
  obtain ⟨vm₁, X₁, hstep₁⟩ := X.invokestatic hexec hown hlink hnamed hmethM hstatic hkP hinitP hy (g := g) hg (argsL := argsL) (rest := rest) (hlen _ hsigM) hstack hdg
  obtain ⟨v, B, X', hpost, hsteps⟩ := hK m meth c ⟨T.setVm vm₁, locs, cells, slots⟩ { g with stack := rest } (.invokestatic index) mk argsL.toArray X₁ hg hsize hdg hW (X₁.named hnamed) (hpre vm₁ X₁.warmed)
  exact ⟨v, vm₁, B, X₁.warmed, X', hpost, fun target h => hstep₁ _ fun acts => by rw [doInvoke_state]; exact hsteps.trans h⟩
theorem vx_runSW {y : MethodName} {bytes cc : ByteArray} {maxL nL mc ms n index : Nat} {ret : Option FieldType} {hh : List (Nat × Nat × Nat × Nat)} {ws : List Cond} {rm : Room} {Pc : Array Value → State → Prop} {Qc : Array Value → State → Outcome → State → Prop} {free : Addr → Prop} {Ts : List Cond} {own : String} {As rest : List Value} {g : JFrame}
    (S : CallFix p m c cc nL s args Ts own) (hM : Met l y ws rm Pc Qc mc ms free) (cw : vx_CSW R s args own index y bytes maxL ret hh ws rm mc ms n) (hp : PreS s H Pc As)
    (hg : g.method = m) (hn : As.length = n) (hsize : g.locals.size = nL) (hstack : g.stack = As.reverse ++ rest) (hW : 2 * g.monitorRoom + (rest.map fun v => v.category).sum ≤ 8) (hdg : decode cc g.pc = .ok (.invokestatic index, 3)) (hf : cells + mc ≤ R.cells ∧ slots + ms ≤ R.slots) :
    va_Run p l e R s m args below meth c H locs cells slots mc ms g rest (Qc As.toArray) (free) := by
  obtain ⟨⟨hrc, hrs, hfr, hlo, hws, hcw⟩, hcode, hini, hy, hlen, hl, hstt⟩ := cw
  have hK : Back l R p e below s args y 3 8 (PreOf R mc ms Pc) (PostOf Qc mc ms free) := va_backW (hh := hh) (bytes := bytes) (maxL := maxL) (ret := ret) hM hp.1 hrc hrs hfr hlo hws hcw (fun a' U hW => word_at hW (Or.inl (by first | rfl | simp [Cond.onTables, Cond.keeps, Cond.steady])) hini)
  obtain ⟨hx, hb, hml, ho, -⟩ := S
  intro T hT X
  obtain ⟨v, vm₁, ⟨U', l2, c2, s2⟩, hW₁, X', ⟨g', mk, t, L, e1, e2, hq, h1, hL, h2, h3⟩, st⟩ := vx_callSW X hx (hh := hh) (bytes := bytes) (maxL := maxL) (ret := ret) ho hl hstt hini hcode hy hK hg (hsize.trans hml.symm) (argsL := As) (rest := rest) (fun sig h => hn.trans (hlen sig h)) hstack hW (by rw [hb]; exact hdg)
    (fun vm₁ hW₁ => ⟨hf.1, hf.2, hp.2 (T.setVm vm₁) hT hW₁⟩)
  dsimp only [Pt.U, Pt.locs, Pt.cells, Pt.slots] at X' e1 e2 h1 h2 h3 st
  subst h1; subst h2; subst h3
  exact ⟨v, (T.setVm vm₁).calling g' mk As.toArray, t, U', L, hT, X', hL, e1, e2, hq, st⟩
/-- not caught here, past rows that name other classes: it goes on to the caller -/
theorem vx_outP {p : Program} {l : Launch} {e : Env} {R : Room} {s : State} {m : MethodId} {args : Array Value} {below : List Frame} {meth : Method} {c : Code} {H : Heap} {locs : List Loc} {cells slots : Nat} {free : Addr → Prop} {ls : Array Slot} {rest : List Value} {Qc : Array Value → State → Outcome → State → Prop} {XC : String → State → State → Prop}
    {pc : Nat} {own E : String} {ce : Cell} {q : Addr} {mc ms : Nat} (hown : s.vm.findClass own = some m.cls) (hlocks : meth.locks = false)
    (hpass : ∀ z ∈ c.exceptionTable.toList, covers z pc = false ∨ (z.catchType ≠ 0 ∧ ∃ nm : String, (Cond.classLink own z.catchType nm).before args s = true ∧ va_Nc E nm s)) (hcell : H[q]? = some ce) (hv : ce.vm = .none) (hcl : s.vm.findClass E = some ce.cls)
    (hx : ∀ t : State, t.heap = H → s.vm.Alike t.vm → XC E s t) (hf : ∀ z ∈ locs, free z.base) (hc : cells ≤ mc) (hs : slots ≤ ms) :
    vx_W p l e R s m args below meth c H locs cells slots (vx_MQ below Qc XC args s mc ms free) (F0 m pc ls rest) q := by
  intro T hT X
  have hpl : e.platform.magicAccessors = ({} : Platform).magicAccessors := by rw [X.admits.platform]
  obtain ⟨vm', hW', X', st⟩ := X.outThrough hlocks q (g := F0 m pc ls rest) rfl rfl rfl (cell := ce) (by rw [hT]; exact hcell) (by rw [hv]; rfl)
    (by obtain ⟨k9, h9, -⟩ := Vm.findClass_spec hcl; exact ⟨k9, h9⟩) (fun z hz => by
      rcases hpass z hz with h | ⟨hz0, nm, hl1, hn1⟩
      · exact Or.inl h
      · obtain ⟨c6, hc6, hcl6⟩ := Cond.classLink_spec hown hl1 e.platform hpl
        obtain ⟨a8, b8, h1, h2, h3⟩ := hn1
        cases Option.some.inj (h1.symm.trans hcl)
        cases Option.some.inj (h2.symm.trans hc6)
        exact Or.inr ⟨hz0, _, hcl6, h3⟩)
  obtain ⟨g₀, hfr⟩ := X'.frames_eq
  have hcell9 : ((T.setVm vm').setFrames (.throwing q :: below)).heap[q]? = some ce := by
    show T.heap[q]? = some ce
    rw [hT]; exact hcell
  have hend : Ended ((T.setVm vm').setFrames (.throwing q :: below)) below (.threw q) := State.frames_setFrames _ (State.cur_lt_of_frames hfr)
  refine ⟨(T.setVm vm').setFrames (.throwing q :: below), ?_, .threw q, X'.here.running, hend, Or.inr ⟨q, rfl, E, ce, locs, hx _ hT (X'.ends _).1.alike, hcell9, hv, hcl, (X'.ends _).1, (X'.ends _).2.mono hc hs, hf⟩⟩
  rw [X.pushThrowing_eq]
  exact st
/-- a thing of a world lies in the heap -/
theorem vx_lt {D : va_G} {cl : List vw_C} {ws : va_W} {H1 : Heap} (h : va_P D cl ws H1) {k : Nat} {q : Nat × va_E} (hk : ws[k]? = some q) : q.1 < H1.size := (h k q hk).lt
end VXS
/-! ===== END ===== -/
/-! ===== BEGIN methods with a table of their own: called by a name, returning or throwing ===== -/
section VXH
/-! vx_backW, vx_callVX, vx_callSX, vx_callVW, vx_runVW, vx_runVX, vx_runSX, vx_ofWH follow the same proofs as their sisters above (Free/Laws.lean, Shelf42/LK1.lean); vx_outP calls Shelf42/NT130.lean (outThrough). -/
section
variable {l : Launch} {R : Room} {p : Program} {e : Env} {below : List Frame} {s : State} {sargs : Array Value} {y : MethodName} {len W9 : Nat}
theorem vx_backW {ws : List Cond} {rm : Room} {Pc : Array Value → State → Prop} {Qc : Array Value → State → Outcome → State → Prop} {XC : String → State → State → Prop} {mc ms : Nat} {free : Addr → Prop} {bytes : ByteArray} {maxL : Nat} {ret : Option FieldType} {hh : List (Nat × Nat × Nat × Nat)}
    (hM : vx_Met l y ws rm Pc Qc XC mc ms free) (hblind : FrameBlind Pc) (hrc : rm.cells = mc) (hrs : rm.slots = ms)
    (hframes : rm.frames + 1 ≤ R.frames) (hlocals : W9 + (maxL + 11) + rm.locals ≤ R.locals)
    (hws : ∀ w ∈ ws, ∀ a' U, s.WarmedH U.vm → w.before a' U = true) (hcode : Cond.codeWith y bytes maxL ret hh ∈ ws) (hinit : ∀ a' U, s.WarmedH U.vm → (Cond.initialized y.cls).before a' U = true) :
    vx_Back l R p e below s sargs y len W9 (PreOf R mc ms Pc) (PostOf Qc mc ms free) (vx_Post XC mc ms free) := by
  intro m meth c A g ig mk a X hg hsize hdg hW hn hp
  have h1 : (headSpec ws rm).pre.before a A.U = true := atoms_intro fun w hw => hws w hw _ _ X.warmed
  have h2 : (Cond.codeWith y bytes maxL ret hh).before a A.U = true := hws _ hcode _ _ X.warmed
  have h3 : (Cond.initialized y.cls).before a A.U = true := hinit _ _ X.warmed
  have h4 : A.cells + (headSpec ws rm).room.cells ≤ R.cells := by rw [show (headSpec ws rm).room.cells = mc from hrc]; exact hp.1
  have h5 : A.slots + (headSpec ws rm).room.slots ≤ R.slots := by rw [show (headSpec ws rm).room.slots = ms from hrs]; exact hp.2.1
  have hPc : Pc a (A.U.calling g mk a) := hblind _ _ _ _ hp.2.2
  obtain ⟨U, Ls, c0, s0⟩ := A
  dsimp only [Pt.U, Pt.locs, Pt.cells, Pt.slots] at h1 h2 h3 h4 h5 X hn hPc ⊢
  obtain ⟨m9, methY, cY, hn9, hmY, hcY, -, hlY, -⟩ := Cond.codeWith_spec h2
  cases Option.some.inj (hn9.symm.trans hn)
  obtain ⟨kY, hkY, -⟩ := className_of_methodNamed hn
  have hinitY : kY.init = .initialized := Cond.initialized_spec (findClass_of_methodNamed hn) hkY h3
  have h : At U g.method c below := by rw [hg]; exact X.here
  have hlocals9 : W9 + (maxL + 11) + (headSpec ws rm).room.locals ≤ R.locals := hlocals
  have happ : (headSpec ws rm).appliesLoose y e.platform (U.calling g mk a) = true :=
    Spec.appliesLoose_calling (g := g) h hdg hn hkY hinitY
      (X.room_calling (g := g) (R' := (headSpec ws rm).room) hsize hmY hcY hframes (by rw [hlY]; omega) h4 h5) h1
  obtain ⟨mid, hmid⟩ := h.above
  have hfr : (U.setTop g).frames = (.java g :: mid) ++ below := by rw [State.frames_setTop' g h.top, hmid]; rfl
  obtain ⟨o, s₂, hsteps, -, hend, hq⟩ := Steps.callFree hM p X.admits X.cas X.clock (acts := []) hfr happ hPc trivial
  have hq' : vx_Q Qc XC mc ms free a (U.calling g mk a) o s₂ := hq
  rw [State.frames_setTop' g h.top] at hend
  obtain ⟨g₀, hg0⟩ := Option.isSome_iff_exists.mp h.top
  obtain ⟨r, hr⟩ := State.topJava?_eq_some.mp hg0
  have hr' : (({ U with heap := s₂.heap, slotsUsed := s₂.slotsUsed } : State).setVm s₂.vm).frames = .java g₀ :: r := hr
  rcases hq' with ⟨hqc, L, hfe, hL⟩ | ⟨q, rfl, E, ce, L, hx, hce, hcv, hcl, hW₂, hsm, hL⟩
  · obtain ⟨⟨v, rfl⟩, hW₂, e2, q2, q3, q4, q5, q6⟩ := id hfe
    have e3 : s₂ = ({ (U.calling g mk a).setFrames s₂.frames with heap := s₂.heap, slotsUsed := s₂.slotsUsed } : State).setVm s₂.vm := by
      have : s₂ = ({ s₂ with vm := (U.calling g mk a).vm } : State).setVm s₂.vm := rfl
      rw [e2] at this
      exact this
    obtain ⟨c₂, i₂, len₂, hc₂, hd₂, hf₂⟩ := hend
    have hW' : U.WarmedH s₂.vm := hW₂
    have hcc : c₂ = c := by
      have h1 : s₂.code? g.method = U.code? g.method := by
        rw [State.code?_eq, State.code?_eq, hW'.alike.method?]
      exact Option.some.inj (hc₂.symm.trans (h1.trans h.code))
    subst hcc
    have hlen : len₂ = len := by rw [hdg] at hd₂; cases hd₂; rfl
    subst hlen
    have hs₂ : s₂ = (({ U with heap := s₂.heap, slotsUsed := s₂.slotsUsed } : State).setVm s₂.vm).setTop { g with pc := g.pc + len₂, stack := v.toList ++ g.stack } := by
      refine e3.trans ?_
      rw [hf₂, State.calling_eq h.top, State.setFrames_setFrames, State.setTop_of_frames _ hr', hr]
      rfl
    have hsame : U.sameButNew ({ U with heap := s₂.heap, slotsUsed := s₂.slotsUsed } : State) L mc ms := by
      refine ⟨?_, q2, q3, q4, q5, q6⟩
      obtain ⟨t, ht, -⟩ := State.frames_cons hr
      show ({ U with heap := s₂.heap, slotsUsed := s₂.slotsUsed } : State) = { U.setFrames U.frames with heap := s₂.heap, slotsUsed := s₂.slotsUsed }
      rw [State.setFrames_self ht]
    subst hg
    refine Or.inl ⟨v, ⟨(({ U with heap := s₂.heap, slotsUsed := s₂.slotsUsed } : State).setVm s₂.vm), Ls ++ L, c0 + mc, s0 + ms⟩,
      ⟨X.admits, X.cas, X.clock, X.frames, X.room, X.hears, X.method, X.code, (X.here.setHeapUsed s₂.heap s₂.slotsUsed).setVm hW'.alike, X.tail, State.WarmedH.trans X.warmed hW', X.limits, X.bytes, X.same.trans (hsame.setVm s.vm)⟩,
      ⟨g, mk, s₂, L, rfl, rfl, hqc, rfl, hL, rfl, rfl⟩, ?_⟩
    show Steps p.tables e below _ ((({ U with heap := s₂.heap, slotsUsed := s₂.slotsUsed } : State).setVm s₂.vm).setTop { g with pc := g.pc + len₂, stack := v.toList ++ g.stack })
    rw [← hs₂]
    exact hsteps
  · obtain ⟨e2, q2, q3, q4, q5, q6⟩ := id hsm
    have e3 : s₂ = ({ (U.calling g mk a).setFrames s₂.frames with heap := s₂.heap, slotsUsed := s₂.slotsUsed } : State).setVm s₂.vm := by
      have : s₂ = ({ s₂ with vm := (U.calling g mk a).vm } : State).setVm s₂.vm := rfl
      rw [e2] at this
      exact this
    have hf₂ : s₂.frames = .throwing q :: .java g :: U.frames.tail := hend
    have hW' : U.WarmedH s₂.vm := hW₂
    have hs₂ : s₂ = ((({ U with heap := s₂.heap, slotsUsed := s₂.slotsUsed } : State).setVm s₂.vm).setTop g).pushFrame (.throwing q) := by
      refine e3.trans ?_
      rw [hf₂, State.calling_eq h.top, State.setFrames_setFrames, State.pushFrame, State.frames_setTop _ hr', State.setTop_of_frames _ hr', State.setFrames_setFrames, hr]
      rfl
    have hsame : U.sameButNew ({ U with heap := s₂.heap, slotsUsed := s₂.slotsUsed } : State) L mc ms := by
      refine ⟨?_, q2, q3, q4, q5, q6⟩
      obtain ⟨t, ht, -⟩ := State.frames_cons hr
      show ({ U with heap := s₂.heap, slotsUsed := s₂.slotsUsed } : State) = { U.setFrames U.frames with heap := s₂.heap, slotsUsed := s₂.slotsUsed }
      rw [State.setFrames_self ht]
    subst hg
    refine Or.inr ⟨q, ⟨(({ U with heap := s₂.heap, slotsUsed := s₂.slotsUsed } : State).setVm s₂.vm), Ls ++ L, c0 + mc, s0 + ms⟩,
      ⟨X.admits, X.cas, X.clock, X.frames, X.room, X.hears, X.method, X.code, (X.here.setHeapUsed s₂.heap s₂.slotsUsed).setVm hW'.alike, X.tail, State.WarmedH.trans X.warmed hW', X.limits, X.bytes, X.same.trans (hsame.setVm s.vm)⟩,
      ⟨g, mk, s₂, L, E, ce, rfl, rfl, hx, hce, hcv, hcl, rfl, hL, rfl, rfl⟩, ?_⟩
    show Steps p.tables e below _ (((({ U with heap := s₂.heap, slotsUsed := s₂.slotsUsed } : State).setVm s₂.vm).setTop g).pushFrame (.throwing q))
    rw [← hs₂]
    exact hsteps
end
variable {p : Program} {l : Launch} {e : Env} {R : Room} {s : State} {m : MethodId} {args : Array Value} {below : List Frame} {meth : Method} {c : Code} {T : State} {H : Heap} {locs : List Loc} {cells slots : Nat}
theorem vx_callVX (X : Stand p l e R s m args below meth c T locs cells slots) (hexec : p.tables.exec = Jvm.exec) {own C : String} {index : Nat} {y : MethodName} {bytes : ByteArray} {maxL : Nat} {ret : Option FieldType} {hh : List (Nat × Nat × Nat × Nat)}
    (hown : s.vm.findClass own = some m.cls) (hlink : (Cond.methodLink own index y).before args s = true) (hinst : (Cond.instanceMethod y).before args s = true) (hsel : (Cond.selects C y y).before args s = true)
    (hcode : (Cond.codeWith y bytes maxL ret hh).before args s = true) (hy : y.cls ≠ "java/lang/invoke/MethodHandle" ∧ y.cls ≠ "java/lang/invoke/VarHandle")
    {W9 : Nat} {Pre : Pt → Array Value → Prop} {Post : Pt → Array Value → Option Value → Pt → Prop} {PostX : Pt → Array Value → Addr → Pt → Prop} (hK : vx_Back l R p e below s args y 3 W9 Pre Post PostX)
    {b : Addr} {cellB : Cell} (hcell : T.heap[b]? = some cellB) (hobj : cellB.vm.isStatics = false) (hcls : s.vm.findClass C = some cellB.cls)
    {g : JFrame} (hg : g.method = m) (hsize : g.locals.size = c.maxLocals) {argsL rest : List Value} (hlen : ∀ sig, parseMethodDescriptor y.desc = some sig → argsL.length = sig.parameters.length)
    (hstack : g.stack = argsL.reverse ++ .ref b :: rest) (hW : 2 * g.monitorRoom + (rest.map fun v => v.category).sum ≤ W9) (hdg : decode c.code g.pc = .ok (.invokevirtual index, 3))
    (hpre : ∀ vm₁, s.WarmedH vm₁ → Pre ⟨T.setVm vm₁, locs, cells, slots⟩ (Value.ref b :: argsL).toArray) :
    (∃ (v : Option Value) (vm₁ : Vm) (B : Pt), s.WarmedH vm₁ ∧ Stand p l e R s m args below meth c B.U B.locs B.cells B.slots ∧ Post ⟨T.setVm vm₁, locs, cells, slots⟩ (Value.ref b :: argsL).toArray v B ∧
      ∀ target, Steps p.tables e below (B.U.setTop { g with pc := g.pc + 3, stack := v.toList ++ rest }) target → Steps p.tables e below (T.setTop g) target) ∨
    (∃ (q : Addr) (vm₁ : Vm) (B : Pt), s.WarmedH vm₁ ∧ Stand p l e R s m args below meth c B.U B.locs B.cells B.slots ∧ PostX ⟨T.setVm vm₁, locs, cells, slots⟩ (Value.ref b :: argsL).toArray q B ∧
      Steps p.tables e below (T.setTop g) ((B.U.setTop { g with stack := rest }).pushFrame (.throwing q))) := by
  obtain ⟨mk, methM, hnamed, hmethM, hstM, habM⟩ := Cond.instanceMethod_spec hinst
  obtain ⟨m8, methM', cM, hn8, hmethM', -, -, -, -, -, -, hsigM⟩ := Cond.codeWith_spec hcode
  cases Option.some.inj (hn8.symm.trans hnamed)
  cases hmethM.symm.trans hmethM'
  obtain ⟨c2, r2, m2, q1, q2, q3, q4, kP, hkP, hkPi⟩ := Cond.selects_spec hsel
  cases hcls.symm.trans q1
  cases (State.methodFound?_of_named hnamed hy).symm.trans q2
  cases hnamed.symm.trans q3
  have hselP : selectMethod e.platform s.vm cellB.cls mk = .method mk := by rw [Launch.admits_selectMethod X.admits]; exact q4
  obtain ⟨vm₁, X₁, hstep₁⟩ := X.invokevirtual hexec hown hlink hnamed hmethM hstM hkP hkPi hy (a := b) (cell := cellB) hcell
    (fun z h => by rw [h] at hobj; cases hobj) hselP hmethM habM hkP hkPi (g := g) hg (argsL := argsL) (rest := rest) (hlen _ hsigM) hstack hdg
  rcases hK m meth c ⟨T.setVm vm₁, locs, cells, slots⟩ { g with stack := rest } (.invokevirtual index) mk (Value.ref b :: argsL).toArray X₁ hg hsize hdg hW (X₁.named hnamed) (hpre vm₁ X₁.warmed) with ⟨v, B, X', hpost, hsteps⟩ | ⟨q, B, X', hpost, hsteps⟩
  · exact Or.inl ⟨v, vm₁, B, X₁.warmed, X', hpost, fun target h => hstep₁ _ fun acts => by rw [doInvoke_state]; exact hsteps.trans h⟩
  · exact Or.inr ⟨q, vm₁, B, X₁.warmed, X', hpost, hstep₁ _ fun acts => by rw [doInvoke_state]; exact hsteps⟩
theorem vx_callSX (X : Stand p l e R s m args below meth c T locs cells slots) (hexec : p.tables.exec = Jvm.exec) {own : String} {index : Nat} {y : MethodName} {bytes : ByteArray} {maxL : Nat} {ret : Option FieldType} {hh : List (Nat × Nat × Nat × Nat)}
    (hown : s.vm.findClass own = some m.cls) (hlink : (Cond.methodLink own index y).before args s = true) (hstat : (Cond.static y).before args s = true) (hinit : (Cond.initialized y.cls).before args s = true)
    (hcode : (Cond.codeWith y bytes maxL ret hh).before args s = true) (hy : y.cls ≠ "java/lang/invoke/MethodHandle" ∧ y.cls ≠ "java/lang/invoke/VarHandle")
    {W9 : Nat} {Pre : Pt → Array Value → Prop} {Post : Pt → Array Value → Option Value → Pt → Prop} {PostX : Pt → Array Value → Addr → Pt → Prop} (hK : vx_Back l R p e below s args y 3 W9 Pre Post PostX)
    {g : JFrame} (hg : g.method = m) (hsize : g.locals.size = c.maxLocals) {argsL rest : List Value} (hlen : ∀ sig, parseMethodDescriptor y.desc = some sig → argsL.length = sig.parameters.length)
    (hstack : g.stack = argsL.reverse ++ rest) (hW : 2 * g.monitorRoom + (rest.map fun v => v.category).sum ≤ W9) (hdg : decode c.code g.pc = .ok (.invokestatic index, 3))
    (hpre : ∀ vm₁, s.WarmedH vm₁ → Pre ⟨T.setVm vm₁, locs, cells, slots⟩ argsL.toArray) :
    (∃ (v : Option Value) (vm₁ : Vm) (B : Pt), s.WarmedH vm₁ ∧ Stand p l e R s m args below meth c B.U B.locs B.cells B.slots ∧ Post ⟨T.setVm vm₁, locs, cells, slots⟩ argsL.toArray v B ∧
      ∀ target, Steps p.tables e below (B.U.setTop { g with pc := g.pc + 3, stack := v.toList ++ rest }) target → Steps p.tables e below (T.setTop g) target) ∨
    (∃ (q : Addr) (vm₁ : Vm) (B : Pt), s.WarmedH vm₁ ∧ Stand p l e R s m args below meth c B.U B.locs B.cells B.slots ∧ PostX ⟨T.setVm vm₁, locs, cells, slots⟩ argsL.toArray q B ∧
      Steps p.tables e below (T.setTop g) ((B.U.setTop { g with stack := rest }).pushFrame (.throwing q))) := by
  obtain ⟨mk, methM, cM, hnamed, hmethM, -, -, -, -, -, -, hsigM⟩ := Cond.codeWith_spec hcode
  have hstatic : methM.isStatic = true := Cond.static_spec hnamed hmethM hstat
  obtain ⟨kP, hkP, -⟩ := className_of_methodNamed hnamed
  have hinitP : kP.init = .initialized := Cond.initialized_spec (findClass_of_methodNamed hnamed) hkP hinit
  obtain ⟨vm₁, X₁, hstep₁⟩ := X.invokestatic hexec hown hlink hnamed hmethM hstatic hkP hinitP hy (g := g) hg (argsL := argsL) (rest := rest) (hlen _ hsigM) hstack hdg
  rcases hK m meth c ⟨T.setVm vm₁, locs, cells, slots⟩ { g with stack := rest } (.invokestatic index) mk argsL.toArray X₁ hg hsize hdg hW (X₁.named hnamed) (hpre vm₁ X₁.warmed) with ⟨v, B, X', hpost, hsteps⟩ | ⟨q, B, X', hpost, hsteps⟩
  · exact Or.inl ⟨v, vm₁, B, X₁.warmed, X', hpost, fun target h => hstep₁ _ fun acts => by rw [doInvoke_state]; exact hsteps.trans h⟩
  · exact Or.inr ⟨q, vm₁, B, X₁.warmed, X', hpost, hstep₁ _ fun acts => by rw [doInvoke_state]; exact hsteps⟩
theorem vx_callVW (X : Stand p l e R s m args below meth c T locs cells slots) (hexec : p.tables.exec = Jvm.exec) {own C : String} {index : Nat} {y : MethodName} {bytes : ByteArray} {maxL : Nat} {ret : Option FieldType} {hh : List (Nat × Nat × Nat × Nat)}
    (hown : s.vm.findClass own = some m.cls) (hlink : (Cond.methodLink own index y).before args s = true) (hinst : (Cond.instanceMethod y).before args s = true) (hsel : (Cond.selects C y y).before args s = true)
    (hcode : (Cond.codeWith y bytes maxL ret hh).before args s = true) (hy : y.cls ≠ "java/lang/invoke/MethodHandle" ∧ y.cls ≠ "java/lang/invoke/VarHandle")
    {W9 : Nat} {Pre : Pt → Array Value → Prop} {Post : Pt → Array Value → Option Value → Pt → Prop} (hK : Back l R p e below s args y 3 W9 Pre Post)
    {b : Addr} {cellB : Cell} (hcell : T.heap[b]? = some cellB) (hobj : cellB.vm.isStatics = false) (hcls : s.vm.findClass C = some cellB.cls)
    {g : JFrame} (hg : g.method = m) (hsize : g.locals.size = c.maxLocals) {argsL rest : List Value} (hlen : ∀ sig, parseMethodDescriptor y.desc = some sig → argsL.length = sig.parameters.length)
    (hstack : g.stack = argsL.reverse ++ .ref b :: rest) (hW : 2 * g.monitorRoom + (rest.map fun v => v.category).sum ≤ W9) (hdg : decode c.code g.pc = .ok (.invokevirtual index, 3))
    (hpre : ∀ vm₁, s.WarmedH vm₁ → Pre ⟨T.setVm vm₁, locs, cells, slots⟩ (Value.ref b :: argsL).toArray) :
    ∃ (v : Option Value) (vm₁ : Vm) (B : Pt), s.WarmedH vm₁ ∧ Stand p l e R s m args below meth c B.U B.locs B.cells B.slots ∧ Post ⟨T.setVm vm₁, locs, cells, slots⟩ (Value.ref b :: argsL).toArray v B ∧
      ∀ target, Steps p.tables e below (B.U.setTop { g with pc := g.pc + 3, stack := v.toList ++ rest }) target → Steps p.tables e below (T.setTop g) target := by
  obtain ⟨mk, methM, hnamed, hmethM, hstM, habM⟩ := Cond.instanceMethod_spec hinst
  obtain ⟨m8, methM', cM, hn8, hmethM', -, -, -, -, -, -, hsigM⟩ := Cond.codeWith_spec hcode
  cases Option.some.inj (hn8.symm.trans hnamed)
  cases hmethM.symm.trans hmethM'
  obtain ⟨c2, r2, m2, q1, q2, q3, q4, kP, hkP, hkPi⟩ := Cond.selects_spec hsel
  cases hcls.symm.trans q1
  cases (State.methodFound?_of_named hnamed hy).symm.trans q2
  cases hnamed.symm.trans q3
  have hselP : selectMethod e.platform s.vm cellB.cls mk = .method mk := by rw [Launch.admits_selectMethod X.admits]; exact q4
  obtain ⟨vm₁, X₁, hstep₁⟩ := X.invokevirtual hexec hown hlink hnamed hmethM hstM hkP hkPi hy (a := b) (cell := cellB) hcell
    (fun z h => by rw [h] at hobj; cases hobj) hselP hmethM habM hkP hkPi (g := g) hg (argsL := argsL) (rest := rest) (hlen _ hsigM) hstack hdg
  obtain ⟨v, B, X', hpost, hsteps⟩ := hK m meth c ⟨T.setVm vm₁, locs, cells, slots⟩ { g with stack := rest } (.invokevirtual index) mk (Value.ref b :: argsL).toArray X₁ hg hsize hdg hW (X₁.named hnamed) (hpre vm₁ X₁.warmed)
  exact ⟨v, vm₁, B, X₁.warmed, X', hpost, fun target h => hstep₁ _ fun acts => by rw [doInvoke_state]; exact hsteps.trans h⟩
abbrev vx_CVW (R : Room) (s : State) (args : Array Value) (own C : String) (index : Nat) (y : MethodName) (bytes : ByteArray) (maxL : Nat) (ret : Option FieldType) (hh : List (Nat × Nat × Nat × Nat)) (ws : List Cond) (rm : Room) (mc ms n : Nat) : Prop :=
  (rm.cells = mc ∧ rm.slots = ms ∧ rm.frames + 1 ≤ R.frames ∧ 8 + (maxL + 11) + rm.locals ≤ R.locals ∧ (∀ w ∈ ws, ∀ (a' : Array Value) (U : State), s.WarmedH U.vm → w.before a' U = true) ∧ Cond.codeWith y bytes maxL ret hh ∈ ws) ∧
  (Cond.codeWith y bytes maxL ret hh).before args s = true ∧ (Cond.initialized y.cls).before args s = true ∧ (y.cls ≠ "java/lang/invoke/MethodHandle" ∧ y.cls ≠ "java/lang/invoke/VarHandle") ∧
  (∀ sig, parseMethodDescriptor y.desc = some sig → n = sig.parameters.length) ∧ (Cond.methodLink own index y).before args s = true ∧ (Cond.instanceMethod y).before args s = true ∧ (Cond.selects C y y).before args s = true
theorem vx_cwVW {own C : String} {index maxL mc ms : Nat} {y : MethodName} {bytes : ByteArray} {ret : Option FieldType} {hh : List (Nat × Nat × Nat × Nat)} {Ts ws ws' : List Cond} {rm : Room} (n : Nat) (ht : ∀ w ∈ Ts, w.before args s = true) (hT : GoodIn Ts (wsV own index C y ws)) (hw : ws = Cond.codeWith y bytes maxL ret hh :: ws') (hrc : rm.cells = mc) (hrs : rm.slots = ms)
    (hd : y.cls = C ∧ y.cls ≠ "java/lang/invoke/MethodHandle" ∧ y.cls ≠ "java/lang/invoke/VarHandle" ∧ (parseMethodDescriptor y.desc).map (fun d => d.parameters.length) = some n) (hR : rm.frames + 1 ≤ R.frames ∧ 8 + (maxL + 11) + rm.locals ≤ R.locals) :
    vx_CVW R s args own C index y bytes maxL ret hh ws rm mc ms n := by
  obtain ⟨hC, hd⟩ := hd
  subst hC
  have ok : ∀ w ∈ wsV own index y.cls y ws, w.before args s = true := fun w h => ht w (hT w h).1
  have hG : GoodIn Ts ws := fun w h => hT w (by unfold wsV; exact List.mem_append_right _ h)
  have hc : Cond.codeWith y bytes maxL ret hh ∈ ws := by rw [hw]; exact List.mem_cons_self
  refine ⟨⟨hrc, hrs, hR.1, hR.2, pay_in ht hG, hc⟩, ht _ (hG _ hc).1, ok _ (by simp [wsV]), ⟨hd.1, hd.2.1⟩, fun sig h => ?_, ok _ (by simp [wsV]), ok _ (by simp [wsV]), ok _ (by simp [wsV])⟩
  have h2 := hd.2.2
  rw [h] at h2
  exact (Option.some.inj h2).symm
theorem vx_runVW {y : MethodName} {bytes cc : ByteArray} {maxL nL mc ms n index : Nat} {ret : Option FieldType} {hh : List (Nat × Nat × Nat × Nat)} {ws : List Cond} {rm : Room} {Pc : Array Value → State → Prop} {Qc : Array Value → State → Outcome → State → Prop} {free : Addr → Prop} {Ts : List Cond} {own C : String} {b : Addr} {As rest : List Value} {g : JFrame}
    (S : CallFix p m c cc nL s args Ts own) (hM : Met l y ws rm Pc Qc mc ms free) (cw : vx_CVW R s args own C index y bytes maxL ret hh ws rm mc ms n) (hp : PreV s H C b Pc As)
    (hg : g.method = m) (hn : As.length = n) (hsize : g.locals.size = nL) (hstack : g.stack = As.reverse ++ .ref b :: rest) (hW : 2 * g.monitorRoom + (rest.map fun v => v.category).sum ≤ 8) (hdg : decode cc g.pc = .ok (.invokevirtual index, 3)) (hf : cells + mc ≤ R.cells ∧ slots + ms ≤ R.slots) :
    va_Run p l e R s m args below meth c H locs cells slots mc ms g rest (Qc (Value.ref b :: As).toArray) free := by
  obtain ⟨⟨hrc, hrs, hfr, hlo, hws, hcw⟩, hcode, hini, hy, hlen, hl, hin, hse⟩ := cw
  have hK : Back l R p e below s args y 3 8 (PreOf R mc ms Pc) (PostOf Qc mc ms free) := va_backW (hh := hh) (bytes := bytes) (maxL := maxL) (ret := ret) hM hp.1 hrc hrs hfr hlo hws hcw (fun a' U hW => word_at hW (Or.inl (by first | rfl | simp [Cond.onTables, Cond.keeps, Cond.steady])) hini)
  obtain ⟨hx, hb, hml, ho, -⟩ := S
  obtain ⟨-, ⟨cellB, hcB, hoB, hclB⟩, hPc⟩ := hp
  intro T hT X
  obtain ⟨v, vm₁, ⟨U', l2, c2, s2⟩, hW₁, X', ⟨g', mk, t, L, e1, e2, hq, h1, hL, h2, h3⟩, st⟩ := vx_callVW X hx (C := C) (hh := hh) (bytes := bytes) (maxL := maxL) (ret := ret) ho hl hin hse hcode hy hK (by rw [hT]; exact hcB) hoB hclB hg (hsize.trans hml.symm) (argsL := As) (rest := rest) (fun sig h => hn.trans (hlen sig h)) hstack hW (by rw [hb]; exact hdg)
    (fun vm₁ hW₁ => ⟨hf.1, hf.2, hPc (T.setVm vm₁) hT hW₁⟩)
  dsimp only [Pt.U, Pt.locs, Pt.cells, Pt.slots] at X' e1 e2 h1 h2 h3 st
  subst h1; subst h2; subst h3
  exact ⟨v, (T.setVm vm₁).calling g' mk (Value.ref b :: As).toArray, t, U', L, hT, X', hL, e1, e2, hq, st⟩
section
variable {y : MethodName} {bytes cc : ByteArray} {maxL nL mc ms n index : Nat} {ret : Option FieldType} {ws : List Cond} {rm : Room} {Pc : Array Value → State → Prop} {Qc : Array Value → State → Outcome → State → Prop} {XC : String → State → State → Prop} {free : Addr → Prop} {Ts : List Cond} {own C : String} {b : Addr} {As rest : List Value} {g : JFrame}
theorem vx_runVX {hh : List (Nat × Nat × Nat × Nat)} (S : CallFix p m c cc nL s args Ts own) (hM : vx_Met l y ws rm Pc Qc XC mc ms free) (cw : vx_CVW R s args own C index y bytes maxL ret hh ws rm mc ms n) (hp : PreV s H C b Pc As)
    (hg : g.method = m) (hn : As.length = n) (hsize : g.locals.size = nL) (hstack : g.stack = As.reverse ++ .ref b :: rest) (hW : 2 * g.monitorRoom + (rest.map fun v => v.category).sum ≤ 8) (hdg : decode cc g.pc = .ok (.invokevirtual index, 3)) (hf : cells + mc ≤ R.cells ∧ slots + ms ≤ R.slots) :
    vx_Run p l e R s m args below meth c H locs cells slots mc ms g rest (Qc (Value.ref b :: As).toArray) XC free := by
  obtain ⟨⟨hrc, hrs, hfr, hlo, hws, hcw⟩, hcode, hini, hy, hlen, hl, hin, hse⟩ := cw
  have hK : vx_Back l R p e below s args y 3 8 (PreOf R mc ms Pc) (PostOf Qc mc ms free) (vx_Post XC mc ms free) := vx_backW (hh := hh) (bytes := bytes) (maxL := maxL) (ret := ret) hM hp.1 hrc hrs hfr hlo hws hcw (fun a' U hW => word_at hW (Or.inl (by first | rfl | simp [Cond.onTables, Cond.keeps, Cond.steady])) hini)
  obtain ⟨hx, hb, hml, ho, -⟩ := S
  obtain ⟨-, ⟨cellB, hcB, hoB, hclB⟩, hPc⟩ := hp
  intro T hT X
  rcases vx_callVX X hx (C := C) (hh := hh) (bytes := bytes) (maxL := maxL) (ret := ret) ho hl hin hse hcode hy hK (by rw [hT]; exact hcB) hoB hclB hg (hsize.trans hml.symm) (argsL := As) (rest := rest) (fun sig h => hn.trans (hlen sig h)) hstack hW (by rw [hb]; exact hdg)
    (fun vm₁ hW₁ => ⟨hf.1, hf.2, hPc (T.setVm vm₁) hT hW₁⟩) with ⟨v, vm₁, ⟨U', l2, c2, s2⟩, hW₁, X', ⟨g', mk, t, L, e1, e2, hq, h1, hL, h2, h3⟩, st⟩ | ⟨q, vm₁, ⟨U', l2, c2, s2⟩, hW₁, X', ⟨g', mk, t, L, E, ce, e1, e2, hq, hce, hcv, hcl, h1, hL, h2, h3⟩, st⟩
  · dsimp only [Pt.U, Pt.locs, Pt.cells, Pt.slots] at X' e1 e2 h1 h2 h3 st
    subst h1; subst h2; subst h3
    exact Or.inl ⟨v, (T.setVm vm₁).calling g' mk (Value.ref b :: As).toArray, t, U', L, hT, X', hL, e1, e2, hq, st⟩
  · dsimp only [Pt.U, Pt.locs, Pt.cells, Pt.slots] at X' e1 e2 h1 h2 h3 st hcl
    subst h1; subst h2; subst h3
    exact Or.inr ⟨q, (T.setVm vm₁).calling g' mk (Value.ref b :: As).toArray, t, U', L, E, ce, hT, X', hL, e1, e2, hq, hce, hcv, vx_cls hW₁ hcl, st⟩
theorem vx_runSX {hh : List (Nat × Nat × Nat × Nat)} (S : CallFix p m c cc nL s args Ts own) (hM : vx_Met l y ws rm Pc Qc XC mc ms free) (cw : vx_CSW R s args own index y bytes maxL ret hh ws rm mc ms n) (hp : PreS s H Pc As)
    (hg : g.method = m) (hn : As.length = n) (hsize : g.locals.size = nL) (hstack : g.stack = As.reverse ++ rest) (hW : 2 * g.monitorRoom + (rest.map fun v => v.category).sum ≤ 8) (hdg : decode cc g.pc = .ok (.invokestatic index, 3)) (hf : cells + mc ≤ R.cells ∧ slots + ms ≤ R.slots) :
    vx_Run p l e R s m args below meth c H locs cells slots mc ms g rest (Qc As.toArray) XC free := by
  obtain ⟨⟨hrc, hrs, hfr, hlo, hws, hcw⟩, hcode, hini, hy, hlen, hl, hstt⟩ := cw
  have hK : vx_Back l R p e below s args y 3 8 (PreOf R mc ms Pc) (PostOf Qc mc ms free) (vx_Post XC mc ms free) := vx_backW (hh := hh) (bytes := bytes) (maxL := maxL) (ret := ret) hM hp.1 hrc hrs hfr hlo hws hcw (fun a' U hW => word_at hW (Or.inl (by first | rfl | simp [Cond.onTables, Cond.keeps, Cond.steady])) hini)
  obtain ⟨hx, hb, hml, ho, -⟩ := S
  intro T hT X
  rcases vx_callSX X hx (hh := hh) (bytes := bytes) (maxL := maxL) (ret := ret) ho hl hstt hini hcode hy hK hg (hsize.trans hml.symm) (argsL := As) (rest := rest) (fun sig h => hn.trans (hlen sig h)) hstack hW (by rw [hb]; exact hdg)
    (fun vm₁ hW₁ => ⟨hf.1, hf.2, hp.2 (T.setVm vm₁) hT hW₁⟩) with ⟨v, vm₁, ⟨U', l2, c2, s2⟩, hW₁, X', ⟨g', mk, t, L, e1, e2, hq, h1, hL, h2, h3⟩, st⟩ | ⟨q, vm₁, ⟨U', l2, c2, s2⟩, hW₁, X', ⟨g', mk, t, L, E, ce, e1, e2, hq, hce, hcv, hcl, h1, hL, h2, h3⟩, st⟩
  · dsimp only [Pt.U, Pt.locs, Pt.cells, Pt.slots] at X' e1 e2 h1 h2 h3 st
    subst h1; subst h2; subst h3
    exact Or.inl ⟨v, (T.setVm vm₁).calling g' mk As.toArray, t, U', L, hT, X', hL, e1, e2, hq, st⟩
  · dsimp only [Pt.U, Pt.locs, Pt.cells, Pt.slots] at X' e1 e2 h1 h2 h3 st hcl
    subst h1; subst h2; subst h3
    exact Or.inr ⟨q, (T.setVm vm₁).calling g' mk As.toArray, t, U', L, E, ce, hT, X', hL, e1, e2, hq, hce, hcv, vx_cls hW₁ hcl, st⟩
end
end VXH
theorem vx_ofWH {l : Launch} {y : MethodName} {ws ws' : List Cond} {rm : Room} {Pc : Array Value → State → Prop} {Qc : Array Value → State → Outcome → State → Prop} {XC : String → State → State → Prop} {mc ms : Nat} {free : Addr → Prop} {cc : ByteArray} {maxL : Nat} {ret : Option FieldType} {hh : List (Nat × Nat × Nat × Nat)}
    (hy : plainName y.cls = true) (hw : ws = Cond.codeWith y cc maxL ret hh :: ws')
    (body : ∀ p e s m args below meth c s₁, BodyLoose p l y (headSpec ws rm) cc maxL ret e s m args below meth c s₁ → c.maxLocals = maxL → Pc args s →
      W p l e (headSpec ws rm).room s m args below meth c s.heap [] 0 0 (vx_MQ below Qc XC args s mc ms free) (entryFrame m args maxL)) : vx_Met l y ws rm Pc Qc XC mc ms free := by
  refine MetFree.of_bodyS (code := cc) (maxLocals := maxL) (ret := ret) hy ?_ ?_
  · intro args s m h hn
    obtain ⟨m9, meth, c, hn9, h1, h2, h3, h4, -, h5, h6, -⟩ := Cond.codeWith_spec (atoms_spec (ws := ws) h _ (by rw [hw]; exact List.mem_cons_self))
    cases hn.symm.trans hn9
    exact ⟨meth, c, h1, h2, h3, h4, h5, h6⟩
  · intro p e s m args below meth c s₁ B hml hP _
    have hh0 : s₁.heap = s.heap := by rw [B.state]; rfl
    obtain ⟨t, a1, o, b1, b2, b3⟩ := body p e s m args below meth c s₁ B hml hP s₁ hh0 (Stand.of_body B)
    exact ⟨t, o, a1, b1, b2, b3⟩
/-! ===== END ===== -/
end
section
/-! the classes of the system, their fields (declarer, name, descriptor, final), types and first values -/
def kK_D : String := "PastTree$Disk"
def kF_D : u_T := fun k => match k with
  | 0 => ("PastTree$Disk", "records", "[I", true)
  | 1 => ("PastTree$Disk", "spoiled", "[Z", true)
  | 2 => ("PastTree$Disk", "blocks", "I", false)
  | 3 => ("PastTree$Disk", "written", "I", false)
  | 4 => ("PastTree$Disk", "kept", "I", false)
  | 5 => ("PastTree$Disk", "blocksToCut", "I", false)
  | _ => ("PastTree$Disk", "isDown", "Z", false)
def kt_D : Nat → FieldType := fun k => match k with
  | 0 => .array .int
  | 1 => .array .boolean
  | 2 => .int
  | 3 => .int
  | 4 => .int
  | 5 => .int
  | _ => .boolean
theorem kn_D : ∀ a, a < 7 → ∀ b, b < 7 → a ≠ b → (kF_D a).2.1 ≠ (kF_D b).2.1 := by decide +kernel
theorem kp_D : ∀ k, k < 7 → parseFieldDescriptor (kF_D k).2.2.1 = some (kt_D k) := by decide +kernel
theorem ki_D : ∀ w ∈ u_ws kK_D kF_D 7, w ∈ lw_tbl := by decide +kernel
def kz_D : List Value := [.null, .null, .int 0, .int 0, .int 0, .int 0, .int 0]
def kK_G : String := "PastTree$Page"
def kF_G : u_T := fun k => match k with
  | 0 => ("PastTree$Page", "number", "I", true)
  | 1 => ("PastTree$Page", "keys", "[I", true)
  | 2 => ("PastTree$Page", "froms", "[I", true)
  | 3 => ("PastTree$Page", "tos", "[I", true)
  | 4 => ("PastTree$Page", "whats", "[J", true)
  | 5 => ("PastTree$Page", "level", "I", false)
  | 6 => ("PastTree$Page", "born", "I", false)
  | 7 => ("PastTree$Page", "died", "I", false)
  | _ => ("PastTree$Page", "size", "I", false)
def kt_G : Nat → FieldType := fun k => match k with
  | 0 => .int
  | 1 => .array .int
  | 2 => .array .int
  | 3 => .array .int
  | 4 => .array .long
  | 5 => .int
  | 6 => .int
  | 7 => .int
  | _ => .int
theorem kn_G : ∀ a, a < 9 → ∀ b, b < 9 → a ≠ b → (kF_G a).2.1 ≠ (kF_G b).2.1 := by decide +kernel
theorem kp_G : ∀ k, k < 9 → parseFieldDescriptor (kF_G k).2.2.1 = some (kt_G k) := by decide +kernel
theorem ki_G : ∀ w ∈ u_ws kK_G kF_G 9, w ∈ lw_tbl := by decide +kernel
def kz_G : List Value := [.int 0, .null, .null, .null, .null, .int 0, .int 0, .int 0, .int 0]
def kK_R : String := "PastTree$Row"
def kF_R : u_T := fun k => match k with
  | 0 => ("PastTree$Row", "keys", "[I", true)
  | 1 => ("PastTree$Row", "whats", "[J", true)
  | _ => ("PastTree$Row", "size", "I", false)
def kt_R : Nat → FieldType := fun k => match k with
  | 0 => .array .int
  | 1 => .array .long
  | _ => .int
theorem kn_R : ∀ a, a < 3 → ∀ b, b < 3 → a ≠ b → (kF_R a).2.1 ≠ (kF_R b).2.1 := by decide +kernel
theorem kp_R : ∀ k, k < 3 → parseFieldDescriptor (kF_R k).2.2.1 = some (kt_R k) := by decide +kernel
theorem ki_R : ∀ w ∈ u_ws kK_R kF_R 3, w ∈ lw_tbl := by decide +kernel
def kz_R : List Value := [.null, .null, .int 0]
def kK_T : String := "PastTree$Tree"
def kF_T : u_T := fun k => match k with
  | 0 => ("PastTree$Tree", "first", "LPastTree$Page;", true)
  | 1 => ("PastTree$Tree", "book", "[LPastTree$Page;", true)
  | 2 => ("PastTree$Tree", "roots", "[I", true)
  | 3 => ("PastTree$Tree", "made", "I", false)
  | 4 => ("PastTree$Tree", "latest", "I", false)
  | 5 => ("PastTree$Tree", "path", "[LPastTree$Page;", true)
  | 6 => ("PastTree$Tree", "fence", "J", false)
  | 7 => ("PastTree$Tree", "goesOne", "I", false)
  | 8 => ("PastTree$Tree", "goesTwo", "I", false)
  | 9 => ("PastTree$Tree", "coming", "LPastTree$Row;", true)
  | 10 => ("PastTree$Tree", "list", "LPastTree$Row;", true)
  | _ => ("PastTree$Tree", "denseBelow", "I", false)
def kt_T : Nat → FieldType := fun k => match k with
  | 0 => .object "PastTree$Page"
  | 1 => .array (.object "PastTree$Page")
  | 2 => .array .int
  | 3 => .int
  | 4 => .int
  | 5 => .array (.object "PastTree$Page")
  | 6 => .long
  | 7 => .int
  | 8 => .int
  | 9 => .object "PastTree$Row"
  | 10 => .object "PastTree$Row"
  | _ => .int
theorem kn_T : ∀ a, a < 12 → ∀ b, b < 12 → a ≠ b → (kF_T a).2.1 ≠ (kF_T b).2.1 := by decide +kernel
theorem kp_T : ∀ k, k < 12 → parseFieldDescriptor (kF_T k).2.2.1 = some (kt_T k) := by decide +kernel
theorem ki_T : ∀ w ∈ u_ws kK_T kF_T 12, w ∈ lw_tbl := by decide +kernel
def kz_T : List Value := [.null, .null, .null, .int 0, .int 0, .null, .long 0, .int 0, .int 0, .null, .null, .int 0]
def kK_P : String := "PastTree"
def kF_P : u_T := fun k => match k with
  | 0 => ("PastTree", "tree", "LPastTree$Tree;", true)
  | 1 => ("PastTree", "device", "LPastTree$Disk;", true)
  | 2 => ("PastTree", "found", "LPastTree$Row;", true)
  | _ => ("PastTree", "others", "LPastTree$Row;", true)
def kt_P : Nat → FieldType := fun k => match k with
  | 0 => .object "PastTree$Tree"
  | 1 => .object "PastTree$Disk"
  | 2 => .object "PastTree$Row"
  | _ => .object "PastTree$Row"
theorem kn_P : ∀ a, a < 4 → ∀ b, b < 4 → a ≠ b → (kF_P a).2.1 ≠ (kF_P b).2.1 := by decide +kernel
theorem kp_P : ∀ k, k < 4 → parseFieldDescriptor (kF_P k).2.2.1 = some (kt_P k) := by decide +kernel
theorem ki_P : ∀ w ∈ u_ws kK_P kF_P 4, w ∈ lw_tbl := by decide +kernel
def kz_P : List Value := [.null, .null, .null, .null]
def kK_M : String := "PastTreeModel"
def kF_M : u_T := fun k => match k with
  | 0 => ("PastTreeModel", "code", "I", false)
  | 1 => ("PastTreeModel", "level", "[I", true)
  | 2 => ("PastTreeModel", "born", "[I", true)
  | 3 => ("PastTreeModel", "died", "[I", true)
  | 4 => ("PastTreeModel", "sizes", "[I", true)
  | 5 => ("PastTreeModel", "dirty", "[Z", true)
  | 6 => ("PastTreeModel", "key", "[I", true)
  | 7 => ("PastTreeModel", "from", "[I", true)
  | 8 => ("PastTreeModel", "to", "[I", true)
  | 9 => ("PastTreeModel", "what", "[J", true)
  | 10 => ("PastTreeModel", "made", "I", false)
  | 11 => ("PastTreeModel", "keptMade", "I", false)
  | 12 => ("PastTreeModel", "latest", "I", false)
  | 13 => ("PastTreeModel", "kept", "I", false)
  | 14 => ("PastTreeModel", "roots", "[I", true)
  | 15 => ("PastTreeModel", "logSize", "[I", true)
  | 16 => ("PastTreeModel", "spoiled", "[Z", true)
  | 17 => ("PastTreeModel", "logPuts", "[Z", true)
  | 18 => ("PastTreeModel", "logKey", "[I", true)
  | 19 => ("PastTreeModel", "logValue", "[J", true)
  | 20 => ("PastTreeModel", "blocks", "I", false)
  | 21 => ("PastTreeModel", "waiting", "I", false)
  | 22 => ("PastTreeModel", "waitPuts", "[Z", true)
  | 23 => ("PastTreeModel", "waitKey", "[I", true)
  | 24 => ("PastTreeModel", "waitValue", "[J", true)
  | 25 => ("PastTreeModel", "down", "Z", false)
  | 26 => ("PastTreeModel", "cut", "I", false)
  | 27 => ("PastTreeModel", "written", "I", false)
  | 28 => ("PastTreeModel", "goOne", "I", false)
  | 29 => ("PastTreeModel", "goTwo", "I", false)
  | 30 => ("PastTreeModel", "comes", "I", false)
  | 31 => ("PastTreeModel", "comeKey", "[I", true)
  | 32 => ("PastTreeModel", "comeWhat", "[J", true)
  | 33 => ("PastTreeModel", "listed", "I", false)
  | 34 => ("PastTreeModel", "listKey", "[I", true)
  | 35 => ("PastTreeModel", "listWhat", "[J", true)
  | 36 => ("PastTreeModel", "path", "[I", true)
  | 37 => ("PastTreeModel", "oneKey", "[I", true)
  | 38 => ("PastTreeModel", "oneValue", "[J", true)
  | 39 => ("PastTreeModel", "one", "I", false)
  | 40 => ("PastTreeModel", "twoKey", "[I", true)
  | 41 => ("PastTreeModel", "twoValue", "[J", true)
  | 42 => ("PastTreeModel", "walk", "[I", true)
  | _ => ("PastTreeModel", "walked", "[I", true)
def kt_M : Nat → FieldType := fun k => match k with
  | 0 => .int
  | 1 => .array .int
  | 2 => .array .int
  | 3 => .array .int
  | 4 => .array .int
  | 5 => .array .boolean
  | 6 => .array .int
  | 7 => .array .int
  | 8 => .array .int
  | 9 => .array .long
  | 10 => .int
  | 11 => .int
  | 12 => .int
  | 13 => .int
  | 14 => .array .int
  | 15 => .array .int
  | 16 => .array .boolean
  | 17 => .array .boolean
  | 18 => .array .int
  | 19 => .array .long
  | 20 => .int
  | 21 => .int
  | 22 => .array .boolean
  | 23 => .array .int
  | 24 => .array .long
  | 25 => .boolean
  | 26 => .int
  | 27 => .int
  | 28 => .int
  | 29 => .int
  | 30 => .int
  | 31 => .array .int
  | 32 => .array .long
  | 33 => .int
  | 34 => .array .int
  | 35 => .array .long
  | 36 => .array .int
  | 37 => .array .int
  | 38 => .array .long
  | 39 => .int
  | 40 => .array .int
  | 41 => .array .long
  | 42 => .array .int
  | _ => .array .int
theorem kn_M : ∀ a, a < 44 → ∀ b, b < 44 → a ≠ b → (kF_M a).2.1 ≠ (kF_M b).2.1 := by decide +kernel
theorem kp_M : ∀ k, k < 44 → parseFieldDescriptor (kF_M k).2.2.1 = some (kt_M k) := by decide +kernel
theorem ki_M : ∀ w ∈ u_ws kK_M kF_M 44, w ∈ lw_tbl := by decide +kernel
def kz_M : List Value := [.int 0, .null, .null, .null, .null, .null, .null, .null, .null, .null, .int 0, .int 0, .int 0, .int 0, .null, .null, .null, .null, .null, .null, .int 0, .int 0, .null, .null, .null, .int 0, .int 0, .int 0, .int 0, .int 0, .int 0, .null, .null, .int 0, .null, .null, .null, .null, .null, .int 0, .null, .null, .null, .null]
/-- the classes whose objects the store holds -/
def qcl : List vw_C := [(kK_D, kF_D, 7), (kK_G, kF_G, 9), (kK_R, kF_R, 3), (kK_T, kF_T, 12), (kK_P, kF_P, 4), (kK_M, kF_M, 44)]
def qtt : Nat → Nat → FieldType := fun c => match c with
  | 0 => kt_D
  | 1 => kt_G
  | 2 => kt_R
  | 3 => kt_T
  | 4 => kt_P
  | _ => kt_M
def qz : Nat → List Value := fun c => match c with
  | 0 => kz_D
  | 1 => kz_G
  | 2 => kz_R
  | 3 => kz_T
  | 4 => kz_P
  | _ => kz_M
theorem qcl_nm {c : Nat} {r : vw_C} (h : qcl[c]? = some r) : (∀ a, a < r.2.2 → ∀ b, b < r.2.2 → a ≠ b → (r.2.1 a).2.1 ≠ (r.2.1 b).2.1) ∧ (∀ k, k < r.2.2 → parseFieldDescriptor (r.2.1 k).2.2.1 = some (qtt c k)) ∧ (∀ w ∈ u_ws r.1 r.2.1 r.2.2, w ∈ lw_tbl) := by
  match c, h with
  | 0, h => cases h; exact ⟨kn_D, kp_D, ki_D⟩
  | 1, h => cases h; exact ⟨kn_G, kp_G, ki_G⟩
  | 2, h => cases h; exact ⟨kn_R, kp_R, ki_R⟩
  | 3, h => cases h; exact ⟨kn_T, kp_T, ki_T⟩
  | 4, h => cases h; exact ⟨kn_P, kp_P, ki_P⟩
  | 5, h => cases h; exact ⟨kn_M, kp_M, ki_M⟩
  | c + 6, h => simp [qcl] at h
theorem qz_ok : ∀ c, c < 6 → ∀ r, qcl[c]? = some r → ∀ j, j < r.2.2 → defaultValue (qtt c j) = vp_V (qz c) j := by
  intro c hc r h
  match c, h with
  | 0, h => cases h; decide +kernel
  | 1, h => cases h; decide +kernel
  | 2, h => cases h; decide +kernel
  | 3, h => cases h; decide +kernel
  | 4, h => cases h; decide +kernel
  | 5, h => cases h; decide +kernel
  | c + 6, h => omega
end
section
/-! THE STORE: what lies at an address: an array (0 ints, 1 longs, 2 booleans, 3 pages) or an object (the number of its kind in qcl, its fields); and the heap's size -/
abbrev qEn : Type := (Nat × vp_A) ⊕ (Nat × List Value)
abbrev qX : Type := (Nat → Option qEn) × Nat
abbrev qC : Type := va_G × (Nat → ClassId)
def qty : List FieldType := [.int, .long, .boolean, .object "PastTree$Page"]
def qw (C : qC) (e : qEn) : va_E := match e with
  | .inl a => .inl (C.2 a.1, a.2)
  | .inr o => .inr o
/-- a method: its name, code, locals, answer, handlers -/
abbrev qM : Type := MethodName × ByteArray × Nat × Option FieldType × List (Nat × Nat × Nat × Nat)
/-- the word that says a method's code -/
def qword (μ : qM) : Cond := match μ.2.2.2.2 with
  | [] => .code μ.1 μ.2.1 μ.2.2.1 μ.2.2.2.1
  | hh => .codeWith μ.1 μ.2.1 μ.2.2.1 μ.2.2.2.1 hh
/-- what is known of the state in which the law begins -/
def qB (l : Launch) (s0 : State) (C : qC) : Prop :=
  l.stackTraces = false ∧ (∃ A0 : Array Value, (∀ w ∈ lw_tbl, w.before A0 s0 = true) ∧ (Jvm.Cond.and given_1 narrow_1).before A0 s0 = true) ∧
  (∀ (c : Nat) (q : vw_C), qcl[c]? = some q → u_Kn s0 q.1 q.2.1 q.2.2 (C.1.1 c) (C.1.2 c)) ∧
  (∀ (t : Nat) (ty : FieldType), qty[t]? = some ty → ArrOfT s0 (C.2 t) ty ∧ va_RA s0 (C.2 t) ty)
/-- the heap holds the store, and what was there in the beginning -/
def qR (C : qC) (s0 : State) (X : qX) (H : Heap) : Prop :=
  H.size = X.2 ∧ s0.heap.size ≤ H.size ∧ (∀ q : Nat, q < s0.heap.size → H[q]? = s0.heap[q]?) ∧
  ∀ (a : Nat) (e : qEn), X.1 a = some e → s0.heap.size ≤ a ∧ va_at C.1 qcl (a, qw C e) H
def qG (s0 : State) (μ : qM) (p : Program) (s : State) (m : MethodId) (meth : Method) (c : Code) : Prop :=
  p.tables.exec = Jvm.exec ∧ c.code = μ.2.1 ∧ c.maxLocals = μ.2.2.1 ∧ meth.sig.returnType = μ.2.2.2.1 ∧ meth.locks = false ∧ s.vm.findClass μ.1.cls = some m.cls ∧
  c.exceptionTable.toList.map (fun h => (h.startPc, h.endPc, h.handlerPc, h.catchType)) = μ.2.2.2.2 ∧ meth.name = μ.1.name ∧ s0.WarmedH s.vm ∧ s0.heap.size ≤ s.heap.size ∧ (∀ q : Nat, q < s0.heap.size → s.heap[q]? = s0.heap[q]?)
def qQ (C : qC) (s0 : State) (Qp : Option Value → qX → Prop) : Array Value → State → Outcome → State → Prop := fun _ _ o t => ∃ (v : Option Value) (X : qX), o = .returned v ∧ qR C s0 X t.heap ∧ Qp v X
def qE (C : qC) (s0 : State) (Ep : String → qX → Prop) : String → State → State → Prop := fun E _ t => ∃ X : qX, qR C s0 X t.heap ∧ Ep E X
def qF (s0 : State) : Addr → Prop := fun q => s0.heap.size ≤ q
def qPc (C : qC) (s0 : State) (As : List Value) (X : qX) : Array Value → State → Prop := fun a U => a = As.toArray ∧ s0.WarmedH U.vm ∧ qR C s0 X U.heap
/-- A METHOD'S CONTRACT: called with As in the store X it returns v with Qp v X', or throws an E with Ep E X' -/
def qMet (l : Launch) (s0 : State) (C : qC) (μ : qM) (rm : Room) (As : List Value) (X : qX) (Qp : Option Value → qX → Prop) (Ep : String → qX → Prop) : Prop :=
  vx_Met l μ.1 [qword μ] rm (qPc C s0 As X) (qQ C s0 Qp) (qE C s0 Ep) rm.cells rm.slots (qF s0)
/-- INSIDE A METHOD: at pc, with the locals L, the stack st, the store X, k cells of n slots made so far -/
def qV (l : Launch) (s0 : State) (C : qC) (μ : qM) (rm : Room) (Qp : Option Value → qX → Prop) (Ep : String → qX → Prop) (k n : Nat) (X : qX) (pc : Nat) (L : List (Nat × Value)) (st : List Value) : Prop :=
  ∀ (p : Program) (e : Env) (s : State) (m : MethodId) (args : Array Value) (below : List Frame) (meth : Method) (c : Code), qG s0 μ p s m meth c →
  ∀ (H : Heap) (locs : List Loc) (ls : Array Slot), qR C s0 X H → (∀ q ∈ locs, s0.heap.size ≤ q.base) → lv_has ls μ.2.2.1 L →
  W p l e rm s m args below meth c H locs k n (vx_MQ below (qQ C s0 Qp) (qE C s0 Ep) args s rm.cells rm.slots (qF s0)) (F0 m pc ls st)
def qget (L : List (Nat × Value)) (i : Nat) : Option Value := (L.find? (fun q => q.1 == i)).map (fun q => q.2)
theorem qget_at {ls : Array Slot} {nL : Nat} {L : List (Nat × Value)} (h : lv_has ls nL L) {i : Nat} {v : Value} (hg : qget L i = some v) : ls[i]? = some (.val v) := by
  unfold qget at hg
  cases hf : L.find? (fun q => q.1 == i) with
  | none => rw [hf] at hg; cases hg
  | some q =>
    rw [hf] at hg
    have h1 := List.mem_of_find?_eq_some hf
    have h2 := List.find?_some hf
    have h3 : q.1 = i := by simpa using h2
    have h4 := h.2.2 q h1
    rw [h3] at h4
    cases hg
    exact h4
def qput (L : List (Nat × Value)) (i : Nat) (v : Value) : List (Nat × Value) := (i, v) :: L.filter (fun q => !(q.1 == i) && !(q.1 + 1 == i && q.2.category == 2))
def qput2 (L : List (Nat × Value)) (i : Nat) (v : Value) : List (Nat × Value) := (i, v) :: L.filter (fun q => !(q.1 == i) && (!(q.1 == i + 1) && !(q.1 + 1 == i && q.2.category == 2)))
/-- a good word of the tables holds in every later state -/
theorem qword_at {l : Launch} {s0 : State} {C : qC} (B : qB l s0 C) {w : Cond} (hw : w ∈ lw_tbl) (hg : goodWord w = true) {a : Array Value} {U : State} (hW : s0.WarmedH U.vm) : w.before a U = true := by
  obtain ⟨-, ⟨A0, h1, -⟩, -⟩ := B
  exact word_at hW (good_of_word hg) (h1 w hw)
theorem qword_spec {μ : qM} {args : Array Value} {s : State} {m : MethodId} (hn : s.methodNamed? μ.1 = some m) (h : (qword μ).before args s = true) :
    ∃ meth c, s.vm.method? m = some meth ∧ meth.code = some c ∧ c.code = μ.2.1 ∧ c.maxLocals = μ.2.2.1 ∧ meth.sig.returnType = μ.2.2.2.1 ∧ meth.locks = false ∧
      c.exceptionTable.toList.map (fun h => (h.startPc, h.endPc, h.handlerPc, h.catchType)) = μ.2.2.2.2 ∧ parseMethodDescriptor μ.1.desc = some meth.sig := by
  obtain ⟨y, cc, mL, rt, hh⟩ := μ
  cases hh with
  | nil =>
    obtain ⟨meth, c, h1, h2, h3, h4, h5, h6, h7, h8⟩ := Cond.code_spec hn (show (Cond.code y cc mL rt).before args s = true from h)
    refine ⟨meth, c, h1, h2, h3, h4, h5, h6, ?_, h8⟩
    have : c.exceptionTable = #[] := by simpa using h7
    rw [this]; rfl
  | cons a b =>
    obtain ⟨m9, meth, c, h0, h1, h2, h3, h4, h7, h5, h6, h8⟩ := Cond.codeWith_spec (show (Cond.codeWith y cc mL rt (a :: b)).before args s = true from h)
    cases hn.symm.trans h0
    exact ⟨meth, c, h1, h2, h3, h4, h5, h6, h7, h8⟩
set_option maxHeartbeats 1000000 in
/-- a contract out of the walk of the method's body -/
theorem q_of {l : Launch} {s0 : State} {C : qC} {μ : qM} {rm : Room} {As : List Value} {X : qX} {Qp : Option Value → qX → Prop} {Ep : String → qX → Prop} (hy : plainName μ.1.cls = true) (hn : (lg_sl As).length ≤ μ.2.2.1)
    (hV : qV l s0 C μ rm Qp Ep 0 0 X 0 (lv_args 0 As) []) : qMet l s0 C μ rm As X Qp Ep := by
  refine MetFree.of_bodyS (code := μ.2.1) (maxLocals := μ.2.2.1) (ret := μ.2.2.2.1) hy ?_ ?_
  · intro args s m h hnm
    obtain ⟨meth, c, h1, h2, h3, h4, h5, h6, -, -⟩ := qword_spec hnm (atoms_spec (ws := [qword μ]) h _ List.mem_cons_self)
    exact ⟨meth, c, h1, h2, h3, h4, h5, h6⟩
  · intro p e s m args below meth c s₁ B hml hP _
    obtain ⟨rfl, hW, hR⟩ := hP
    have hh0 : s₁.heap = s.heap := by rw [B.state]; rfl
    have hT : c.exceptionTable.toList.map (fun h => (h.startPc, h.endPc, h.handlerPc, h.catchType)) = μ.2.2.2.2 := by
      obtain ⟨meth9, c9, h1, h2, -, -, -, -, h7, -⟩ := qword_spec B.named (atoms_spec (ws := [qword μ]) B.pre _ List.mem_cons_self)
      cases Option.some.inj (h1.symm.trans B.method)
      cases Option.some.inj (h2.symm.trans (Stand.of_body B).code)
      exact h7
    have hl := lv_entry As (n := μ.2.2.1) hn
    have K := hV p e s m As.toArray below meth c ⟨B.exec, B.bytes, hml, B.returns, B.notSynchronized, findClass_of_methodNamed B.named, hT, (name_of_methodNamed B.named B.method).1, hW, hR.1 ▸ (hR.1 ▸ hR.2.1), hR.2.2.1⟩ s.heap [] _ hR (fun q h => nomatch h) hl
    rw [← lg_entry_eq] at K
    obtain ⟨t, a1, o, b1, b2, b3⟩ := K s₁ hh0 (Stand.of_body B)
    exact ⟨t, o, a1, b1, b2, b3⟩
section QV
variable {l : Launch} {s0 : State} {C : qC} {μ : qM} {rm : Room} {Qp : Option Value → qX → Prop} {Ep : String → qX → Prop} {k n : Nat} {X : qX} {pc : Nat} {L : List (Nat × Value)} {st : List Value}
theorem v_L {L' : List (Nat × Value)} (h : L = L') (K : qV l s0 C μ rm Qp Ep k n X pc L' st) : qV l s0 C μ rm Qp Ep k n X pc L st := h ▸ K
theorem v_X {X' : qX} (h : X = X') (K : qV l s0 C μ rm Qp Ep k n X' pc L st) : qV l s0 C μ rm Qp Ep k n X pc L st := h ▸ K
/-- fewer or other locals, each found by its number -/
theorem v_sub {L' : List (Nat × Value)} (h : ∀ q ∈ L', qget L q.1 = some q.2) (K : qV l s0 C μ rm Qp Ep k n X pc L' st) : qV l s0 C μ rm Qp Ep k n X pc L st :=
  fun p e s m args below meth c G H locs ls hR hL hl => K p e s m args below meth c G H locs ls hR hL ⟨hl.1, hl.2.1, fun q hq => qget_at hl (h q hq)⟩

theorem v_iconst {i : Int} {v : Int32} (hd : decode μ.2.1 pc = .ok (.iconst i, 1)) (hv : Int32.ofInt i = v) (K : qV l s0 C μ rm Qp Ep k n X (pc + 1) L (.int v :: st)) : qV l s0 C μ rm Qp Ep k n X pc L (st) :=
  fun p e s m args below meth c G H locs ls hR hL hl => lv_iconst G.1 G.2.1 hd hv (K p e s m args below meth c G H locs ls hR hL hl)

theorem v_bipush {i : Int} {v : Int32} (hd : decode μ.2.1 pc = .ok (.bipush i, 2)) (hv : (Int8.ofInt i).toInt32 = v) (K : qV l s0 C μ rm Qp Ep k n X (pc + 2) L (.int v :: st)) : qV l s0 C μ rm Qp Ep k n X pc L (st) :=
  fun p e s m args below meth c G H locs ls hR hL hl => lv_bipush G.1 G.2.1 hd hv (K p e s m args below meth c G H locs ls hR hL hl)

theorem v_sipush {i : Int} {v : Int32} (hd : decode μ.2.1 pc = .ok (.sipush i, 3)) (hv : (Int16.ofInt i).toInt32 = v) (K : qV l s0 C μ rm Qp Ep k n X (pc + 3) L (.int v :: st)) : qV l s0 C μ rm Qp Ep k n X pc L (st) :=
  fun p e s m args below meth c G H locs ls hR hL hl => lv_sipush G.1 G.2.1 hd hv (K p e s m args below meth c G H locs ls hR hL hl)

theorem v_lconst {i : Fin 2} {v : Int64} (hd : decode μ.2.1 pc = .ok (.lconst i, 1)) (hv : Int64.ofNat (i : Nat) = v) (K : qV l s0 C μ rm Qp Ep k n X (pc + 1) L (.long v :: st)) : qV l s0 C μ rm Qp Ep k n X pc L (st) :=
  fun p e s m args below meth c G H locs ls hR hL hl => lv_lconst G.1 G.2.1 hd hv (K p e s m args below meth c G H locs ls hR hL hl)

theorem v_iload_n {j : Fin 4} {x : Int32} (hd : decode μ.2.1 pc = .ok (.iload_n j, 1)) (h : qget L (j : Nat) = some (.int x)) (K : qV l s0 C μ rm Qp Ep k n X (pc + 1) L (.int x :: st)) : qV l s0 C μ rm Qp Ep k n X pc L (st) :=
  fun p e s m args below meth c G H locs ls hR hL hl => lv_iload_n G.1 G.2.1 hd rfl (qget_at hl h) (K p e s m args below meth c G H locs ls hR hL hl)

theorem v_iload {j : Nat} {x : Int32} (hd : decode μ.2.1 pc = .ok (.iload j, 2)) (h : qget L j = some (.int x)) (K : qV l s0 C μ rm Qp Ep k n X (pc + 2) L (.int x :: st)) : qV l s0 C μ rm Qp Ep k n X pc L (st) :=
  fun p e s m args below meth c G H locs ls hR hL hl => lv_iload G.1 G.2.1 hd (qget_at hl h) (K p e s m args below meth c G H locs ls hR hL hl)

theorem v_istore_n {j : Fin 4} {x : Int32} (hd : decode μ.2.1 pc = .ok (.istore_n j, 1)) (hn : (j : Nat) < μ.2.2.1) {L' : List (Nat × Value)} (hL' : qput L (j : Nat) (.int x) = L') (K : qV l s0 C μ rm Qp Ep k n X (pc + 1) L' st) : qV l s0 C μ rm Qp Ep k n X pc L (.int x :: st) :=
  fun p e s m args below meth c G H locs ls hR hL hl => lv_istore_n (lv' := L') G.1 G.2.1 hd rfl hl hn hL' (fun ls' hl' => K p e s m args below meth c G H locs ls' hR hL hl')

theorem v_istore {j : Nat} {x : Int32} (hd : decode μ.2.1 pc = .ok (.istore j, 2)) (hn : j < μ.2.2.1) {L' : List (Nat × Value)} (hL' : qput L j (.int x) = L') (K : qV l s0 C μ rm Qp Ep k n X (pc + 2) L' st) : qV l s0 C μ rm Qp Ep k n X pc L (.int x :: st) :=
  fun p e s m args below meth c G H locs ls hR hL hl => lv_istore (lv' := L') G.1 G.2.1 hd hl hn hL' (fun ls' hl' => K p e s m args below meth c G H locs ls' hR hL hl')

theorem v_lload_n {j : Fin 4} {x : Int64} (hd : decode μ.2.1 pc = .ok (.lload_n j, 1)) (h : qget L (j : Nat) = some (.long x)) (K : qV l s0 C μ rm Qp Ep k n X (pc + 1) L (.long x :: st)) : qV l s0 C μ rm Qp Ep k n X pc L (st) :=
  fun p e s m args below meth c G H locs ls hR hL hl => lv_lload_n G.1 G.2.1 hd rfl (qget_at hl h) (K p e s m args below meth c G H locs ls hR hL hl)

theorem v_lload {j : Nat} {x : Int64} (hd : decode μ.2.1 pc = .ok (.lload j, 2)) (h : qget L j = some (.long x)) (K : qV l s0 C μ rm Qp Ep k n X (pc + 2) L (.long x :: st)) : qV l s0 C μ rm Qp Ep k n X pc L (st) :=
  fun p e s m args below meth c G H locs ls hR hL hl => lv_lload G.1 G.2.1 hd (qget_at hl h) (K p e s m args below meth c G H locs ls hR hL hl)

theorem v_lstore_n {j : Fin 4} {x : Int64} (hd : decode μ.2.1 pc = .ok (.lstore_n j, 1)) (hn : (j : Nat) + 1 < μ.2.2.1) {L' : List (Nat × Value)} (hL' : qput2 L (j : Nat) (.long x) = L') (K : qV l s0 C μ rm Qp Ep k n X (pc + 1) L' st) : qV l s0 C μ rm Qp Ep k n X pc L (.long x :: st) :=
  fun p e s m args below meth c G H locs ls hR hL hl => lv_lstore_n (lv' := L') G.1 G.2.1 hd rfl hl hn hL' (fun ls' hl' => K p e s m args below meth c G H locs ls' hR hL hl')

theorem v_lstore {j : Nat} {x : Int64} (hd : decode μ.2.1 pc = .ok (.lstore j, 2)) (hn : j + 1 < μ.2.2.1) {L' : List (Nat × Value)} (hL' : qput2 L j (.long x) = L') (K : qV l s0 C μ rm Qp Ep k n X (pc + 2) L' st) : qV l s0 C μ rm Qp Ep k n X pc L (.long x :: st) :=
  fun p e s m args below meth c G H locs ls hR hL hl => lv_lstore (lv' := L') G.1 G.2.1 hd hl hn hL' (fun ls' hl' => K p e s m args below meth c G H locs ls' hR hL hl')

theorem v_aload_n {j : Fin 4} {x : Nat} (hd : decode μ.2.1 pc = .ok (.aload_n j, 1)) (h : qget L (j : Nat) = some (.ref x)) (K : qV l s0 C μ rm Qp Ep k n X (pc + 1) L (.ref x :: st)) : qV l s0 C μ rm Qp Ep k n X pc L (st) :=
  fun p e s m args below meth c G H locs ls hR hL hl => lv_aload_n G.1 G.2.1 hd rfl (qget_at hl h) (K p e s m args below meth c G H locs ls hR hL hl)

theorem v_aload {j : Nat} {x : Nat} (hd : decode μ.2.1 pc = .ok (.aload j, 2)) (h : qget L j = some (.ref x)) (K : qV l s0 C μ rm Qp Ep k n X (pc + 2) L (.ref x :: st)) : qV l s0 C μ rm Qp Ep k n X pc L (st) :=
  fun p e s m args below meth c G H locs ls hR hL hl => lv_aload G.1 G.2.1 hd (qget_at hl h) (K p e s m args below meth c G H locs ls hR hL hl)

theorem v_astore_n {j : Fin 4} {x : Nat} (hd : decode μ.2.1 pc = .ok (.astore_n j, 1)) (hn : (j : Nat) < μ.2.2.1) {L' : List (Nat × Value)} (hL' : qput L (j : Nat) (.ref x) = L') (K : qV l s0 C μ rm Qp Ep k n X (pc + 1) L' st) : qV l s0 C μ rm Qp Ep k n X pc L (.ref x :: st) :=
  fun p e s m args below meth c G H locs ls hR hL hl => lv_astore_n (lv' := L') G.1 G.2.1 hd rfl hl hn hL' (fun ls' hl' => K p e s m args below meth c G H locs ls' hR hL hl')

theorem v_astore {j : Nat} {x : Nat} (hd : decode μ.2.1 pc = .ok (.astore j, 2)) (hn : j < μ.2.2.1) {L' : List (Nat × Value)} (hL' : qput L j (.ref x) = L') (K : qV l s0 C μ rm Qp Ep k n X (pc + 2) L' st) : qV l s0 C μ rm Qp Ep k n X pc L (.ref x :: st) :=
  fun p e s m args below meth c G H locs ls hR hL hl => lv_astore (lv' := L') G.1 G.2.1 hd hl hn hL' (fun ls' hl' => K p e s m args below meth c G H locs ls' hR hL hl')

theorem v_iinc {j : Nat} {i : Int} {x v : Int32} (hd : decode μ.2.1 pc = .ok (.iinc j i, 3)) (h : qget L j = some (.int x)) (hv : x + Int32.ofInt i = v) (hn : j < μ.2.2.1) {L' : List (Nat × Value)} (hL' : qput L j (.int v) = L') (K : qV l s0 C μ rm Qp Ep k n X (pc + 3) L' st) : qV l s0 C μ rm Qp Ep k n X pc L st := by
  have hm : ∃ q : Nat, L[q]? = some (j, .int x) := by
    unfold qget at h
    cases hf : L.find? (fun q => q.1 == j) with
    | none => rw [hf] at h; cases h
    | some q =>
      rw [hf] at h
      have h1 := List.mem_of_find?_eq_some hf
      have h2 := List.find?_some hf
      have h3 : q.1 = j := by simpa using h2
      have h4 : q.2 = .int x := Option.some.inj h
      obtain ⟨i9, hi9⟩ := List.getElem?_of_mem h1
      exact ⟨i9, by rw [hi9]; exact congrArg some (Prod.ext h3 h4)⟩
  obtain ⟨q, hq⟩ := hm
  exact fun p e s m args below meth c G H locs ls hR hL hl => lv_iinc (lv' := L') G.1 G.2.1 hd hl hq hv hn hL' (fun ls' hl' => K p e s m args below meth c G H locs ls' hR hL hl')

theorem v_iadd {x y : Int32} (hd : decode μ.2.1 pc = .ok (.iadd, 1)) (K : qV l s0 C μ rm Qp Ep k n X (pc + 1) L (.int (x + y) :: st)) : qV l s0 C μ rm Qp Ep k n X pc L (.int y :: .int x :: st) :=
  fun p e s m args below meth c G H locs ls hR hL hl => lv_iadd G.1 G.2.1 hd (K p e s m args below meth c G H locs ls hR hL hl)

theorem v_isub {x y : Int32} (hd : decode μ.2.1 pc = .ok (.isub, 1)) (K : qV l s0 C μ rm Qp Ep k n X (pc + 1) L (.int (x - y) :: st)) : qV l s0 C μ rm Qp Ep k n X pc L (.int y :: .int x :: st) :=
  fun p e s m args below meth c G H locs ls hR hL hl => lv_isub G.1 G.2.1 hd (K p e s m args below meth c G H locs ls hR hL hl)

theorem v_imul {x y : Int32} (hd : decode μ.2.1 pc = .ok (.imul, 1)) (K : qV l s0 C μ rm Qp Ep k n X (pc + 1) L (.int (x * y) :: st)) : qV l s0 C μ rm Qp Ep k n X pc L (.int y :: .int x :: st) :=
  fun p e s m args below meth c G H locs ls hR hL hl => lv_imul G.1 G.2.1 hd (K p e s m args below meth c G H locs ls hR hL hl)

theorem v_iand {x y : Int32} (hd : decode μ.2.1 pc = .ok (.iand, 1)) (K : qV l s0 C μ rm Qp Ep k n X (pc + 1) L (.int (x &&& y) :: st)) : qV l s0 C μ rm Qp Ep k n X pc L (.int y :: .int x :: st) :=
  fun p e s m args below meth c G H locs ls hR hL hl => lv_iand G.1 G.2.1 hd (K p e s m args below meth c G H locs ls hR hL hl)

theorem v_idiv {x y : Int32} (hd : decode μ.2.1 pc = .ok (.idiv, 1)) (hne : ¬ y = 0) (K : qV l s0 C μ rm Qp Ep k n X (pc + 1) L (.int (x / y) :: st)) : qV l s0 C μ rm Qp Ep k n X pc L (.int y :: .int x :: st) :=
  fun p e s m args below meth c G H locs ls hR hL hl => lv_idiv G.1 G.2.1 hd hne (K p e s m args below meth c G H locs ls hR hL hl)

theorem v_ladd {x y : Int64} (hd : decode μ.2.1 pc = .ok (.ladd, 1)) (K : qV l s0 C μ rm Qp Ep k n X (pc + 1) L (.long (x + y) :: st)) : qV l s0 C μ rm Qp Ep k n X pc L (.long y :: .long x :: st) :=
  fun p e s m args below meth c G H locs ls hR hL hl => lv_ladd G.1 G.2.1 hd (K p e s m args below meth c G H locs ls hR hL hl)

theorem v_lsub {x y : Int64} (hd : decode μ.2.1 pc = .ok (.lsub, 1)) (K : qV l s0 C μ rm Qp Ep k n X (pc + 1) L (.long (x - y) :: st)) : qV l s0 C μ rm Qp Ep k n X pc L (.long y :: .long x :: st) :=
  fun p e s m args below meth c G H locs ls hR hL hl => lv_lsub G.1 G.2.1 hd (K p e s m args below meth c G H locs ls hR hL hl)

theorem v_lor {x y : Int64} (hd : decode μ.2.1 pc = .ok (.lor, 1)) (K : qV l s0 C μ rm Qp Ep k n X (pc + 1) L (.long (x ||| y) :: st)) : qV l s0 C μ rm Qp Ep k n X pc L (.long y :: .long x :: st) :=
  fun p e s m args below meth c G H locs ls hR hL hl => lv_lor G.1 G.2.1 hd (K p e s m args below meth c G H locs ls hR hL hl)

theorem v_land {x y : Int64} (hd : decode μ.2.1 pc = .ok (.land, 1)) (K : qV l s0 C μ rm Qp Ep k n X (pc + 1) L (.long (x &&& y) :: st)) : qV l s0 C μ rm Qp Ep k n X pc L (.long y :: .long x :: st) :=
  fun p e s m args below meth c G H locs ls hR hL hl => lv_land G.1 G.2.1 hd (K p e s m args below meth c G H locs ls hR hL hl)

theorem v_lshl {x : Int64} {y : Int32} (hd : decode μ.2.1 pc = .ok (.lshl, 1)) (K : qV l s0 C μ rm Qp Ep k n X (pc + 1) L (.long (x <<< (y.toInt64 &&& 63)) :: st)) : qV l s0 C μ rm Qp Ep k n X pc L (.int y :: .long x :: st) :=
  fun p e s m args below meth c G H locs ls hR hL hl => lv_lshl G.1 G.2.1 hd rfl (K p e s m args below meth c G H locs ls hR hL hl)

theorem v_i2l {x : Int32} (hd : decode μ.2.1 pc = .ok (.i2l, 1)) (K : qV l s0 C μ rm Qp Ep k n X (pc + 1) L (.long x.toInt64 :: st)) : qV l s0 C μ rm Qp Ep k n X pc L (.int x :: st) :=
  fun p e s m args below meth c G H locs ls hR hL hl => lv_i2l G.1 G.2.1 hd rfl (K p e s m args below meth c G H locs ls hR hL hl)

theorem v_l2i {x : Int64} (hd : decode μ.2.1 pc = .ok (.l2i, 1)) (K : qV l s0 C μ rm Qp Ep k n X (pc + 1) L (.int x.toInt32 :: st)) : qV l s0 C μ rm Qp Ep k n X pc L (.long x :: st) :=
  fun p e s m args below meth c G H locs ls hR hL hl => lv_l2i G.1 G.2.1 hd rfl (K p e s m args below meth c G H locs ls hR hL hl)

theorem v_lcmp {x y : Int64} (hd : decode μ.2.1 pc = .ok (.lcmp, 1)) (K : qV l s0 C μ rm Qp Ep k n X (pc + 1) L (.int (lg_cmp x y) :: st)) : qV l s0 C μ rm Qp Ep k n X pc L (.long y :: .long x :: st) :=
  fun p e s m args below meth c G H locs ls hR hL hl => W.lcmp G.1 G.2.1 hd (K p e s m args below meth c G H locs ls hR hL hl)

theorem v_dup {v : Value} (hd : decode μ.2.1 pc = .ok (.dup, 1)) (hc : v.category = 1) (K : qV l s0 C μ rm Qp Ep k n X (pc + 1) L (v :: v :: st)) : qV l s0 C μ rm Qp Ep k n X pc L (v :: st) :=
  fun p e s m args below meth c G H locs ls hR hL hl => lv_dup G.1 G.2.1 hd hc (K p e s m args below meth c G H locs ls hR hL hl)

theorem v_dup2 {v w : Value} (hd : decode μ.2.1 pc = .ok (.dup2, 1)) (hc : v.category = 1) (hc2 : w.category = 1) (K : qV l s0 C μ rm Qp Ep k n X (pc + 1) L (v :: w :: v :: w :: st)) : qV l s0 C μ rm Qp Ep k n X pc L (v :: w :: st) :=
  fun p e s m args below meth c G H locs ls hR hL hl => lv_dup2_11 G.1 G.2.1 hd hc hc2 (K p e s m args below meth c G H locs ls hR hL hl)

theorem v_null (hd : decode μ.2.1 pc = .ok (.aconst_null, 1)) (K : qV l s0 C μ rm Qp Ep k n X (pc + 1) L (.null :: st)) : qV l s0 C μ rm Qp Ep k n X pc L (st) :=
  fun p e s m args below meth c G H locs ls hR hL hl => lv_null G.1 G.2.1 hd (K p e s m args below meth c G H locs ls hR hL hl)

theorem v_goto {off : Int} {tgt : Nat} (hd : decode μ.2.1 pc = .ok (.goto off, 3)) (ht : (pc : Int) + off = (tgt : Int)) (K : qV l s0 C μ rm Qp Ep k n X tgt L st) : qV l s0 C μ rm Qp Ep k n X pc L st :=
  fun p e s m args below meth c G H locs ls hR hL hl => lv_goto G.1 G.2.1 hd ht (K p e s m args below meth c G H locs ls hR hL hl)

theorem v_if_eq {x : Int32} {off : Int} {tgt : Nat} (hd : decode μ.2.1 pc = .ok (.ifCond .eq off, 3)) (ht : (pc : Int) + off = (tgt : Int)) (kt : x = 0 → qV l s0 C μ rm Qp Ep k n X tgt L st) (kf : ¬ x = 0 → qV l s0 C μ rm Qp Ep k n X (pc + 3) L st) : qV l s0 C μ rm Qp Ep k n X pc L (.int x :: st) :=
  fun p e s m args below meth c G H locs ls hR hL hl => lv_if_eq G.1 G.2.1 hd ht (fun h => kt h p e s m args below meth c G H locs ls hR hL hl) (fun h => kf h p e s m args below meth c G H locs ls hR hL hl)

theorem v_icmp_eq {x y : Int32} {off : Int} {tgt : Nat} (hd : decode μ.2.1 pc = .ok (.if_icmp .eq off, 3)) (ht : (pc : Int) + off = (tgt : Int)) (kt : x = y → qV l s0 C μ rm Qp Ep k n X tgt L st) (kf : ¬ x = y → qV l s0 C μ rm Qp Ep k n X (pc + 3) L st) : qV l s0 C μ rm Qp Ep k n X pc L (.int y :: .int x :: st) :=
  fun p e s m args below meth c G H locs ls hR hL hl => lv_icmp_eq G.1 G.2.1 hd ht (fun h => kt h p e s m args below meth c G H locs ls hR hL hl) (fun h => kf h p e s m args below meth c G H locs ls hR hL hl)

theorem v_if_ne {x : Int32} {off : Int} {tgt : Nat} (hd : decode μ.2.1 pc = .ok (.ifCond .ne off, 3)) (ht : (pc : Int) + off = (tgt : Int)) (kt : ¬ x = 0 → qV l s0 C μ rm Qp Ep k n X tgt L st) (kf : x = 0 → qV l s0 C μ rm Qp Ep k n X (pc + 3) L st) : qV l s0 C μ rm Qp Ep k n X pc L (.int x :: st) :=
  fun p e s m args below meth c G H locs ls hR hL hl => lv_if_ne G.1 G.2.1 hd ht (fun h => kt h p e s m args below meth c G H locs ls hR hL hl) (fun h => kf h p e s m args below meth c G H locs ls hR hL hl)

theorem v_icmp_ne {x y : Int32} {off : Int} {tgt : Nat} (hd : decode μ.2.1 pc = .ok (.if_icmp .ne off, 3)) (ht : (pc : Int) + off = (tgt : Int)) (kt : ¬ x = y → qV l s0 C μ rm Qp Ep k n X tgt L st) (kf : x = y → qV l s0 C μ rm Qp Ep k n X (pc + 3) L st) : qV l s0 C μ rm Qp Ep k n X pc L (.int y :: .int x :: st) :=
  fun p e s m args below meth c G H locs ls hR hL hl => lv_icmp_ne G.1 G.2.1 hd ht (fun h => kt h p e s m args below meth c G H locs ls hR hL hl) (fun h => kf h p e s m args below meth c G H locs ls hR hL hl)

theorem v_if_lt {x : Int32} {off : Int} {tgt : Nat} (hd : decode μ.2.1 pc = .ok (.ifCond .lt off, 3)) (ht : (pc : Int) + off = (tgt : Int)) (kt : x < 0 → qV l s0 C μ rm Qp Ep k n X tgt L st) (kf : ¬ x < 0 → qV l s0 C μ rm Qp Ep k n X (pc + 3) L st) : qV l s0 C μ rm Qp Ep k n X pc L (.int x :: st) :=
  fun p e s m args below meth c G H locs ls hR hL hl => lv_if_lt G.1 G.2.1 hd ht (fun h => kt h p e s m args below meth c G H locs ls hR hL hl) (fun h => kf h p e s m args below meth c G H locs ls hR hL hl)

theorem v_icmp_lt {x y : Int32} {off : Int} {tgt : Nat} (hd : decode μ.2.1 pc = .ok (.if_icmp .lt off, 3)) (ht : (pc : Int) + off = (tgt : Int)) (kt : x < y → qV l s0 C μ rm Qp Ep k n X tgt L st) (kf : ¬ x < y → qV l s0 C μ rm Qp Ep k n X (pc + 3) L st) : qV l s0 C μ rm Qp Ep k n X pc L (.int y :: .int x :: st) :=
  fun p e s m args below meth c G H locs ls hR hL hl => lv_icmp_lt G.1 G.2.1 hd ht (fun h => kt h p e s m args below meth c G H locs ls hR hL hl) (fun h => kf h p e s m args below meth c G H locs ls hR hL hl)

theorem v_if_ge {x : Int32} {off : Int} {tgt : Nat} (hd : decode μ.2.1 pc = .ok (.ifCond .ge off, 3)) (ht : (pc : Int) + off = (tgt : Int)) (kt : 0 ≤ x → qV l s0 C μ rm Qp Ep k n X tgt L st) (kf : ¬ 0 ≤ x → qV l s0 C μ rm Qp Ep k n X (pc + 3) L st) : qV l s0 C μ rm Qp Ep k n X pc L (.int x :: st) :=
  fun p e s m args below meth c G H locs ls hR hL hl => lv_if_ge G.1 G.2.1 hd ht (fun h => kt h p e s m args below meth c G H locs ls hR hL hl) (fun h => kf h p e s m args below meth c G H locs ls hR hL hl)

theorem v_icmp_ge {x y : Int32} {off : Int} {tgt : Nat} (hd : decode μ.2.1 pc = .ok (.if_icmp .ge off, 3)) (ht : (pc : Int) + off = (tgt : Int)) (kt : y ≤ x → qV l s0 C μ rm Qp Ep k n X tgt L st) (kf : ¬ y ≤ x → qV l s0 C μ rm Qp Ep k n X (pc + 3) L st) : qV l s0 C μ rm Qp Ep k n X pc L (.int y :: .int x :: st) :=
  fun p e s m args below meth c G H locs ls hR hL hl => lv_icmp_ge G.1 G.2.1 hd ht (fun h => kt h p e s m args below meth c G H locs ls hR hL hl) (fun h => kf h p e s m args below meth c G H locs ls hR hL hl)

theorem v_if_gt {x : Int32} {off : Int} {tgt : Nat} (hd : decode μ.2.1 pc = .ok (.ifCond .gt off, 3)) (ht : (pc : Int) + off = (tgt : Int)) (kt : 0 < x → qV l s0 C μ rm Qp Ep k n X tgt L st) (kf : ¬ 0 < x → qV l s0 C μ rm Qp Ep k n X (pc + 3) L st) : qV l s0 C μ rm Qp Ep k n X pc L (.int x :: st) :=
  fun p e s m args below meth c G H locs ls hR hL hl => lv_if_gt G.1 G.2.1 hd ht (fun h => kt h p e s m args below meth c G H locs ls hR hL hl) (fun h => kf h p e s m args below meth c G H locs ls hR hL hl)

theorem v_icmp_gt {x y : Int32} {off : Int} {tgt : Nat} (hd : decode μ.2.1 pc = .ok (.if_icmp .gt off, 3)) (ht : (pc : Int) + off = (tgt : Int)) (kt : y < x → qV l s0 C μ rm Qp Ep k n X tgt L st) (kf : ¬ y < x → qV l s0 C μ rm Qp Ep k n X (pc + 3) L st) : qV l s0 C μ rm Qp Ep k n X pc L (.int y :: .int x :: st) :=
  fun p e s m args below meth c G H locs ls hR hL hl => lv_icmp_gt G.1 G.2.1 hd ht (fun h => kt h p e s m args below meth c G H locs ls hR hL hl) (fun h => kf h p e s m args below meth c G H locs ls hR hL hl)

theorem v_if_le {x : Int32} {off : Int} {tgt : Nat} (hd : decode μ.2.1 pc = .ok (.ifCond .le off, 3)) (ht : (pc : Int) + off = (tgt : Int)) (kt : x ≤ 0 → qV l s0 C μ rm Qp Ep k n X tgt L st) (kf : ¬ x ≤ 0 → qV l s0 C μ rm Qp Ep k n X (pc + 3) L st) : qV l s0 C μ rm Qp Ep k n X pc L (.int x :: st) :=
  fun p e s m args below meth c G H locs ls hR hL hl => lv_if_le G.1 G.2.1 hd ht (fun h => kt h p e s m args below meth c G H locs ls hR hL hl) (fun h => kf h p e s m args below meth c G H locs ls hR hL hl)

theorem v_icmp_le {x y : Int32} {off : Int} {tgt : Nat} (hd : decode μ.2.1 pc = .ok (.if_icmp .le off, 3)) (ht : (pc : Int) + off = (tgt : Int)) (kt : x ≤ y → qV l s0 C μ rm Qp Ep k n X tgt L st) (kf : ¬ x ≤ y → qV l s0 C μ rm Qp Ep k n X (pc + 3) L st) : qV l s0 C μ rm Qp Ep k n X pc L (.int y :: .int x :: st) :=
  fun p e s m args below meth c G H locs ls hR hL hl => lv_icmp_le G.1 G.2.1 hd ht (fun h => kt h p e s m args below meth c G H locs ls hR hL hl) (fun h => kf h p e s m args below meth c G H locs ls hR hL hl)

theorem v_ifnull {x : Nat} {off : Int} (hd : decode μ.2.1 pc = .ok (.ifnull off, 3)) (K : qV l s0 C μ rm Qp Ep k n X (pc + 3) L st) : qV l s0 C μ rm Qp Ep k n X pc L (.ref x :: st) :=
  fun p e s m args below meth c G H locs ls hR hL hl => lv_ifnull G.1 G.2.1 hd (K p e s m args below meth c G H locs ls hR hL hl)
theorem v_ifnullN {off : Int} {tgt : Nat} (hd : decode μ.2.1 pc = .ok (.ifnull off, 3)) (ht : (pc : Int) + off = (tgt : Int)) (K : qV l s0 C μ rm Qp Ep k n X tgt L st) : qV l s0 C μ rm Qp Ep k n X pc L (.null :: st) :=
  fun p e s m args below meth c G H locs ls hR hL hl => lv_ifnullN G.1 G.2.1 hd ht (K p e s m args below meth c G H locs ls hR hL hl)
theorem v_ifnonnull {x : Nat} {off : Int} {tgt : Nat} (hd : decode μ.2.1 pc = .ok (.ifnonnull off, 3)) (ht : (pc : Int) + off = (tgt : Int)) (K : qV l s0 C μ rm Qp Ep k n X tgt L st) : qV l s0 C μ rm Qp Ep k n X pc L (.ref x :: st) :=
  fun p e s m args below meth c G H locs ls hR hL hl => lv_ifnonnull G.1 G.2.1 hd ht (K p e s m args below meth c G H locs ls hR hL hl)
theorem v_ifnonnullN {off : Int} (hd : decode μ.2.1 pc = .ok (.ifnonnull off, 3)) (K : qV l s0 C μ rm Qp Ep k n X (pc + 3) L st) : qV l s0 C μ rm Qp Ep k n X pc L (.null :: st) :=
  fun p e s m args below meth c G H locs ls hR hL hl => lv_ifnonnullN G.1 G.2.1 hd (K p e s m args below meth c G H locs ls hR hL hl)

theorem v_tableIn {dflt lo hi : Int} {offs : Array Int} {len : Nat} {x : Int32} {off : Int} {tgt : Nat} (hd : decode μ.2.1 pc = .ok (.tableswitch dflt lo hi offs, len)) (h1 : ¬ x.toInt < lo) (h2 : ¬ hi < x.toInt) (ho : offs[(x.toInt - lo).toNat]? = some off) (ht : (pc : Int) + off = (tgt : Int)) (K : qV l s0 C μ rm Qp Ep k n X tgt L st) : qV l s0 C μ rm Qp Ep k n X pc L (.int x :: st) :=
  fun p e s m args below meth c G H locs ls hR hL hl => lv_tableIn G.1 G.2.1 hd h1 h2 ho ht (K p e s m args below meth c G H locs ls hR hL hl)
theorem v_tableOut {dflt lo hi : Int} {offs : Array Int} {len : Nat} {x : Int32} {tgt : Nat} (hd : decode μ.2.1 pc = .ok (.tableswitch dflt lo hi offs, len)) (h : x.toInt < lo ∨ hi < x.toInt) (ht : (pc : Int) + dflt = (tgt : Int)) (K : qV l s0 C μ rm Qp Ep k n X tgt L st) : qV l s0 C μ rm Qp Ep k n X pc L (.int x :: st) :=
  fun p e s m args below meth c G H locs ls hR hL hl => lv_tableOut G.1 G.2.1 hd h ht (K p e s m args below meth c G H locs ls hR hL hl)

end QV
end
section
/-! rows that read and write the store -/
def qset (X : qX) (a : Nat) (e : qEn) : qX := (va_up X.1 a (some e), X.2)
def qnew (X : qX) (e : qEn) : qX := (va_up X.1 X.2 (some e), X.2 + 1)
theorem qset_self (X : qX) (a : Nat) (e : qEn) : (qset X a e).1 a = some e := va_up_self _ _ _
theorem qset_ne (X : qX) {a b : Nat} (e : qEn) (h : b ≠ a) : (qset X a e).1 b = X.1 b := va_up_ne _ _ h
theorem qset_2 (X : qX) (a : Nat) (e : qEn) : (qset X a e).2 = X.2 := rfl
theorem qnew_self (X : qX) (e : qEn) : (qnew X e).1 X.2 = some e := va_up_self _ _ _
theorem qnew_ne (X : qX) {b : Nat} (e : qEn) (h : b ≠ X.2) : (qnew X e).1 b = X.1 b := va_up_ne _ _ h
theorem qnew_2 (X : qX) (e : qEn) : (qnew X e).2 = X.2 + 1 := rfl
theorem qR.lt {C : qC} {s0 : State} {X : qX} {H : Heap} (h : qR C s0 X H) {a : Nat} {e : qEn} (ha : X.1 a = some e) : a < X.2 := by
  have := (h.2.2.2 a e ha).2.lt
  rw [← h.1]; exact this
/-- one cell is written -/
theorem qR.set {C : qC} {s0 : State} {X : qX} {H H1 : Heap} (h : qR C s0 X H) {a : Nat} {e0 e : qEn} (ha : X.1 a = some e0) (he : va_at C.1 qcl (a, qw C e) H1) (hz : H1.size = H.size) (oq : ∀ q : Nat, q ≠ a → H1[q]? = H[q]?) : qR C s0 (qset X a e) H1 := by
  obtain ⟨h1, h2, h3, h4⟩ := h
  have ha0 := (h4 a e0 ha).1
  refine ⟨by rw [hz]; exact h1, by rw [hz]; exact h2, fun q hq => by rw [oq q (by omega)]; exact h3 q hq, fun b e9 hb => ?_⟩
  by_cases hba : b = a
  · subst hba
    rw [qset_self] at hb
    cases hb
    exact ⟨ha0, he⟩
  · rw [qset_ne X e hba] at hb
    exact ⟨(h4 b e9 hb).1, (h4 b e9 hb).2.kept (oq b hba)⟩
/-- one cell comes -/
theorem qR.push {C : qC} {s0 : State} {X : qX} {H H1 : Heap} (h : qR C s0 X H) {e : qEn} (he : va_at C.1 qcl (H.size, qw C e) H1) (hz : H1.size = H.size + 1) (oq : ∀ q : Nat, q < H.size → H1[q]? = H[q]?) : qR C s0 (qnew X e) H1 := by
  obtain ⟨h1, h2, h3, h4⟩ := h
  refine ⟨by rw [hz, h1]; rfl, by omega, fun q hq => by rw [oq q (by omega)]; exact h3 q hq, fun b e9 hb => ?_⟩
  by_cases hba : b = X.2
  · subst hba
    rw [qnew_self] at hb
    cases hb
    rw [h1] at he
    exact ⟨by omega, he⟩
  · rw [qnew_ne X e hba] at hb
    have hlt : b < H.size := (h4 b e9 hb).2.lt
    exact ⟨(h4 b e9 hb).1, (h4 b e9 hb).2.kept (oq b hlt)⟩
theorem qB.K {l : Launch} {s0 : State} {C : qC} (B : qB l s0 C) {c : Nat} {q : vw_C} (h : qcl[c]? = some q) {U : State} (hW : s0.WarmedH U.vm) : u_Kn U q.1 q.2.1 q.2.2 (C.1.1 c) (C.1.2 c) := u_Kn_moved hW.alike (B.2.2.1 c q h)
theorem qB.A {l : Launch} {s0 : State} {C : qC} (B : qB l s0 C) {t : Nat} {ty : FieldType} (h : qty[t]? = some ty) {U : State} (hW : s0.WarmedH U.vm) : ArrOfT U (C.2 t) ty ∧ va_RA U (C.2 t) ty := ⟨arrOfT_moved hW.alike (B.2.2.2 t ty h).1, (B.2.2.2 t ty h).2.moved hW.alike⟩
theorem qB.nest {l : Launch} {s0 : State} {C : qC} (B : qB l s0 C) {a : String} {i : Nat} {b n d h : String} (hw : Cond.fieldLinkNest a i b n d h ∈ lw_tbl) {U : State} {A : Array Value} (hW : s0.WarmedH U.vm) : (Cond.fieldLinkNest a i b n d h).before A U = true := by
  obtain ⟨-, ⟨A0, h1, -⟩, -⟩ := B
  exact va_Nw.use rfl (va_Nw.warmF hW (va_Nw.of rfl (h1 _ hw)))
/-- at pc a field is read: class number, field number -/
def qGet (μ : qM) (pc ci j : Nat) : Prop := ∃ (ix : Nat) (r : vw_C), decode μ.2.1 pc = .ok (.getfield ix, 3) ∧ qcl[ci]? = some r ∧ j < r.2.2 ∧ (r.2.1 j).1 = r.1 ∧
  ((Cond.fieldLink μ.1.cls ix r.1 (r.2.1 j).2.1 (r.2.1 j).2.2.1 ∈ lw_tbl ∧ goodWord (Cond.fieldLink μ.1.cls ix r.1 (r.2.1 j).2.1 (r.2.1 j).2.2.1) = true) ∨ ∃ host : String, Cond.fieldLinkNest μ.1.cls ix r.1 (r.2.1 j).2.1 (r.2.1 j).2.2.1 host ∈ lw_tbl)
def qPut (μ : qM) (pc ci j : Nat) : Prop := ∃ (ix : Nat) (r : vw_C), decode μ.2.1 pc = .ok (.putfield ix, 3) ∧ qcl[ci]? = some r ∧ j < r.2.2 ∧ (r.2.1 j).1 = r.1 ∧ ((r.2.1 j).2.2.2 = false ∨ (μ.1.name = "<init>" ∧ r.1 = μ.1.cls)) ∧
  ((Cond.fieldLink μ.1.cls ix r.1 (r.2.1 j).2.1 (r.2.1 j).2.2.1 ∈ lw_tbl ∧ goodWord (Cond.fieldLink μ.1.cls ix r.1 (r.2.1 j).2.1 (r.2.1 j).2.2.1) = true) ∨ ((r.2.1 j).2.2.2 = false ∧ ∃ host : String, Cond.fieldLinkNest μ.1.cls ix r.1 (r.2.1 j).2.1 (r.2.1 j).2.2.1 host ∈ lw_tbl))
section QH
variable {l : Launch} {s0 : State} {C : qC} {μ : qM} {rm : Room} {Qp : Option Value → qX → Prop} {Ep : String → qX → Prop} {k n : Nat} {X : qX} {pc : Nat} {L : List (Nat × Value)} {st : List Value}
theorem qts {l : Launch} {s0 : State} {C : qC} (B : qB l s0 C) {c : Nat} {r : vw_C} (h : qcl[c]? = some r) {U : State} {A : Array Value} (hW : s0.WarmedH U.vm) : ∀ w ∈ u_ws r.1 r.2.1 r.2.2, w.before A U = true := by
  intro w hw
  refine qword_at B ((qcl_nm h).2.2 w hw) ?_ hW
  obtain ⟨j, -, rfl⟩ := List.mem_map.mp hw
  unfold u_lay
  split <;> rfl
set_option maxHeartbeats 1000000 in
theorem v_get (B : qB l s0 C) {ci j a : Nat} {fs : List Value} {v : Value} (hi : qGet μ pc ci j) (ha : X.1 a = some (.inr (ci, fs))) (hv : fs[j]? = some v) (K : qV l s0 C μ rm Qp Ep k n X (pc + 3) L (v :: st)) : qV l s0 C μ rm Qp Ep k n X pc L (.ref a :: st) := by
  intro p e s m args below meth c G H locs ls hR hL hl
  have KK := K p e s m args below meth c G H locs ls hR hL hl
  obtain ⟨ix, ⟨Cn, T, N⟩, hd, hr, hj, hdc, hlk⟩ := hi
  obtain ⟨hx, hb, hml, hrt, hlocks, hown, hex, hnm, hW, hs1, hs2⟩ := G
  have hts := qts B (A := args) hr hW
  have hKn := B.K hr hW
  obtain ⟨r, h1, cell, q1, q2, q3, q4⟩ := (hR.2.2.2 a _ ha).2
  cases Option.some.inj (h1.symm.trans hr)
  obtain ⟨hS, hfc, kC, hkC, hkind⟩ := hKn
  obtain ⟨cf, kf, fi, f, hif, hsl⟩ := hS j hj
  have hv9 : cell.slots[f.slot]? = some v := by
    rw [hsl, q4 j hj]
    show some (vp_V fs j) = some v
    unfold vp_V
    rw [List.getD_eq_getElem?_getD, hv]; rfl
  have hfc2 := (u_facts hfc hkC (u_lays hts (fun _ h => h) hj) hif).1
  rcases hlk with ⟨hw, hg⟩ | ⟨host, hw⟩
  · exact W.getf hx hb hown (qword_at B hw hg hW) (by have h9 := hif; rw [hdc] at h9; exact h9) hfc2 q1 (by rw [q3]; exact fun h => by cases h) hv9 rfl rfl hd KK
  · exact va_Wgetf hx hb hown (B.nest hw hW) (by have h9 := hif; rw [hdc] at h9; exact h9) hfc2 q1 (by rw [q3]; exact fun h => by cases h) hv9 rfl rfl hd KK
end QH
end
section
/-! rows that write the store, and that make cells -/
section QS
variable {l : Launch} {s0 : State} {C : qC} {μ : qM} {rm : Room} {Qp : Option Value → qX → Prop} {Ep : String → qX → Prop} {k n : Nat} {X : qX} {pc : Nat} {L : List (Nat × Value)} {st : List Value}
theorem qlocs {s0 : State} {locs : List Loc} {a i : Nat} (hL : ∀ q ∈ locs, s0.heap.size ≤ q.base) (ha : s0.heap.size ≤ a) : ∀ q ∈ locs ++ [(⟨a, i⟩ : Loc)], s0.heap.size ≤ q.base := by
  intro q hq
  rcases List.mem_append.mp hq with h | h
  · exact hL q h
  · rw [List.mem_singleton] at h
    subst h
    exact ha
set_option maxHeartbeats 2000000 in
theorem v_put (B : qB l s0 C) {ci j a : Nat} {fs : List Value} {v : Value} (hi : qPut μ pc ci j) (ha : X.1 a = some (.inr (ci, fs))) (hjl : j < fs.length) (hn : narrow (qtt ci j) v = v) (hfit : fits (qtt ci j) v = true)
    (K : qV l s0 C μ rm Qp Ep k n (qset X a (.inr (ci, fs.set j v))) (pc + 3) L st) : qV l s0 C μ rm Qp Ep k n X pc L (v :: .ref a :: st) := by
  intro p e s m args below meth c G H locs ls hR hL hl
  have KK := K p e s m args below meth c G
  obtain ⟨ix, ⟨Cn, T, N⟩, hd, hr, hj, hdc, hfin, hlk⟩ := hi
  obtain ⟨hx, hb, hml, hrt, hlocks, hown, hex, hnm, hW, hs1, hs2⟩ := G
  have hts := qts B (A := args) hr hW
  have hKn := B.K hr hW
  have hK : va_K C.1 qcl [] s := ⟨fun c q h => B.K h hW, fun k q h => by simp at h⟩
  obtain ⟨hn1, hn2, -⟩ := qcl_nm hr
  have hap := va_apart (own := μ.1.cls) hts (fun _ h => h) (qtt ci) hn2 hn1 hK hr
  obtain ⟨ha0, r, h1, cell, q1, q2, q3, q4⟩ := hR.2.2.2 a _ ha
  cases Option.some.inj (h1.symm.trans hr)
  obtain ⟨hS, hfc, kC, hkC, hkind⟩ := hKn
  obtain ⟨cf, kf, fi, f, hif, hsl⟩ := hS j hj
  have hst := (u_facts hfc hkC (u_lays hts (fun _ h => h) hj) hif).1
  have hlay := hts _ (u_in_lay hj)
  unfold u_lay at hlay
  have fin : ∀ (H' : Heap), H'[a]? = some (cell.setSlot (C.1.2 ci j) v) → H'.size = H.size → (∀ q : Nat, q ≠ a → H'[q]? = H[q]?) → qR C s0 (qset X a (.inr (ci, fs.set j v))) H' := fun H' e1 e2 e3 =>
    hR.set ha ⟨_, hr, t_OB.to (V := updV (vp_V fs) j v) ⟨_, e1, q2, q3, t_set q4 hap hj v⟩ (fun j _ => vp_updV_set hjl v j)⟩ e2 e3
  by_cases hf : (T j).2.2.2 = true
  · rcases hfin with h | ⟨h2, h3⟩
    · exact absurd hf (by rw [h]; decide)
    rw [if_pos hf] at hlay
    have hcf : m.cls = cf := by
      obtain ⟨_, _, c', _, _, _, -, -, hf', -, -, -, hown2, -⟩ := Cond.laysFinal_spec hlay
      have e1 : c' = cf := by have := hif.symm.trans hf'; simp at this; exact this.1.symm
      have h4 : (T j).1 = μ.1.cls := hdc.trans h3
      rw [h4] at hown2
      rw [← e1]; exact Option.some.inj (hown.symm.trans hown2)
    have h6 := u_fits hfc hkC hkind (Or.inr hlay) hif (hn2 j hj) hn hfit
    rcases hlk with ⟨hw, hg⟩ | ⟨h9, -⟩
    · refine W.putFinK hx hb hown (qword_at B hw hg hW) (by have h9 := hif; rw [hdc] at h9; exact h9) hst hcf (hnm.trans h2) (by rw [q2]; exact h6) q1 q3 (by rw [hsl]; exact k2_hasslot (q4 j hj)) rfl rfl hd fun H' e1 e2 e3 => ?_
      rw [hsl] at e1
      exact KK H' _ ls (fin H' e1 e2 e3) (qlocs hL ha0) hl
    · exact absurd hf (by rw [h9]; decide)
  · rw [if_neg hf] at hlay
    have h6 := u_store hfc hkC hkind hlay hif (hn2 j hj) hn hfit
    rcases hlk with ⟨hw, hg⟩ | ⟨-, host, hw⟩
    · refine W.putK hx hb (f := f) ⟨hown, qword_at B hw hg hW, ⟨_, _, _, (by have h9 := hif; rw [hdc] at h9; exact h9)⟩, hst⟩ (by rw [q2]; exact h6) q1 q3 (by rw [hsl]; exact k2_hasslot (q4 j hj)) rfl rfl hd fun H' e1 e2 e3 => ?_
      rw [hsl] at e1
      exact KK H' _ ls (fin H' e1 e2 e3) (qlocs hL ha0) hl
    · refine va_WputK hx hb (f := f) hown (B.nest hw hW) (by have h9 := hif; rw [hdc] at h9; exact h9) hst (by rw [q2]; exact h6) q1 q3 (by rw [hsl]; exact k2_hasslot (q4 j hj)) rfl rfl hd fun H' e1 e2 e3 => ?_
      rw [hsl] at e1
      exact KK H' _ ls (fin H' e1 e2 e3) (qlocs hL ha0) hl
/-- arrays are read -/
theorem v_iald (B : qB l s0 C) {a N j : Nat} {f : Nat → Int32} {i : Int32} (ha : X.1 a = some (.inl (0, N, .inl f))) (hij : i = nI j) (hj : j < N) (hN : N < 2 ^ 31) (hd : decode μ.2.1 pc = .ok (.iaload, 1))
    (K : qV l s0 C μ rm Qp Ep k n X (pc + 1) L (.int (f j) :: st)) : qV l s0 C μ rm Qp Ep k n X pc L (.int i :: .ref a :: st) := by
  intro p e s m args below meth c G H locs ls hR hL hl
  have KK := K p e s m args below meth c G H locs ls hR hL hl
  subst hij
  have hc : H[a]? = some (arrV (C.2 0) N (fun j => .int (f j))) := (hR.2.2.2 a _ ha).2
  have e1 : (nI j).toNatClampNeg = j := nI_clamp (by omega)
  refine W.iald (v := .int (f j)) G.1 G.2.1 hc ((B.A (t := 0) rfl G.2.2.2.2.2.2.2.2.1).1 N _) (fun q => by cases q) ?_ ?_ rfl rfl hd KK
  · rw [arrV_size]; exact nI_in hj hN
  · rw [e1, arrV_read _ _ hj]
theorem v_lald (B : qB l s0 C) {a N j : Nat} {f : Nat → Int64} {i : Int32} (ha : X.1 a = some (.inl (1, N, .inr (.inl f)))) (hij : i = nI j) (hj : j < N) (hN : N < 2 ^ 31) (hd : decode μ.2.1 pc = .ok (.laload, 1))
    (K : qV l s0 C μ rm Qp Ep k n X (pc + 1) L (.long (f j) :: st)) : qV l s0 C μ rm Qp Ep k n X pc L (.int i :: .ref a :: st) := by
  intro p e s m args below meth c G H locs ls hR hL hl
  have KK := K p e s m args below meth c G H locs ls hR hL hl
  subst hij
  have hc : H[a]? = some (arrV (C.2 1) N (fun j => .long (f j))) := (hR.2.2.2 a _ ha).2
  have e1 : (nI j).toNatClampNeg = j := nI_clamp (by omega)
  refine W.lald (v := .long (f j)) G.1 G.2.1 hc ((B.A (t := 1) rfl G.2.2.2.2.2.2.2.2.1).1 N _) (fun q => by cases q) ?_ ?_ rfl rfl hd KK
  · rw [arrV_size]; exact nI_in hj hN
  · rw [e1, arrV_read _ _ hj]
theorem v_zald (B : qB l s0 C) {a N j : Nat} {f : Nat → Int32} {i : Int32} (ha : X.1 a = some (.inl (2, N, .inl f))) (hij : i = nI j) (hj : j < N) (hN : N < 2 ^ 31) (hd : decode μ.2.1 pc = .ok (.baload, 1))
    (K : qV l s0 C μ rm Qp Ep k n X (pc + 1) L (.int (f j) :: st)) : qV l s0 C μ rm Qp Ep k n X pc L (.int i :: .ref a :: st) := by
  intro p e s m args below meth c G H locs ls hR hL hl
  have KK := K p e s m args below meth c G H locs ls hR hL hl
  subst hij
  have hc : H[a]? = some (arrV (C.2 2) N (fun j => .int (f j))) := (hR.2.2.2 a _ ha).2
  have e1 : (nI j).toNatClampNeg = j := nI_clamp (by omega)
  refine W.zald (v := .int (f j)) G.1 G.2.1 hc ((B.A (t := 2) rfl G.2.2.2.2.2.2.2.2.1).1 N _) (fun q => by cases q) ?_ ?_ rfl rfl hd KK
  · rw [arrV_size]; exact nI_in hj hN
  · rw [e1, arrV_read _ _ hj]
theorem v_aald (B : qB l s0 C) {a N j : Nat} {f : Nat → Option Nat} {i : Int32} (ha : X.1 a = some (.inl (3, N, .inr (.inr (.inr (.inr f)))))) (hij : i = nI j) (hj : j < N) (hN : N < 2 ^ 31) (hd : decode μ.2.1 pc = .ok (.aaload, 1))
    (K : qV l s0 C μ rm Qp Ep k n X (pc + 1) L (va_rf (f j) :: st)) : qV l s0 C μ rm Qp Ep k n X pc L (.int i :: .ref a :: st) := by
  intro p e s m args below meth c G H locs ls hR hL hl
  have KK := K p e s m args below meth c G H locs ls hR hL hl
  subst hij
  have hc : H[a]? = some (arrV (C.2 3) N (fun j => va_rf (f j))) := (hR.2.2.2 a _ ha).2
  have e1 : (nI j).toNatClampNeg = j := nI_clamp (by omega)
  refine W.aald (v := va_rf (f j)) (ty := .object "PastTree$Page") G.1 G.2.1 hc ((B.A (t := 3) rfl G.2.2.2.2.2.2.2.2.1).1 N _) rfl (fun q => by cases q) ?_ ?_ rfl rfl hd KK
  · rw [arrV_size]; exact nI_in hj hN
  · rw [e1, arrV_read _ _ hj]
theorem v_alen (B : qB l s0 C) {a t N : Nat} {ty : FieldType} {f : (Nat → Int32) ⊕ (Nat → Int64) ⊕ (Nat → UInt32) ⊕ (Nat → UInt64) ⊕ (Nat → Option Nat)} (ha : X.1 a = some (.inl (t, N, f))) (ht : qty[t]? = some ty) (hd : decode μ.2.1 pc = .ok (.arraylength, 1))
    (K : qV l s0 C μ rm Qp Ep k n X (pc + 1) L (.int (nI N) :: st)) : qV l s0 C μ rm Qp Ep k n X pc L (.ref a :: st) := by
  intro p e s m args below meth c G H locs ls hR hL hl
  have KK := K p e s m args below meth c G H locs ls hR hL hl
  have hA := (B.A ht G.2.2.2.2.2.2.2.2.1).1
  have hc : H[a]? = some (vp_cell (C.2 t) (N, f)) := (hR.2.2.2 a _ ha).2
  obtain ⟨z, hz⟩ : ∃ z : Nat → Value, vp_cell (C.2 t) (N, f) = arrV (C.2 t) N z := by
    match f with
    | .inl f => exact ⟨_, vp_cell_i _ _ _⟩
    | .inr (.inl f) => exact ⟨_, vp_cell_l _ _ _⟩
    | .inr (.inr (.inl f)) => exact ⟨_, vp_cell_f _ _ _⟩
    | .inr (.inr (.inr (.inl f))) => exact ⟨_, vp_cell_d _ _ _⟩
    | .inr (.inr (.inr (.inr f))) => exact ⟨_, vp_cell_q _ _ _⟩
  rw [hz] at hc
  exact W.alen (n := nI N) G.1 G.2.1 hc (hA N z) (by rw [arrV_size]; rfl) rfl rfl hd KK
/-- arrays are written -/
theorem v_iast (B : qB l s0 C) {a N j : Nat} {f : Nat → Int32} {i x : Int32} (ha : X.1 a = some (.inl (0, N, .inl f))) (hij : i = nI j) (hj : j < N) (hN : N < 2 ^ 31) (hd : decode μ.2.1 pc = .ok (.iastore, 1))
    (K : qV l s0 C μ rm Qp Ep k n (qset X a (.inl (0, N, .inl (upd f j x)))) (pc + 1) L st) : qV l s0 C μ rm Qp Ep k n X pc L (.int x :: .int i :: .ref a :: st) := by
  intro p e s m args below meth c G H locs ls hR hL hl
  subst hij
  obtain ⟨ha0, hc⟩ := hR.2.2.2 a _ ha
  have hc : H[a]? = some (arrV (C.2 0) N (fun j => .int (f j))) := hc
  have e1 : (nI j).toNatClampNeg = j := nI_clamp (by omega)
  refine W.iast G.1 G.2.1 hc ((B.A (t := 0) rfl G.2.2.2.2.2.2.2.2.1).1 N _) (fun q => by cases q) (by rw [arrV_size]; exact nI_in hj hN) rfl rfl hd fun H1 q1 q2 q3 => ?_
  refine K p e s m args below meth c G H1 _ ls (hR.set ha ?_ q2 q3) (qlocs hL ha0) hl
  show H1[a]? = some (vp_cell (C.2 0) (N, .inl (upd f j x)))
  rw [q1, e1, vp_cell_i, arrV_store]
  congr 2
  funext q
  by_cases hq : q = j
  · subst hq; simp [updV, upd]
  · simp [updV, upd, hq]
theorem v_last (B : qB l s0 C) {a N j : Nat} {f : Nat → Int64} {i : Int32} {x : Int64} (ha : X.1 a = some (.inl (1, N, .inr (.inl f)))) (hij : i = nI j) (hj : j < N) (hN : N < 2 ^ 31) (hd : decode μ.2.1 pc = .ok (.lastore, 1))
    (K : qV l s0 C μ rm Qp Ep k n (qset X a (.inl (1, N, .inr (.inl (vp_updL f j x))))) (pc + 1) L st) : qV l s0 C μ rm Qp Ep k n X pc L (.long x :: .int i :: .ref a :: st) := by
  intro p e s m args below meth c G H locs ls hR hL hl
  subst hij
  obtain ⟨ha0, hc⟩ := hR.2.2.2 a _ ha
  have hc : H[a]? = some (arrV (C.2 1) N (fun j => .long (f j))) := hc
  have e1 : (nI j).toNatClampNeg = j := nI_clamp (by omega)
  refine W.last G.1 G.2.1 hc ((B.A (t := 1) rfl G.2.2.2.2.2.2.2.2.1).1 N _) (fun q => by cases q) (by rw [arrV_size]; exact nI_in hj hN) rfl rfl hd fun H1 q1 q2 q3 => ?_
  refine K p e s m args below meth c G H1 _ ls (hR.set ha ?_ q2 q3) (qlocs hL ha0) hl
  show H1[a]? = some (vp_cell (C.2 1) (N, .inr (.inl (vp_updL f j x))))
  rw [q1, e1, vp_cell_l, arrV_store]
  congr 2
  funext q
  by_cases hq : q = j
  · subst hq; simp [updV, vp_updL]
  · simp [updV, vp_updL, hq]
theorem v_zast (B : qB l s0 C) {a N j : Nat} {f : Nat → Int32} {i x : Int32} (ha : X.1 a = some (.inl (2, N, .inl f))) (hij : i = nI j) (hj : j < N) (hN : N < 2 ^ 31) (hx : x = 0 ∨ x = 1) (hd : decode μ.2.1 pc = .ok (.bastore, 1))
    (K : qV l s0 C μ rm Qp Ep k n (qset X a (.inl (2, N, .inl (upd f j x)))) (pc + 1) L st) : qV l s0 C μ rm Qp Ep k n X pc L (.int x :: .int i :: .ref a :: st) := by
  intro p e s m args below meth c G H locs ls hR hL hl
  subst hij
  obtain ⟨ha0, hc⟩ := hR.2.2.2 a _ ha
  have hc : H[a]? = some (arrV (C.2 2) N (fun j => .int (f j))) := hc
  have e1 : (nI j).toNatClampNeg = j := nI_clamp (by omega)
  have hnr : narrow .boolean (.int x) = .int x := by rcases hx with rfl | rfl <;> rfl
  refine W.zast G.1 G.2.1 hc ((B.A (t := 2) rfl G.2.2.2.2.2.2.2.2.1).1 N _) (fun q => by cases q) (by rw [arrV_size]; exact nI_in hj hN) rfl rfl hd fun H1 q1 q2 q3 => ?_
  refine K p e s m args below meth c G H1 _ ls (hR.set ha ?_ q2 q3) (qlocs hL ha0) hl
  show H1[a]? = some (vp_cell (C.2 2) (N, .inl (upd f j x)))
  rw [q1, e1, hnr, vp_cell_i, arrV_store]
  congr 2
  funext q
  by_cases hq : q = j
  · subst hq; simp [updV, upd]
  · simp [updV, upd, hq]
/-- a page's reference goes into an array of pages -/
theorem v_aast (B : qB l s0 C) {a N j b : Nat} {f : Nat → Option Nat} {fs : List Value} {i : Int32} (ha : X.1 a = some (.inl (3, N, .inr (.inr (.inr (.inr f)))))) (hv : X.1 b = some (.inr (1, fs))) (hij : i = nI j) (hj : j < N) (hN : N < 2 ^ 31) (hd : decode μ.2.1 pc = .ok (.aastore, 1))
    (K : qV l s0 C μ rm Qp Ep k n (qset X a (.inl (3, N, .inr (.inr (.inr (.inr (va_up f j (some b)))))))) (pc + 1) L st) : qV l s0 C μ rm Qp Ep k n X pc L (.ref b :: .int i :: .ref a :: st) := by
  intro p e s m args below meth c G H locs ls hR hL hl
  subst hij
  obtain ⟨ha0, hc⟩ := hR.2.2.2 a _ ha
  have hc : H[a]? = some (arrV (C.2 3) N (fun j => va_rf (f j))) := hc
  have e1 : (nI j).toNatClampNeg = j := nI_clamp (by omega)
  obtain ⟨r, h1, cell, q1, q2, q3, -⟩ := (hR.2.2.2 b _ hv).2
  have hW := G.2.2.2.2.2.2.2.2.1
  obtain ⟨-, hfc, kC, hkC, hkind⟩ := B.K (c := 1) rfl hW
  obtain ⟨kA, comp, hA1, hA2, hA3, -⟩ := (B.A (t := 3) rfl hW).2
  cases Option.some.inj (hfc.symm.trans hA3)
  refine W.aast G.1 G.2.1 (cv := cell) (kv := kC) (kcomp := kC) hc (fun q h => by cases h) (fun q => by cases q) hA1 hA2 rfl hkC ⟨?_, ?_⟩ q1 (fun q h => by rw [q3] at h; cases h) (by rw [q2]; exact hkC) (by rw [q2]; exact va_assign ⟨hfc, kC, hkC, hkind⟩) rfl rfl hd fun H1 q1 q2 q3 => ?_
  · exact nI_pos (by omega)
  · rw [e1, arrV_size]; exact hj
  refine K p e s m args below meth c G H1 _ ls (hR.set ha ?_ q2 q3) (qlocs hL ha0) hl
  show H1[a]? = some (vp_cell (C.2 3) (N, .inr (.inr (.inr (.inr (va_up f j (some b)))))))
  rw [q1, e1, vp_cell_q, arrV_store]
  congr 2
  funext q
  by_cases hq : q = j
  · subst hq; simp [updV, va_up, va_rf]
  · simp [updV, va_up, hq]
/-- at pc an object is made -/
def qNew (μ : qM) (pc ci : Nat) : Prop := ∃ (ix : Nat) (r : vw_C), decode μ.2.1 pc = .ok (.new ix, 3) ∧ qcl[ci]? = some r ∧ (Cond.classLink μ.1.cls ix r.1 ∈ lw_tbl ∧ goodWord (Cond.classLink μ.1.cls ix r.1) = true) ∧ (Cond.instantiable r.1 r.2.2 ∈ lw_tbl ∧ goodWord (Cond.instantiable r.1 r.2.2) = true) ∧ (Cond.initialized r.1 ∈ lw_tbl ∧ goodWord (Cond.initialized r.1) = true)
set_option maxHeartbeats 1000000 in
theorem v_new (B : qB l s0 C) {ci N : Nat} (hi : qNew μ pc ci) (hN : (qcl[ci]?).map (fun r => r.2.2) = some N) (hk : k + 1 ≤ rm.cells) (hm : n + N ≤ rm.slots)
    (K : qV l s0 C μ rm Qp Ep (k + 1) (n + N) (qnew X (.inr (ci, qz ci))) (pc + 3) L (.ref X.2 :: st)) : qV l s0 C μ rm Qp Ep k n X pc L st := by
  intro p e s m args below meth c G H locs ls hR hL hl
  have KK := K p e s m args below meth c G
  obtain ⟨ix, ⟨Cn, T, N'⟩, hd, hr, hw1, hw2, hw3⟩ := hi
  rw [hr] at hN
  cases hN
  obtain ⟨hx, hb, hml, hrt, hlocks, hown, hex, hnm, hW, hs1, hs2⟩ := G
  have hts := qts B (A := args) hr hW
  have hKn := B.K hr hW
  have hci : ci < 6 := by
    rcases Nat.lt_or_ge ci 6 with h | h
    · exact h
    · rw [List.getElem?_eq_none (show qcl.length ≤ ci from h)] at hr; cases hr
  refine W.newcK hx hb hown (qword_at B hw1.1 hw1.2 hW) (qword_at B hw2.1 hw2.2 hW) (qword_at B hw3.1 hw3.2 hW) rfl hd hk hm hKn.2.1 rfl fun H1 kC hkC e1 z1 o1 => ?_
  have hR' : qR C s0 (qnew X (.inr (ci, qz ci))) H1 := hR.push ⟨_, hr, (u_born (qtt ci) hts (fun _ h => h) hKn hkC e1 (qcl_nm hr).2.1).to (qz_ok ci hci _ hr)⟩ z1 o1
  have KKK := KK H1 locs ls hR' hL hl
  rw [← hR.1] at KKK
  exact KKK
/-- arrays of numbers are made -/
def qt0 (t N : Nat) : vp_A := if t = 1 then (N, .inr (.inl (fun _ => 0))) else (N, .inl (fun _ => 0))
theorem v_newa (B : qB l s0 C) {ty : ArrayType} {t N : Nat} {i : Int32} (hty : (ty = .int ∧ t = 0) ∨ (ty = .long ∧ t = 1) ∨ (ty = .boolean ∧ t = 2)) (hd : decode μ.2.1 pc = .ok (.newarray ty, 2)) (hw : Cond.arrayClass (newarray.typeOf ty) ∈ lw_tbl) (hi : i = nI N) (hN : N < 100000) (hk : k + 1 ≤ rm.cells) (hm : n + N ≤ rm.slots)
    (K : qV l s0 C μ rm Qp Ep (k + 1) (n + N) (qnew X (.inl (t, qt0 t N))) (pc + 2) L (.ref X.2 :: st)) : qV l s0 C μ rm Qp Ep k n X pc L (.int i :: st) := by
  intro p e s m args below meth c G H locs ls hR hL hl
  subst hi
  have hW := G.2.2.2.2.2.2.2.2.1
  have hcl : (nI N).toNatClampNeg = N := nI_clamp (by omega)
  have hqt : qty[t]? = some (newarray.typeOf ty) := by rcases hty with ⟨rfl, rfl⟩ | ⟨rfl, rfl⟩ | ⟨rfl, rfl⟩ <;> rfl
  have hcb : componentBytes (newarray.typeOf ty) ≤ 8 := by rcases hty with ⟨rfl, rfl⟩ | ⟨rfl, rfl⟩ | ⟨rfl, rfl⟩ <;> decide
  have hdv : ∀ cA : ClassId, vp_cell cA (qt0 t N) = arrV cA N (fun _ => defaultValue (newarray.typeOf ty)) := by rcases hty with ⟨rfl, rfl⟩ | ⟨rfl, rfl⟩ | ⟨rfl, rfl⟩ <;> intro cA <;> rfl
  refine va_newaK G.1 G.2.1 (qword_at B hw rfl hW) rfl hd rfl (nI_pos (by omega)) hcl ?_ hk hm rfl fun H1 cA e1 z1 o1 hAr hNm => ?_
  · have := Nat.mul_le_mul (Nat.le_of_lt hN) hcb
    omega
  have hcA : cA = C.2 t := by
    have h9 := (B.A hqt hW).2
    have h8 : s.vm.findClass ("[" ++ (newarray.typeOf ty).toString) = some (C.2 t) := by rcases hty with ⟨rfl, rfl⟩ | ⟨rfl, rfl⟩ | ⟨rfl, rfl⟩ <;> exact h9
    exact Option.some.inj (hNm.symm.trans h8)
  have hR' : qR C s0 (qnew X (.inl (t, qt0 t N))) H1 := by
    refine hR.push ?_ z1 o1
    show H1[H.size]? = some (vp_cell (C.2 t) (qt0 t N))
    rw [hdv, ← hcA]; exact e1
  have KKK := K p e s m args below meth c G H1 locs ls hR' hL hl
  rw [← hR.1] at KKK
  exact KKK
end QS
end
section
/-! rows for constants of the pool, returns and calls -/
section QK
variable {l : Launch} {s0 : State} {C : qC} {μ : qM} {rm : Room} {Qp : Option Value → qX → Prop} {Ep : String → qX → Prop} {k n : Nat} {X : qX} {pc : Nat} {L : List (Nat × Value)} {st : List Value}
def qIn (w : Cond) : Prop := w ∈ lw_tbl ∧ goodWord w = true
theorem qIn.at {l : Launch} {s0 : State} {C : qC} {w : Cond} (h : qIn w) (B : qB l s0 C) {a : Array Value} {U : State} (hW : s0.WarmedH U.vm) : w.before a U = true := qword_at B h.1 h.2 hW
theorem v_ldc (B : qB l s0 C) {ix : Nat} {v : Int32} (hd : decode μ.2.1 pc = .ok (.ldc ix, 2)) (hw : qIn (Cond.constant μ.1.cls ix v)) (K : qV l s0 C μ rm Qp Ep k n X (pc + 2) L (.int v :: st)) : qV l s0 C μ rm Qp Ep k n X pc L st :=
  fun p e s m args below meth c G H locs ls hR hL hl => lv_ldc G.1 G.2.1 G.2.2.2.2.2.1 (hw.at B G.2.2.2.2.2.2.2.2.1) hd (K p e s m args below meth c G H locs ls hR hL hl)
theorem v_ldc2 (B : qB l s0 C) {ix : Nat} {v : Int64} (hd : decode μ.2.1 pc = .ok (.ldc2_w ix, 3)) (hw : qIn (Cond.constantLong μ.1.cls ix v)) (K : qV l s0 C μ rm Qp Ep k n X (pc + 3) L (.long v :: st)) : qV l s0 C μ rm Qp Ep k n X pc L st :=
  fun p e s m args below meth c G H locs ls hR hL hl => lv_ldc2 G.1 G.2.1 G.2.2.2.2.2.1 (hw.at B G.2.2.2.2.2.2.2.2.1) hd (K p e s m args below meth c G H locs ls hR hL hl)
theorem v_iret {x : Int32} (hd : decode μ.2.1 pc = .ok (.ireturn, 1)) (hr : μ.2.2.2.1 = some .int) (hk : k ≤ rm.cells) (hm : n ≤ rm.slots) (hq : Qp (some (.int x)) X) : qV l s0 C μ rm Qp Ep k n X pc L [.int x] :=
  fun p e s m args below meth c G H locs ls hR hL hl => W.widen hk hm (vx_ret (W.iret G.1 G.2.1 (G.2.2.2.1.trans hr) (fun t ht hW => ⟨_, X, rfl, by rw [ht]; exact hR, hq⟩) hL hd G.2.2.2.2.1))
theorem v_zret {x : Int32} (hd : decode μ.2.1 pc = .ok (.ireturn, 1)) (hr : μ.2.2.2.1 = some .boolean) (hx : x = 0 ∨ x = 1) (hk : k ≤ rm.cells) (hm : n ≤ rm.slots) (hq : Qp (some (.int x)) X) : qV l s0 C μ rm Qp Ep k n X pc L [.int x] :=
  fun p e s m args below meth c G H locs ls hR hL hl => W.widen hk hm (vx_ret (W.zret G.1 G.2.1 (G.2.2.2.1.trans hr) (by rcases hx with rfl | rfl <;> rfl) (fun t ht hW => ⟨_, X, rfl, by rw [ht]; exact hR, hq⟩) hL hd G.2.2.2.2.1))
theorem v_lret {x : Int64} (hd : decode μ.2.1 pc = .ok (.lreturn, 1)) (hr : μ.2.2.2.1 = some .long) (hk : k ≤ rm.cells) (hm : n ≤ rm.slots) (hq : Qp (some (.long x)) X) : qV l s0 C μ rm Qp Ep k n X pc L [.long x] :=
  fun p e s m args below meth c G H locs ls hR hL hl => W.widen hk hm (vx_ret (W.lret G.1 G.2.1 (G.2.2.2.1.trans hr) (fun t ht hW => ⟨_, X, rfl, by rw [ht]; exact hR, hq⟩) hL hd G.2.2.2.2.1))
theorem v_vret (hd : decode μ.2.1 pc = .ok (.return_, 1)) (hr : μ.2.2.2.1 = none) (hk : k ≤ rm.cells) (hm : n ≤ rm.slots) (hq : Qp none X) : qV l s0 C μ rm Qp Ep k n X pc L [] :=
  fun p e s m args below meth c G H locs ls hR hL hl => W.widen hk hm (vx_ret (W.vret G.1 G.2.1 (G.2.2.2.1.trans hr) (fun t ht hW => ⟨_, X, rfl, by rw [ht]; exact hR, hq⟩) hL hd G.2.2.2.2.1))
theorem v_aret {x : Nat} {nm : String} (hd : decode μ.2.1 pc = .ok (.areturn, 1)) (hr : μ.2.2.2.1 = some (.object nm)) (hk : k ≤ rm.cells) (hm : n ≤ rm.slots) (hq : Qp (some (.ref x)) X) : qV l s0 C μ rm Qp Ep k n X pc L [.ref x] :=
  fun p e s m args below meth c G H locs ls hR hL hl => W.widen hk hm (vx_ret (W.aret G.1 G.2.1 (G.2.2.2.1.trans hr) (Or.inl ⟨_, rfl⟩) (Or.inr ⟨_, rfl⟩) (fun t ht hW => ⟨_, X, rfl, by rw [ht]; exact hR, hq⟩) hL hd G.2.2.2.2.1))
/-- Object.<init> -/
def qObj (μ : qM) (pc : Nat) : Prop := ∃ ix : Nat, decode μ.2.1 pc = .ok (.invokespecial ix, 3) ∧ qIn (Cond.methodLink μ.1.cls ix objectInit)
theorem v_obj (B : qB l s0 C) (hi : qObj μ pc) (w1 : qIn (Cond.instanceMethod objectInit)) (w2 : qIn (Cond.code objectInit ⟨#[0xb1]⟩ 1 none)) {a : Nat} (hf : 1 ≤ rm.frames) (hlo : (st.map fun v => v.category).sum + 12 ≤ rm.locals)
    (K : qV l s0 C μ rm Qp Ep k n X (pc + 3) L st) : qV l s0 C μ rm Qp Ep k n X pc L (.ref a :: st) := by
  intro p e s m args below meth c G H locs ls hR hL hl
  obtain ⟨ix, hd, hw⟩ := hi
  have hW := G.2.2.2.2.2.2.2.2.1
  exact W.objInit G.1 G.2.1 G.2.2.2.2.2.1 (hw.at B hW) (w1.at B hW) (w2.at B hW) rfl (by rw [G.2.2.1]; exact hl.1) rfl hd hf (by show 2 * 0 + _ + 12 ≤ _; omega) (K p e s m args below meth c G H locs ls hR hL hl)
/-- a known method -/
def qKn (μ : qM) : Prop := qIn (qword μ) ∧ qIn (Cond.initialized μ.1.cls) ∧ (μ.1.cls ≠ "java/lang/invoke/MethodHandle" ∧ μ.1.cls ≠ "java/lang/invoke/VarHandle")
theorem qPc_blind {C : qC} {s0 : State} {As : List Value} {X : qX} : FrameBlind (qPc C s0 As X) := fun _ _ _ _ h => h
theorem q_back (B : qB l s0 C) {μ' : qM} {rm' R : Room} {As : List Value} {Qp' : Option Value → qX → Prop} {Ep' : String → qX → Prop} (hM : qMet l s0 C μ' rm' As X Qp' Ep') (hkn : qKn μ') {p : Program} {e : Env} {below : List Frame} {s : State} {sargs : Array Value} {len : Nat} (hW : s0.WarmedH s.vm)
    (hf : rm'.frames + 1 ≤ R.frames) (hlo : 8 + (μ'.2.2.1 + 11) + rm'.locals ≤ R.locals) :
    vx_Back l R p e below s sargs μ'.1 len 8 (PreOf R rm'.cells rm'.slots (qPc C s0 As X)) (PostOf (qQ C s0 Qp') rm'.cells rm'.slots (qF s0)) (vx_Post (qE C s0 Ep') rm'.cells rm'.slots (qF s0)) := by
  obtain ⟨h1, h2, -⟩ := hkn
  have hws : ∀ w ∈ [qword μ'], ∀ (a' : Array Value) (U : State), s.WarmedH U.vm → w.before a' U = true := fun w hw a' U hU => by
    rw [List.mem_singleton] at hw
    subst hw
    exact h1.at B (State.WarmedH.trans hW hU)
  obtain ⟨y, cc, mL, rt, hh⟩ := μ'
  cases hh with
  | nil => exact vx_back (bytes := cc) (maxL := mL) (ret := rt) hM qPc_blind rfl rfl hf hlo hws List.mem_cons_self (fun a' U hU => h2.at B (State.WarmedH.trans hW hU))
  | cons a b => exact vx_backW (bytes := cc) (maxL := mL) (ret := rt) (hh := a :: b) hM qPc_blind rfl rfl hf hlo hws List.mem_cons_self (fun a' U hU => h2.at B (State.WarmedH.trans hW hU))
/-- the room that a call asks -/
def qRm (rm rm' : Room) (mL k n : Nat) : Prop := rm'.frames + 1 ≤ rm.frames ∧ 8 + (mL + 11) + rm'.locals ≤ rm.locals ∧ k + rm'.cells ≤ rm.cells ∧ n + rm'.slots ≤ rm.slots
def qInv (μ : qM) (pc : Nat) (μ' : qM) (ci na : Nat) : Prop := ∃ (ix : Nat) (r : vw_C), decode μ.2.1 pc = .ok (.invokevirtual ix, 3) ∧ qcl[ci]? = some r ∧ μ'.1.cls = r.1 ∧ qIn (Cond.methodLink μ.1.cls ix μ'.1) ∧ qIn (Cond.instanceMethod μ'.1) ∧ qIn (Cond.selects r.1 μ'.1 μ'.1) ∧ (parseMethodDescriptor μ'.1.desc).map (fun d => d.parameters.length) = some na
def qInvS (μ : qM) (pc : Nat) (μ' : qM) (na : Nat) : Prop := ∃ ix : Nat, decode μ.2.1 pc = .ok (.invokestatic ix, 3) ∧ qIn (Cond.methodLink μ.1.cls ix μ'.1) ∧ qIn (Cond.static μ'.1) ∧ (parseMethodDescriptor μ'.1.desc).map (fun d => d.parameters.length) = some na
def qInvI (μ : qM) (pc : Nat) (μ' : qM) (na : Nat) : Prop := ∃ ix : Nat, decode μ.2.1 pc = .ok (.invokespecial ix, 3) ∧ μ'.1.name = "<init>" ∧ μ'.2.2.2.1 = none ∧ μ'.2.2.2.2 = [] ∧ qIn (Cond.methodLink μ.1.cls ix μ'.1) ∧ qIn (Cond.instanceMethod μ'.1) ∧ (parseMethodDescriptor μ'.1.desc).map (fun d => d.parameters.length) = some na
theorem qlen {y : MethodName} {na j : Nat} (h : (parseMethodDescriptor y.desc).map (fun d => d.parameters.length) = some na) (hj : j = na) : ∀ sig, parseMethodDescriptor y.desc = some sig → j = sig.parameters.length := fun sig hs => by
  rw [hs] at h
  exact hj.trans (Option.some.inj h).symm
theorem qadd {s0 : State} {locs L2 : List Loc} (hL : ∀ q ∈ locs, s0.heap.size ≤ q.base) (h2 : ∀ q ∈ L2, qF s0 q.base) : ∀ q ∈ locs ++ L2, s0.heap.size ≤ q.base := fun q hq => (List.mem_append.mp hq).elim (hL q) (h2 q)
/-- the two ends of a call: it returned, or it threw and nothing here catches it -/
theorem q_ret {p : Program} {e : Env} {R : Room} {s : State} {m : MethodId} {args : Array Value} {below : List Frame} {meth : Method} {c : Code} {T : State} {locs : List Loc} {As : List Value} {Qp' : Option Value → qX → Prop} {rm' : Room} {v : Option Value} {vm₁ : Vm} {A' : Pt} {Z : State → Prop} {g g0 : JFrame}
    (hL : ∀ q ∈ locs, s0.heap.size ≤ q.base) (X' : Stand p l e R s m args below meth c A'.U A'.locs A'.cells A'.slots) (hP : PostOf (qQ C s0 Qp') rm'.cells rm'.slots (qF s0) ⟨T.setVm vm₁, locs, k, n⟩ As.toArray v A')
    (st9 : ∀ target, Steps p.tables e below (A'.U.setTop g) target → Steps p.tables e below (T.setTop g0) target)
    (kk : ∀ (X9 : qX) (H9 : Heap) (locs9 : List Loc), Qp' v X9 → qR C s0 X9 H9 → (∀ q ∈ locs9, s0.heap.size ≤ q.base) → W p l e R s m args below meth c H9 locs9 (k + rm'.cells) (n + rm'.slots) Z g) : ∃ t, Steps p.tables e below (T.setTop g0) t ∧ Z t := by
  obtain ⟨U', l2, c2, s2⟩ := A'
  obtain ⟨g', mk, t, L2, e1, e2, ⟨v9, X9, hv, hR9, hq⟩, h1, hL2, h2, h3⟩ := hP
  dsimp only [Pt.U, Pt.locs, Pt.cells, Pt.slots] at X' e1 e2 h1 h2 h3 st9
  subst h1; subst h2; subst h3
  cases hv
  obtain ⟨t9, a1, b1⟩ := kk X9 U'.heap (locs ++ L2) hq (by rw [e1]; exact hR9) (qadd hL hL2) U' rfl X'
  exact ⟨t9, st9 _ a1, b1⟩
theorem q_thr {p : Program} {e : Env} {s : State} {m : MethodId} {args : Array Value} {below : List Frame} {meth : Method} {c : Code} {T : State} {locs : List Loc} {As : List Value} {Ep' : String → qX → Prop} {rm' : Room} {q : Addr} {vm₁ : Vm} {A' : Pt} {ls : Array Slot} {g0 : JFrame} (hW1 : s.WarmedH vm₁)
    (hL : ∀ q ∈ locs, s0.heap.size ≤ q.base) (X' : Stand p l e rm s m args below meth c A'.U A'.locs A'.cells A'.slots) (hP : vx_Post (qE C s0 Ep') rm'.cells rm'.slots (qF s0) ⟨T.setVm vm₁, locs, k, n⟩ As.toArray q A')
    (st9 : Steps p.tables e below (T.setTop g0) ((A'.U.setTop (F0 m pc ls st)).pushFrame (.throwing q)))
    (hlocks : meth.locks = false) (hex : c.exceptionTable.toList = []) (hc : k + rm'.cells ≤ rm.cells) (hs : n + rm'.slots ≤ rm.slots) (kx : ∀ (E : String) (X9 : qX), Ep' E X9 → Ep E X9) :
    ∃ t, Steps p.tables e below (T.setTop g0) t ∧ vx_MQ below (qQ C s0 Qp) (qE C s0 Ep) args s rm.cells rm.slots (qF s0) t := by
  obtain ⟨U', l2, c2, s2⟩ := A'
  obtain ⟨g', mk, t, L2, E, ce, e1, e2, ⟨X9, hR9, hq⟩, hce, hcv, hcl, h1, hL2, h2, h3⟩ := hP
  dsimp only [Pt.U, Pt.locs, Pt.cells, Pt.slots] at X' e1 e2 h1 h2 h3 st9
  subst h1; subst h2; subst h3
  obtain ⟨t9, a1, b1⟩ := vx_out (Qc := qQ C s0 Qp) (XC := qE C s0 Ep) (free := qF s0) (mc := rm.cells) (ms := rm.slots) (pc := pc) (rest := st) (ls := ls) (l := l) (e := e) (R := rm) (args := args) (below := below) (H := U'.heap) (q := q) (by rw [hex]; exact fun x h => nomatch h) hlocks (by rw [e1]; exact hce) hcv (vx_cls hW1 hcl) (fun t9 ht9 _ => ⟨X9, by rw [ht9, e1]; exact hR9, kx E X9 hq⟩) (qadd hL hL2) hc hs U' rfl X'
  exact ⟨t9, st9.trans a1, b1⟩
theorem qnoex {c : Code} (h : c.exceptionTable.toList.map (fun h => (h.startPc, h.endPc, h.handlerPc, h.catchType)) = []) : c.exceptionTable.toList = [] := List.map_eq_nil_iff.mp h
set_option maxHeartbeats 2000000 in
/-- a virtual call -/
theorem v_inv (B : qB l s0 C) {μ' : qM} {ci na b : Nat} {rm' : Room} {As fs stk : List Value} {Qp' : Option Value → qX → Prop} {Ep' : String → qX → Prop} (hi : qInv μ pc μ' ci na) (hkn : qKn μ') (hM : qMet l s0 C μ' rm' (.ref b :: As) X Qp' Ep')
    (hb : X.1 b = some (.inr (ci, fs))) (hstk : stk = As.reverse ++ .ref b :: st) (hna : As.length = na) (hcat : (st.map fun v => v.category).sum ≤ 8) (hrm : qRm rm rm' μ'.2.2.1 k n) (hex : μ.2.2.2.2 = [])
    (kr : ∀ (v : Option Value) (X' : qX), Qp' v X' → qV l s0 C μ rm Qp Ep (k + rm'.cells) (n + rm'.slots) X' (pc + 3) L (v.toList ++ st)) (kx : ∀ (E : String) (X' : qX), Ep' E X' → Ep E X') : qV l s0 C μ rm Qp Ep k n X pc L stk := by
  intro p e s m args below meth c G H locs ls hR hL hl
  obtain ⟨ix, r, hd, hr, hcls, w1, w2, w3, hpd⟩ := hi
  obtain ⟨hx, hcc, hml, hrt, hlocks, hown, hexc, hnm, hW, hs1, hs2⟩ := id G
  obtain ⟨r2, h1, cell, q1, q2, q3, -⟩ := (hR.2.2.2 b _ hb).2
  cases Option.some.inj (h1.symm.trans hr)
  have hfc := (B.K hr hW).2.1
  obtain ⟨kn1, kn2, kn3⟩ := id hkn
  have hK := q_back B hM hkn (R := rm) (p := p) (e := e) (below := below) (s := s) (sargs := args) (len := 3) hW hrm.1 hrm.2.1
  intro T hT XX
  subst hstk
  have hpre : ∀ vm₁, s.WarmedH vm₁ → PreOf rm rm'.cells rm'.slots (qPc C s0 (.ref b :: As) X) ⟨T.setVm vm₁, locs, k, n⟩ (Value.ref b :: As).toArray := fun vm₁ hW1 => ⟨hrm.2.2.1, hrm.2.2.2, rfl, State.WarmedH.trans hW hW1, by show qR C s0 X T.heap; rw [hT]; exact hR⟩
  have hcode : (qword μ').before args s = true := kn1.at B hW
  have key : (∃ (v : Option Value) (vm₁ : Vm) (A' : Pt), s.WarmedH vm₁ ∧ Stand p l e rm s m args below meth c A'.U A'.locs A'.cells A'.slots ∧ PostOf (qQ C s0 Qp') rm'.cells rm'.slots (qF s0) ⟨T.setVm vm₁, locs, k, n⟩ (Value.ref b :: As).toArray v A' ∧
      ∀ target, Steps p.tables e below (A'.U.setTop (F0 m (pc + 3) ls (v.toList ++ st))) target → Steps p.tables e below (T.setTop (F0 m pc ls (As.reverse ++ .ref b :: st))) target) ∨
    (∃ (q : Addr) (vm₁ : Vm) (A' : Pt), s.WarmedH vm₁ ∧ Stand p l e rm s m args below meth c A'.U A'.locs A'.cells A'.slots ∧ vx_Post (qE C s0 Ep') rm'.cells rm'.slots (qF s0) ⟨T.setVm vm₁, locs, k, n⟩ (Value.ref b :: As).toArray q A' ∧
      Steps p.tables e below (T.setTop (F0 m pc ls (As.reverse ++ .ref b :: st))) ((A'.U.setTop (F0 m pc ls st)).pushFrame (.throwing q))) := by
    obtain ⟨y, cc, mL, rt, hh⟩ := μ'
    cases hh with
    | nil => exact vx_callV XX hx (bytes := cc) (maxL := mL) (ret := rt) hown (w1.at B hW) (w2.at B hW) (w3.at B hW) hcode kn3 hK (by rw [hT]; exact q1) (by rw [q3]; rfl) (by rw [q2]; exact hfc) (g := F0 m pc ls (As.reverse ++ .ref b :: st)) rfl (by rw [hml]; exact hl.1) (argsL := As) (rest := st) (qlen hpd hna) rfl (lv_room hcat) (by rw [hcc]; exact hd) hpre
    | cons a9 b9 => exact vx_callVX XX hx (bytes := cc) (maxL := mL) (ret := rt) (hh := a9 :: b9) hown (w1.at B hW) (w2.at B hW) (w3.at B hW) hcode kn3 hK (by rw [hT]; exact q1) (by rw [q3]; rfl) (by rw [q2]; exact hfc) (g := F0 m pc ls (As.reverse ++ .ref b :: st)) rfl (by rw [hml]; exact hl.1) (argsL := As) (rest := st) (qlen hpd hna) rfl (lv_room hcat) (by rw [hcc]; exact hd) hpre
  rcases key with ⟨v, vm₁, A', hW1, X', hP, st9⟩ | ⟨q, vm₁, A', hW1, X', hP, st9⟩
  · exact q_ret hL X' hP st9 (fun X9 H9 locs9 hq hR9 hL9 => kr v X9 hq p e s m args below meth c G H9 locs9 ls hR9 hL9 hl)
  · exact q_thr hW1 hL X' hP st9 hlocks (qnoex (by rw [hexc]; exact hex)) hrm.2.2.1 hrm.2.2.2 kx
set_option maxHeartbeats 2000000 in
/-- a static call -/
theorem v_invS (B : qB l s0 C) {μ' : qM} {na : Nat} {rm' : Room} {As stk : List Value} {Qp' : Option Value → qX → Prop} {Ep' : String → qX → Prop} (hi : qInvS μ pc μ' na) (hkn : qKn μ') (hM : qMet l s0 C μ' rm' As X Qp' Ep')
    (hstk : stk = As.reverse ++ st) (hna : As.length = na) (hcat : (st.map fun v => v.category).sum ≤ 8) (hrm : qRm rm rm' μ'.2.2.1 k n) (hex : μ.2.2.2.2 = [])
    (kr : ∀ (v : Option Value) (X' : qX), Qp' v X' → qV l s0 C μ rm Qp Ep (k + rm'.cells) (n + rm'.slots) X' (pc + 3) L (v.toList ++ st)) (kx : ∀ (E : String) (X' : qX), Ep' E X' → Ep E X') : qV l s0 C μ rm Qp Ep k n X pc L stk := by
  intro p e s m args below meth c G H locs ls hR hL hl
  obtain ⟨ix, hd, w1, w2, hpd⟩ := hi
  obtain ⟨hx, hcc, hml, hrt, hlocks, hown, hexc, hnm, hW, hs1, hs2⟩ := id G
  obtain ⟨kn1, kn2, kn3⟩ := id hkn
  have hK := q_back B hM hkn (R := rm) (p := p) (e := e) (below := below) (s := s) (sargs := args) (len := 3) hW hrm.1 hrm.2.1
  intro T hT XX
  subst hstk
  have hpre : ∀ vm₁, s.WarmedH vm₁ → PreOf rm rm'.cells rm'.slots (qPc C s0 As X) ⟨T.setVm vm₁, locs, k, n⟩ As.toArray := fun vm₁ hW1 => ⟨hrm.2.2.1, hrm.2.2.2, rfl, State.WarmedH.trans hW hW1, by show qR C s0 X T.heap; rw [hT]; exact hR⟩
  have hcode : (qword μ').before args s = true := kn1.at B hW
  have key : (∃ (v : Option Value) (vm₁ : Vm) (A' : Pt), s.WarmedH vm₁ ∧ Stand p l e rm s m args below meth c A'.U A'.locs A'.cells A'.slots ∧ PostOf (qQ C s0 Qp') rm'.cells rm'.slots (qF s0) ⟨T.setVm vm₁, locs, k, n⟩ As.toArray v A' ∧
      ∀ target, Steps p.tables e below (A'.U.setTop (F0 m (pc + 3) ls (v.toList ++ st))) target → Steps p.tables e below (T.setTop (F0 m pc ls (As.reverse ++ st))) target) ∨
    (∃ (q : Addr) (vm₁ : Vm) (A' : Pt), s.WarmedH vm₁ ∧ Stand p l e rm s m args below meth c A'.U A'.locs A'.cells A'.slots ∧ vx_Post (qE C s0 Ep') rm'.cells rm'.slots (qF s0) ⟨T.setVm vm₁, locs, k, n⟩ As.toArray q A' ∧
      Steps p.tables e below (T.setTop (F0 m pc ls (As.reverse ++ st))) ((A'.U.setTop (F0 m pc ls st)).pushFrame (.throwing q))) := by
    obtain ⟨y, cc, mL, rt, hh⟩ := μ'
    cases hh with
    | nil => exact vx_callS XX hx (bytes := cc) (maxL := mL) (ret := rt) hown (w1.at B hW) (w2.at B hW) (kn2.at B hW) hcode kn3 hK (g := F0 m pc ls (As.reverse ++ st)) rfl (by rw [hml]; exact hl.1) (argsL := As) (rest := st) (qlen hpd hna) rfl (lv_room hcat) (by rw [hcc]; exact hd) hpre
    | cons a9 b9 => exact vx_callSX XX hx (bytes := cc) (maxL := mL) (ret := rt) (hh := a9 :: b9) hown (w1.at B hW) (w2.at B hW) (kn2.at B hW) hcode kn3 hK (g := F0 m pc ls (As.reverse ++ st)) rfl (by rw [hml]; exact hl.1) (argsL := As) (rest := st) (qlen hpd hna) rfl (lv_room hcat) (by rw [hcc]; exact hd) hpre
  rcases key with ⟨v, vm₁, A', hW1, X', hP, st9⟩ | ⟨q, vm₁, A', hW1, X', hP, st9⟩
  · exact q_ret hL X' hP st9 (fun X9 H9 locs9 hq hR9 hL9 => kr v X9 hq p e s m args below meth c G H9 locs9 ls hR9 hL9 hl)
  · exact q_thr hW1 hL X' hP st9 hlocks (qnoex (by rw [hexc]; exact hex)) hrm.2.2.1 hrm.2.2.2 kx
set_option maxHeartbeats 2000000 in
/-- a constructor is called -/
theorem v_invI (B : qB l s0 C) {μ' : qM} {na b : Nat} {rm' : Room} {As stk : List Value} {Qp' : Option Value → qX → Prop} {Ep' : String → qX → Prop} (hi : qInvI μ pc μ' na) (hkn : qKn μ') (hM : qMet l s0 C μ' rm' (.ref b :: As) X Qp' Ep')
    (hstk : stk = As.reverse ++ .ref b :: st) (hna : As.length = na) (hcat : (st.map fun v => v.category).sum ≤ 8) (hrm : qRm rm rm' μ'.2.2.1 k n) (hex : μ.2.2.2.2 = [])
    (kr : ∀ (v : Option Value) (X' : qX), Qp' v X' → qV l s0 C μ rm Qp Ep (k + rm'.cells) (n + rm'.slots) X' (pc + 3) L (v.toList ++ st)) (kx : ∀ (E : String) (X' : qX), Ep' E X' → Ep E X') : qV l s0 C μ rm Qp Ep k n X pc L stk := by
  intro p e s m args below meth c G H locs ls hR hL hl
  obtain ⟨ix, hd, hin, hrt', hh', w1, w2, hpd⟩ := hi
  obtain ⟨hx, hcc, hml, hrt, hlocks, hown, hexc, hnm, hW, hs1, hs2⟩ := id G
  obtain ⟨kn1, kn2, kn3⟩ := id hkn
  have hK := q_back B hM hkn (R := rm) (p := p) (e := e) (below := below) (s := s) (sargs := args) (len := 3) hW hrm.1 hrm.2.1
  intro T hT XX
  subst hstk
  have hcode : (Cond.code μ'.1 μ'.2.1 μ'.2.2.1 none).before args s = true := by
    have h9 : (qword μ').before args s = true := kn1.at B hW
    unfold qword at h9
    rw [hh', hrt'] at h9
    exact h9
  have hpl : e.platform.magicAccessors = ({} : Platform).magicAccessors := by rw [XX.admits.platform]
  obtain ⟨mk, methM, cM, kP, vm₁, hnamed, hmethM, hcodeM, -, hlocalsM, -, hkP, -, hW₁, hstep₁⟩ := Steps.initColdArgs (e := e) XX.here hx XX.warmed hpl hown hin kn3 (w1.at B hW) (w2.at B hW) hcode (f := F0 m pc ls (As.reverse ++ .ref b :: st)) rfl (qlen hpd hna) (argsL := As) (rest := st) (a := b) rfl (by rw [hcc]; exact hd)
  have X₁ := XX.noted hW₁
  rcases hK m meth c ⟨T.setVm vm₁, locs, k, n⟩ (F0 m pc ls st) (.invokespecial ix) mk (Value.ref b :: As).toArray X₁ rfl (by rw [hml]; exact hl.1) (by rw [hcc]; exact hd) (lv_room hcat) (X₁.named hnamed) ⟨hrm.2.2.1, hrm.2.2.2, rfl, State.WarmedH.trans hW X₁.warmed, by show qR C s0 X T.heap; rw [hT]; exact hR⟩ with ⟨v, A', X', hP, hsteps⟩ | ⟨q, A', X', hP, hsteps⟩
  · exact q_ret hL X' hP (fun target h => hstep₁ _ fun acts => by rw [doInvoke_state]; exact hsteps.trans h) (fun X9 H9 locs9 hq hR9 hL9 => kr v X9 hq p e s m args below meth c G H9 locs9 ls hR9 hL9 hl)
  · exact q_thr X₁.warmed hL X' hP (hstep₁ _ fun acts => by rw [doInvoke_state]; exact hsteps) hlocks (qnoex (by rw [hexc]; exact hex)) hrm.2.2.1 hrm.2.2.2 kx
end QK
end
section
theorem q_false_test : (1 : Nat) = 2 := by rfl
end
