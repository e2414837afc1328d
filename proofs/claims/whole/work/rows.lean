section
-- ===== PART A: goes FIRST, ahead of the names: the tables' words, and 'selects' of the private methods out of them =====
/-- a private method of a class that the tables say can be made, by its rows of tables_1 -/
def lw_okq (q : MethodName × Nat) : Prop := (q.1.cls ≠ "java/lang/invoke/MethodHandle" ∧ q.1.cls ≠ "java/lang/invoke/VarHandle") ∧ Cond.instantiable q.1.cls q.2 ∈ tables_1 ∧ Cond.privateMethod q.1 ∈ tables_1 ∧ Cond.instanceMethod q.1 ∈ tables_1
theorem lw_p0 : lw_okq (⟨"java/lang/Throwable", "fillInStackTrace", "(I)Ljava/lang/Throwable;"⟩, 6) := ⟨⟨by decide +kernel, by decide +kernel⟩, List.mem_of_getElem? (i := 354) (by decide +kernel), List.mem_of_getElem? (i := 352) (by decide +kernel), List.mem_of_getElem? (i := 353) (by decide +kernel)⟩
theorem lw_p1 : lw_okq (⟨"FormOffice$Calculator", "begin", "(LFormOffice$Text;[J[J)V"⟩, 9) := ⟨⟨by decide +kernel, by decide +kernel⟩, List.mem_of_getElem? (i := 54) (by decide +kernel), List.mem_of_getElem? (i := 387) (by decide +kernel), List.mem_of_getElem? (i := 388) (by decide +kernel)⟩
theorem lw_p2 : lw_okq (⟨"FormOffice$Calculator", "readFormula", "(IIZ)J"⟩, 9) := ⟨⟨by decide +kernel, by decide +kernel⟩, List.mem_of_getElem? (i := 54) (by decide +kernel), List.mem_of_getElem? (i := 391) (by decide +kernel), List.mem_of_getElem? (i := 392) (by decide +kernel)⟩
theorem lw_p3 : lw_okq (⟨"FormOffice$Calculator", "refuse", "()J"⟩, 9) := ⟨⟨by decide +kernel, by decide +kernel⟩, List.mem_of_getElem? (i := 54) (by decide +kernel), List.mem_of_getElem? (i := 395) (by decide +kernel), List.mem_of_getElem? (i := 396) (by decide +kernel)⟩
theorem lw_p4 : lw_okq (⟨"FormOffice$Calculator", "readSum", "(IIZ)J"⟩, 9) := ⟨⟨by decide +kernel, by decide +kernel⟩, List.mem_of_getElem? (i := 54) (by decide +kernel), List.mem_of_getElem? (i := 399) (by decide +kernel), List.mem_of_getElem? (i := 400) (by decide +kernel)⟩
theorem lw_p5 : lw_okq (⟨"FormOffice$Calculator", "readPart", "(IIZ)J"⟩, 9) := ⟨⟨by decide +kernel, by decide +kernel⟩, List.mem_of_getElem? (i := 54) (by decide +kernel), List.mem_of_getElem? (i := 403) (by decide +kernel), List.mem_of_getElem? (i := 404) (by decide +kernel)⟩
theorem lw_p6 : lw_okq (⟨"FormOffice$Calculator", "readUnit", "(IIZ)J"⟩, 9) := ⟨⟨by decide +kernel, by decide +kernel⟩, List.mem_of_getElem? (i := 54) (by decide +kernel), List.mem_of_getElem? (i := 407) (by decide +kernel), List.mem_of_getElem? (i := 408) (by decide +kernel)⟩
theorem lw_p7 : lw_okq (⟨"FormOffice$Calculator", "next", "()C"⟩, 9) := ⟨⟨by decide +kernel, by decide +kernel⟩, List.mem_of_getElem? (i := 54) (by decide +kernel), List.mem_of_getElem? (i := 411) (by decide +kernel), List.mem_of_getElem? (i := 412) (by decide +kernel)⟩
theorem lw_p8 : lw_okq (⟨"FormOffice$Calculator", "readName", "(I)J"⟩, 9) := ⟨⟨by decide +kernel, by decide +kernel⟩, List.mem_of_getElem? (i := 54) (by decide +kernel), List.mem_of_getElem? (i := 415) (by decide +kernel), List.mem_of_getElem? (i := 416) (by decide +kernel)⟩
theorem lw_p9 : lw_okq (⟨"FormOffice$Calculator", "take", "(C)Z"⟩, 9) := ⟨⟨by decide +kernel, by decide +kernel⟩, List.mem_of_getElem? (i := 54) (by decide +kernel), List.mem_of_getElem? (i := 419) (by decide +kernel), List.mem_of_getElem? (i := 420) (by decide +kernel)⟩
theorem lw_p10 : lw_okq (⟨"FormOffice$Calculator", "readNumber", "(I)J"⟩, 9) := ⟨⟨by decide +kernel, by decide +kernel⟩, List.mem_of_getElem? (i := 54) (by decide +kernel), List.mem_of_getElem? (i := 426) (by decide +kernel), List.mem_of_getElem? (i := 427) (by decide +kernel)⟩
theorem lw_p11 : lw_okq (⟨"FormOffice$Calculator", "readInBrackets", "(IIZ)J"⟩, 9) := ⟨⟨by decide +kernel, by decide +kernel⟩, List.mem_of_getElem? (i := 54) (by decide +kernel), List.mem_of_getElem? (i := 431) (by decide +kernel), List.mem_of_getElem? (i := 432) (by decide +kernel)⟩
theorem lw_p12 : lw_okq (⟨"FormOffice$Calculator", "expect", "(C)V"⟩, 9) := ⟨⟨by decide +kernel, by decide +kernel⟩, List.mem_of_getElem? (i := 54) (by decide +kernel), List.mem_of_getElem? (i := 435) (by decide +kernel), List.mem_of_getElem? (i := 436) (by decide +kernel)⟩
theorem lw_p13 : lw_okq (⟨"FormOffice$Calculator", "readOneOfTwo", "(IIZ)J"⟩, 9) := ⟨⟨by decide +kernel, by decide +kernel⟩, List.mem_of_getElem? (i := 54) (by decide +kernel), List.mem_of_getElem? (i := 439) (by decide +kernel), List.mem_of_getElem? (i := 440) (by decide +kernel)⟩
theorem lw_p14 : lw_okq (⟨"FormOffice$Calculator", "readTable", "(IIZ)J"⟩, 9) := ⟨⟨by decide +kernel, by decide +kernel⟩, List.mem_of_getElem? (i := 54) (by decide +kernel), List.mem_of_getElem? (i := 449) (by decide +kernel), List.mem_of_getElem? (i := 450) (by decide +kernel)⟩
theorem lw_p15 : lw_okq (⟨"FormOffice$Table", "rounded", "(J)J"⟩, 4) := ⟨⟨by decide +kernel, by decide +kernel⟩, List.mem_of_getElem? (i := 63) (by decide +kernel), List.mem_of_getElem? (i := 458) (by decide +kernel), List.mem_of_getElem? (i := 459) (by decide +kernel)⟩
def lw_privs_1 : List (MethodName × Nat) := [(⟨"java/lang/Throwable", "fillInStackTrace", "(I)Ljava/lang/Throwable;"⟩, 6), (⟨"FormOffice$Calculator", "begin", "(LFormOffice$Text;[J[J)V"⟩, 9), (⟨"FormOffice$Calculator", "readFormula", "(IIZ)J"⟩, 9), (⟨"FormOffice$Calculator", "refuse", "()J"⟩, 9), (⟨"FormOffice$Calculator", "readSum", "(IIZ)J"⟩, 9), (⟨"FormOffice$Calculator", "readPart", "(IIZ)J"⟩, 9), (⟨"FormOffice$Calculator", "readUnit", "(IIZ)J"⟩, 9), (⟨"FormOffice$Calculator", "next", "()C"⟩, 9), (⟨"FormOffice$Calculator", "readName", "(I)J"⟩, 9), (⟨"FormOffice$Calculator", "take", "(C)Z"⟩, 9), (⟨"FormOffice$Calculator", "readNumber", "(I)J"⟩, 9), (⟨"FormOffice$Calculator", "readInBrackets", "(IIZ)J"⟩, 9), (⟨"FormOffice$Calculator", "expect", "(C)V"⟩, 9), (⟨"FormOffice$Calculator", "readOneOfTwo", "(IIZ)J"⟩, 9), (⟨"FormOffice$Calculator", "readTable", "(IIZ)J"⟩, 9), (⟨"FormOffice$Table", "rounded", "(J)J"⟩, 4)]
theorem lw_r1 : ∀ q ∈ lw_privs_1, lw_okq q := List.forall_mem_cons.mpr ⟨lw_p0, List.forall_mem_cons.mpr ⟨lw_p1, List.forall_mem_cons.mpr ⟨lw_p2, List.forall_mem_cons.mpr ⟨lw_p3, List.forall_mem_cons.mpr ⟨lw_p4, List.forall_mem_cons.mpr ⟨lw_p5, List.forall_mem_cons.mpr ⟨lw_p6, List.forall_mem_cons.mpr ⟨lw_p7, List.forall_mem_cons.mpr ⟨lw_p8, List.forall_mem_cons.mpr ⟨lw_p9, List.forall_mem_cons.mpr ⟨lw_p10, List.forall_mem_cons.mpr ⟨lw_p11, List.forall_mem_cons.mpr ⟨lw_p12, List.forall_mem_cons.mpr ⟨lw_p13, List.forall_mem_cons.mpr ⟨lw_p14, List.forall_mem_cons.mpr ⟨lw_p15, fun _ h => absurd h List.not_mem_nil⟩⟩⟩⟩⟩⟩⟩⟩⟩⟩⟩⟩⟩⟩⟩⟩
theorem lw_p16 : lw_okq (⟨"FormOffice$Calculator", "checked", "(JZ)J"⟩, 9) := ⟨⟨by decide +kernel, by decide +kernel⟩, List.mem_of_getElem? (i := 54) (by decide +kernel), List.mem_of_getElem? (i := 476) (by decide +kernel), List.mem_of_getElem? (i := 477) (by decide +kernel)⟩
theorem lw_p17 : lw_okq (⟨"FormOffice", "hasFormula", "(I)Z"⟩, 11) := ⟨⟨by decide +kernel, by decide +kernel⟩, List.mem_of_getElem? (i := 24) (by decide +kernel), List.mem_of_getElem? (i := 518) (by decide +kernel), List.mem_of_getElem? (i := 519) (by decide +kernel)⟩
theorem lw_p18 : lw_okq (⟨"FormOffice", "arrangeLines", "()I"⟩, 11) := ⟨⟨by decide +kernel, by decide +kernel⟩, List.mem_of_getElem? (i := 24) (by decide +kernel), List.mem_of_getElem? (i := 587) (by decide +kernel), List.mem_of_getElem? (i := 588) (by decide +kernel)⟩
theorem lw_p19 : lw_okq (⟨"FormOffice", "lowestReady", "(I)I"⟩, 11) := ⟨⟨by decide +kernel, by decide +kernel⟩, List.mem_of_getElem? (i := 24) (by decide +kernel), List.mem_of_getElem? (i := 591) (by decide +kernel), List.mem_of_getElem? (i := 592) (by decide +kernel)⟩
theorem lw_p20 : lw_okq (⟨"FormOffice", "returnOf", "(II)LFormOffice$Return;"⟩, 11) := ⟨⟨by decide +kernel, by decide +kernel⟩, List.mem_of_getElem? (i := 24) (by decide +kernel), List.mem_of_getElem? (i := 614) (by decide +kernel), List.mem_of_getElem? (i := 615) (by decide +kernel)⟩
theorem lw_p21 : lw_okq (⟨"FormOffice", "workOut", "(LFormOffice$Return;[J)Z"⟩, 11) := ⟨⟨by decide +kernel, by decide +kernel⟩, List.mem_of_getElem? (i := 24) (by decide +kernel), List.mem_of_getElem? (i := 631) (by decide +kernel), List.mem_of_getElem? (i := 632) (by decide +kernel)⟩
theorem lw_p22 : lw_okq (⟨"FormOffice", "requireAssessed", "(II)V"⟩, 11) := ⟨⟨by decide +kernel, by decide +kernel⟩, List.mem_of_getElem? (i := 24) (by decide +kernel), List.mem_of_getElem? (i := 671) (by decide +kernel), List.mem_of_getElem? (i := 672) (by decide +kernel)⟩
theorem lw_p23 : lw_okq (⟨"FormOfficeModel", "refuse", "(I)I"⟩, 34) := ⟨⟨by decide +kernel, by decide +kernel⟩, List.mem_of_getElem? (i := 729) (by decide +kernel), List.mem_of_getElem? (i := 865) (by decide +kernel), List.mem_of_getElem? (i := 866) (by decide +kernel)⟩
theorem lw_p24 : lw_okq (⟨"FormOfficeModel", "read", "()Z"⟩, 34) := ⟨⟨by decide +kernel, by decide +kernel⟩, List.mem_of_getElem? (i := 729) (by decide +kernel), List.mem_of_getElem? (i := 869) (by decide +kernel), List.mem_of_getElem? (i := 870) (by decide +kernel)⟩
theorem lw_p25 : lw_okq (⟨"FormOfficeModel", "begin", "()I"⟩, 34) := ⟨⟨by decide +kernel, by decide +kernel⟩, List.mem_of_getElem? (i := 729) (by decide +kernel), List.mem_of_getElem? (i := 873) (by decide +kernel), List.mem_of_getElem? (i := 874) (by decide +kernel)⟩
theorem lw_p26 : lw_okq (⟨"FormOfficeModel", "look", "(I)I"⟩, 34) := ⟨⟨by decide +kernel, by decide +kernel⟩, List.mem_of_getElem? (i := 729) (by decide +kernel), List.mem_of_getElem? (i := 877) (by decide +kernel), List.mem_of_getElem? (i := 878) (by decide +kernel)⟩
theorem lw_p27 : lw_okq (⟨"FormOfficeModel", "make", "(II)V"⟩, 34) := ⟨⟨by decide +kernel, by decide +kernel⟩, List.mem_of_getElem? (i := 729) (by decide +kernel), List.mem_of_getElem? (i := 881) (by decide +kernel), List.mem_of_getElem? (i := 882) (by decide +kernel)⟩
theorem lw_p28 : lw_okq (⟨"FormOfficeModel", "number", "(I)I"⟩, 34) := ⟨⟨by decide +kernel, by decide +kernel⟩, List.mem_of_getElem? (i := 729) (by decide +kernel), List.mem_of_getElem? (i := 885) (by decide +kernel), List.mem_of_getElem? (i := 886) (by decide +kernel)⟩
theorem lw_p29 : lw_okq (⟨"FormOfficeModel", "deepness", "()I"⟩, 34) := ⟨⟨by decide +kernel, by decide +kernel⟩, List.mem_of_getElem? (i := 729) (by decide +kernel), List.mem_of_getElem? (i := 889) (by decide +kernel), List.mem_of_getElem? (i := 890) (by decide +kernel)⟩
theorem lw_p30 : lw_okq (⟨"FormOfficeModel", "put", "(II)Z"⟩, 34) := ⟨⟨by decide +kernel, by decide +kernel⟩, List.mem_of_getElem? (i := 729) (by decide +kernel), List.mem_of_getElem? (i := 893) (by decide +kernel), List.mem_of_getElem? (i := 894) (by decide +kernel)⟩
theorem lw_p31 : lw_okq (⟨"FormOfficeModel", "goOn", "(Z)I"⟩, 34) := ⟨⟨by decide +kernel, by decide +kernel⟩, List.mem_of_getElem? (i := 729) (by decide +kernel), List.mem_of_getElem? (i := 898) (by decide +kernel), List.mem_of_getElem? (i := 899) (by decide +kernel)⟩
def lw_privs_2 : List (MethodName × Nat) := [(⟨"FormOffice$Calculator", "checked", "(JZ)J"⟩, 9), (⟨"FormOffice", "hasFormula", "(I)Z"⟩, 11), (⟨"FormOffice", "arrangeLines", "()I"⟩, 11), (⟨"FormOffice", "lowestReady", "(I)I"⟩, 11), (⟨"FormOffice", "returnOf", "(II)LFormOffice$Return;"⟩, 11), (⟨"FormOffice", "workOut", "(LFormOffice$Return;[J)Z"⟩, 11), (⟨"FormOffice", "requireAssessed", "(II)V"⟩, 11), (⟨"FormOfficeModel", "refuse", "(I)I"⟩, 34), (⟨"FormOfficeModel", "read", "()Z"⟩, 34), (⟨"FormOfficeModel", "begin", "()I"⟩, 34), (⟨"FormOfficeModel", "look", "(I)I"⟩, 34), (⟨"FormOfficeModel", "make", "(II)V"⟩, 34), (⟨"FormOfficeModel", "number", "(I)I"⟩, 34), (⟨"FormOfficeModel", "deepness", "()I"⟩, 34), (⟨"FormOfficeModel", "put", "(II)Z"⟩, 34), (⟨"FormOfficeModel", "goOn", "(Z)I"⟩, 34)]
theorem lw_r2 : ∀ q ∈ lw_privs_2, lw_okq q := List.forall_mem_cons.mpr ⟨lw_p16, List.forall_mem_cons.mpr ⟨lw_p17, List.forall_mem_cons.mpr ⟨lw_p18, List.forall_mem_cons.mpr ⟨lw_p19, List.forall_mem_cons.mpr ⟨lw_p20, List.forall_mem_cons.mpr ⟨lw_p21, List.forall_mem_cons.mpr ⟨lw_p22, List.forall_mem_cons.mpr ⟨lw_p23, List.forall_mem_cons.mpr ⟨lw_p24, List.forall_mem_cons.mpr ⟨lw_p25, List.forall_mem_cons.mpr ⟨lw_p26, List.forall_mem_cons.mpr ⟨lw_p27, List.forall_mem_cons.mpr ⟨lw_p28, List.forall_mem_cons.mpr ⟨lw_p29, List.forall_mem_cons.mpr ⟨lw_p30, List.forall_mem_cons.mpr ⟨lw_p31, fun _ h => absurd h List.not_mem_nil⟩⟩⟩⟩⟩⟩⟩⟩⟩⟩⟩⟩⟩⟩⟩⟩
theorem lw_p32 : lw_okq (⟨"FormOfficeModel", "settle", "()V"⟩, 34) := ⟨⟨by decide +kernel, by decide +kernel⟩, List.mem_of_getElem? (i := 729) (by decide +kernel), List.mem_of_getElem? (i := 902) (by decide +kernel), List.mem_of_getElem? (i := 903) (by decide +kernel)⟩
theorem lw_p33 : lw_okq (⟨"FormOfficeModel", "top", "()I"⟩, 34) := ⟨⟨by decide +kernel, by decide +kernel⟩, List.mem_of_getElem? (i := 729) (by decide +kernel), List.mem_of_getElem? (i := 906) (by decide +kernel), List.mem_of_getElem? (i := 907) (by decide +kernel)⟩
theorem lw_p34 : lw_okq (⟨"FormOfficeModel", "ends", "(I)I"⟩, 34) := ⟨⟨by decide +kernel, by decide +kernel⟩, List.mem_of_getElem? (i := 729) (by decide +kernel), List.mem_of_getElem? (i := 910) (by decide +kernel), List.mem_of_getElem? (i := 911) (by decide +kernel)⟩
theorem lw_p35 : lw_okq (⟨"FormOfficeModel", "close", "()Z"⟩, 34) := ⟨⟨by decide +kernel, by decide +kernel⟩, List.mem_of_getElem? (i := 729) (by decide +kernel), List.mem_of_getElem? (i := 914) (by decide +kernel), List.mem_of_getElem? (i := 915) (by decide +kernel)⟩
theorem lw_p36 : lw_okq (⟨"FormOfficeModel", "makeOrder", "()I"⟩, 34) := ⟨⟨by decide +kernel, by decide +kernel⟩, List.mem_of_getElem? (i := 729) (by decide +kernel), List.mem_of_getElem? (i := 940) (by decide +kernel), List.mem_of_getElem? (i := 941) (by decide +kernel)⟩
theorem lw_p37 : lw_okq (⟨"FormOfficeModel", "workOut", "(II)Z"⟩, 34) := ⟨⟨by decide +kernel, by decide +kernel⟩, List.mem_of_getElem? (i := 729) (by decide +kernel), List.mem_of_getElem? (i := 954) (by decide +kernel), List.mem_of_getElem? (i := 955) (by decide +kernel)⟩
theorem lw_p38 : lw_okq (⟨"FormOfficeModel", "operate", "(III)Z"⟩, 34) := ⟨⟨by decide +kernel, by decide +kernel⟩, List.mem_of_getElem? (i := 729) (by decide +kernel), List.mem_of_getElem? (i := 958) (by decide +kernel), List.mem_of_getElem? (i := 959) (by decide +kernel)⟩
theorem lw_p39 : lw_okq (⟨"FormOfficeModel", "before", "(II)J"⟩, 34) := ⟨⟨by decide +kernel, by decide +kernel⟩, List.mem_of_getElem? (i := 729) (by decide +kernel), List.mem_of_getElem? (i := 962) (by decide +kernel), List.mem_of_getElem? (i := 963) (by decide +kernel)⟩
theorem lw_p40 : lw_okq (⟨"FormOfficeModel", "tabled", "(IJ)J"⟩, 34) := ⟨⟨by decide +kernel, by decide +kernel⟩, List.mem_of_getElem? (i := 729) (by decide +kernel), List.mem_of_getElem? (i := 966) (by decide +kernel), List.mem_of_getElem? (i := 967) (by decide +kernel)⟩
theorem lw_p41 : lw_okq (⟨"FormOfficeModel", "post", "(IIIJ)V"⟩, 34) := ⟨⟨by decide +kernel, by decide +kernel⟩, List.mem_of_getElem? (i := 729) (by decide +kernel), List.mem_of_getElem? (i := 976) (by decide +kernel), List.mem_of_getElem? (i := 977) (by decide +kernel)⟩
theorem lw_p42 : lw_okq (⟨"FormOfficeModel", "there", "(III)Z"⟩, 34) := ⟨⟨by decide +kernel, by decide +kernel⟩, List.mem_of_getElem? (i := 729) (by decide +kernel), List.mem_of_getElem? (i := 984) (by decide +kernel), List.mem_of_getElem? (i := 985) (by decide +kernel)⟩
theorem lw_p43 : lw_okq (⟨"FormOfficeModel", "sum", "(I)J"⟩, 34) := ⟨⟨by decide +kernel, by decide +kernel⟩, List.mem_of_getElem? (i := 729) (by decide +kernel), List.mem_of_getElem? (i := 996) (by decide +kernel), List.mem_of_getElem? (i := 997) (by decide +kernel)⟩
theorem lw_p44 : lw_okq (⟨"FormOfficeModel", "charge", "(II)J"⟩, 34) := ⟨⟨by decide +kernel, by decide +kernel⟩, List.mem_of_getElem? (i := 729) (by decide +kernel), List.mem_of_getElem? (i := 1009) (by decide +kernel), List.mem_of_getElem? (i := 1010) (by decide +kernel)⟩
def lw_privs_3 : List (MethodName × Nat) := [(⟨"FormOfficeModel", "settle", "()V"⟩, 34), (⟨"FormOfficeModel", "top", "()I"⟩, 34), (⟨"FormOfficeModel", "ends", "(I)I"⟩, 34), (⟨"FormOfficeModel", "close", "()Z"⟩, 34), (⟨"FormOfficeModel", "makeOrder", "()I"⟩, 34), (⟨"FormOfficeModel", "workOut", "(II)Z"⟩, 34), (⟨"FormOfficeModel", "operate", "(III)Z"⟩, 34), (⟨"FormOfficeModel", "before", "(II)J"⟩, 34), (⟨"FormOfficeModel", "tabled", "(IJ)J"⟩, 34), (⟨"FormOfficeModel", "post", "(IIIJ)V"⟩, 34), (⟨"FormOfficeModel", "there", "(III)Z"⟩, 34), (⟨"FormOfficeModel", "sum", "(I)J"⟩, 34), (⟨"FormOfficeModel", "charge", "(II)J"⟩, 34)]
theorem lw_r3 : ∀ q ∈ lw_privs_3, lw_okq q := List.forall_mem_cons.mpr ⟨lw_p32, List.forall_mem_cons.mpr ⟨lw_p33, List.forall_mem_cons.mpr ⟨lw_p34, List.forall_mem_cons.mpr ⟨lw_p35, List.forall_mem_cons.mpr ⟨lw_p36, List.forall_mem_cons.mpr ⟨lw_p37, List.forall_mem_cons.mpr ⟨lw_p38, List.forall_mem_cons.mpr ⟨lw_p39, List.forall_mem_cons.mpr ⟨lw_p40, List.forall_mem_cons.mpr ⟨lw_p41, List.forall_mem_cons.mpr ⟨lw_p42, List.forall_mem_cons.mpr ⟨lw_p43, List.forall_mem_cons.mpr ⟨lw_p44, fun _ h => absurd h List.not_mem_nil⟩⟩⟩⟩⟩⟩⟩⟩⟩⟩⟩⟩⟩
def lw_privs : List (MethodName × Nat) := lw_privs_1 ++ (lw_privs_2 ++ (lw_privs_3))
def lw_tbl : List Cond := k2_sels lw_privs ++ tables_1
theorem lw_privs_ok : ∀ q ∈ lw_privs, lw_okq q := by
  show ∀ q ∈ lw_privs_1 ++ (lw_privs_2 ++ (lw_privs_3)), lw_okq q
  exact List.forall_mem_append.mpr ⟨lw_r1, List.forall_mem_append.mpr ⟨lw_r2, lw_r3⟩⟩
end
section
/-! ===== BEGIN words of one list among another's, by their places ===== -/
theorem goodIn_r {big : List Cond} (ws : List Cond) (ps : List Nat) (hp : ws = ps.filterMap (fun i => big[i]?)) (h : ws.all goodWord = true) : GoodIn big ws := by
  intro w hw
  have h1 := List.all_eq_true.mp h w hw
  rw [hp] at hw
  obtain ⟨i, -, hi⟩ := List.mem_filterMap.mp hw
  have hm : w ∈ big := by first | exact List.mem_of_getElem? hi | exact List.getElem?_mem hi
  exact ⟨hm, good_of_word h1⟩
theorem goodIn_app {big a b : List Cond} (ha : GoodIn big a) (hb : GoodIn big b) : GoodIn big (a ++ b) := fun w h => (List.mem_append.mp h).elim (ha w) (hb w)
theorem goodIn_ca {big a b : List Cond} {c : Cond} (ha : GoodIn big (c :: a)) (hb : GoodIn big b) : GoodIn big (c :: (a ++ b)) := fun w h => (List.mem_cons.mp h).elim (fun e => ha w (List.mem_cons.mpr (Or.inl e))) (fun h => (List.mem_append.mp h).elim (fun h => ha w (List.mem_cons.mpr (Or.inr h))) (hb w))
theorem goodIn_sub {big ws : List Cond} (hm : ∀ w ∈ ws, w ∈ big) (h : ws.all goodWord = true) : GoodIn big ws := fun w hw => ⟨hm w hw, good_of_word (List.all_eq_true.mp h w hw)⟩
/-! ===== END ===== -/

/-! ===== BEGIN exceptions that leave a method, and their catching by the caller (launches without stack traces) ===== -/
section VXA
/-! The laws vx_back, vx_callV, vx_callS, vx_callSW, vx_throw0, vx_throwS follow proofs of the library, with one case more: JvmDerived/Free/Laws.lean (Back.of_free), Shelf42/LK1.lean (callV, callS), Shelf/KitTraced.lean (throwNew0V, throwNewS). -/
/-- where a method has thrown q: the class by its name, the cell, what was written, the world -/
def vx_T (XC : String → State → State → Prop) (st : State) (q : Addr) (t : State) (mc ms : Nat) (free : Addr → Prop) : Prop :=
  ∃ (E : String) (ce : Cell) (L : List Loc), XC E st t ∧ t.heap[q]? = some ce ∧ ce.vm = .none ∧ st.vm.findClass E = some ce.cls ∧ st.WarmedH t.vm ∧ st.sameButNew ({ t with vm := st.vm } : State) L mc ms ∧ ∀ z ∈ L, free z.base
def vx_Q (Qc : Array Value → State → Outcome → State → Prop) (XC : String → State → State → Prop) (mc ms : Nat) (free : Addr → Prop) : Array Value → State → Outcome → State → Prop := fun a st o t =>
  (Qc a st o t ∧ ∃ L, FrameEnd st o t L mc ms ∧ ∀ q ∈ L, free q.base) ∨ ∃ q, o = .threw q ∧ vx_T XC st q t mc ms free
/-- a callee that returns or throws -/
def vx_Met (l : Launch) (y : MethodName) (ws : List Cond) (rm : Room) (Pc : Array Value → State → Prop) (Qc : Array Value → State → Outcome → State → Prop) (XC : String → State → State → Prop) (mc ms : Nat) (free : Addr → Prop) : Prop :=
  MetFree l y (headSpec ws rm) Pc (fun _ _ _ _ _ => True) (vx_Q Qc XC mc ms free)
def vx_Post (XC : String → State → State → Prop) (mc ms : Nat) (free : Addr → Prop) : Pt → Array Value → Addr → Pt → Prop := fun A a q B =>
  ∃ (g : JFrame) (mk : MethodId) (t : State) (L : List Loc) (E : String) (ce : Cell), B.U.heap = t.heap ∧ B.U.vm = t.vm ∧ XC E (A.U.calling g mk a) t ∧ t.heap[q]? = some ce ∧ ce.vm = .none ∧ A.U.vm.findClass E = some ce.cls ∧ B.locs = A.locs ++ L ∧ (∀ z ∈ L, free z.base) ∧ B.cells = A.cells + mc ∧ B.slots = A.slots + ms
def vx_Back (l : Launch) (R : Room) (p : Program) (e : Env) (below : List Frame) (s : State) (sargs : Array Value) (y : MethodName) (len W9 : Nat)
    (Pre : Pt → Array Value → Prop) (Post : Pt → Array Value → Option Value → Pt → Prop) (PostX : Pt → Array Value → Addr → Pt → Prop) : Prop :=
  ∀ (m : MethodId) (meth : Method) (c : Code) (A : Pt) (g : JFrame) (ig : Instr) (mk : MethodId) (a : Array Value),
    Stand p l e R s m sargs below meth c A.U A.locs A.cells A.slots → g.method = m → g.locals.size = c.maxLocals → decode c.code g.pc = .ok (ig, len) →
    2 * g.monitorRoom + (g.stack.map fun v => v.category).sum ≤ W9 → A.U.methodNamed? y = some mk → Pre A a →
    (∃ (v : Option Value) (B : Pt), Stand p l e R s m sargs below meth c B.U B.locs B.cells B.slots ∧ Post A a v B ∧
      Steps p.tables e below (doInvoke e (A.U.setTop g) [] mk a).1 (B.U.setTop { g with pc := g.pc + len, stack := v.toList ++ g.stack })) ∨
    (∃ (q : Addr) (B : Pt), Stand p l e R s m sargs below meth c B.U B.locs B.cells B.slots ∧ PostX A a q B ∧
      Steps p.tables e below (doInvoke e (A.U.setTop g) [] mk a).1 ((B.U.setTop g).pushFrame (.throwing q)))
section Payer
variable {l : Launch} {R : Room} {p : Program} {e : Env} {below : List Frame} {s : State} {sargs : Array Value} {y : MethodName} {len W9 : Nat}
theorem vx_back {ws : List Cond} {rm : Room} {Pc : Array Value → State → Prop} {Qc : Array Value → State → Outcome → State → Prop} {XC : String → State → State → Prop} {mc ms : Nat} {free : Addr → Prop} {bytes : ByteArray} {maxL : Nat} {ret : Option FieldType}
    (hM : vx_Met l y ws rm Pc Qc XC mc ms free) (hblind : FrameBlind Pc) (hrc : rm.cells = mc) (hrs : rm.slots = ms)
    (hframes : rm.frames + 1 ≤ R.frames) (hlocals : W9 + (maxL + 11) + rm.locals ≤ R.locals)
    (hws : ∀ w ∈ ws, ∀ a' U, s.WarmedH U.vm → w.before a' U = true) (hcode : Cond.code y bytes maxL ret ∈ ws) (hinit : ∀ a' U, s.WarmedH U.vm → (Cond.initialized y.cls).before a' U = true) :
    vx_Back l R p e below s sargs y len W9 (PreOf R mc ms Pc) (PostOf Qc mc ms free) (vx_Post XC mc ms free) := by
  intro m meth c A g ig mk a X hg hsize hdg hW hn hp
  have h1 : (headSpec ws rm).pre.before a A.U = true := atoms_intro fun w hw => hws w hw _ _ X.warmed
  have h2 : (Cond.code y bytes maxL ret).before a A.U = true := hws _ hcode _ _ X.warmed
  have h3 : (Cond.initialized y.cls).before a A.U = true := hinit _ _ X.warmed
  have h4 : A.cells + (headSpec ws rm).room.cells ≤ R.cells := by rw [show (headSpec ws rm).room.cells = mc from hrc]; exact hp.1
  have h5 : A.slots + (headSpec ws rm).room.slots ≤ R.slots := by rw [show (headSpec ws rm).room.slots = ms from hrs]; exact hp.2.1
  have hPc : Pc a (A.U.calling g mk a) := hblind _ _ _ _ hp.2.2
  obtain ⟨U, Ls, c0, s0⟩ := A
  dsimp only [Pt.U, Pt.locs, Pt.cells, Pt.slots] at h1 h2 h3 h4 h5 X hn hPc ⊢
  obtain ⟨methY, cY, hmY, hcY, -, hlY, -, -, -, -⟩ := Cond.code_spec hn h2
  obtain ⟨kY, hkY, -⟩ := className_of_methodNamed hn
  have hinitY : kY.init = .initialized := Cond.initialized_spec (findClass_of_methodNamed hn) hkY h3
  have h : At U g.method c below := by rw [hg]; exact X.here
  have hlocals9 : W9 + (maxL + 11) + (headSpec ws rm).room.locals ≤ R.locals := hlocals
  have happ : (headSpec ws rm).appliesLoose y e.platform (U.calling g mk a) = true :=
    Spec.appliesLoose_calling (g := g) h hdg hn hkY hinitY
      (X.room_calling (g := g) (R' := (headSpec ws rm).room) hsize hmY hcY hframes (by rw [hlY]; omega) h4 h5) h1
  obtain ⟨mid, hmid⟩ := h.above
  have hfr : (U.setTop g).frames = (.java g :: mid) ++ below := by rw [State.frames_setTop' g h.top, hmid]; rfl
  obtain ⟨o, s₂, hsteps, -, hend, hq⟩ := Steps.callFree hM p X.admits X.cas X.clock (acts := []) hfr happ hPc trivial
  have hq' : vx_Q Qc XC mc ms free a (U.calling g mk a) o s₂ := hq
  rw [State.frames_setTop' g h.top] at hend
  obtain ⟨g₀, hg0⟩ := Option.isSome_iff_exists.mp h.top
  obtain ⟨r, hr⟩ := State.topJava?_eq_some.mp hg0
  have hr' : (({ U with heap := s₂.heap, slotsUsed := s₂.slotsUsed } : State).setVm s₂.vm).frames = .java g₀ :: r := hr
  rcases hq' with ⟨hqc, L, hfe, hL⟩ | ⟨q, rfl, E, ce, L, hx, hce, hcv, hcl, hW₂, hsm, hL⟩
  · obtain ⟨⟨v, rfl⟩, hW₂, e2, q2, q3, q4, q5, q6⟩ := id hfe
    have e3 : s₂ = ({ (U.calling g mk a).setFrames s₂.frames with heap := s₂.heap, slotsUsed := s₂.slotsUsed } : State).setVm s₂.vm := by
      have : s₂ = ({ s₂ with vm := (U.calling g mk a).vm } : State).setVm s₂.vm := rfl
      rw [e2] at this
      exact this
    obtain ⟨c₂, i₂, len₂, hc₂, hd₂, hf₂⟩ := hend
    have hW' : U.WarmedH s₂.vm := hW₂
    have hcc : c₂ = c := by
      have h1 : s₂.code? g.method = U.code? g.method := by
        rw [State.code?_eq, State.code?_eq, hW'.alike.method?]
      exact Option.some.inj (hc₂.symm.trans (h1.trans h.code))
    subst hcc
    have hlen : len₂ = len := by rw [hdg] at hd₂; cases hd₂; rfl
    subst hlen
    have hs₂ : s₂ = (({ U with heap := s₂.heap, slotsUsed := s₂.slotsUsed } : State).setVm s₂.vm).setTop { g with pc := g.pc + len₂, stack := v.toList ++ g.stack } := by
      refine e3.trans ?_
      rw [hf₂, State.calling_eq h.top, State.setFrames_setFrames, State.setTop_of_frames _ hr', hr]
      rfl
    have hsame : U.sameButNew ({ U with heap := s₂.heap, slotsUsed := s₂.slotsUsed } : State) L mc ms := by
      refine ⟨?_, q2, q3, q4, q5, q6⟩
      obtain ⟨t, ht, -⟩ := State.frames_cons hr
      show ({ U with heap := s₂.heap, slotsUsed := s₂.slotsUsed } : State) = { U.setFrames U.frames with heap := s₂.heap, slotsUsed := s₂.slotsUsed }
      rw [State.setFrames_self ht]
    subst hg
    refine Or.inl ⟨v, ⟨(({ U with heap := s₂.heap, slotsUsed := s₂.slotsUsed } : State).setVm s₂.vm), Ls ++ L, c0 + mc, s0 + ms⟩,
      ⟨X.admits, X.cas, X.clock, X.frames, X.room, X.hears, X.method, X.code, (X.here.setHeapUsed s₂.heap s₂.slotsUsed).setVm hW'.alike, X.tail, State.WarmedH.trans X.warmed hW', X.limits, X.bytes, X.same.trans (hsame.setVm s.vm)⟩,
      ⟨g, mk, s₂, L, rfl, rfl, hqc, rfl, hL, rfl, rfl⟩, ?_⟩
    show Steps p.tables e below _ ((({ U with heap := s₂.heap, slotsUsed := s₂.slotsUsed } : State).setVm s₂.vm).setTop { g with pc := g.pc + len₂, stack := v.toList ++ g.stack })
    rw [← hs₂]
    exact hsteps
  · obtain ⟨e2, q2, q3, q4, q5, q6⟩ := id hsm
    have e3 : s₂ = ({ (U.calling g mk a).setFrames s₂.frames with heap := s₂.heap, slotsUsed := s₂.slotsUsed } : State).setVm s₂.vm := by
      have : s₂ = ({ s₂ with vm := (U.calling g mk a).vm } : State).setVm s₂.vm := rfl
      rw [e2] at this
      exact this
    have hf₂ : s₂.frames = .throwing q :: .java g :: U.frames.tail := hend
    have hW' : U.WarmedH s₂.vm := hW₂
    have hs₂ : s₂ = ((({ U with heap := s₂.heap, slotsUsed := s₂.slotsUsed } : State).setVm s₂.vm).setTop g).pushFrame (.throwing q) := by
      refine e3.trans ?_
      rw [hf₂, State.calling_eq h.top, State.setFrames_setFrames, State.pushFrame, State.frames_setTop _ hr', State.setTop_of_frames _ hr', State.setFrames_setFrames, hr]
      rfl
    have hsame : U.sameButNew ({ U with heap := s₂.heap, slotsUsed := s₂.slotsUsed } : State) L mc ms := by
      refine ⟨?_, q2, q3, q4, q5, q6⟩
      obtain ⟨t, ht, -⟩ := State.frames_cons hr
      show ({ U with heap := s₂.heap, slotsUsed := s₂.slotsUsed } : State) = { U.setFrames U.frames with heap := s₂.heap, slotsUsed := s₂.slotsUsed }
      rw [State.setFrames_self ht]
    subst hg
    refine Or.inr ⟨q, ⟨(({ U with heap := s₂.heap, slotsUsed := s₂.slotsUsed } : State).setVm s₂.vm), Ls ++ L, c0 + mc, s0 + ms⟩,
      ⟨X.admits, X.cas, X.clock, X.frames, X.room, X.hears, X.method, X.code, (X.here.setHeapUsed s₂.heap s₂.slotsUsed).setVm hW'.alike, X.tail, State.WarmedH.trans X.warmed hW', X.limits, X.bytes, X.same.trans (hsame.setVm s.vm)⟩,
      ⟨g, mk, s₂, L, E, ce, rfl, rfl, hx, hce, hcv, hcl, rfl, hL, rfl, rfl⟩, ?_⟩
    show Steps p.tables e below _ (((({ U with heap := s₂.heap, slotsUsed := s₂.slotsUsed } : State).setVm s₂.vm).setTop g).pushFrame (.throwing q))
    rw [← hs₂]
    exact hsteps
end Payer
section Calls
variable {p : Program} {l : Launch} {e : Env} {R : Room} {s : State} {m : MethodId} {args : Array Value} {below : List Frame} {meth : Method} {c : Code} {T : State} {locs : List Loc} {cells slots : Nat}
theorem vx_callV (X : Stand p l e R s m args below meth c T locs cells slots) (hexec : p.tables.exec = Jvm.exec) {own C : String} {index : Nat} {y : MethodName} {bytes : ByteArray} {maxL : Nat} {ret : Option FieldType}
    (hown : s.vm.findClass own = some m.cls) (hlink : (Cond.methodLink own index y).before args s = true) (hinst : (Cond.instanceMethod y).before args s = true) (hsel : (Cond.selects C y y).before args s = true)
    (hcode : (Cond.code y bytes maxL ret).before args s = true) (hy : y.cls ≠ "java/lang/invoke/MethodHandle" ∧ y.cls ≠ "java/lang/invoke/VarHandle")
    {W9 : Nat} {Pre : Pt → Array Value → Prop} {Post : Pt → Array Value → Option Value → Pt → Prop} {PostX : Pt → Array Value → Addr → Pt → Prop} (hK : vx_Back l R p e below s args y 3 W9 Pre Post PostX)
    {b : Addr} {cellB : Cell} (hcell : T.heap[b]? = some cellB) (hobj : cellB.vm.isStatics = false) (hcls : s.vm.findClass C = some cellB.cls)
    {g : JFrame} (hg : g.method = m) (hsize : g.locals.size = c.maxLocals) {argsL rest : List Value} (hlen : ∀ sig, parseMethodDescriptor y.desc = some sig → argsL.length = sig.parameters.length)
    (hstack : g.stack = argsL.reverse ++ .ref b :: rest) (hW : 2 * g.monitorRoom + (rest.map fun v => v.category).sum ≤ W9) (hdg : decode c.code g.pc = .ok (.invokevirtual index, 3))
    (hpre : ∀ vm₁, s.WarmedH vm₁ → Pre ⟨T.setVm vm₁, locs, cells, slots⟩ (Value.ref b :: argsL).toArray) :
    (∃ (v : Option Value) (vm₁ : Vm) (B : Pt), s.WarmedH vm₁ ∧ Stand p l e R s m args below meth c B.U B.locs B.cells B.slots ∧ Post ⟨T.setVm vm₁, locs, cells, slots⟩ (Value.ref b :: argsL).toArray v B ∧
      ∀ target, Steps p.tables e below (B.U.setTop { g with pc := g.pc + 3, stack := v.toList ++ rest }) target → Steps p.tables e below (T.setTop g) target) ∨
    (∃ (q : Addr) (vm₁ : Vm) (B : Pt), s.WarmedH vm₁ ∧ Stand p l e R s m args below meth c B.U B.locs B.cells B.slots ∧ PostX ⟨T.setVm vm₁, locs, cells, slots⟩ (Value.ref b :: argsL).toArray q B ∧
      Steps p.tables e below (T.setTop g) ((B.U.setTop { g with stack := rest }).pushFrame (.throwing q))) := by
  obtain ⟨mk, methM, hnamed, hmethM, hstM, habM⟩ := Cond.instanceMethod_spec hinst
  obtain ⟨methM', cM, hmethM', -, -, -, -, -, -, hsigM⟩ := Cond.code_spec hnamed hcode
  cases hmethM.symm.trans hmethM'
  obtain ⟨c2, r2, m2, q1, q2, q3, q4, kP, hkP, hkPi⟩ := Cond.selects_spec hsel
  cases hcls.symm.trans q1
  cases (State.methodFound?_of_named hnamed hy).symm.trans q2
  cases hnamed.symm.trans q3
  have hselP : selectMethod e.platform s.vm cellB.cls mk = .method mk := by rw [Launch.admits_selectMethod X.admits]; exact q4
  obtain ⟨vm₁, X₁, hstep₁⟩ := X.invokevirtual hexec hown hlink hnamed hmethM hstM hkP hkPi hy (a := b) (cell := cellB) hcell
    (fun z h => by rw [h] at hobj; cases hobj) hselP hmethM habM hkP hkPi (g := g) hg (argsL := argsL) (rest := rest) (hlen _ hsigM) hstack hdg
  rcases hK m meth c ⟨T.setVm vm₁, locs, cells, slots⟩ { g with stack := rest } (.invokevirtual index) mk (Value.ref b :: argsL).toArray X₁ hg hsize hdg hW (X₁.named hnamed) (hpre vm₁ X₁.warmed) with ⟨v, B, X', hpost, hsteps⟩ | ⟨q, B, X', hpost, hsteps⟩
  · exact Or.inl ⟨v, vm₁, B, X₁.warmed, X', hpost, fun target h => hstep₁ _ fun acts => by rw [doInvoke_state]; exact hsteps.trans h⟩
  · exact Or.inr ⟨q, vm₁, B, X₁.warmed, X', hpost, hstep₁ _ fun acts => by rw [doInvoke_state]; exact hsteps⟩
theorem vx_callS (X : Stand p l e R s m args below meth c T locs cells slots) (hexec : p.tables.exec = Jvm.exec) {own : String} {index : Nat} {y : MethodName} {bytes : ByteArray} {maxL : Nat} {ret : Option FieldType}
    (hown : s.vm.findClass own = some m.cls) (hlink : (Cond.methodLink own index y).before args s = true) (hstat : (Cond.static y).before args s = true) (hinit : (Cond.initialized y.cls).before args s = true)
    (hcode : (Cond.code y bytes maxL ret).before args s = true) (hy : y.cls ≠ "java/lang/invoke/MethodHandle" ∧ y.cls ≠ "java/lang/invoke/VarHandle")
    {W9 : Nat} {Pre : Pt → Array Value → Prop} {Post : Pt → Array Value → Option Value → Pt → Prop} {PostX : Pt → Array Value → Addr → Pt → Prop} (hK : vx_Back l R p e below s args y 3 W9 Pre Post PostX)
    {g : JFrame} (hg : g.method = m) (hsize : g.locals.size = c.maxLocals) {argsL rest : List Value} (hlen : ∀ sig, parseMethodDescriptor y.desc = some sig → argsL.length = sig.parameters.length)
    (hstack : g.stack = argsL.reverse ++ rest) (hW : 2 * g.monitorRoom + (rest.map fun v => v.category).sum ≤ W9) (hdg : decode c.code g.pc = .ok (.invokestatic index, 3))
    (hpre : ∀ vm₁, s.WarmedH vm₁ → Pre ⟨T.setVm vm₁, locs, cells, slots⟩ argsL.toArray) :
    (∃ (v : Option Value) (vm₁ : Vm) (B : Pt), s.WarmedH vm₁ ∧ Stand p l e R s m args below meth c B.U B.locs B.cells B.slots ∧ Post ⟨T.setVm vm₁, locs, cells, slots⟩ argsL.toArray v B ∧
      ∀ target, Steps p.tables e below (B.U.setTop { g with pc := g.pc + 3, stack := v.toList ++ rest }) target → Steps p.tables e below (T.setTop g) target) ∨
    (∃ (q : Addr) (vm₁ : Vm) (B : Pt), s.WarmedH vm₁ ∧ Stand p l e R s m args below meth c B.U B.locs B.cells B.slots ∧ PostX ⟨T.setVm vm₁, locs, cells, slots⟩ argsL.toArray q B ∧
      Steps p.tables e below (T.setTop g) ((B.U.setTop { g with stack := rest }).pushFrame (.throwing q))) := by
  obtain ⟨mk, hnamed⟩ := Cond.code_named hcode
  obtain ⟨methM, cM, hmethM, -, -, -, -, -, -, hsigM⟩ := Cond.code_spec hnamed hcode
  have hstatic : methM.isStatic = true := Cond.static_spec hnamed hmethM hstat
  obtain ⟨kP, hkP, -⟩ := className_of_methodNamed hnamed
  have hinitP : kP.init = .initialized := Cond.initialized_spec (findClass_of_methodNamed hnamed) hkP hinit
  obtain ⟨vm₁, X₁, hstep₁⟩ := X.invokestatic hexec hown hlink hnamed hmethM hstatic hkP hinitP hy (g := g) hg (argsL := argsL) (rest := rest) (hlen _ hsigM) hstack hdg
  rcases hK m meth c ⟨T.setVm vm₁, locs, cells, slots⟩ { g with stack := rest } (.invokestatic index) mk argsL.toArray X₁ hg hsize hdg hW (X₁.named hnamed) (hpre vm₁ X₁.warmed) with ⟨v, B, X', hpost, hsteps⟩ | ⟨q, B, X', hpost, hsteps⟩
  · exact Or.inl ⟨v, vm₁, B, X₁.warmed, X', hpost, fun target h => hstep₁ _ fun acts => by rw [doInvoke_state]; exact hsteps.trans h⟩
  · exact Or.inr ⟨q, vm₁, B, X₁.warmed, X', hpost, hstep₁ _ fun acts => by rw [doInvoke_state]; exact hsteps⟩
end Calls
theorem vx_cls {s : State} {T : State} {vm₁ : Vm} {E : String} {k : ClassId} (hW : s.WarmedH vm₁) (h : (T.setVm vm₁).vm.findClass E = some k) : s.vm.findClass E = some k := by
  have h1 : vm₁.findClass E = some k := h
  rw [hW.alike.findClass] at h1
  exact h1
/-- the method's frame g, with q thrown over it -/
def vx_W (p : Program) (l : Launch) (e : Env) (R : Room) (s : State) (m : MethodId) (args : Array Value) (below : List Frame) (meth : Method) (c : Code) (H : Heap) (locs : List Loc) (cells slots : Nat) (Q : State → Prop) (g : JFrame) (q : Addr) : Prop :=
  ∀ T : State, T.heap = H → Stand p l e R s m args below meth c T locs cells slots → ∃ t, Steps p.tables e below ((T.setTop g).pushFrame (.throwing q)) t ∧ Q t
def vx_Run (p : Program) (l : Launch) (e : Env) (R : Room) (s : State) (m : MethodId) (args : Array Value) (below : List Frame) (meth : Method) (c : Code) (H : Heap) (locs : List Loc) (cells slots mc ms : Nat) (g : JFrame) (rest : List Value) (Qa : State → Outcome → State → Prop) (XC : String → State → State → Prop) (free : Addr → Prop) : Prop :=
  ∀ T : State, T.heap = H → Stand p l e R s m args below meth c T locs cells slots →
    (∃ (v : Option Value) (st₀ t T' : State) (L : List Loc), st₀.heap = H ∧ Stand p l e R s m args below meth c T' (locs ++ L) (cells + mc) (slots + ms) ∧ (∀ q ∈ L, free q.base) ∧ T'.heap = t.heap ∧ T'.vm = t.vm ∧ Qa st₀ (.returned v) t ∧
      Goes p e below T g T' { g with pc := g.pc + 3, stack := v.toList ++ rest }) ∨
    (∃ (q : Addr) (st₀ t T' : State) (L : List Loc) (E : String) (ce : Cell), st₀.heap = H ∧ Stand p l e R s m args below meth c T' (locs ++ L) (cells + mc) (slots + ms) ∧ (∀ z ∈ L, free z.base) ∧ T'.heap = t.heap ∧ T'.vm = t.vm ∧ XC E st₀ t ∧ t.heap[q]? = some ce ∧ ce.vm = .none ∧ s.vm.findClass E = some ce.cls ∧
      Steps p.tables e below (T.setTop g) ((T'.setTop { g with stack := rest }).pushFrame (.throwing q)))
def vx_X {S : Type} (px : S → Prop) (B : String → S → State → Prop) (A : Nat → Prop) : String → State → State → Prop := fun E st t => ∃ u : S, px u ∧ B E u t ∧ va_F A st t
section Runs
variable {p : Program} {l : Launch} {e : Env} {R : Room} {s : State} {m : MethodId} {args : Array Value} {below : List Frame} {meth : Method} {c : Code} {H : Heap} {locs : List Loc} {cells slots : Nat}
variable {y : MethodName} {bytes cc : ByteArray} {maxL nL mc ms n index : Nat} {ret : Option FieldType} {ws : List Cond} {rm : Room} {Pc : Array Value → State → Prop} {Qc : Array Value → State → Outcome → State → Prop} {XC : String → State → State → Prop} {free : Addr → Prop} {Ts : List Cond} {own C : String} {b : Addr} {As rest : List Value} {g : JFrame}
theorem vx_callBack (cb : CallB R s args own index y bytes maxL ret ws rm mc ms n) (hM : vx_Met l y ws rm Pc Qc XC mc ms free) (hbl : FrameBlind Pc) : vx_Back l R p e below s args y 3 8 (PreOf R mc ms Pc) (PostOf Qc mc ms free) (vx_Post XC mc ms free) := by
  obtain ⟨hrc, hrs, hfr, hlo, hws, hcw, -, hini, -⟩ := cb
  exact vx_back (bytes := bytes) (maxL := maxL) (ret := ret) hM hbl hrc hrs hfr hlo hws hcw (fun a' U hW => word_at hW (Or.inl (by first | rfl | simp [Cond.onTables, Cond.keeps, Cond.steady])) hini)
theorem vx_runV (S : CallFix p m c cc nL s args Ts own) (hM : vx_Met l y ws rm Pc Qc XC mc ms free) (cw : CallW R s args own C index y bytes maxL ret ws rm mc ms n) (hp : PreV s H C b Pc As)
    (hg : g.method = m) (hn : As.length = n) (hsize : g.locals.size = nL) (hstack : g.stack = As.reverse ++ .ref b :: rest) (hW : 2 * g.monitorRoom + (rest.map fun v => v.category).sum ≤ 8) (hdg : decode cc g.pc = .ok (.invokevirtual index, 3)) (hf : cells + mc ≤ R.cells ∧ slots + ms ≤ R.slots) :
    vx_Run p l e R s m args below meth c H locs cells slots mc ms g rest (Qc (Value.ref b :: As).toArray) XC free := by
  have hK : vx_Back l R p e below s args y 3 8 (PreOf R mc ms Pc) (PostOf Qc mc ms free) (vx_Post XC mc ms free) := vx_callBack cw.1 hM hp.1
  obtain ⟨⟨-, -, -, -, -, -, hcode, -, hy, hlen, hl⟩, hin, hse⟩ := cw
  obtain ⟨hx, hb, hml, ho, -⟩ := S
  obtain ⟨-, ⟨cellB, hcB, hoB, hclB⟩, hPc⟩ := hp
  intro T hT X
  rcases vx_callV X hx (C := C) (bytes := bytes) (maxL := maxL) (ret := ret) ho hl hin hse hcode hy hK (by rw [hT]; exact hcB) hoB hclB hg (hsize.trans hml.symm) (argsL := As) (rest := rest) (fun sig h => hn.trans (hlen sig h)) hstack hW (by rw [hb]; exact hdg)
    (fun vm₁ hW₁ => ⟨hf.1, hf.2, hPc (T.setVm vm₁) hT hW₁⟩) with ⟨v, vm₁, ⟨U', l2, c2, s2⟩, hW₁, X', ⟨g', mk, t, L, e1, e2, hq, h1, hL, h2, h3⟩, st⟩ | ⟨q, vm₁, ⟨U', l2, c2, s2⟩, hW₁, X', ⟨g', mk, t, L, E, ce, e1, e2, hq, hce, hcv, hcl, h1, hL, h2, h3⟩, st⟩
  · dsimp only [Pt.U, Pt.locs, Pt.cells, Pt.slots] at X' e1 e2 h1 h2 h3 st
    subst h1; subst h2; subst h3
    exact Or.inl ⟨v, (T.setVm vm₁).calling g' mk (Value.ref b :: As).toArray, t, U', L, hT, X', hL, e1, e2, hq, st⟩
  · dsimp only [Pt.U, Pt.locs, Pt.cells, Pt.slots] at X' e1 e2 h1 h2 h3 st hcl
    subst h1; subst h2; subst h3
    exact Or.inr ⟨q, (T.setVm vm₁).calling g' mk (Value.ref b :: As).toArray, t, U', L, E, ce, hT, X', hL, e1, e2, hq, hce, hcv, vx_cls hW₁ hcl, st⟩
theorem vx_runS (S : CallFix p m c cc nL s args Ts own) (hM : vx_Met l y ws rm Pc Qc XC mc ms free) (cw : CallB R s args own index y bytes maxL ret ws rm mc ms n ∧ (Cond.static y).before args s = true) (hp : PreS s H Pc As)
    (hg : g.method = m) (hn : As.length = n) (hsize : g.locals.size = nL) (hstack : g.stack = As.reverse ++ rest) (hW : 2 * g.monitorRoom + (rest.map fun v => v.category).sum ≤ 8) (hdg : decode cc g.pc = .ok (.invokestatic index, 3)) (hf : cells + mc ≤ R.cells ∧ slots + ms ≤ R.slots) :
    vx_Run p l e R s m args below meth c H locs cells slots mc ms g rest (Qc As.toArray) XC free := by
  have hK : vx_Back l R p e below s args y 3 8 (PreOf R mc ms Pc) (PostOf Qc mc ms free) (vx_Post XC mc ms free) := vx_callBack cw.1 hM hp.1
  obtain ⟨⟨-, -, -, -, -, -, hcode, hini, hy, hlen, hl⟩, hstt⟩ := cw
  obtain ⟨hx, hb, hml, ho, -⟩ := S
  intro T hT X
  rcases vx_callS X hx (bytes := bytes) (maxL := maxL) (ret := ret) ho hl hstt hini hcode hy hK hg (hsize.trans hml.symm) (argsL := As) (rest := rest) (fun sig h => hn.trans (hlen sig h)) hstack hW (by rw [hb]; exact hdg)
    (fun vm₁ hW₁ => ⟨hf.1, hf.2, hp.2 (T.setVm vm₁) hT hW₁⟩) with ⟨v, vm₁, ⟨U', l2, c2, s2⟩, hW₁, X', ⟨g', mk, t, L, e1, e2, hq, h1, hL, h2, h3⟩, st⟩ | ⟨q, vm₁, ⟨U', l2, c2, s2⟩, hW₁, X', ⟨g', mk, t, L, E, ce, e1, e2, hq, hce, hcv, hcl, h1, hL, h2, h3⟩, st⟩
  · dsimp only [Pt.U, Pt.locs, Pt.cells, Pt.slots] at X' e1 e2 h1 h2 h3 st
    subst h1; subst h2; subst h3
    exact Or.inl ⟨v, (T.setVm vm₁).calling g' mk As.toArray, t, U', L, hT, X', hL, e1, e2, hq, st⟩
  · dsimp only [Pt.U, Pt.locs, Pt.cells, Pt.slots] at X' e1 e2 h1 h2 h3 st hcl
    subst h1; subst h2; subst h3
    exact Or.inr ⟨q, (T.setVm vm₁).calling g' mk As.toArray, t, U', L, E, ce, hT, X', hL, e1, e2, hq, hce, hcv, vx_cls hW₁ hcl, st⟩
end Runs
section Rows
variable {p : Program} {l : Launch} {e : Env} {R : Room} {s : State} {m : MethodId} {args : Array Value} {below : List Frame} {meth : Method} {c : Code} {H : Heap} {locs : List Loc} {cells slots : Nat} {Q : State → Prop}
variable {mc ms : Nat} {free : Addr → Prop} {A0 A1 : Nat → Prop} {H0 : Heap} {a : Array Value} {pc : Nat} {ls : Array Slot} {st0 rest : List Value}
theorem vx_keep {st₀ t T' : State} {L : List Loc} (h0 : st₀.heap = H) (e1 : T'.heap = t.heap) (hS : va_S A0 H0 H locs) (hA : ∀ q, q < H.size → A1 q → A0 q) (hf : ∀ q, free q → A0 q) (hL : ∀ q ∈ L, free q.base) (hF : va_F A1 st₀ t) :
    H.size ≤ T'.heap.size ∧ (∀ q : Nat, q < H.size → ¬ A1 q → T'.heap[q]? = H[q]?) ∧ va_S A0 H0 T'.heap (locs ++ L) := by
  obtain ⟨hz, hk⟩ := hF
  rw [h0] at hz hk
  exact ⟨by rw [e1]; exact hz, fun q h1 h2 => by rw [e1]; exact hk q h1 h2,
    ⟨Nat.le_trans hS.1 (by rw [e1]; exact hz), fun q h1 h2 => by rw [e1, hk q (Nat.lt_of_lt_of_le h1 hS.1) (fun z => h2 (hA q (Nat.lt_of_lt_of_le h1 hS.1) z))]; exact hS.2.1 q h1 h2, fun q hq => by
      rcases List.mem_append.mp hq with h | h
      · exact hS.2.2 q h
      · exact hf _ (hL q h)⟩⟩
theorem vx_calli {S SX : Type} {post : Int32 → S → Prop} {px : SX → Prop} {B : S → State → Prop} {BX : String → SX → State → Prop} {AX : Nat → Prop} (hr : vx_Run p l e R s m args below meth c H locs cells slots mc ms (F0 m pc ls st0) rest (va_Qi post B A1 a) (vx_X px BX AX) free) (hS : va_S A0 H0 H locs) (hA : ∀ q, q < H.size → A1 q → A0 q) (hf : ∀ q, free q → A0 q) (hAX : ∀ q, q < H.size → AX q → A0 q)
    (kx : ∀ (E : String) (ce : Cell) (q9 : Addr) (u : SX) (t : State) (H1 : Heap) (locs1 : List Loc), t.heap = H1 → s.vm.Alike t.vm → px u → BX E u t → H.size ≤ H1.size → (∀ q : Nat, q < H.size → ¬ AX q → H1[q]? = H[q]?) → va_S A0 H0 H1 locs1 → H1[q9]? = some ce → ce.vm = .none → s.vm.findClass E = some ce.cls → vx_W p l e R s m args below meth c H1 locs1 (cells + mc) (slots + ms) Q (F0 m pc ls rest) q9)
    (kk : ∀ (r : Int32) (u : S) (t : State) (H1 : Heap) (locs1 : List Loc), t.heap = H1 → s.vm.Alike t.vm → post r u → B u t → H.size ≤ H1.size → (∀ q : Nat, q < H.size → ¬ A1 q → H1[q]? = H[q]?) → va_S A0 H0 H1 locs1 → W p l e R s m args below meth c H1 locs1 (cells + mc) (slots + ms) Q (F0 m (pc + 3) ls (.int r :: rest))) : W p l e R s m args below meth c H locs cells slots Q (F0 m pc ls st0) := by
  intro T hT X
  rcases hr T hT X with ⟨v, st₀, t, T', L, h0, X', hL, e1, e2, ⟨⟨r, u, hv, hp, hb⟩, hF⟩, st⟩ | ⟨q, st₀, t, T', L, E, ce, h0, X', hL, e1, e2, ⟨u, hp, hb, hF⟩, hce, hcv, hcl, st⟩
  · cases hv
    obtain ⟨k1, k2, k3⟩ := vx_keep h0 e1 hS hA hf hL hF
    obtain ⟨t2, a1, b1⟩ := kk r u t T'.heap (locs ++ L) e1.symm (by rw [← e2]; exact X'.warmed.alike) hp hb k1 k2 k3 T' rfl X'
    exact ⟨t2, st t2 a1, b1⟩
  · obtain ⟨k1, k2, k3⟩ := vx_keep h0 e1 hS hAX hf hL hF
    obtain ⟨t2, a1, b1⟩ := kx E ce q u t T'.heap (locs ++ L) e1.symm (by rw [← e2]; exact X'.warmed.alike) hp hb k1 k2 k3 (by rw [e1]; exact hce) hcv hcl T' rfl X'
    exact ⟨t2, st.trans a1, b1⟩
theorem vx_calll {S SX : Type} {post : Int64 → S → Prop} {px : SX → Prop} {B : S → State → Prop} {BX : String → SX → State → Prop} {AX : Nat → Prop} (hr : vx_Run p l e R s m args below meth c H locs cells slots mc ms (F0 m pc ls st0) rest (va_Ql post B A1 a) (vx_X px BX AX) free) (hS : va_S A0 H0 H locs) (hA : ∀ q, q < H.size → A1 q → A0 q) (hf : ∀ q, free q → A0 q) (hAX : ∀ q, q < H.size → AX q → A0 q)
    (kx : ∀ (E : String) (ce : Cell) (q9 : Addr) (u : SX) (t : State) (H1 : Heap) (locs1 : List Loc), t.heap = H1 → s.vm.Alike t.vm → px u → BX E u t → H.size ≤ H1.size → (∀ q : Nat, q < H.size → ¬ AX q → H1[q]? = H[q]?) → va_S A0 H0 H1 locs1 → H1[q9]? = some ce → ce.vm = .none → s.vm.findClass E = some ce.cls → vx_W p l e R s m args below meth c H1 locs1 (cells + mc) (slots + ms) Q (F0 m pc ls rest) q9)
    (kk : ∀ (r : Int64) (u : S) (t : State) (H1 : Heap) (locs1 : List Loc), t.heap = H1 → s.vm.Alike t.vm → post r u → B u t → H.size ≤ H1.size → (∀ q : Nat, q < H.size → ¬ A1 q → H1[q]? = H[q]?) → va_S A0 H0 H1 locs1 → W p l e R s m args below meth c H1 locs1 (cells + mc) (slots + ms) Q (F0 m (pc + 3) ls (.long r :: rest))) : W p l e R s m args below meth c H locs cells slots Q (F0 m pc ls st0) := by
  intro T hT X
  rcases hr T hT X with ⟨v, st₀, t, T', L, h0, X', hL, e1, e2, ⟨⟨r, u, hv, hp, hb⟩, hF⟩, st⟩ | ⟨q, st₀, t, T', L, E, ce, h0, X', hL, e1, e2, ⟨u, hp, hb, hF⟩, hce, hcv, hcl, st⟩
  · cases hv
    obtain ⟨k1, k2, k3⟩ := vx_keep h0 e1 hS hA hf hL hF
    obtain ⟨t2, a1, b1⟩ := kk r u t T'.heap (locs ++ L) e1.symm (by rw [← e2]; exact X'.warmed.alike) hp hb k1 k2 k3 T' rfl X'
    exact ⟨t2, st t2 a1, b1⟩
  · obtain ⟨k1, k2, k3⟩ := vx_keep h0 e1 hS hAX hf hL hF
    obtain ⟨t2, a1, b1⟩ := kx E ce q u t T'.heap (locs ++ L) e1.symm (by rw [← e2]; exact X'.warmed.alike) hp hb k1 k2 k3 (by rw [e1]; exact hce) hcv hcl T' rfl X'
    exact ⟨t2, st.trans a1, b1⟩
theorem vx_callf {S SX : Type} {post : UInt32 → S → Prop} {px : SX → Prop} {B : S → State → Prop} {BX : String → SX → State → Prop} {AX : Nat → Prop} (hr : vx_Run p l e R s m args below meth c H locs cells slots mc ms (F0 m pc ls st0) rest (va_Qf post B A1 a) (vx_X px BX AX) free) (hS : va_S A0 H0 H locs) (hA : ∀ q, q < H.size → A1 q → A0 q) (hf : ∀ q, free q → A0 q) (hAX : ∀ q, q < H.size → AX q → A0 q)
    (kx : ∀ (E : String) (ce : Cell) (q9 : Addr) (u : SX) (t : State) (H1 : Heap) (locs1 : List Loc), t.heap = H1 → s.vm.Alike t.vm → px u → BX E u t → H.size ≤ H1.size → (∀ q : Nat, q < H.size → ¬ AX q → H1[q]? = H[q]?) → va_S A0 H0 H1 locs1 → H1[q9]? = some ce → ce.vm = .none → s.vm.findClass E = some ce.cls → vx_W p l e R s m args below meth c H1 locs1 (cells + mc) (slots + ms) Q (F0 m pc ls rest) q9)
    (kk : ∀ (r : UInt32) (u : S) (t : State) (H1 : Heap) (locs1 : List Loc), t.heap = H1 → s.vm.Alike t.vm → post r u → B u t → H.size ≤ H1.size → (∀ q : Nat, q < H.size → ¬ A1 q → H1[q]? = H[q]?) → va_S A0 H0 H1 locs1 → W p l e R s m args below meth c H1 locs1 (cells + mc) (slots + ms) Q (F0 m (pc + 3) ls (.float r :: rest))) : W p l e R s m args below meth c H locs cells slots Q (F0 m pc ls st0) := by
  intro T hT X
  rcases hr T hT X with ⟨v, st₀, t, T', L, h0, X', hL, e1, e2, ⟨⟨r, u, hv, hp, hb⟩, hF⟩, st⟩ | ⟨q, st₀, t, T', L, E, ce, h0, X', hL, e1, e2, ⟨u, hp, hb, hF⟩, hce, hcv, hcl, st⟩
  · cases hv
    obtain ⟨k1, k2, k3⟩ := vx_keep h0 e1 hS hA hf hL hF
    obtain ⟨t2, a1, b1⟩ := kk r u t T'.heap (locs ++ L) e1.symm (by rw [← e2]; exact X'.warmed.alike) hp hb k1 k2 k3 T' rfl X'
    exact ⟨t2, st t2 a1, b1⟩
  · obtain ⟨k1, k2, k3⟩ := vx_keep h0 e1 hS hAX hf hL hF
    obtain ⟨t2, a1, b1⟩ := kx E ce q u t T'.heap (locs ++ L) e1.symm (by rw [← e2]; exact X'.warmed.alike) hp hb k1 k2 k3 (by rw [e1]; exact hce) hcv hcl T' rfl X'
    exact ⟨t2, st.trans a1, b1⟩
theorem vx_calld {S SX : Type} {post : UInt64 → S → Prop} {px : SX → Prop} {B : S → State → Prop} {BX : String → SX → State → Prop} {AX : Nat → Prop} (hr : vx_Run p l e R s m args below meth c H locs cells slots mc ms (F0 m pc ls st0) rest (va_Qd post B A1 a) (vx_X px BX AX) free) (hS : va_S A0 H0 H locs) (hA : ∀ q, q < H.size → A1 q → A0 q) (hf : ∀ q, free q → A0 q) (hAX : ∀ q, q < H.size → AX q → A0 q)
    (kx : ∀ (E : String) (ce : Cell) (q9 : Addr) (u : SX) (t : State) (H1 : Heap) (locs1 : List Loc), t.heap = H1 → s.vm.Alike t.vm → px u → BX E u t → H.size ≤ H1.size → (∀ q : Nat, q < H.size → ¬ AX q → H1[q]? = H[q]?) → va_S A0 H0 H1 locs1 → H1[q9]? = some ce → ce.vm = .none → s.vm.findClass E = some ce.cls → vx_W p l e R s m args below meth c H1 locs1 (cells + mc) (slots + ms) Q (F0 m pc ls rest) q9)
    (kk : ∀ (r : UInt64) (u : S) (t : State) (H1 : Heap) (locs1 : List Loc), t.heap = H1 → s.vm.Alike t.vm → post r u → B u t → H.size ≤ H1.size → (∀ q : Nat, q < H.size → ¬ A1 q → H1[q]? = H[q]?) → va_S A0 H0 H1 locs1 → W p l e R s m args below meth c H1 locs1 (cells + mc) (slots + ms) Q (F0 m (pc + 3) ls (.double r :: rest))) : W p l e R s m args below meth c H locs cells slots Q (F0 m pc ls st0) := by
  intro T hT X
  rcases hr T hT X with ⟨v, st₀, t, T', L, h0, X', hL, e1, e2, ⟨⟨r, u, hv, hp, hb⟩, hF⟩, st⟩ | ⟨q, st₀, t, T', L, E, ce, h0, X', hL, e1, e2, ⟨u, hp, hb, hF⟩, hce, hcv, hcl, st⟩
  · cases hv
    obtain ⟨k1, k2, k3⟩ := vx_keep h0 e1 hS hA hf hL hF
    obtain ⟨t2, a1, b1⟩ := kk r u t T'.heap (locs ++ L) e1.symm (by rw [← e2]; exact X'.warmed.alike) hp hb k1 k2 k3 T' rfl X'
    exact ⟨t2, st t2 a1, b1⟩
  · obtain ⟨k1, k2, k3⟩ := vx_keep h0 e1 hS hAX hf hL hF
    obtain ⟨t2, a1, b1⟩ := kx E ce q u t T'.heap (locs ++ L) e1.symm (by rw [← e2]; exact X'.warmed.alike) hp hb k1 k2 k3 (by rw [e1]; exact hce) hcv hcl T' rfl X'
    exact ⟨t2, st.trans a1, b1⟩
theorem vx_callv {S SX : Type} {post : S → Prop} {px : SX → Prop} {B : S → State → Prop} {BX : String → SX → State → Prop} {AX : Nat → Prop} (hr : vx_Run p l e R s m args below meth c H locs cells slots mc ms (F0 m pc ls st0) rest (va_Qv post B A1 a) (vx_X px BX AX) free) (hS : va_S A0 H0 H locs) (hA : ∀ q, q < H.size → A1 q → A0 q) (hf : ∀ q, free q → A0 q) (hAX : ∀ q, q < H.size → AX q → A0 q)
    (kx : ∀ (E : String) (ce : Cell) (q9 : Addr) (u : SX) (t : State) (H1 : Heap) (locs1 : List Loc), t.heap = H1 → s.vm.Alike t.vm → px u → BX E u t → H.size ≤ H1.size → (∀ q : Nat, q < H.size → ¬ AX q → H1[q]? = H[q]?) → va_S A0 H0 H1 locs1 → H1[q9]? = some ce → ce.vm = .none → s.vm.findClass E = some ce.cls → vx_W p l e R s m args below meth c H1 locs1 (cells + mc) (slots + ms) Q (F0 m pc ls rest) q9)
    (kk : ∀ (u : S) (t : State) (H1 : Heap) (locs1 : List Loc), t.heap = H1 → s.vm.Alike t.vm → post u → B u t → H.size ≤ H1.size → (∀ q : Nat, q < H.size → ¬ A1 q → H1[q]? = H[q]?) → va_S A0 H0 H1 locs1 → W p l e R s m args below meth c H1 locs1 (cells + mc) (slots + ms) Q (F0 m (pc + 3) ls (rest))) : W p l e R s m args below meth c H locs cells slots Q (F0 m pc ls st0) := by
  intro T hT X
  rcases hr T hT X with ⟨v, st₀, t, T', L, h0, X', hL, e1, e2, ⟨⟨u, hv, hp, hb⟩, hF⟩, st⟩ | ⟨q, st₀, t, T', L, E, ce, h0, X', hL, e1, e2, ⟨u, hp, hb, hF⟩, hce, hcv, hcl, st⟩
  · cases hv
    obtain ⟨k1, k2, k3⟩ := vx_keep h0 e1 hS hA hf hL hF
    obtain ⟨t2, a1, b1⟩ := kk u t T'.heap (locs ++ L) e1.symm (by rw [← e2]; exact X'.warmed.alike) hp hb k1 k2 k3 T' rfl X'
    exact ⟨t2, st t2 a1, b1⟩
  · obtain ⟨k1, k2, k3⟩ := vx_keep h0 e1 hS hAX hf hL hF
    obtain ⟨t2, a1, b1⟩ := kx E ce q u t T'.heap (locs ++ L) e1.symm (by rw [← e2]; exact X'.warmed.alike) hp hb k1 k2 k3 (by rw [e1]; exact hce) hcv hcl T' rfl X'
    exact ⟨t2, st.trans a1, b1⟩
/-- caught by the row x of this method's table; the rows ahead don't take it -/
theorem vx_catch {own name : String} {E : String} {ce : Cell} {q : Addr} (hown : s.vm.findClass own = some m.cls) (pre : List ExceptionTableEntry) (x : ExceptionTableEntry) (suf : List ExceptionTableEntry) (hsplit : c.exceptionTable.toList = pre ++ x :: suf)
    (hpass : ∀ z ∈ pre, covers z pc = false ∨ (z.catchType ≠ 0 ∧ ∃ nm : String, (Cond.classLink own z.catchType nm).before args s = true ∧ va_Nc E nm s)) (hx : covers x pc = true) (h0 : x.catchType ≠ 0)
    (hlink : (Cond.classLink own x.catchType name).before args s = true) (hcast : (Cond.castable E name).before args s = true) (hcell : H[q]? = some ce) (hv : ce.vm = .none) (hcl : s.vm.findClass E = some ce.cls)
    (kk : W p l e R s m args below meth c H locs cells slots Q (F0 m x.handlerPc ls [.ref q])) : vx_W p l e R s m args below meth c H locs cells slots Q (F0 m pc ls rest) q := by
  intro T hT X
  have hpl : e.platform.magicAccessors = ({} : Platform).magicAccessors := by rw [X.admits.platform]
  obtain ⟨c3, c4, hc3, hc4, hasg⟩ := Cond.castable_spec hcast
  cases Option.some.inj (hc3.symm.trans hcl)
  obtain ⟨c5, hc5, hcl5⟩ := Cond.classLink_spec hown hlink e.platform hpl
  cases Option.some.inj (hc4.symm.trans hc5)
  obtain ⟨vm', X', st⟩ := Stand.thenCaughtThrough X q (g := F0 m pc ls rest) rfl (Steps.refl _) (by rw [hT]; exact hcell) (by rw [hv]; rfl) (by obtain ⟨k9, h9, -⟩ := Vm.findClass_spec hcl; exact ⟨k9, h9⟩) pre x suf hsplit
    (fun z hz => by
      rcases hpass z hz with h | ⟨hz0, nm, hl1, hn1⟩
      · exact Or.inl h
      · obtain ⟨c6, hc6, hcl6⟩ := Cond.classLink_spec hown hl1 e.platform hpl
        obtain ⟨a8, b8, h1, h2, h3⟩ := hn1
        cases Option.some.inj (h1.symm.trans hcl)
        cases Option.some.inj (h2.symm.trans hc6)
        exact Or.inr ⟨hz0, _, hcl6, h3⟩) hx (Or.inr ⟨h0, c4, hcl5, hasg⟩)
  obtain ⟨t, a1, b1⟩ := kk (T.setVm vm') hT X'
  exact ⟨t, st.trans a1, b1⟩
end Rows
section Ends
variable {p : Program} {l : Launch} {e : Env} {R : Room} {s : State} {m : MethodId} {args : Array Value} {below : List Frame} {meth : Method} {c : Code} {H : Heap} {locs : List Loc} {cells slots : Nat} {Q : State → Prop}
variable {mc ms : Nat} {free : Addr → Prop} {A0 A1 : Nat → Prop} {H0 : Heap} {a : Array Value} {ls : Array Slot} {st0 rest : List Value}
variable {Qc : Array Value → State → Outcome → State → Prop} {XC : String → State → State → Prop}
/-- what a body that may throw owes at its end -/
def vx_MQ (below : List Frame) (Qc : Array Value → State → Outcome → State → Prop) (XC : String → State → State → Prop) (a : Array Value) (s : State) (mc ms : Nat) (free : Addr → Prop) : State → Prop := fun t =>
  ∃ o, t.status = .running ∧ Ended t below o ∧ vx_Q Qc XC mc ms free a s o t
theorem vx_ret {g : JFrame} {mc ms : Nat} (k : W p l e R s m args below meth c H locs cells slots (MQ below Qc args s mc ms free) g) : W p l e R s m args below meth c H locs cells slots (vx_MQ below Qc XC args s mc ms free) g := by
  intro T hT X
  obtain ⟨t, a1, o, b1, b2, b3, b4⟩ := k T hT X
  exact ⟨t, a1, o, b1, b2, Or.inl ⟨b3, b4⟩⟩
/-- not caught here: it goes on to the caller -/
theorem vx_widen {g : JFrame} {q : Addr} {k n : Nat} (h1 : cells ≤ k) (h2 : slots ≤ n) (kk : vx_W p l e R s m args below meth c H locs k n Q g q) : vx_W p l e R s m args below meth c H locs cells slots Q g q := fun T hT X => kk T hT (stand_widen X h1 h2)
theorem vx_out {pc : Nat} {E : String} {ce : Cell} {q : Addr} {mc ms : Nat} (hout : ∀ x ∈ c.exceptionTable.toList, covers x pc = false) (hlocks : meth.locks = false) (hcell : H[q]? = some ce) (hv : ce.vm = .none) (hcl : s.vm.findClass E = some ce.cls)
    (hx : ∀ t : State, t.heap = H → s.vm.Alike t.vm → XC E s t) (hf : ∀ z ∈ locs, free z.base) (hc : cells ≤ mc) (hs : slots ≤ ms) :
    vx_W p l e R s m args below meth c H locs cells slots (vx_MQ below Qc XC args s mc ms free) (F0 m pc ls rest) q := by
  intro T hT X
  obtain ⟨st1, hrun, hend, hW, hsm⟩ := X.leaveThrown q (g := F0 m pc ls rest) rfl rfl rfl hout hlocks
  have hcell9 : (T.setFrames (.throwing q :: below)).heap[q]? = some ce := by
    show T.heap[q]? = some ce
    rw [hT]; exact hcell
  exact ⟨_, st1, .threw q, hrun, hend, Or.inr ⟨q, rfl, E, ce, locs, hx _ hT hW.alike, hcell9, hv, hcl, hW, hsm.mono hc hs, hf⟩⟩
theorem vx_frame {U : State} {k n : Nat} (h : s.sameButNew ({ U with vm := s.vm } : State) locs k n) : s.heap.size ≤ U.heap.size ∧ ∀ q : Nat, q < s.heap.size → (∀ z ∈ locs, z.base ≠ q) → U.heap[q]? = s.heap[q]? := by
  obtain ⟨-, h2, -, -, -, h6⟩ := h
  refine ⟨h2, fun q hq hz => ?_⟩
  obtain ⟨c9, e1, e2, e3, e4⟩ := h6 q _ (Array.getElem?_eq_getElem hq)
  have hs : c9.slots = (s.heap[q]).slots := Array.ext_getElem? fun i => e4 i fun hm => hz _ hm rfl
  have h9 : c9 = s.heap[q] := by
    rw [hs] at e2
    exact e2
  have e5 : U.heap[q]? = some c9 := e1
  rw [e5, h9, Array.getElem?_eq_getElem hq]
/-- the words of a throw but the four that speak of the heap -/
def vx_no (w : Cond) : Bool := decide (w ≠ .isRef (.static Bundle.tN "UNASSIGNED_STACK" Bundle.steD)) && decide (w ≠ .isRef (.static Bundle.tN "SUPPRESSED_SENTINEL" Bundle.listD)) && decide (w ≠ .laysStatic Bundle.tN "UNASSIGNED_STACK" Bundle.steD) && decide (w ≠ .laysStatic Bundle.tN "SUPPRESSED_SENTINEL" Bundle.listD)
def vx_at0 (own : String) (ic : Nat) (X : String) (names : List String) : List Cond := (Bundle.ownAtoms0 own ic X names).filter vx_no
def vx_atS (own : String) (ic : Nat) (X : String) (names : List String) : List Cond := (Bundle.ownAtoms own ic X names).filter vx_no
/-- a word that the tables alone decide, or a good one -/
def vx_ot (w : Cond) : Bool := w.onTables || goodWord w
theorem vx_ot_at {args a' : Array Value} {s U : State} {w : Cond} (hW : s.WarmedH U.vm) (hvm : s.vm = U.vm) (hg : vx_ot w = true) (h : w.before args s = true) : w.before a' U = true := by
  simp only [vx_ot, Bool.or_eq_true] at hg
  rcases hg with hg | hg
  · exact va_tabs hg hvm h
  · exact word_at hW (good_of_word hg) h
/-- a list's words: the good ones out of the method's own list, the others by premises of their own -/
theorem vx_hat {args : Array Value} {s : State} {L B : List Cond} (h1 : ∀ w ∈ L.filter goodWord, w.before args s = true) (h2 : ∀ w ∈ L.filter (fun w => !goodWord w), w ∈ B) (h3 : ∀ w ∈ B, w.before args s = true) : ∀ w ∈ L, w.before args s = true := by
  intro w hw
  by_cases g : goodWord w = true
  · exact h1 w (List.mem_filter.mpr ⟨hw, g⟩)
  · refine h3 w (h2 w (List.mem_filter.mpr ⟨hw, ?_⟩))
    show (!goodWord w) = true
    cases hgw : goodWord w
    · rfl
    · exact absurd hgw g
theorem vx_c {args : Array Value} {s : State} {w : Cond} {B : List Cond} (h : w.before args s = true) (t : ∀ w ∈ B, w.before args s = true) : ∀ w' ∈ w :: B, w'.before args s = true := fun w' h' => (List.mem_cons.mp h').elim (fun e => by rw [e]; exact h) (t w')
theorem vx_n {args : Array Value} {s : State} : ∀ w ∈ ([] : List Cond), w.before args s = true := fun _ h => nomatch h
theorem vx_own {args : Array Value} {s : State} {L : List Cond} (h1 : ∀ w ∈ L.filter vx_no, w.before args s = true)
    (hU : (Cond.isRef (.static Bundle.tN "UNASSIGNED_STACK" Bundle.steD)).before args s = true) (hN : (Cond.isRef (.static Bundle.tN "SUPPRESSED_SENTINEL" Bundle.listD)).before args s = true)
    (lU : (Cond.laysStatic Bundle.tN "UNASSIGNED_STACK" Bundle.steD).before args s = true) (lN : (Cond.laysStatic Bundle.tN "SUPPRESSED_SENTINEL" Bundle.listD).before args s = true) : ∀ w ∈ L, w.before args s = true := by
  intro w hw
  by_cases e1 : w = .isRef (.static Bundle.tN "UNASSIGNED_STACK" Bundle.steD)
  · rw [e1]; exact hU
  · by_cases e2 : w = .isRef (.static Bundle.tN "SUPPRESSED_SENTINEL" Bundle.listD)
    · rw [e2]; exact hN
    · by_cases e3 : w = .laysStatic Bundle.tN "UNASSIGNED_STACK" Bundle.steD
      · rw [e3]; exact lU
      · by_cases e4 : w = .laysStatic Bundle.tN "SUPPRESSED_SENTINEL" Bundle.listD
        · rw [e4]; exact lN
        · exact h1 w (List.mem_filter.mpr ⟨hw, by unfold vx_no; rw [decide_eq_true e1, decide_eq_true e2, decide_eq_true e3, decide_eq_true e4]; rfl⟩)
/-- where a static field lies, its class's statics cell in H -/
def vx_L (C n d : String) (A : Nat → Prop) (U : State) (H : Heap) : Prop := ∃ (c : ClassId) (k : Class) (i : Nat) (f : Field) (a : Nat) (cell : Cell), U.vm.findClass C = some c ∧ U.fieldFound? C n d = some (c, k, i, f) ∧ f.isStatic = true ∧ k.statics = some a ∧ H[a]? = some cell ∧ cell.vm.isStatics = true ∧ cell.cls = c ∧ f.slot < cell.slots.size ∧ k.staticTypes[f.slot]? = some f.type ∧ ¬ A a
theorem vx_L.moved {C n d : String} {A : Nat → Prop} {u U : State} {H : Heap} (hvm : u.vm.Alike U.vm) (h : vx_L C n d A u H) : vx_L C n d A U H := by
  obtain ⟨c, k, i, f, a, cell, h1, h2, h3, h4, h5, h6, h7, h8, h9, h10⟩ := h
  obtain ⟨k', hi', he⟩ := State.fieldFound?_setVm hvm h2
  exact ⟨c, k', i, f, a, cell, by rw [hvm.findClass]; exact h1, hi', h3, by rw [he]; exact h4, h5, h6, h7, h8, by rw [he]; exact h9, h10⟩
theorem vx_L.kept {C n d : String} {A : Nat → Prop} {U : State} {H H1 : Heap} (h : vx_L C n d A U H) (hq : ∀ a : Nat, a < H.size → ¬ A a → H1[a]? = H[a]?) : vx_L C n d A U H1 := by
  obtain ⟨c, k, i, f, a, cell, h1, h2, h3, h4, h5, h6, h7, h8, h9, h10⟩ := h
  exact ⟨c, k, i, f, a, cell, h1, h2, h3, h4, by rw [hq a (Array.getElem?_eq_some_iff.mp h5).1 h10]; exact h5, h6, h7, h8, h9, h10⟩
theorem vx_L.narrow {C n d : String} {A B : Nat → Prop} {U : State} {H : Heap} (h : vx_L C n d A U H) (hAB : ∀ q, B q → A q) : vx_L C n d B U H := by
  obtain ⟨c, k, i, f, a, cell, h1, h2, h3, h4, h5, h6, h7, h8, h9, h10⟩ := h
  exact ⟨c, k, i, f, a, cell, h1, h2, h3, h4, h5, h6, h7, h8, h9, fun z => h10 (hAB _ z)⟩
theorem vx_L.word {C n d : String} {A : Nat → Prop} {s : State} {args : Array Value} (h : vx_L C n d A s s.heap) : (Cond.laysStatic C n d).before args s = true := by
  obtain ⟨c, k, i, f, a, cell, h1, h2, h3, h4, h5, h6, h7, h8, h9, -⟩ := h
  show (Cond.laysStatic C n d).holds args s none s [] = true
  exact Cond.laysStatic_of h1 h2 h3 h4 h5 h6 h7 h8 h9
/-- .. and what it holds: null or some reference -/
def vx_Zq (C n d : String) (A : Nat → Prop) (U : State) (H : Heap) : Prop := va_Zq C n d A U H ∧ vx_L C n d A U H
theorem vx_Zq.moved {C n d : String} {A : Nat → Prop} {u U : State} {H : Heap} (hvm : u.vm.Alike U.vm) (h : vx_Zq C n d A u H) : vx_Zq C n d A U H := ⟨va_Zq.moved hvm h.1, vx_L.moved hvm h.2⟩
theorem vx_Zq.kept {C n d : String} {A : Nat → Prop} {U : State} {H H1 : Heap} (h : vx_Zq C n d A U H) (hq : ∀ a : Nat, a < H.size → ¬ A a → H1[a]? = H[a]?) : vx_Zq C n d A U H1 := ⟨va_Zq.kept h.1 hq, vx_L.kept h.2 hq⟩
theorem vx_Zq.narrow {C n d : String} {A B : Nat → Prop} {U : State} {H : Heap} (h : vx_Zq C n d A U H) (hAB : ∀ q, B q → A q) : vx_Zq C n d B U H := ⟨va_Zq.narrow h.1 hAB, vx_L.narrow h.2 hAB⟩
theorem vx_Zqof {args : Array Value} {s : State} {C n d : String} {A : Nat → Prop} (hl : (Cond.laysStatic C n d).before args s = true) (hini : (Cond.initialized C).before args s = true) (h : (Cond.isRef (.static C n d)).before args s = true) (hA : ∀ a : Nat, a < s.heap.size → ¬ A a) : vx_Zq C n d A s s.heap := by
  refine ⟨va_Zqof hl hini h hA, ?_⟩
  obtain ⟨c, k, i, f, a, cell, h1, h2, h3, h4, h5, h6, h7, h8, h9⟩ := Cond.laysStatic_spec hl
  exact ⟨c, k, i, f, a, cell, h1, h2, h3, h4, h5, h6, h7, h8, h9, hA a (Array.getElem?_eq_some_iff.mp h5).1⟩
theorem vx_isRef {C n d : String} {v : Value} {A : Nat → Prop} {s : State} {args : Array Value} (h : va_Z C n d v A s s.heap) (hv : v.isRef = true) : (Cond.isRef (.static C n d)).before args s = true := by
  obtain ⟨cf, kf, fi, f, a, cell, h1, h2, h3, h4, h5, h6, h7, -⟩ := h
  have he : (Term.static C n d).eval args s none [] s = some v := by
    simp [Term.eval, State.fieldNamed?, h1, h2, h4, h5, h6, h7]
  simp only [Cond.before, Cond.holds, Cond.value, he]
  cases v <;> simp_all [Value.isRef]
theorem vx_isRefq {C n d : String} {A : Nat → Prop} {s : State} {args : Array Value} (h : va_Zq C n d A s s.heap) : (Cond.isRef (.static C n d)).before args s = true := by
  rcases h with h | ⟨t, h⟩
  · exact vx_isRef h rfl
  · exact vx_isRef h rfl
/-- the same frame, seen from here: as if the method were called anew in this heap -/
theorem vx_rebase {T : State} (X : Stand p l e R s m args below meth c T locs cells slots) {R' : Room} (hf : R'.frames ≤ R.frames) (hl : R'.locals ≤ R.locals) (hc : cells + R'.cells ≤ R.cells) (hs : slots + R'.slots ≤ R.slots) :
    Stand p l e R' ((T.setVm s.vm).setFrames (.invoking m args :: below)) m args below meth c T [] 0 0 := by
  have htop : (T.setVm s.vm).topJava?.isSome := X.here.top
  have hF : ((T.setVm s.vm).setFrames (.invoking m args :: below)).frames = .invoking m args :: below := State.frames_setFrames _ (State.cur_lt_of_top htop)
  obtain ⟨g₀, hg0⟩ := Option.isSome_iff_exists.mp htop
  obtain ⟨r, hr⟩ := State.topJava?_eq_some.mp hg0
  have hl9 : e.platform.stackLimits (T.setVm s.vm).me = e.platform.stackLimits s.me := X.limits
  have hb9 : (T.setVm s.vm).me.stackBytes = s.me.stackBytes := X.bytes
  refine ⟨X.admits, X.cas, X.clock, hF, ?_, X.hears, X.method, X.code, X.here, X.tail, X.warmed, ?_, ?_, ?_⟩
  · have h := X.room
    have hU : ((T.setVm s.vm).setFrames (.invoking m args :: below)).localsInUse = s.localsInUse := by
      rw [State.localsInUse_invoking hF (meth := meth) (c := c) X.method X.code, State.localsInUse_invoking X.frames X.method X.code]
    simp only [State.hasRoom, Bool.and_eq_true, decide_eq_true_eq] at h ⊢
    obtain ⟨⟨⟨⟨h1, h2, h3, h4, h5, h6⟩, h7⟩, h8⟩, h9⟩ := h
    rw [X.frames, List.length_cons] at h2 h3
    have q1 := X.heapSize
    have q2 := X.used
    simp only [hF, hU, List.length_cons, State.stackLimits_setFrames, State.stackBytes_setFrames, hl9, hb9]
    refine ⟨⟨⟨⟨by omega, by omega, by omega, by omega, by omega, h6⟩, ?_⟩, ?_⟩, X.book⟩
    · show T.heap.size + R'.cells ≤ e.platform.maxCells
      omega
    · show T.slotsUsed + R'.slots ≤ e.platform.maxSlots
      omega
  · rw [State.stackLimits_setFrames]; rfl
  · rw [State.stackBytes_setFrames]; rfl
  · refine ⟨?_, Nat.le_refl _, Nat.le_refl _, ?_, ?_, fun a c9 h9 => ⟨c9, h9, rfl, rfl, fun _ _ => rfl⟩⟩
    · obtain ⟨t, ht, -⟩ := State.frames_cons hr
      show T.setVm s.vm = { ((T.setVm s.vm).setFrames (.invoking m args :: below)).setFrames (T.setVm s.vm).frames with heap := T.heap, slotsUsed := T.slotsUsed }
      rw [State.setFrames_setFrames, State.setFrames_self ht]
      rfl
    · show T.slotsUsed = T.slotsUsed + ((T.heap.toList.drop T.heap.size).map (·.slots.size)).sum
      rw [List.drop_eq_nil_of_le (Nat.le_of_eq Array.length_toList)]
      rfl
    · show ((T.heap.toList.drop T.heap.size).map (·.slots.size)).sum ≤ 0
      rw [List.drop_eq_nil_of_le (Nat.le_of_eq Array.length_toList)]
      exact Nat.le_refl _
/-- 'throw new E()': new; dup; invokespecial; athrow -/
theorem vx_throw0 {cc : ByteArray} {pc : Nat} (hexec : p.tables.exec = Jvm.exec) (hb : c.code = cc) (hl : l.stackTraces = false) {own cls : String} {names : List String} {ik ic mc ms : Nat} {A : Nat → Prop}
    (hown : s.vm.findClass own = some m.cls) (hcls : Bundle.fit cls = true) (hnames : ∀ n ∈ names, Bundle.fit n = true)
    (hk : (Cond.classLink own ik cls).before args s = true) (hini : (Cond.initialized cls).before args s = true) (hat : ∀ w ∈ vx_at0 own ic cls names, w.before args s = true)
    (hgood : ∀ w ∈ Cond.classLink own ik cls :: Cond.initialized cls :: vx_at0 own ic cls names, vx_ot w = true)
    (hU : vx_Zq Bundle.tN "UNASSIGNED_STACK" Bundle.steD A s s.heap) (hN : vx_Zq Bundle.tN "SUPPRESSED_SENTINEL" Bundle.listD A s s.heap) (hS : va_S A s.heap H locs) (hsize : ls.size = c.maxLocals)
    (d0 : decode cc pc = .ok (.new ik, 3)) (d3 : decode cc (pc + 3) = .ok (.dup, 1)) (d4 : decode cc (pc + 4) = .ok (.invokespecial ic, 3)) (d7 : decode cc (pc + 7) = .ok (.athrow, 1))
    (hout : ∀ x ∈ c.exceptionTable.toList, covers x (pc + 7) = false)
    (hRframes : names.length + 3 < R.frames) (hRlocals : (rest.map fun v => v.category).sum + (13 * (names.length + 1) + 42) ≤ R.locals) (hRcells : cells + 1 ≤ R.cells) (hRslots : slots + 6 ≤ R.slots) (hlocks : meth.locks = false)
    (hx : ∀ t : State, s.vm.Alike t.vm → H.size ≤ t.heap.size → (∀ q : Nat, q < H.size → t.heap[q]? = H[q]?) → XC cls s t)
    (hf : ∀ z ∈ locs, free z.base) (hc : cells + 1 ≤ mc) (hs : slots + 6 ≤ ms) :
    W p l e R s m args below meth c H locs cells slots (vx_MQ below Qc XC args s mc ms free) (F0 m pc ls rest) := by
  intro T hT X
  have htr : e.platform.stackTraces = false := (show e.platform.stackTraces = l.stackTraces by rw [X.admits.platform]).trans hl
  have Y := vx_rebase X (R' := { frames := R.frames, locals := R.locals, cells := 1, slots := 6 }) (Nat.le_refl _) (Nat.le_refl _) hRcells hRslots
  obtain ⟨s', hA⟩ : ∃ z, z = (T.setVm s.vm).setFrames (.invoking m args :: below) := ⟨_, rfl⟩
  rw [← hA] at Y
  have hvm : s'.vm = s.vm := by rw [hA]; rfl
  have hhp : s'.heap = H := by rw [hA]; exact hT
  have hW0 : s.WarmedH s'.vm := by rw [hvm]; exact State.WarmedH.refl s
  have hat' : ∀ w ∈ vx_at0 own ic cls names, w.before args s' = true := fun w hw => vx_ot_at hW0 hvm.symm (hgood w (List.mem_cons_of_mem _ (List.mem_cons_of_mem _ hw))) (hat w hw)
  have hk' : (Cond.classLink own ik cls).before args s' = true := vx_ot_at hW0 hvm.symm (hgood _ List.mem_cons_self) hk
  have hini' : (Cond.initialized cls).before args s' = true := vx_ot_at hW0 hvm.symm (hgood _ (List.mem_cons_of_mem _ List.mem_cons_self)) hini
  have hU' : vx_Zq Bundle.tN "UNASSIGNED_STACK" Bundle.steD A s' s'.heap := by rw [hhp]; exact vx_Zq.moved hW0.alike (hU.kept hS.2.1)
  have hN' : vx_Zq Bundle.tN "SUPPRESSED_SENTINEL" Bundle.listD A s' s'.heap := by rw [hhp]; exact vx_Zq.moved hW0.alike (hN.kept hS.2.1)
  have h : ∀ w ∈ Bundle.ownAtoms0 own ic cls names, w.before args s' = true := vx_own hat' (vx_isRefq hU'.1) (vx_isRefq hN'.1) hU'.2.word hN'.2.word
  have hown' : s'.vm.findClass own = some m.cls := by rw [hvm]; exact hown
  have hins : (Cond.instantiable cls 6).before args s' = true := h _ (by simp [Bundle.ownAtoms0])
  obtain ⟨vm₁, cX, kX, hfX, hkX, -, -, X₁, st1⟩ := Y.newCold hexec (own := own) (C := cls) (index := ik) (n := 6) hown' hk' hins hini'
    (g := F0 m pc ls rest) rfl (by rw [hb]; exact d0) (Nat.le_refl _) (Nat.le_refl _)
  generalize hT1 : (T.setVm vm₁).pushCell { cls := cX, slots := kX.instanceTypes.map defaultValue, vm := .none } = T1 at X₁ st1
  have hcat : (Value.ref T.heap.size).category = 1 := rfl
  have hcellA : T1.heap[T.heap.size]? = some (freshCell cX kX) := by rw [← hT1]; exact State.heap_pushCell_size _ _
  have d3' : decode c.code (pc + 3) = .ok (.dup, 1) := by rw [hb]; exact d3
  obtain ⟨U, hsteps, hrun, hend, hW, hsame, ce, hce, hO⟩ := X₁.ctorThrow0 hexec htr (own := own) (cls := cls) (names := names) (ic := ic) hown' hcls hnames h (fun x hx => nomatch hx) hfX hkX hcellA (by rw [hhp, hT]; exact Nat.le_refl _)
    (g := { method := m, pc := pc + 4, locals := ls, stack := .ref T.heap.size :: .ref T.heap.size :: rest, locked := none }) rfl hsize rfl rfl (rest := rest) rfl
    (by rw [hb]; exact d4) (by rw [hb]; exact d7) hout hRframes (by simp only [List.map_cons, List.sum_cons, hcat]; omega) hlocks
  obtain ⟨f1, f2⟩ := vx_frame hsame
  rw [hhp] at f1 f2
  have hWs : s.WarmedH U.vm := State.WarmedH.trans hW0 hW
  have hcl : s.vm.findClass cls = some ce.cls := by
    have h9 := hO.cls
    rw [hvm] at h9
    exact h9
  have hall : s.sameButNew ({ U with vm := s.vm } : State) locs mc ms := by
    subst hA
    obtain ⟨e1, e2⟩ := hsame
    rw [State.setFrames_setFrames] at e1
    have h2 : (T.setVm s.vm).sameButNew ({ U with vm := s.vm } : State) [] (0 + 1) (0 + 6) := ⟨e1, e2⟩
    have h3 := X.same.trans h2
    rw [List.append_nil] at h3
    exact h3.mono hc hs
  refine ⟨U, ?_, .threw T.heap.size, hrun, hend, Or.inr ⟨T.heap.size, rfl, cls, ce, locs, hx U hWs.alike f1 (fun q hq => f2 q hq (fun z hz => nomatch hz)), hce, hO.vm, hcl, hWs, hall, hf⟩⟩
  refine st1 _ ?_
  show Steps p.tables e below (T1.setTop { method := m, pc := pc + 3, locals := ls, stack := .ref T.heap.size :: rest, locked := none }) _
  jvm_step X₁.here [X₁.here.top, hexec, d3', Value.category]
  exact hsteps
/-- 'throw new E("text")': new; dup; ldc; invokespecial; athrow -/
theorem vx_throwS {cc : ByteArray} {pc : Nat} (hexec : p.tables.exec = Jvm.exec) (hb : c.code = cc) (hl : l.stackTraces = false) {own cls text : String} {names : List String} {ik is ic mc ms sa : Nat} {A : Nat → Prop}
    (hown : s.vm.findClass own = some m.cls) (hcls : Bundle.fit cls = true) (hnames : ∀ n ∈ names, Bundle.fit n = true)
    (hk : (Cond.classLink own ik cls).before args s = true) (hini : (Cond.initialized cls).before args s = true) (hstr : vk_R own is text sa s) (hat : ∀ w ∈ vx_atS own ic cls names, w.before args s = true)
    (hgood : ∀ w ∈ Cond.classLink own ik cls :: Cond.initialized cls :: vx_atS own ic cls names, vx_ot w = true)
    (hU : vx_Zq Bundle.tN "UNASSIGNED_STACK" Bundle.steD A s s.heap) (hN : vx_Zq Bundle.tN "SUPPRESSED_SENTINEL" Bundle.listD A s s.heap) (hS : va_S A s.heap H locs) (hsize : ls.size = c.maxLocals)
    (d0 : decode cc pc = .ok (.new ik, 3)) (d3 : decode cc (pc + 3) = .ok (.dup, 1)) (d4 : decode cc (pc + 4) = .ok (.ldc is, 2)) (d6 : decode cc (pc + 6) = .ok (.invokespecial ic, 3)) (d9 : decode cc (pc + 9) = .ok (.athrow, 1))
    (hout : ∀ x ∈ c.exceptionTable.toList, covers x (pc + 9) = false)
    (hRframes : names.length + 3 < R.frames) (hRlocals : (rest.map fun v => v.category).sum + (13 * (names.length + 1) + 43) ≤ R.locals) (hRcells : cells + 1 ≤ R.cells) (hRslots : slots + 6 ≤ R.slots) (hlocks : meth.locks = false)
    (hx : ∀ t : State, s.vm.Alike t.vm → H.size ≤ t.heap.size → (∀ q : Nat, q < H.size → t.heap[q]? = H[q]?) → XC cls s t)
    (hf : ∀ z ∈ locs, free z.base) (hc : cells + 1 ≤ mc) (hs : slots + 6 ≤ ms) :
    W p l e R s m args below meth c H locs cells slots (vx_MQ below Qc XC args s mc ms free) (F0 m pc ls rest) := by
  intro T hT X
  have htr : e.platform.stackTraces = false := (show e.platform.stackTraces = l.stackTraces by rw [X.admits.platform]).trans hl
  have Y := vx_rebase X (R' := { frames := R.frames, locals := R.locals, cells := 1, slots := 6 }) (Nat.le_refl _) (Nat.le_refl _) hRcells hRslots
  obtain ⟨s', hA⟩ : ∃ z, z = (T.setVm s.vm).setFrames (.invoking m args :: below) := ⟨_, rfl⟩
  rw [← hA] at Y
  have hvm : s'.vm = s.vm := by rw [hA]; rfl
  have hhp : s'.heap = H := by rw [hA]; exact hT
  have hW0 : s.WarmedH s'.vm := by rw [hvm]; exact State.WarmedH.refl s
  have hat' : ∀ w ∈ vx_atS own ic cls names, w.before args s' = true := fun w hw => vx_ot_at hW0 hvm.symm (hgood w (List.mem_cons_of_mem _ (List.mem_cons_of_mem _ hw))) (hat w hw)
  have hk' : (Cond.classLink own ik cls).before args s' = true := vx_ot_at hW0 hvm.symm (hgood _ List.mem_cons_self) hk
  have hini' : (Cond.initialized cls).before args s' = true := vx_ot_at hW0 hvm.symm (hgood _ (List.mem_cons_of_mem _ List.mem_cons_self)) hini
  have hU' : vx_Zq Bundle.tN "UNASSIGNED_STACK" Bundle.steD A s' s'.heap := by rw [hhp]; exact vx_Zq.moved hW0.alike (hU.kept hS.2.1)
  have hN' : vx_Zq Bundle.tN "SUPPRESSED_SENTINEL" Bundle.listD A s' s'.heap := by rw [hhp]; exact vx_Zq.moved hW0.alike (hN.kept hS.2.1)
  have h : ∀ w ∈ Bundle.ownAtoms own ic cls names, w.before args s' = true := vx_own hat' (vx_isRefq hU'.1) (vx_isRefq hN'.1) hU'.2.word hN'.2.word
  have hown' : s'.vm.findClass own = some m.cls := by rw [hvm]; exact hown
  have hins : (Cond.instantiable cls 6).before args s' = true := h _ (by simp [Bundle.ownAtoms])
  obtain ⟨vm₁, cX, kX, hfX, hkX, -, -, X₁, st1⟩ := Y.newCold hexec (own := own) (C := cls) (index := ik) (n := 6) hown' hk' hins hini'
    (g := F0 m pc ls rest) rfl (by rw [hb]; exact d0) (Nat.le_refl _) (Nat.le_refl _)
  generalize hT1 : (T.setVm vm₁).pushCell { cls := cX, slots := kX.instanceTypes.map defaultValue, vm := .none } = T1 at X₁ st1
  have hcat : (Value.ref T.heap.size).category = 1 := rfl
  have hcellA : T1.heap[T.heap.size]? = some (freshCell cX kX) := by rw [← hT1]; exact State.heap_pushCell_size _ _
  have d3' : decode c.code (pc + 3) = .ok (.dup, 1) := by rw [hb]; exact d3
  have d4' : decode c.code (pc + 4) = .ok (.ldc is, 2) := by rw [hb]; exact d4
  have hstr' : vk_R own is text sa s' := vk_R.warm hW0 hstr
  obtain ⟨U, hsteps, hrun, hend, hW, hsame, ce, hce, hO⟩ := X₁.ctorThrowS hexec htr (own := own) (cls := cls) (names := names) (ic := ic) hown' hcls hnames h (fun x hx => nomatch hx) hfX hkX hcellA (by rw [hhp, hT]; exact Nat.le_refl _) (msg := .ref sa) rfl
    (g := { method := m, pc := pc + 6, locals := ls, stack := .ref sa :: .ref T.heap.size :: .ref T.heap.size :: rest, locked := none }) rfl hsize rfl rfl (rest := rest) rfl
    (by rw [hb]; exact d6) (by rw [hb]; exact d9) hout hRframes (by simp only [List.map_cons, List.sum_cons, hcat]; omega) hlocks
  obtain ⟨f1, f2⟩ := vx_frame hsame
  rw [hhp] at f1 f2
  have hWs : s.WarmedH U.vm := State.WarmedH.trans hW0 hW
  have hcl : s.vm.findClass cls = some ce.cls := by
    have h9 := hO.cls
    rw [hvm] at h9
    exact h9
  have hall : s.sameButNew ({ U with vm := s.vm } : State) locs mc ms := by
    subst hA
    obtain ⟨e1, e2⟩ := hsame
    rw [State.setFrames_setFrames] at e1
    have h2 : (T.setVm s.vm).sameButNew ({ U with vm := s.vm } : State) [] (0 + 1) (0 + 6) := ⟨e1, e2⟩
    have h3 := X.same.trans h2
    rw [List.append_nil] at h3
    exact h3.mono hc hs
  refine ⟨U, ?_, .threw T.heap.size, hrun, hend, Or.inr ⟨T.heap.size, rfl, cls, ce, locs, hx U hWs.alike f1 (fun q hq => f2 q hq (fun z hz => nomatch hz)), hce, hO.vm, hcl, hWs, hall, hf⟩⟩
  refine st1 _ ?_
  show Steps p.tables e below (T1.setTop { method := m, pc := pc + 3, locals := ls, stack := .ref T.heap.size :: rest, locked := none }) _
  jvm_step X₁.here [X₁.here.top, hexec, d3', Value.category]
  exact X₁.ldcString hexec (own := own) (text := text) (index := is) (a := sa) hown' hstr'.1 hstr'.2
    (g := { method := m, pc := pc + 4, locals := ls, stack := .ref T.heap.size :: .ref T.heap.size :: rest, locked := none }) rfl d4' _ hsteps
/-- 'throw new E("text")', the text by a wide index -/
theorem vx_throwSW {cc : ByteArray} {pc : Nat} (hexec : p.tables.exec = Jvm.exec) (hb : c.code = cc) (hl : l.stackTraces = false) {own cls text : String} {names : List String} {ik is ic mc ms sa : Nat} {A : Nat → Prop}
    (hown : s.vm.findClass own = some m.cls) (hcls : Bundle.fit cls = true) (hnames : ∀ n ∈ names, Bundle.fit n = true)
    (hk : (Cond.classLink own ik cls).before args s = true) (hini : (Cond.initialized cls).before args s = true) (hstr : vk_R own is text sa s) (hat : ∀ w ∈ vx_atS own ic cls names, w.before args s = true)
    (hgood : ∀ w ∈ Cond.classLink own ik cls :: Cond.initialized cls :: vx_atS own ic cls names, vx_ot w = true)
    (hU : vx_Zq Bundle.tN "UNASSIGNED_STACK" Bundle.steD A s s.heap) (hN : vx_Zq Bundle.tN "SUPPRESSED_SENTINEL" Bundle.listD A s s.heap) (hS : va_S A s.heap H locs) (hsize : ls.size = c.maxLocals)
    (d0 : decode cc pc = .ok (.new ik, 3)) (d3 : decode cc (pc + 3) = .ok (.dup, 1)) (d4 : decode cc (pc + 4) = .ok (.ldc_w is, 3)) (d7 : decode cc (pc + 7) = .ok (.invokespecial ic, 3)) (d10 : decode cc (pc + 10) = .ok (.athrow, 1))
    (hout : ∀ x ∈ c.exceptionTable.toList, covers x (pc + 10) = false)
    (hRframes : names.length + 3 < R.frames) (hRlocals : (rest.map fun v => v.category).sum + (13 * (names.length + 1) + 43) ≤ R.locals) (hRcells : cells + 1 ≤ R.cells) (hRslots : slots + 6 ≤ R.slots) (hlocks : meth.locks = false)
    (hx : ∀ t : State, s.vm.Alike t.vm → H.size ≤ t.heap.size → (∀ q : Nat, q < H.size → t.heap[q]? = H[q]?) → XC cls s t)
    (hf : ∀ z ∈ locs, free z.base) (hc : cells + 1 ≤ mc) (hs : slots + 6 ≤ ms) :
    W p l e R s m args below meth c H locs cells slots (vx_MQ below Qc XC args s mc ms free) (F0 m pc ls rest) := by
  intro T hT X
  have htr : e.platform.stackTraces = false := (show e.platform.stackTraces = l.stackTraces by rw [X.admits.platform]).trans hl
  have Y := vx_rebase X (R' := { frames := R.frames, locals := R.locals, cells := 1, slots := 6 }) (Nat.le_refl _) (Nat.le_refl _) hRcells hRslots
  obtain ⟨s', hA⟩ : ∃ z, z = (T.setVm s.vm).setFrames (.invoking m args :: below) := ⟨_, rfl⟩
  rw [← hA] at Y
  have hvm : s'.vm = s.vm := by rw [hA]; rfl
  have hhp : s'.heap = H := by rw [hA]; exact hT
  have hW0 : s.WarmedH s'.vm := by rw [hvm]; exact State.WarmedH.refl s
  have hat' : ∀ w ∈ vx_atS own ic cls names, w.before args s' = true := fun w hw => vx_ot_at hW0 hvm.symm (hgood w (List.mem_cons_of_mem _ (List.mem_cons_of_mem _ hw))) (hat w hw)
  have hk' : (Cond.classLink own ik cls).before args s' = true := vx_ot_at hW0 hvm.symm (hgood _ List.mem_cons_self) hk
  have hini' : (Cond.initialized cls).before args s' = true := vx_ot_at hW0 hvm.symm (hgood _ (List.mem_cons_of_mem _ List.mem_cons_self)) hini
  have hU' : vx_Zq Bundle.tN "UNASSIGNED_STACK" Bundle.steD A s' s'.heap := by rw [hhp]; exact vx_Zq.moved hW0.alike (hU.kept hS.2.1)
  have hN' : vx_Zq Bundle.tN "SUPPRESSED_SENTINEL" Bundle.listD A s' s'.heap := by rw [hhp]; exact vx_Zq.moved hW0.alike (hN.kept hS.2.1)
  have h : ∀ w ∈ Bundle.ownAtoms own ic cls names, w.before args s' = true := vx_own hat' (vx_isRefq hU'.1) (vx_isRefq hN'.1) hU'.2.word hN'.2.word
  have hown' : s'.vm.findClass own = some m.cls := by rw [hvm]; exact hown
  have hins : (Cond.instantiable cls 6).before args s' = true := h _ (by simp [Bundle.ownAtoms])
  obtain ⟨vm₁, cX, kX, hfX, hkX, -, -, X₁, st1⟩ := Y.newCold hexec (own := own) (C := cls) (index := ik) (n := 6) hown' hk' hins hini'
    (g := F0 m pc ls rest) rfl (by rw [hb]; exact d0) (Nat.le_refl _) (Nat.le_refl _)
  generalize hT1 : (T.setVm vm₁).pushCell { cls := cX, slots := kX.instanceTypes.map defaultValue, vm := .none } = T1 at X₁ st1
  have hcat : (Value.ref T.heap.size).category = 1 := rfl
  have hcellA : T1.heap[T.heap.size]? = some (freshCell cX kX) := by rw [← hT1]; exact State.heap_pushCell_size _ _
  have d3' : decode c.code (pc + 3) = .ok (.dup, 1) := by rw [hb]; exact d3
  have d4' : decode c.code (pc + 4) = .ok (.ldc_w is, 3) := by rw [hb]; exact d4
  have hstr' : vk_R own is text sa s' := vk_R.warm hW0 hstr
  obtain ⟨U, hsteps, hrun, hend, hW, hsame, ce, hce, hO⟩ := X₁.ctorThrowS hexec htr (own := own) (cls := cls) (names := names) (ic := ic) hown' hcls hnames h (fun x hx => nomatch hx) hfX hkX hcellA (by rw [hhp, hT]; exact Nat.le_refl _) (msg := .ref sa) rfl
    (g := { method := m, pc := pc + 7, locals := ls, stack := .ref sa :: .ref T.heap.size :: .ref T.heap.size :: rest, locked := none }) rfl hsize rfl rfl (rest := rest) rfl
    (by rw [hb]; exact d7) (by rw [hb]; exact d10) hout hRframes (by simp only [List.map_cons, List.sum_cons, hcat]; omega) hlocks
  obtain ⟨f1, f2⟩ := vx_frame hsame
  rw [hhp] at f1 f2
  have hWs : s.WarmedH U.vm := State.WarmedH.trans hW0 hW
  have hcl : s.vm.findClass cls = some ce.cls := by
    have h9 := hO.cls
    rw [hvm] at h9
    exact h9
  have hall : s.sameButNew ({ U with vm := s.vm } : State) locs mc ms := by
    subst hA
    obtain ⟨e1, e2⟩ := hsame
    rw [State.setFrames_setFrames] at e1
    have h2 : (T.setVm s.vm).sameButNew ({ U with vm := s.vm } : State) [] (0 + 1) (0 + 6) := ⟨e1, e2⟩
    have h3 := X.same.trans h2
    rw [List.append_nil] at h3
    exact h3.mono hc hs
  refine ⟨U, ?_, .threw T.heap.size, hrun, hend, Or.inr ⟨T.heap.size, rfl, cls, ce, locs, hx U hWs.alike f1 (fun q hq => f2 q hq (fun z hz => nomatch hz)), hce, hO.vm, hcl, hWs, hall, hf⟩⟩
  refine st1 _ ?_
  show Steps p.tables e below (T1.setTop { method := m, pc := pc + 3, locals := ls, stack := .ref T.heap.size :: rest, locked := none }) _
  jvm_step X₁.here [X₁.here.top, hexec, d3', Value.category]
  exact X₁.ldcStringW hexec (own := own) (text := text) (index := is) (a := sa) hown' hstr'.1 hstr'.2
    (g := { method := m, pc := pc + 4, locals := ls, stack := .ref T.heap.size :: .ref T.heap.size :: rest, locked := none }) rfl d4' _ hsteps
end Ends
section Bodies
variable {l : Launch}
theorem vx_ofW {y : MethodName} {ws ws' : List Cond} {rm : Room} {Pc : Array Value → State → Prop} {Qc : Array Value → State → Outcome → State → Prop} {XC : String → State → State → Prop} {mc ms : Nat} {free : Addr → Prop} {cc : ByteArray} {maxL : Nat} {ret : Option FieldType}
    (hy : plainName y.cls = true) (hw : ws = Cond.code y cc maxL ret :: ws')
    (body : ∀ p e s m args below meth c s₁, BodyLoose p l y (headSpec ws rm) cc maxL ret e s m args below meth c s₁ → c.maxLocals = maxL → (∀ x ∈ c.exceptionTable.toList, False) → Pc args s →
      W p l e (headSpec ws rm).room s m args below meth c s.heap [] 0 0 (vx_MQ below Qc XC args s mc ms free) (entryFrame m args maxL)) : vx_Met l y ws rm Pc Qc XC mc ms free := by
  refine MetFree.of_bodyS (code := cc) (maxLocals := maxL) (ret := ret) hy ?_ ?_
  · intro args s m h hn
    obtain ⟨meth, c, h1, h2, h3, h4, h5, h6, -, -⟩ := Cond.code_spec hn (atoms_spec (ws := ws) h _ (by rw [hw]; exact List.mem_cons_self))
    exact ⟨meth, c, h1, h2, h3, h4, h5, h6⟩
  · intro p e s m args below meth c s₁ B hml hP _
    have hh0 : s₁.heap = s.heap := by rw [B.state]; rfl
    have ht : ∀ x ∈ c.exceptionTable.toList, False := by
      obtain ⟨meth9, c9, h1, h2, -, -, -, -, h7, -⟩ := Cond.code_spec B.named (atoms_spec (ws := ws) B.pre _ (by rw [hw]; exact List.mem_cons_self))
      cases Option.some.inj (h1.symm.trans B.method)
      cases Option.some.inj (h2.symm.trans (Stand.of_body B).code)
      intro x hx
      rw [Array.isEmpty_iff.mp h7] at hx
      cases hx
    obtain ⟨t, a1, o, b1, b2, b3⟩ := body p e s m args below meth c s₁ B hml ht hP s₁ hh0 (Stand.of_body B)
    exact ⟨t, o, a1, b1, b2, b3⟩
/-- the table of a body with handlers -/
theorem vx_table {p : Program} {x y : MethodName} {S : Spec} {cc bytes : ByteArray} {maxL maxL' : Nat} {ret ret' : Option FieldType} {e : Env} {s s₁ : State} {m : MethodId} {args : Array Value} {below : List Frame} {meth : Method} {c : Code} {hh : List (Nat × Nat × Nat × Nat)}
    (B : BodyLoose p l y S cc maxL ret e s m args below meth c s₁) (h : (Cond.codeWith y bytes maxL' ret' hh).before args s = true) : c.exceptionTable.toList = tableOf hh := by
  obtain ⟨m9, meth9, c9, hn9, h1, h2, -, -, h6, -⟩ := Cond.codeWith_spec h
  cases Option.some.inj (hn9.symm.trans B.named)
  cases Option.some.inj (h1.symm.trans B.method)
  cases Option.some.inj (h2.symm.trans (Stand.of_body B).code)
  rw [← h6, table_eq]
end Bodies
end VXA
/-! ===== END ===== -/
/-! ===== BEGIN a static call of a method with an exception table ===== -/
section VXS
variable {p : Program} {l : Launch} {e : Env} {R : Room} {s : State} {m : MethodId} {args : Array Value} {below : List Frame} {meth : Method} {c : Code} {T : State} {H : Heap} {locs : List Loc} {cells slots : Nat}
abbrev vx_CSW (R : Room) (s : State) (args : Array Value) (own : String) (index : Nat) (y : MethodName) (bytes : ByteArray) (maxL : Nat) (ret : Option FieldType) (hh : List (Nat × Nat × Nat × Nat)) (ws : List Cond) (rm : Room) (mc ms n : Nat) : Prop :=
  (rm.cells = mc ∧ rm.slots = ms ∧ rm.frames + 1 ≤ R.frames ∧ 8 + (maxL + 11) + rm.locals ≤ R.locals ∧ (∀ w ∈ ws, ∀ (a' : Array Value) (U : State), s.WarmedH U.vm → w.before a' U = true) ∧ Cond.codeWith y bytes maxL ret hh ∈ ws) ∧
  (Cond.codeWith y bytes maxL ret hh).before args s = true ∧ (Cond.initialized y.cls).before args s = true ∧ (y.cls ≠ "java/lang/invoke/MethodHandle" ∧ y.cls ≠ "java/lang/invoke/VarHandle") ∧
  (∀ sig, parseMethodDescriptor y.desc = some sig → n = sig.parameters.length) ∧ (Cond.methodLink own index y).before args s = true ∧ (Cond.static y).before args s = true
theorem vx_cwSW {own : String} {index maxL mc ms : Nat} {y : MethodName} {bytes : ByteArray} {ret : Option FieldType} {hh : List (Nat × Nat × Nat × Nat)} {Ts ws ws' : List Cond} {rm : Room} (n : Nat) (ht : ∀ w ∈ Ts, w.before args s = true) (hT : GoodIn Ts (va_wsS own index y ws)) (hw : ws = Cond.codeWith y bytes maxL ret hh :: ws') (hrc : rm.cells = mc) (hrs : rm.slots = ms)
    (hd : y.cls ≠ "java/lang/invoke/MethodHandle" ∧ y.cls ≠ "java/lang/invoke/VarHandle" ∧ (parseMethodDescriptor y.desc).map (fun d => d.parameters.length) = some n) (hR : rm.frames + 1 ≤ R.frames ∧ 8 + (maxL + 11) + rm.locals ≤ R.locals) :
    vx_CSW R s args own index y bytes maxL ret hh ws rm mc ms n := by
  have ok : ∀ w ∈ va_wsS own index y ws, w.before args s = true := fun w h => ht w (hT w h).1
  have hG : GoodIn Ts ws := fun w h => hT w (by unfold va_wsS; exact List.mem_append_right _ h)
  have hc : Cond.codeWith y bytes maxL ret hh ∈ ws := by rw [hw]; exact List.mem_cons_self
  refine ⟨⟨hrc, hrs, hR.1, hR.2, pay_in ht hG, hc⟩, ht _ (hG _ hc).1, ok _ (by simp [va_wsS]), ⟨hd.1, hd.2.1⟩, fun sig h => ?_, ok _ (by simp [va_wsS]), ok _ (by simp [va_wsS])⟩
  have h2 := hd.2.2
  rw [h] at h2
  exact (Option.some.inj h2).symm
theorem vx_callSW (X : Stand p l e R s m args below meth c T locs cells slots) (hexec : p.tables.exec = Jvm.exec) {own : String} {index : Nat} {y : MethodName} {bytes : ByteArray} {maxL : Nat} {ret : Option FieldType} {hh : List (Nat × Nat × Nat × Nat)}
    (hown : s.vm.findClass own = some m.cls) (hlink : (Cond.methodLink own index y).before args s = true) (hstat : (Cond.static y).before args s = true) (hinit : (Cond.initialized y.cls).before args s = true)
    (hcode : (Cond.codeWith y bytes maxL ret hh).before args s = true) (hy : y.cls ≠ "java/lang/invoke/MethodHandle" ∧ y.cls ≠ "java/lang/invoke/VarHandle")
    {W9 : Nat} {Pre : Pt → Array Value → Prop} {Post : Pt → Array Value → Option Value → Pt → Prop} (hK : Back l R p e below s args y 3 W9 Pre Post)
    {g : JFrame} (hg : g.method = m) (hsize : g.locals.size = c.maxLocals) {argsL rest : List Value} (hlen : ∀ sig, parseMethodDescriptor y.desc = some sig → argsL.length = sig.parameters.length)
    (hstack : g.stack = argsL.reverse ++ rest) (hW : 2 * g.monitorRoom + (rest.map fun v => v.category).sum ≤ W9) (hdg : decode c.code g.pc = .ok (.invokestatic index, 3))
    (hpre : ∀ vm₁, s.WarmedH vm₁ → Pre ⟨T.setVm vm₁, locs, cells, slots⟩ argsL.toArray) :
    ∃ (v : Option Value) (vm₁ : Vm) (B : Pt), s.WarmedH vm₁ ∧ Stand p l e R s m args below meth c B.U B.locs B.cells B.slots ∧ Post ⟨T.setVm vm₁, locs, cells, slots⟩ argsL.toArray v B ∧
      ∀ target, Steps p.tables e below (B.U.setTop { g with pc := g.pc + 3, stack := v.toList ++ rest }) target → Steps p.tables e below (T.setTop g) target := by
  obtain ⟨mk, methM, cM, hnamed, hmethM, -, -, -, -, -, -, hsigM⟩ := Cond.codeWith_spec hcode
  have hstatic : methM.isStatic = true := Cond.static_spec hnamed hmethM hstat
  obtain ⟨kP, hkP, -⟩ := className_of_methodNamed hnamed
  have hinitP : kP.init = .initialized := Cond.initialized_spec (findClass_of_methodNamed hnamed) hkP hinit
  obtain ⟨vm₁, X₁, hstep₁⟩ := X.invokestatic hexec hown hlink hnamed hmethM hstatic hkP hinitP hy (g := g) hg (argsL := argsL) (rest := rest) (hlen _ hsigM) hstack hdg
  obtain ⟨v, B, X', hpost, hsteps⟩ := hK m meth c ⟨T.setVm vm₁, locs, cells, slots⟩ { g with stack := rest } (.invokestatic index) mk argsL.toArray X₁ hg hsize hdg hW (X₁.named hnamed) (hpre vm₁ X₁.warmed)
  exact ⟨v, vm₁, B, X₁.warmed, X', hpost, fun target h => hstep₁ _ fun acts => by rw [doInvoke_state]; exact hsteps.trans h⟩
theorem vx_runSW {y : MethodName} {bytes cc : ByteArray} {maxL nL mc ms n index : Nat} {ret : Option FieldType} {hh : List (Nat × Nat × Nat × Nat)} {ws : List Cond} {rm : Room} {Pc : Array Value → State → Prop} {Qc : Array Value → State → Outcome → State → Prop} {free : Addr → Prop} {Ts : List Cond} {own : String} {As rest : List Value} {g : JFrame}
    (S : CallFix p m c cc nL s args Ts own) (hM : Met l y ws rm Pc Qc mc ms free) (cw : vx_CSW R s args own index y bytes maxL ret hh ws rm mc ms n) (hp : PreS s H Pc As)
    (hg : g.method = m) (hn : As.length = n) (hsize : g.locals.size = nL) (hstack : g.stack = As.reverse ++ rest) (hW : 2 * g.monitorRoom + (rest.map fun v => v.category).sum ≤ 8) (hdg : decode cc g.pc = .ok (.invokestatic index, 3)) (hf : cells + mc ≤ R.cells ∧ slots + ms ≤ R.slots) :
    va_Run p l e R s m args below meth c H locs cells slots mc ms g rest (Qc As.toArray) (free) := by
  obtain ⟨⟨hrc, hrs, hfr, hlo, hws, hcw⟩, hcode, hini, hy, hlen, hl, hstt⟩ := cw
  have hK : Back l R p e below s args y 3 8 (PreOf R mc ms Pc) (PostOf Qc mc ms free) := va_backW (hh := hh) (bytes := bytes) (maxL := maxL) (ret := ret) hM hp.1 hrc hrs hfr hlo hws hcw (fun a' U hW => word_at hW (Or.inl (by first | rfl | simp [Cond.onTables, Cond.keeps, Cond.steady])) hini)
  obtain ⟨hx, hb, hml, ho, -⟩ := S
  intro T hT X
  obtain ⟨v, vm₁, ⟨U', l2, c2, s2⟩, hW₁, X', ⟨g', mk, t, L, e1, e2, hq, h1, hL, h2, h3⟩, st⟩ := vx_callSW X hx (hh := hh) (bytes := bytes) (maxL := maxL) (ret := ret) ho hl hstt hini hcode hy hK hg (hsize.trans hml.symm) (argsL := As) (rest := rest) (fun sig h => hn.trans (hlen sig h)) hstack hW (by rw [hb]; exact hdg)
    (fun vm₁ hW₁ => ⟨hf.1, hf.2, hp.2 (T.setVm vm₁) hT hW₁⟩)
  dsimp only [Pt.U, Pt.locs, Pt.cells, Pt.slots] at X' e1 e2 h1 h2 h3 st
  subst h1; subst h2; subst h3
  exact ⟨v, (T.setVm vm₁).calling g' mk As.toArray, t, U', L, hT, X', hL, e1, e2, hq, st⟩
/-- not caught here, past rows that name other classes: it goes on to the caller -/
theorem vx_outP {p : Program} {l : Launch} {e : Env} {R : Room} {s : State} {m : MethodId} {args : Array Value} {below : List Frame} {meth : Method} {c : Code} {H : Heap} {locs : List Loc} {cells slots : Nat} {free : Addr → Prop} {ls : Array Slot} {rest : List Value} {Qc : Array Value → State → Outcome → State → Prop} {XC : String → State → State → Prop}
    {pc : Nat} {own E : String} {ce : Cell} {q : Addr} {mc ms : Nat} (hown : s.vm.findClass own = some m.cls) (hlocks : meth.locks = false)
    (hpass : ∀ z ∈ c.exceptionTable.toList, covers z pc = false ∨ (z.catchType ≠ 0 ∧ ∃ nm : String, (Cond.classLink own z.catchType nm).before args s = true ∧ va_Nc E nm s)) (hcell : H[q]? = some ce) (hv : ce.vm = .none) (hcl : s.vm.findClass E = some ce.cls)
    (hx : ∀ t : State, t.heap = H → s.vm.Alike t.vm → XC E s t) (hf : ∀ z ∈ locs, free z.base) (hc : cells ≤ mc) (hs : slots ≤ ms) :
    vx_W p l e R s m args below meth c H locs cells slots (vx_MQ below Qc XC args s mc ms free) (F0 m pc ls rest) q := by
  intro T hT X
  have hpl : e.platform.magicAccessors = ({} : Platform).magicAccessors := by rw [X.admits.platform]
  obtain ⟨vm', hW', X', st⟩ := Stand.outThrough X hlocks q (g := F0 m pc ls rest) rfl rfl rfl (cell := ce) (by rw [hT]; exact hcell) (by rw [hv]; rfl)
    (by obtain ⟨k9, h9, -⟩ := Vm.findClass_spec hcl; exact ⟨k9, h9⟩) (fun z hz => by
      rcases hpass z hz with h | ⟨hz0, nm, hl1, hn1⟩
      · exact Or.inl h
      · obtain ⟨c6, hc6, hcl6⟩ := Cond.classLink_spec hown hl1 e.platform hpl
        obtain ⟨a8, b8, h1, h2, h3⟩ := hn1
        cases Option.some.inj (h1.symm.trans hcl)
        cases Option.some.inj (h2.symm.trans hc6)
        exact Or.inr ⟨hz0, _, hcl6, h3⟩)
  obtain ⟨g₀, hfr⟩ := X'.frames_eq
  have hcell9 : ((T.setVm vm').setFrames (.throwing q :: below)).heap[q]? = some ce := by
    show T.heap[q]? = some ce
    rw [hT]; exact hcell
  have hend : Ended ((T.setVm vm').setFrames (.throwing q :: below)) below (.threw q) := State.frames_setFrames _ (State.cur_lt_of_frames hfr)
  refine ⟨(T.setVm vm').setFrames (.throwing q :: below), ?_, .threw q, X'.here.running, hend, Or.inr ⟨q, rfl, E, ce, locs, hx _ hT (X'.ends _).1.alike, hcell9, hv, hcl, (X'.ends _).1, (X'.ends _).2.mono hc hs, hf⟩⟩
  rw [X.pushThrowing_eq]
  exact st
/-- a thing of a world lies in the heap -/
theorem vx_lt {D : va_G} {cl : List vw_C} {ws : va_W} {H1 : Heap} (h : va_P D cl ws H1) {k : Nat} {q : Nat × va_E} (hk : ws[k]? = some q) : q.1 < H1.size := (h k q hk).lt
end VXS
/-! ===== END ===== -/
/-! ===== BEGIN methods with a table of their own: called by a name, returning or throwing ===== -/
section VXH
/-! vx_backW, vx_callVX, vx_callSX, vx_callVW, vx_runVW, vx_runVX, vx_runSX, vx_ofWH follow the same proofs as their sisters above (Free/Laws.lean, Shelf42/LK1.lean); vx_outP calls Shelf42/NT130.lean (outThrough). -/
section
variable {l : Launch} {R : Room} {p : Program} {e : Env} {below : List Frame} {s : State} {sargs : Array Value} {y : MethodName} {len W9 : Nat}
theorem vx_backW {ws : List Cond} {rm : Room} {Pc : Array Value → State → Prop} {Qc : Array Value → State → Outcome → State → Prop} {XC : String → State → State → Prop} {mc ms : Nat} {free : Addr → Prop} {bytes : ByteArray} {maxL : Nat} {ret : Option FieldType} {hh : List (Nat × Nat × Nat × Nat)}
    (hM : vx_Met l y ws rm Pc Qc XC mc ms free) (hblind : FrameBlind Pc) (hrc : rm.cells = mc) (hrs : rm.slots = ms)
    (hframes : rm.frames + 1 ≤ R.frames) (hlocals : W9 + (maxL + 11) + rm.locals ≤ R.locals)
    (hws : ∀ w ∈ ws, ∀ a' U, s.WarmedH U.vm → w.before a' U = true) (hcode : Cond.codeWith y bytes maxL ret hh ∈ ws) (hinit : ∀ a' U, s.WarmedH U.vm → (Cond.initialized y.cls).before a' U = true) :
    vx_Back l R p e below s sargs y len W9 (PreOf R mc ms Pc) (PostOf Qc mc ms free) (vx_Post XC mc ms free) := by
  intro m meth c A g ig mk a X hg hsize hdg hW hn hp
  have h1 : (headSpec ws rm).pre.before a A.U = true := atoms_intro fun w hw => hws w hw _ _ X.warmed
  have h2 : (Cond.codeWith y bytes maxL ret hh).before a A.U = true := hws _ hcode _ _ X.warmed
  have h3 : (Cond.initialized y.cls).before a A.U = true := hinit _ _ X.warmed
  have h4 : A.cells + (headSpec ws rm).room.cells ≤ R.cells := by rw [show (headSpec ws rm).room.cells = mc from hrc]; exact hp.1
  have h5 : A.slots + (headSpec ws rm).room.slots ≤ R.slots := by rw [show (headSpec ws rm).room.slots = ms from hrs]; exact hp.2.1
  have hPc : Pc a (A.U.calling g mk a) := hblind _ _ _ _ hp.2.2
  obtain ⟨U, Ls, c0, s0⟩ := A
  dsimp only [Pt.U, Pt.locs, Pt.cells, Pt.slots] at h1 h2 h3 h4 h5 X hn hPc ⊢
  obtain ⟨m9, methY, cY, hn9, hmY, hcY, -, hlY, -⟩ := Cond.codeWith_spec h2
  cases Option.some.inj (hn9.symm.trans hn)
  obtain ⟨kY, hkY, -⟩ := className_of_methodNamed hn
  have hinitY : kY.init = .initialized := Cond.initialized_spec (findClass_of_methodNamed hn) hkY h3
  have h : At U g.method c below := by rw [hg]; exact X.here
  have hlocals9 : W9 + (maxL + 11) + (headSpec ws rm).room.locals ≤ R.locals := hlocals
  have happ : (headSpec ws rm).appliesLoose y e.platform (U.calling g mk a) = true :=
    Spec.appliesLoose_calling (g := g) h hdg hn hkY hinitY
      (X.room_calling (g := g) (R' := (headSpec ws rm).room) hsize hmY hcY hframes (by rw [hlY]; omega) h4 h5) h1
  obtain ⟨mid, hmid⟩ := h.above
  have hfr : (U.setTop g).frames = (.java g :: mid) ++ below := by rw [State.frames_setTop' g h.top, hmid]; rfl
  obtain ⟨o, s₂, hsteps, -, hend, hq⟩ := Steps.callFree hM p X.admits X.cas X.clock (acts := []) hfr happ hPc trivial
  have hq' : vx_Q Qc XC mc ms free a (U.calling g mk a) o s₂ := hq
  rw [State.frames_setTop' g h.top] at hend
  obtain ⟨g₀, hg0⟩ := Option.isSome_iff_exists.mp h.top
  obtain ⟨r, hr⟩ := State.topJava?_eq_some.mp hg0
  have hr' : (({ U with heap := s₂.heap, slotsUsed := s₂.slotsUsed } : State).setVm s₂.vm).frames = .java g₀ :: r := hr
  rcases hq' with ⟨hqc, L, hfe, hL⟩ | ⟨q, rfl, E, ce, L, hx, hce, hcv, hcl, hW₂, hsm, hL⟩
  · obtain ⟨⟨v, rfl⟩, hW₂, e2, q2, q3, q4, q5, q6⟩ := id hfe
    have e3 : s₂ = ({ (U.calling g mk a).setFrames s₂.frames with heap := s₂.heap, slotsUsed := s₂.slotsUsed } : State).setVm s₂.vm := by
      have : s₂ = ({ s₂ with vm := (U.calling g mk a).vm } : State).setVm s₂.vm := rfl
      rw [e2] at this
      exact this
    obtain ⟨c₂, i₂, len₂, hc₂, hd₂, hf₂⟩ := hend
    have hW' : U.WarmedH s₂.vm := hW₂
    have hcc : c₂ = c := by
      have h1 : s₂.code? g.method = U.code? g.method := by
        rw [State.code?_eq, State.code?_eq, hW'.alike.method?]
      exact Option.some.inj (hc₂.symm.trans (h1.trans h.code))
    subst hcc
    have hlen : len₂ = len := by rw [hdg] at hd₂; cases hd₂; rfl
    subst hlen
    have hs₂ : s₂ = (({ U with heap := s₂.heap, slotsUsed := s₂.slotsUsed } : State).setVm s₂.vm).setTop { g with pc := g.pc + len₂, stack := v.toList ++ g.stack } := by
      refine e3.trans ?_
      rw [hf₂, State.calling_eq h.top, State.setFrames_setFrames, State.setTop_of_frames _ hr', hr]
      rfl
    have hsame : U.sameButNew ({ U with heap := s₂.heap, slotsUsed := s₂.slotsUsed } : State) L mc ms := by
      refine ⟨?_, q2, q3, q4, q5, q6⟩
      obtain ⟨t, ht, -⟩ := State.frames_cons hr
      show ({ U with heap := s₂.heap, slotsUsed := s₂.slotsUsed } : State) = { U.setFrames U.frames with heap := s₂.heap, slotsUsed := s₂.slotsUsed }
      rw [State.setFrames_self ht]
    subst hg
    refine Or.inl ⟨v, ⟨(({ U with heap := s₂.heap, slotsUsed := s₂.slotsUsed } : State).setVm s₂.vm), Ls ++ L, c0 + mc, s0 + ms⟩,
      ⟨X.admits, X.cas, X.clock, X.frames, X.room, X.hears, X.method, X.code, (X.here.setHeapUsed s₂.heap s₂.slotsUsed).setVm hW'.alike, X.tail, State.WarmedH.trans X.warmed hW', X.limits, X.bytes, X.same.trans (hsame.setVm s.vm)⟩,
      ⟨g, mk, s₂, L, rfl, rfl, hqc, rfl, hL, rfl, rfl⟩, ?_⟩
    show Steps p.tables e below _ ((({ U with heap := s₂.heap, slotsUsed := s₂.slotsUsed } : State).setVm s₂.vm).setTop { g with pc := g.pc + len₂, stack := v.toList ++ g.stack })
    rw [← hs₂]
    exact hsteps
  · obtain ⟨e2, q2, q3, q4, q5, q6⟩ := id hsm
    have e3 : s₂ = ({ (U.calling g mk a).setFrames s₂.frames with heap := s₂.heap, slotsUsed := s₂.slotsUsed } : State).setVm s₂.vm := by
      have : s₂ = ({ s₂ with vm := (U.calling g mk a).vm } : State).setVm s₂.vm := rfl
      rw [e2] at this
      exact this
    have hf₂ : s₂.frames = .throwing q :: .java g :: U.frames.tail := hend
    have hW' : U.WarmedH s₂.vm := hW₂
    have hs₂ : s₂ = ((({ U with heap := s₂.heap, slotsUsed := s₂.slotsUsed } : State).setVm s₂.vm).setTop g).pushFrame (.throwing q) := by
      refine e3.trans ?_
      rw [hf₂, State.calling_eq h.top, State.setFrames_setFrames, State.pushFrame, State.frames_setTop _ hr', State.setTop_of_frames _ hr', State.setFrames_setFrames, hr]
      rfl
    have hsame : U.sameButNew ({ U with heap := s₂.heap, slotsUsed := s₂.slotsUsed } : State) L mc ms := by
      refine ⟨?_, q2, q3, q4, q5, q6⟩
      obtain ⟨t, ht, -⟩ := State.frames_cons hr
      show ({ U with heap := s₂.heap, slotsUsed := s₂.slotsUsed } : State) = { U.setFrames U.frames with heap := s₂.heap, slotsUsed := s₂.slotsUsed }
      rw [State.setFrames_self ht]
    subst hg
    refine Or.inr ⟨q, ⟨(({ U with heap := s₂.heap, slotsUsed := s₂.slotsUsed } : State).setVm s₂.vm), Ls ++ L, c0 + mc, s0 + ms⟩,
      ⟨X.admits, X.cas, X.clock, X.frames, X.room, X.hears, X.method, X.code, (X.here.setHeapUsed s₂.heap s₂.slotsUsed).setVm hW'.alike, X.tail, State.WarmedH.trans X.warmed hW', X.limits, X.bytes, X.same.trans (hsame.setVm s.vm)⟩,
      ⟨g, mk, s₂, L, E, ce, rfl, rfl, hx, hce, hcv, hcl, rfl, hL, rfl, rfl⟩, ?_⟩
    show Steps p.tables e below _ (((({ U with heap := s₂.heap, slotsUsed := s₂.slotsUsed } : State).setVm s₂.vm).setTop g).pushFrame (.throwing q))
    rw [← hs₂]
    exact hsteps
end
variable {p : Program} {l : Launch} {e : Env} {R : Room} {s : State} {m : MethodId} {args : Array Value} {below : List Frame} {meth : Method} {c : Code} {T : State} {H : Heap} {locs : List Loc} {cells slots : Nat}
theorem vx_callVX (X : Stand p l e R s m args below meth c T locs cells slots) (hexec : p.tables.exec = Jvm.exec) {own C : String} {index : Nat} {y : MethodName} {bytes : ByteArray} {maxL : Nat} {ret : Option FieldType} {hh : List (Nat × Nat × Nat × Nat)}
    (hown : s.vm.findClass own = some m.cls) (hlink : (Cond.methodLink own index y).before args s = true) (hinst : (Cond.instanceMethod y).before args s = true) (hsel : (Cond.selects C y y).before args s = true)
    (hcode : (Cond.codeWith y bytes maxL ret hh).before args s = true) (hy : y.cls ≠ "java/lang/invoke/MethodHandle" ∧ y.cls ≠ "java/lang/invoke/VarHandle")
    {W9 : Nat} {Pre : Pt → Array Value → Prop} {Post : Pt → Array Value → Option Value → Pt → Prop} {PostX : Pt → Array Value → Addr → Pt → Prop} (hK : vx_Back l R p e below s args y 3 W9 Pre Post PostX)
    {b : Addr} {cellB : Cell} (hcell : T.heap[b]? = some cellB) (hobj : cellB.vm.isStatics = false) (hcls : s.vm.findClass C = some cellB.cls)
    {g : JFrame} (hg : g.method = m) (hsize : g.locals.size = c.maxLocals) {argsL rest : List Value} (hlen : ∀ sig, parseMethodDescriptor y.desc = some sig → argsL.length = sig.parameters.length)
    (hstack : g.stack = argsL.reverse ++ .ref b :: rest) (hW : 2 * g.monitorRoom + (rest.map fun v => v.category).sum ≤ W9) (hdg : decode c.code g.pc = .ok (.invokevirtual index, 3))
    (hpre : ∀ vm₁, s.WarmedH vm₁ → Pre ⟨T.setVm vm₁, locs, cells, slots⟩ (Value.ref b :: argsL).toArray) :
    (∃ (v : Option Value) (vm₁ : Vm) (B : Pt), s.WarmedH vm₁ ∧ Stand p l e R s m args below meth c B.U B.locs B.cells B.slots ∧ Post ⟨T.setVm vm₁, locs, cells, slots⟩ (Value.ref b :: argsL).toArray v B ∧
      ∀ target, Steps p.tables e below (B.U.setTop { g with pc := g.pc + 3, stack := v.toList ++ rest }) target → Steps p.tables e below (T.setTop g) target) ∨
    (∃ (q : Addr) (vm₁ : Vm) (B : Pt), s.WarmedH vm₁ ∧ Stand p l e R s m args below meth c B.U B.locs B.cells B.slots ∧ PostX ⟨T.setVm vm₁, locs, cells, slots⟩ (Value.ref b :: argsL).toArray q B ∧
      Steps p.tables e below (T.setTop g) ((B.U.setTop { g with stack := rest }).pushFrame (.throwing q))) := by
  obtain ⟨mk, methM, hnamed, hmethM, hstM, habM⟩ := Cond.instanceMethod_spec hinst
  obtain ⟨m8, methM', cM, hn8, hmethM', -, -, -, -, -, -, hsigM⟩ := Cond.codeWith_spec hcode
  cases Option.some.inj (hn8.symm.trans hnamed)
  cases hmethM.symm.trans hmethM'
  obtain ⟨c2, r2, m2, q1, q2, q3, q4, kP, hkP, hkPi⟩ := Cond.selects_spec hsel
  cases hcls.symm.trans q1
  cases (State.methodFound?_of_named hnamed hy).symm.trans q2
  cases hnamed.symm.trans q3
  have hselP : selectMethod e.platform s.vm cellB.cls mk = .method mk := by rw [Launch.admits_selectMethod X.admits]; exact q4
  obtain ⟨vm₁, X₁, hstep₁⟩ := X.invokevirtual hexec hown hlink hnamed hmethM hstM hkP hkPi hy (a := b) (cell := cellB) hcell
    (fun z h => by rw [h] at hobj; cases hobj) hselP hmethM habM hkP hkPi (g := g) hg (argsL := argsL) (rest := rest) (hlen _ hsigM) hstack hdg
  rcases hK m meth c ⟨T.setVm vm₁, locs, cells, slots⟩ { g with stack := rest } (.invokevirtual index) mk (Value.ref b :: argsL).toArray X₁ hg hsize hdg hW (X₁.named hnamed) (hpre vm₁ X₁.warmed) with ⟨v, B, X', hpost, hsteps⟩ | ⟨q, B, X', hpost, hsteps⟩
  · exact Or.inl ⟨v, vm₁, B, X₁.warmed, X', hpost, fun target h => hstep₁ _ fun acts => by rw [doInvoke_state]; exact hsteps.trans h⟩
  · exact Or.inr ⟨q, vm₁, B, X₁.warmed, X', hpost, hstep₁ _ fun acts => by rw [doInvoke_state]; exact hsteps⟩
theorem vx_callSX (X : Stand p l e R s m args below meth c T locs cells slots) (hexec : p.tables.exec = Jvm.exec) {own : String} {index : Nat} {y : MethodName} {bytes : ByteArray} {maxL : Nat} {ret : Option FieldType} {hh : List (Nat × Nat × Nat × Nat)}
    (hown : s.vm.findClass own = some m.cls) (hlink : (Cond.methodLink own index y).before args s = true) (hstat : (Cond.static y).before args s = true) (hinit : (Cond.initialized y.cls).before args s = true)
    (hcode : (Cond.codeWith y bytes maxL ret hh).before args s = true) (hy : y.cls ≠ "java/lang/invoke/MethodHandle" ∧ y.cls ≠ "java/lang/invoke/VarHandle")
    {W9 : Nat} {Pre : Pt → Array Value → Prop} {Post : Pt → Array Value → Option Value → Pt → Prop} {PostX : Pt → Array Value → Addr → Pt → Prop} (hK : vx_Back l R p e below s args y 3 W9 Pre Post PostX)
    {g : JFrame} (hg : g.method = m) (hsize : g.locals.size = c.maxLocals) {argsL rest : List Value} (hlen : ∀ sig, parseMethodDescriptor y.desc = some sig → argsL.length = sig.parameters.length)
    (hstack : g.stack = argsL.reverse ++ rest) (hW : 2 * g.monitorRoom + (rest.map fun v => v.category).sum ≤ W9) (hdg : decode c.code g.pc = .ok (.invokestatic index, 3))
    (hpre : ∀ vm₁, s.WarmedH vm₁ → Pre ⟨T.setVm vm₁, locs, cells, slots⟩ argsL.toArray) :
    (∃ (v : Option Value) (vm₁ : Vm) (B : Pt), s.WarmedH vm₁ ∧ Stand p l e R s m args below meth c B.U B.locs B.cells B.slots ∧ Post ⟨T.setVm vm₁, locs, cells, slots⟩ argsL.toArray v B ∧
      ∀ target, Steps p.tables e below (B.U.setTop { g with pc := g.pc + 3, stack := v.toList ++ rest }) target → Steps p.tables e below (T.setTop g) target) ∨
    (∃ (q : Addr) (vm₁ : Vm) (B : Pt), s.WarmedH vm₁ ∧ Stand p l e R s m args below meth c B.U B.locs B.cells B.slots ∧ PostX ⟨T.setVm vm₁, locs, cells, slots⟩ argsL.toArray q B ∧
      Steps p.tables e below (T.setTop g) ((B.U.setTop { g with stack := rest }).pushFrame (.throwing q))) := by
  obtain ⟨mk, methM, cM, hnamed, hmethM, -, -, -, -, -, -, hsigM⟩ := Cond.codeWith_spec hcode
  have hstatic : methM.isStatic = true := Cond.static_spec hnamed hmethM hstat
  obtain ⟨kP, hkP, -⟩ := className_of_methodNamed hnamed
  have hinitP : kP.init = .initialized := Cond.initialized_spec (findClass_of_methodNamed hnamed) hkP hinit
  obtain ⟨vm₁, X₁, hstep₁⟩ := X.invokestatic hexec hown hlink hnamed hmethM hstatic hkP hinitP hy (g := g) hg (argsL := argsL) (rest := rest) (hlen _ hsigM) hstack hdg
  rcases hK m meth c ⟨T.setVm vm₁, locs, cells, slots⟩ { g with stack := rest } (.invokestatic index) mk argsL.toArray X₁ hg hsize hdg hW (X₁.named hnamed) (hpre vm₁ X₁.warmed) with ⟨v, B, X', hpost, hsteps⟩ | ⟨q, B, X', hpost, hsteps⟩
  · exact Or.inl ⟨v, vm₁, B, X₁.warmed, X', hpost, fun target h => hstep₁ _ fun acts => by rw [doInvoke_state]; exact hsteps.trans h⟩
  · exact Or.inr ⟨q, vm₁, B, X₁.warmed, X', hpost, hstep₁ _ fun acts => by rw [doInvoke_state]; exact hsteps⟩
theorem vx_callVW (X : Stand p l e R s m args below meth c T locs cells slots) (hexec : p.tables.exec = Jvm.exec) {own C : String} {index : Nat} {y : MethodName} {bytes : ByteArray} {maxL : Nat} {ret : Option FieldType} {hh : List (Nat × Nat × Nat × Nat)}
    (hown : s.vm.findClass own = some m.cls) (hlink : (Cond.methodLink own index y).before args s = true) (hinst : (Cond.instanceMethod y).before args s = true) (hsel : (Cond.selects C y y).before args s = true)
    (hcode : (Cond.codeWith y bytes maxL ret hh).before args s = true) (hy : y.cls ≠ "java/lang/invoke/MethodHandle" ∧ y.cls ≠ "java/lang/invoke/VarHandle")
    {W9 : Nat} {Pre : Pt → Array Value → Prop} {Post : Pt → Array Value → Option Value → Pt → Prop} (hK : Back l R p e below s args y 3 W9 Pre Post)
    {b : Addr} {cellB : Cell} (hcell : T.heap[b]? = some cellB) (hobj : cellB.vm.isStatics = false) (hcls : s.vm.findClass C = some cellB.cls)
    {g : JFrame} (hg : g.method = m) (hsize : g.locals.size = c.maxLocals) {argsL rest : List Value} (hlen : ∀ sig, parseMethodDescriptor y.desc = some sig → argsL.length = sig.parameters.length)
    (hstack : g.stack = argsL.reverse ++ .ref b :: rest) (hW : 2 * g.monitorRoom + (rest.map fun v => v.category).sum ≤ W9) (hdg : decode c.code g.pc = .ok (.invokevirtual index, 3))
    (hpre : ∀ vm₁, s.WarmedH vm₁ → Pre ⟨T.setVm vm₁, locs, cells, slots⟩ (Value.ref b :: argsL).toArray) :
    ∃ (v : Option Value) (vm₁ : Vm) (B : Pt), s.WarmedH vm₁ ∧ Stand p l e R s m args below meth c B.U B.locs B.cells B.slots ∧ Post ⟨T.setVm vm₁, locs, cells, slots⟩ (Value.ref b :: argsL).toArray v B ∧
      ∀ target, Steps p.tables e below (B.U.setTop { g with pc := g.pc + 3, stack := v.toList ++ rest }) target → Steps p.tables e below (T.setTop g) target := by
  obtain ⟨mk, methM, hnamed, hmethM, hstM, habM⟩ := Cond.instanceMethod_spec hinst
  obtain ⟨m8, methM', cM, hn8, hmethM', -, -, -, -, -, -, hsigM⟩ := Cond.codeWith_spec hcode
  cases Option.some.inj (hn8.symm.trans hnamed)
  cases hmethM.symm.trans hmethM'
  obtain ⟨c2, r2, m2, q1, q2, q3, q4, kP, hkP, hkPi⟩ := Cond.selects_spec hsel
  cases hcls.symm.trans q1
  cases (State.methodFound?_of_named hnamed hy).symm.trans q2
  cases hnamed.symm.trans q3
  have hselP : selectMethod e.platform s.vm cellB.cls mk = .method mk := by rw [Launch.admits_selectMethod X.admits]; exact q4
  obtain ⟨vm₁, X₁, hstep₁⟩ := X.invokevirtual hexec hown hlink hnamed hmethM hstM hkP hkPi hy (a := b) (cell := cellB) hcell
    (fun z h => by rw [h] at hobj; cases hobj) hselP hmethM habM hkP hkPi (g := g) hg (argsL := argsL) (rest := rest) (hlen _ hsigM) hstack hdg
  obtain ⟨v, B, X', hpost, hsteps⟩ := hK m meth c ⟨T.setVm vm₁, locs, cells, slots⟩ { g with stack := rest } (.invokevirtual index) mk (Value.ref b :: argsL).toArray X₁ hg hsize hdg hW (X₁.named hnamed) (hpre vm₁ X₁.warmed)
  exact ⟨v, vm₁, B, X₁.warmed, X', hpost, fun target h => hstep₁ _ fun acts => by rw [doInvoke_state]; exact hsteps.trans h⟩
abbrev vx_CVW (R : Room) (s : State) (args : Array Value) (own C : String) (index : Nat) (y : MethodName) (bytes : ByteArray) (maxL : Nat) (ret : Option FieldType) (hh : List (Nat × Nat × Nat × Nat)) (ws : List Cond) (rm : Room) (mc ms n : Nat) : Prop :=
  (rm.cells = mc ∧ rm.slots = ms ∧ rm.frames + 1 ≤ R.frames ∧ 8 + (maxL + 11) + rm.locals ≤ R.locals ∧ (∀ w ∈ ws, ∀ (a' : Array Value) (U : State), s.WarmedH U.vm → w.before a' U = true) ∧ Cond.codeWith y bytes maxL ret hh ∈ ws) ∧
  (Cond.codeWith y bytes maxL ret hh).before args s = true ∧ (Cond.initialized y.cls).before args s = true ∧ (y.cls ≠ "java/lang/invoke/MethodHandle" ∧ y.cls ≠ "java/lang/invoke/VarHandle") ∧
  (∀ sig, parseMethodDescriptor y.desc = some sig → n = sig.parameters.length) ∧ (Cond.methodLink own index y).before args s = true ∧ (Cond.instanceMethod y).before args s = true ∧ (Cond.selects C y y).before args s = true
theorem vx_cwVW {own C : String} {index maxL mc ms : Nat} {y : MethodName} {bytes : ByteArray} {ret : Option FieldType} {hh : List (Nat × Nat × Nat × Nat)} {Ts ws ws' : List Cond} {rm : Room} (n : Nat) (ht : ∀ w ∈ Ts, w.before args s = true) (hT : GoodIn Ts (wsV own index C y ws)) (hw : ws = Cond.codeWith y bytes maxL ret hh :: ws') (hrc : rm.cells = mc) (hrs : rm.slots = ms)
    (hd : y.cls = C ∧ y.cls ≠ "java/lang/invoke/MethodHandle" ∧ y.cls ≠ "java/lang/invoke/VarHandle" ∧ (parseMethodDescriptor y.desc).map (fun d => d.parameters.length) = some n) (hR : rm.frames + 1 ≤ R.frames ∧ 8 + (maxL + 11) + rm.locals ≤ R.locals) :
    vx_CVW R s args own C index y bytes maxL ret hh ws rm mc ms n := by
  obtain ⟨hC, hd⟩ := hd
  subst hC
  have ok : ∀ w ∈ wsV own index y.cls y ws, w.before args s = true := fun w h => ht w (hT w h).1
  have hG : GoodIn Ts ws := fun w h => hT w (by unfold wsV; exact List.mem_append_right _ h)
  have hc : Cond.codeWith y bytes maxL ret hh ∈ ws := by rw [hw]; exact List.mem_cons_self
  refine ⟨⟨hrc, hrs, hR.1, hR.2, pay_in ht hG, hc⟩, ht _ (hG _ hc).1, ok _ (by simp [wsV]), ⟨hd.1, hd.2.1⟩, fun sig h => ?_, ok _ (by simp [wsV]), ok _ (by simp [wsV]), ok _ (by simp [wsV])⟩
  have h2 := hd.2.2
  rw [h] at h2
  exact (Option.some.inj h2).symm
theorem vx_runVW {y : MethodName} {bytes cc : ByteArray} {maxL nL mc ms n index : Nat} {ret : Option FieldType} {hh : List (Nat × Nat × Nat × Nat)} {ws : List Cond} {rm : Room} {Pc : Array Value → State → Prop} {Qc : Array Value → State → Outcome → State → Prop} {free : Addr → Prop} {Ts : List Cond} {own C : String} {b : Addr} {As rest : List Value} {g : JFrame}
    (S : CallFix p m c cc nL s args Ts own) (hM : Met l y ws rm Pc Qc mc ms free) (cw : vx_CVW R s args own C index y bytes maxL ret hh ws rm mc ms n) (hp : PreV s H C b Pc As)
    (hg : g.method = m) (hn : As.length = n) (hsize : g.locals.size = nL) (hstack : g.stack = As.reverse ++ .ref b :: rest) (hW : 2 * g.monitorRoom + (rest.map fun v => v.category).sum ≤ 8) (hdg : decode cc g.pc = .ok (.invokevirtual index, 3)) (hf : cells + mc ≤ R.cells ∧ slots + ms ≤ R.slots) :
    va_Run p l e R s m args below meth c H locs cells slots mc ms g rest (Qc (Value.ref b :: As).toArray) free := by
  obtain ⟨⟨hrc, hrs, hfr, hlo, hws, hcw⟩, hcode, hini, hy, hlen, hl, hin, hse⟩ := cw
  have hK : Back l R p e below s args y 3 8 (PreOf R mc ms Pc) (PostOf Qc mc ms free) := va_backW (hh := hh) (bytes := bytes) (maxL := maxL) (ret := ret) hM hp.1 hrc hrs hfr hlo hws hcw (fun a' U hW => word_at hW (Or.inl (by first | rfl | simp [Cond.onTables, Cond.keeps, Cond.steady])) hini)
  obtain ⟨hx, hb, hml, ho, -⟩ := S
  obtain ⟨-, ⟨cellB, hcB, hoB, hclB⟩, hPc⟩ := hp
  intro T hT X
  obtain ⟨v, vm₁, ⟨U', l2, c2, s2⟩, hW₁, X', ⟨g', mk, t, L, e1, e2, hq, h1, hL, h2, h3⟩, st⟩ := vx_callVW X hx (C := C) (hh := hh) (bytes := bytes) (maxL := maxL) (ret := ret) ho hl hin hse hcode hy hK (by rw [hT]; exact hcB) hoB hclB hg (hsize.trans hml.symm) (argsL := As) (rest := rest) (fun sig h => hn.trans (hlen sig h)) hstack hW (by rw [hb]; exact hdg)
    (fun vm₁ hW₁ => ⟨hf.1, hf.2, hPc (T.setVm vm₁) hT hW₁⟩)
  dsimp only [Pt.U, Pt.locs, Pt.cells, Pt.slots] at X' e1 e2 h1 h2 h3 st
  subst h1; subst h2; subst h3
  exact ⟨v, (T.setVm vm₁).calling g' mk (Value.ref b :: As).toArray, t, U', L, hT, X', hL, e1, e2, hq, st⟩
section
variable {y : MethodName} {bytes cc : ByteArray} {maxL nL mc ms n index : Nat} {ret : Option FieldType} {ws : List Cond} {rm : Room} {Pc : Array Value → State → Prop} {Qc : Array Value → State → Outcome → State → Prop} {XC : String → State → State → Prop} {free : Addr → Prop} {Ts : List Cond} {own C : String} {b : Addr} {As rest : List Value} {g : JFrame}
theorem vx_runVX {hh : List (Nat × Nat × Nat × Nat)} (S : CallFix p m c cc nL s args Ts own) (hM : vx_Met l y ws rm Pc Qc XC mc ms free) (cw : vx_CVW R s args own C index y bytes maxL ret hh ws rm mc ms n) (hp : PreV s H C b Pc As)
    (hg : g.method = m) (hn : As.length = n) (hsize : g.locals.size = nL) (hstack : g.stack = As.reverse ++ .ref b :: rest) (hW : 2 * g.monitorRoom + (rest.map fun v => v.category).sum ≤ 8) (hdg : decode cc g.pc = .ok (.invokevirtual index, 3)) (hf : cells + mc ≤ R.cells ∧ slots + ms ≤ R.slots) :
    vx_Run p l e R s m args below meth c H locs cells slots mc ms g rest (Qc (Value.ref b :: As).toArray) XC free := by
  obtain ⟨⟨hrc, hrs, hfr, hlo, hws, hcw⟩, hcode, hini, hy, hlen, hl, hin, hse⟩ := cw
  have hK : vx_Back l R p e below s args y 3 8 (PreOf R mc ms Pc) (PostOf Qc mc ms free) (vx_Post XC mc ms free) := vx_backW (hh := hh) (bytes := bytes) (maxL := maxL) (ret := ret) hM hp.1 hrc hrs hfr hlo hws hcw (fun a' U hW => word_at hW (Or.inl (by first | rfl | simp [Cond.onTables, Cond.keeps, Cond.steady])) hini)
  obtain ⟨hx, hb, hml, ho, -⟩ := S
  obtain ⟨-, ⟨cellB, hcB, hoB, hclB⟩, hPc⟩ := hp
  intro T hT X
  rcases vx_callVX X hx (C := C) (hh := hh) (bytes := bytes) (maxL := maxL) (ret := ret) ho hl hin hse hcode hy hK (by rw [hT]; exact hcB) hoB hclB hg (hsize.trans hml.symm) (argsL := As) (rest := rest) (fun sig h => hn.trans (hlen sig h)) hstack hW (by rw [hb]; exact hdg)
    (fun vm₁ hW₁ => ⟨hf.1, hf.2, hPc (T.setVm vm₁) hT hW₁⟩) with ⟨v, vm₁, ⟨U', l2, c2, s2⟩, hW₁, X', ⟨g', mk, t, L, e1, e2, hq, h1, hL, h2, h3⟩, st⟩ | ⟨q, vm₁, ⟨U', l2, c2, s2⟩, hW₁, X', ⟨g', mk, t, L, E, ce, e1, e2, hq, hce, hcv, hcl, h1, hL, h2, h3⟩, st⟩
  · dsimp only [Pt.U, Pt.locs, Pt.cells, Pt.slots] at X' e1 e2 h1 h2 h3 st
    subst h1; subst h2; subst h3
    exact Or.inl ⟨v, (T.setVm vm₁).calling g' mk (Value.ref b :: As).toArray, t, U', L, hT, X', hL, e1, e2, hq, st⟩
  · dsimp only [Pt.U, Pt.locs, Pt.cells, Pt.slots] at X' e1 e2 h1 h2 h3 st hcl
    subst h1; subst h2; subst h3
    exact Or.inr ⟨q, (T.setVm vm₁).calling g' mk (Value.ref b :: As).toArray, t, U', L, E, ce, hT, X', hL, e1, e2, hq, hce, hcv, vx_cls hW₁ hcl, st⟩
theorem vx_runSX {hh : List (Nat × Nat × Nat × Nat)} (S : CallFix p m c cc nL s args Ts own) (hM : vx_Met l y ws rm Pc Qc XC mc ms free) (cw : vx_CSW R s args own index y bytes maxL ret hh ws rm mc ms n) (hp : PreS s H Pc As)
    (hg : g.method = m) (hn : As.length = n) (hsize : g.locals.size = nL) (hstack : g.stack = As.reverse ++ rest) (hW : 2 * g.monitorRoom + (rest.map fun v => v.category).sum ≤ 8) (hdg : decode cc g.pc = .ok (.invokestatic index, 3)) (hf : cells + mc ≤ R.cells ∧ slots + ms ≤ R.slots) :
    vx_Run p l e R s m args below meth c H locs cells slots mc ms g rest (Qc As.toArray) XC free := by
  obtain ⟨⟨hrc, hrs, hfr, hlo, hws, hcw⟩, hcode, hini, hy, hlen, hl, hstt⟩ := cw
  have hK : vx_Back l R p e below s args y 3 8 (PreOf R mc ms Pc) (PostOf Qc mc ms free) (vx_Post XC mc ms free) := vx_backW (hh := hh) (bytes := bytes) (maxL := maxL) (ret := ret) hM hp.1 hrc hrs hfr hlo hws hcw (fun a' U hW => word_at hW (Or.inl (by first | rfl | simp [Cond.onTables, Cond.keeps, Cond.steady])) hini)
  obtain ⟨hx, hb, hml, ho, -⟩ := S
  intro T hT X
  rcases vx_callSX X hx (hh := hh) (bytes := bytes) (maxL := maxL) (ret := ret) ho hl hstt hini hcode hy hK hg (hsize.trans hml.symm) (argsL := As) (rest := rest) (fun sig h => hn.trans (hlen sig h)) hstack hW (by rw [hb]; exact hdg)
    (fun vm₁ hW₁ => ⟨hf.1, hf.2, hp.2 (T.setVm vm₁) hT hW₁⟩) with ⟨v, vm₁, ⟨U', l2, c2, s2⟩, hW₁, X', ⟨g', mk, t, L, e1, e2, hq, h1, hL, h2, h3⟩, st⟩ | ⟨q, vm₁, ⟨U', l2, c2, s2⟩, hW₁, X', ⟨g', mk, t, L, E, ce, e1, e2, hq, hce, hcv, hcl, h1, hL, h2, h3⟩, st⟩
  · dsimp only [Pt.U, Pt.locs, Pt.cells, Pt.slots] at X' e1 e2 h1 h2 h3 st
    subst h1; subst h2; subst h3
    exact Or.inl ⟨v, (T.setVm vm₁).calling g' mk As.toArray, t, U', L, hT, X', hL, e1, e2, hq, st⟩
  · dsimp only [Pt.U, Pt.locs, Pt.cells, Pt.slots] at X' e1 e2 h1 h2 h3 st hcl
    subst h1; subst h2; subst h3
    exact Or.inr ⟨q, (T.setVm vm₁).calling g' mk As.toArray, t, U', L, E, ce, hT, X', hL, e1, e2, hq, hce, hcv, vx_cls hW₁ hcl, st⟩
end
end VXH
theorem vx_ofWH {l : Launch} {y : MethodName} {ws ws' : List Cond} {rm : Room} {Pc : Array Value → State → Prop} {Qc : Array Value → State → Outcome → State → Prop} {XC : String → State → State → Prop} {mc ms : Nat} {free : Addr → Prop} {cc : ByteArray} {maxL : Nat} {ret : Option FieldType} {hh : List (Nat × Nat × Nat × Nat)}
    (hy : plainName y.cls = true) (hw : ws = Cond.codeWith y cc maxL ret hh :: ws')
    (body : ∀ p e s m args below meth c s₁, BodyLoose p l y (headSpec ws rm) cc maxL ret e s m args below meth c s₁ → c.maxLocals = maxL → Pc args s →
      W p l e (headSpec ws rm).room s m args below meth c s.heap [] 0 0 (vx_MQ below Qc XC args s mc ms free) (entryFrame m args maxL)) : vx_Met l y ws rm Pc Qc XC mc ms free := by
  refine MetFree.of_bodyS (code := cc) (maxLocals := maxL) (ret := ret) hy ?_ ?_
  · intro args s m h hn
    obtain ⟨m9, meth, c, hn9, h1, h2, h3, h4, -, h5, h6, -⟩ := Cond.codeWith_spec (atoms_spec (ws := ws) h _ (by rw [hw]; exact List.mem_cons_self))
    cases hn.symm.trans hn9
    exact ⟨meth, c, h1, h2, h3, h4, h5, h6⟩
  · intro p e s m args below meth c s₁ B hml hP _
    have hh0 : s₁.heap = s.heap := by rw [B.state]; rfl
    obtain ⟨t, a1, o, b1, b2, b3⟩ := body p e s m args below meth c s₁ B hml hP s₁ hh0 (Stand.of_body B)
    exact ⟨t, o, a1, b1, b2, b3⟩
/-! ===== END ===== -/
end
section
def RX0 : String := "FormOffice$Account"
def TX0 : u_T := fun k => match k with
  | 0 => ("FormOffice$Account", "kinds", "[I", true)
  | 1 => ("FormOffice$Account", "years", "[I", true)
  | 2 => ("FormOffice$Account", "amounts", "[J", true)
  | 3 => ("FormOffice$Account", "size", "I", false)
  | _ => ("FormOffice$Account", "sum", "J", false)
def tyX0 : Nat → FieldType := fun k => match k with
  | 0 => .array .int
  | 1 => .array .int
  | 2 => .array .long
  | 3 => .int
  | _ => .long
abbrev wsX00 : List Cond := u_ws RX0 TX0 5
theorem nmX0 : ∀ a, a < 5 → ∀ b, b < 5 → a ≠ b → (TX0 a).2.1 ≠ (TX0 b).2.1 := by decide +kernel
theorem tyX0_ok : ∀ k, k < 5 → parseFieldDescriptor (TX0 k).2.2.1 = some (tyX0 k) := by decide +kernel
abbrev cX0_init : ByteArray := prog_2_method_1_code
def yX0_init : MethodName := ⟨RX0, "<init>", "()V"⟩
abbrev cX0_isFull : ByteArray := prog_2_method_2_code
def yX0_isFull : MethodName := ⟨RX0, "isFull", "()Z"⟩
abbrev cX0_post : ByteArray := prog_2_method_3_code
def yX0_post : MethodName := ⟨RX0, "post", "(IIJ)V"⟩
abbrev cX0_interestFor : ByteArray := prog_2_method_4_code
def yX0_interestFor : MethodName := ⟨RX0, "interestFor", "(I)J"⟩
def RX1 : String := "FormOffice$Calculator"
def TX1 : u_T := fun k => match k with
  | 0 => ("FormOffice$Calculator", "tables", "[LFormOffice$Table;", true)
  | 1 => ("FormOffice$Calculator", "noValues", "[J", true)
  | 2 => ("FormOffice$Calculator", "text", "LFormOffice$Text;", false)
  | 3 => ("FormOffice$Calculator", "at", "I", false)
  | 4 => ("FormOffice$Calculator", "wrong", "Z", false)
  | 5 => ("FormOffice$Calculator", "values", "[J", false)
  | 6 => ("FormOffice$Calculator", "before", "[J", false)
  | 7 => ("FormOffice$Calculator", "names", "I", false)
  | _ => ("FormOffice$Calculator", "overflow", "Z", false)
def tyX1 : Nat → FieldType := fun k => match k with
  | 0 => .array (.object "FormOffice$Table")
  | 1 => .array .long
  | 2 => .object "FormOffice$Text"
  | 3 => .int
  | 4 => .boolean
  | 5 => .array .long
  | 6 => .array .long
  | 7 => .int
  | _ => .boolean
abbrev wsX10 : List Cond := u_ws RX1 TX1 9
theorem nmX1 : ∀ a, a < 9 → ∀ b, b < 9 → a ≠ b → (TX1 a).2.1 ≠ (TX1 b).2.1 := by decide +kernel
theorem tyX1_ok : ∀ k, k < 9 → parseFieldDescriptor (TX1 k).2.2.1 = some (tyX1 k) := by decide +kernel
abbrev cX1_init : ByteArray := prog_3_method_1_code
def yX1_init : MethodName := ⟨RX1, "<init>", "()V"⟩
abbrev cX1_isFormula : ByteArray := prog_3_method_2_code
def yX1_isFormula : MethodName := ⟨RX1, "isFormula", "(LFormOffice$Text;)Z"⟩
abbrev cX1_work : ByteArray := prog_3_method_3_code
def yX1_work : MethodName := ⟨RX1, "work", "(LFormOffice$Text;[J[J)J"⟩
abbrev cX1_begin : ByteArray := prog_3_method_4_code
def yX1_begin : MethodName := ⟨RX1, "begin", "(LFormOffice$Text;[J[J)V"⟩
abbrev cX1_readFormula : ByteArray := prog_3_method_5_code
def yX1_readFormula : MethodName := ⟨RX1, "readFormula", "(IIZ)J"⟩
abbrev cX1_readSum : ByteArray := prog_3_method_6_code
def yX1_readSum : MethodName := ⟨RX1, "readSum", "(IIZ)J"⟩
abbrev cX1_readPart : ByteArray := prog_3_method_7_code
def yX1_readPart : MethodName := ⟨RX1, "readPart", "(IIZ)J"⟩
abbrev cX1_readUnit : ByteArray := prog_3_method_8_code
def yX1_readUnit : MethodName := ⟨RX1, "readUnit", "(IIZ)J"⟩
abbrev cX1_readName : ByteArray := prog_3_method_9_code
def yX1_readName : MethodName := ⟨RX1, "readName", "(I)J"⟩
abbrev cX1_readNumber : ByteArray := prog_3_method_10_code
def yX1_readNumber : MethodName := ⟨RX1, "readNumber", "(I)J"⟩
abbrev cX1_readInBrackets : ByteArray := prog_3_method_11_code
def yX1_readInBrackets : MethodName := ⟨RX1, "readInBrackets", "(IIZ)J"⟩
abbrev cX1_readOneOfTwo : ByteArray := prog_3_method_12_code
def yX1_readOneOfTwo : MethodName := ⟨RX1, "readOneOfTwo", "(IIZ)J"⟩
abbrev cX1_readTable : ByteArray := prog_3_method_13_code
def yX1_readTable : MethodName := ⟨RX1, "readTable", "(IIZ)J"⟩
abbrev cX1_next : ByteArray := prog_3_method_14_code
def yX1_next : MethodName := ⟨RX1, "next", "()C"⟩
abbrev cX1_take : ByteArray := prog_3_method_15_code
def yX1_take : MethodName := ⟨RX1, "take", "(C)Z"⟩
abbrev cX1_expect : ByteArray := prog_3_method_16_code
def yX1_expect : MethodName := ⟨RX1, "expect", "(C)V"⟩
abbrev cX1_refuse : ByteArray := prog_3_method_17_code
def yX1_refuse : MethodName := ⟨RX1, "refuse", "()J"⟩
abbrev cX1_checked : ByteArray := prog_3_method_18_code
def yX1_checked : MethodName := ⟨RX1, "checked", "(JZ)J"⟩
abbrev cX1_isDigit : ByteArray := prog_3_method_19_code
def yX1_isDigit : MethodName := ⟨RX1, "isDigit", "(C)Z"⟩
def RX2 : String := "FormOffice$Return"
def TX2 : u_T := fun k => match k with
  | 0 => ("FormOffice$Return", "numbers", "[I", true)
  | 1 => ("FormOffice$Return", "values", "[J", true)
  | 2 => ("FormOffice$Return", "due", "J", false)
  | _ => ("FormOffice$Return", "wasAssessed", "Z", false)
def tyX2 : Nat → FieldType := fun k => match k with
  | 0 => .array .int
  | 1 => .array .long
  | 2 => .long
  | _ => .boolean
abbrev wsX20 : List Cond := u_ws RX2 TX2 4
theorem nmX2 : ∀ a, a < 4 → ∀ b, b < 4 → a ≠ b → (TX2 a).2.1 ≠ (TX2 b).2.1 := by decide +kernel
theorem tyX2_ok : ∀ k, k < 4 → parseFieldDescriptor (TX2 k).2.2.1 = some (tyX2 k) := by decide +kernel
abbrev cX2_init : ByteArray := prog_4_method_1_code
def yX2_init : MethodName := ⟨RX2, "<init>", "()V"⟩
abbrev cX2_keep : ByteArray := prog_4_method_2_code
def yX2_keep : MethodName := ⟨RX2, "keep", "([JJ)V"⟩
def RX3 : String := "FormOffice$Table"
def TX3 : u_T := fun k => match k with
  | 0 => ("FormOffice$Table", "beginnings", "[I", true)
  | 1 => ("FormOffice$Table", "rates", "[I", true)
  | 2 => ("FormOffice$Table", "size", "I", false)
  | _ => ("FormOffice$Table", "rounding", "I", false)
def tyX3 : Nat → FieldType := fun k => match k with
  | 0 => .array .int
  | 1 => .array .int
  | 2 => .int
  | _ => .int
abbrev wsX30 : List Cond := u_ws RX3 TX3 4
theorem nmX3 : ∀ a, a < 4 → ∀ b, b < 4 → a ≠ b → (TX3 a).2.1 ≠ (TX3 b).2.1 := by decide +kernel
theorem tyX3_ok : ∀ k, k < 4 → parseFieldDescriptor (TX3 k).2.2.1 = some (tyX3 k) := by decide +kernel
abbrev cX3_init : ByteArray := prog_5_method_1_code
def yX3_init : MethodName := ⟨RX3, "<init>", "()V"⟩
abbrev cX3_isFull : ByteArray := prog_5_method_2_code
def yX3_isFull : MethodName := ⟨RX3, "isFull", "()Z"⟩
abbrev cX3_allowsBeginning : ByteArray := prog_5_method_3_code
def yX3_allowsBeginning : MethodName := ⟨RX3, "allowsBeginning", "(I)Z"⟩
abbrev cX3_append : ByteArray := prog_5_method_4_code
def yX3_append : MethodName := ⟨RX3, "append", "(II)V"⟩
abbrev cX3_makeOf : ByteArray := prog_5_method_5_code
def yX3_makeOf : MethodName := ⟨RX3, "makeOf", "(J)J"⟩
abbrev cX3_rounded : ByteArray := prog_5_method_6_code
def yX3_rounded : MethodName := ⟨RX3, "rounded", "(J)J"⟩
def RX4 : String := "FormOffice$Text"
def TX4 : u_T := fun k => match k with
  | 0 => ("FormOffice$Text", "characters", "[C", true)
  | _ => ("FormOffice$Text", "length", "I", false)
def tyX4 : Nat → FieldType := fun k => match k with
  | 0 => .array .char
  | _ => .int
abbrev wsX40 : List Cond := u_ws RX4 TX4 2
theorem nmX4 : ∀ a, a < 2 → ∀ b, b < 2 → a ≠ b → (TX4 a).2.1 ≠ (TX4 b).2.1 := by decide +kernel
theorem tyX4_ok : ∀ k, k < 2 → parseFieldDescriptor (TX4 k).2.2.1 = some (tyX4 k) := by decide +kernel
abbrev cX4_init : ByteArray := prog_6_method_1_code
def yX4_init : MethodName := ⟨RX4, "<init>", "()V"⟩
abbrev cX4_isFull : ByteArray := prog_6_method_2_code
def yX4_isFull : MethodName := ⟨RX4, "isFull", "()Z"⟩
abbrev cX4_append : ByteArray := prog_6_method_3_code
def yX4_append : MethodName := ⟨RX4, "append", "(C)V"⟩
abbrev cX4_copy : ByteArray := prog_6_method_4_code
def yX4_copy : MethodName := ⟨RX4, "copy", "(LFormOffice$Text;)V"⟩
def RX5 : String := "FormOffice"
def TX5 : u_T := fun k => match k with
  | 0 => ("FormOffice", "pad", "LFormOffice$Text;", true)
  | 1 => ("FormOffice", "formulas", "[LFormOffice$Text;", true)
  | 2 => ("FormOffice", "needs", "[I", true)
  | 3 => ("FormOffice", "returns", "[LFormOffice$Return;", true)
  | 4 => ("FormOffice", "accounts", "[LFormOffice$Account;", true)
  | 5 => ("FormOffice", "calculator", "LFormOffice$Calculator;", true)
  | 6 => ("FormOffice", "arranged", "[I", true)
  | 7 => ("FormOffice", "working", "[J", true)
  | 8 => ("FormOffice", "nothingBefore", "[J", true)
  | 9 => ("FormOffice", "totalLine", "I", false)
  | _ => ("FormOffice", "interestRate", "I", false)
def tyX5 : Nat → FieldType := fun k => match k with
  | 0 => .object "FormOffice$Text"
  | 1 => .array (.object "FormOffice$Text")
  | 2 => .array .int
  | 3 => .array (.object "FormOffice$Return")
  | 4 => .array (.object "FormOffice$Account")
  | 5 => .object "FormOffice$Calculator"
  | 6 => .array .int
  | 7 => .array .long
  | 8 => .array .long
  | 9 => .int
  | _ => .int
abbrev wsX50 : List Cond := u_ws RX5 TX5 11
theorem nmX5 : ∀ a, a < 11 → ∀ b, b < 11 → a ≠ b → (TX5 a).2.1 ≠ (TX5 b).2.1 := by decide +kernel
theorem tyX5_ok : ∀ k, k < 11 → parseFieldDescriptor (TX5 k).2.2.1 = some (tyX5 k) := by decide +kernel
abbrev cX5_init : ByteArray := prog_1_method_1_code
def yX5_init : MethodName := ⟨RX5, "<init>", "()V"⟩
abbrev cX5_type : ByteArray := prog_1_method_2_code
def yX5_type : MethodName := ⟨RX5, "type", "(C)Z"⟩
abbrev cX5_clear : ByteArray := prog_1_method_3_code
def yX5_clear : MethodName := ⟨RX5, "clear", "()I"⟩
abbrev cX5_define : ByteArray := prog_1_method_4_code
def yX5_define : MethodName := ⟨RX5, "define", "(I)I"⟩
abbrev cX5_input : ByteArray := prog_1_method_5_code
def yX5_input : MethodName := ⟨RX5, "input", "(I)Z"⟩
abbrev cX5_total : ByteArray := prog_1_method_6_code
def yX5_total : MethodName := ⟨RX5, "total", "(I)I"⟩
abbrev cX5_bracket : ByteArray := prog_1_method_7_code
def yX5_bracket : MethodName := ⟨RX5, "bracket", "(III)I"⟩
abbrev cX5_reset : ByteArray := prog_1_method_8_code
def yX5_reset : MethodName := ⟨RX5, "reset", "(II)I"⟩
abbrev cX5_order : ByteArray := prog_1_method_9_code
def yX5_order : MethodName := ⟨RX5, "order", "(I)I"⟩
abbrev cX5_file : ByteArray := prog_1_method_10_code
def yX5_file : MethodName := ⟨RX5, "file", "(IIII)I"⟩
abbrev cX5_assess : ByteArray := prog_1_method_11_code
def yX5_assess : MethodName := ⟨RX5, "assess", "(II)J"⟩
abbrev cX5_value : ByteArray := prog_1_method_12_code
def yX5_value : MethodName := ⟨RX5, "value", "(III)J"⟩
abbrev cX5_share : ByteArray := prog_1_method_13_code
def yX5_share : MethodName := ⟨RX5, "share", "(III)D"⟩
abbrev cX5_pay : ByteArray := prog_1_method_14_code
def yX5_pay : MethodName := ⟨RX5, "pay", "(II)J"⟩
abbrev cX5_interest : ByteArray := prog_1_method_15_code
def yX5_interest : MethodName := ⟨RX5, "interest", "(I)I"⟩
abbrev cX5_pass : ByteArray := prog_1_method_16_code
def yX5_pass : MethodName := ⟨RX5, "pass", "(I)I"⟩
abbrev cX5_balance : ByteArray := prog_1_method_17_code
def yX5_balance : MethodName := ⟨RX5, "balance", "(I)J"⟩
abbrev cX5_posting : ByteArray := prog_1_method_18_code
def yX5_posting : MethodName := ⟨RX5, "posting", "(III)J"⟩
abbrev cX5_requireLine : ByteArray := prog_1_method_19_code
def yX5_requireLine : MethodName := ⟨RX5, "requireLine", "(I)V"⟩
abbrev cX5_requireTable : ByteArray := prog_1_method_20_code
def yX5_requireTable : MethodName := ⟨RX5, "requireTable", "(I)V"⟩
abbrev cX5_requireTaxpayer : ByteArray := prog_1_method_21_code
def yX5_requireTaxpayer : MethodName := ⟨RX5, "requireTaxpayer", "(I)V"⟩
abbrev cX5_requireReturn : ByteArray := prog_1_method_22_code
def yX5_requireReturn : MethodName := ⟨RX5, "requireReturn", "(II)V"⟩
abbrev cX5_requireAssessed : ByteArray := prog_1_method_23_code
def yX5_requireAssessed : MethodName := ⟨RX5, "requireAssessed", "(II)V"⟩
abbrev cX5_returnOf : ByteArray := prog_1_method_24_code
def yX5_returnOf : MethodName := ⟨RX5, "returnOf", "(II)LFormOffice$Return;"⟩
abbrev cX5_hasFormula : ByteArray := prog_1_method_25_code
def yX5_hasFormula : MethodName := ⟨RX5, "hasFormula", "(I)Z"⟩
abbrev cX5_arrangeLines : ByteArray := prog_1_method_26_code
def yX5_arrangeLines : MethodName := ⟨RX5, "arrangeLines", "()I"⟩
abbrev cX5_lowestReady : ByteArray := prog_1_method_27_code
def yX5_lowestReady : MethodName := ⟨RX5, "lowestReady", "(I)I"⟩
abbrev cX5_workOut : ByteArray := prog_1_method_28_code
def yX5_workOut : MethodName := ⟨RX5, "workOut", "(LFormOffice$Return;[J)Z"⟩
abbrev cX5_carriesToEven : ByteArray := prog_1_method_29_code
def yX5_carriesToEven : MethodName := ⟨RX5, "carriesToEven", "(JJJ)Z"⟩
def RX6 : String := "FormOfficeModel"
def TX6 : u_T := fun k => match k with
  | 0 => ("FormOfficeModel", "thrown", "I", false)
  | 1 => ("FormOfficeModel", "pad", "[I", true)
  | 2 => ("FormOfficeModel", "length", "I", false)
  | 3 => ("FormOfficeModel", "formula", "[Z", true)
  | 4 => ("FormOfficeModel", "needs", "[I", true)
  | 5 => ("FormOfficeModel", "steps", "[I", true)
  | 6 => ("FormOfficeModel", "step", "[I", true)
  | 7 => ("FormOfficeModel", "with", "[I", true)
  | 8 => ("FormOfficeModel", "totalLine", "I", false)
  | 9 => ("FormOfficeModel", "brackets", "[I", true)
  | 10 => ("FormOfficeModel", "begins", "[I", true)
  | 11 => ("FormOfficeModel", "rates", "[I", true)
  | 12 => ("FormOfficeModel", "rounding", "[I", true)
  | 13 => ("FormOfficeModel", "filed", "[I", true)
  | 14 => ("FormOfficeModel", "assessed", "[Z", true)
  | 15 => ("FormOfficeModel", "values", "[J", true)
  | 16 => ("FormOfficeModel", "totals", "[J", true)
  | 17 => ("FormOfficeModel", "interestRate", "I", false)
  | 18 => ("FormOfficeModel", "postings", "[I", true)
  | 19 => ("FormOfficeModel", "kinds", "[I", true)
  | 20 => ("FormOfficeModel", "years", "[I", true)
  | 21 => ("FormOfficeModel", "amounts", "[J", true)
  | 22 => ("FormOfficeModel", "at", "I", false)
  | 23 => ("FormOfficeModel", "signs", "I", false)
  | 24 => ("FormOfficeModel", "sign", "[I", true)
  | 25 => ("FormOfficeModel", "mend", "[I", true)
  | 26 => ("FormOfficeModel", "made", "I", false)
  | 27 => ("FormOfficeModel", "lines", "I", false)
  | 28 => ("FormOfficeModel", "newStep", "[I", true)
  | 29 => ("FormOfficeModel", "newWith", "[I", true)
  | 30 => ("FormOfficeModel", "places", "[I", true)
  | 31 => ("FormOfficeModel", "worked", "[J", true)
  | 32 => ("FormOfficeModel", "depth", "I", false)
  | _ => ("FormOfficeModel", "stack", "[J", true)
def tyX6 : Nat → FieldType := fun k => match k with
  | 0 => .int
  | 1 => .array .int
  | 2 => .int
  | 3 => .array .boolean
  | 4 => .array .int
  | 5 => .array .int
  | 6 => .array .int
  | 7 => .array .int
  | 8 => .int
  | 9 => .array .int
  | 10 => .array .int
  | 11 => .array .int
  | 12 => .array .int
  | 13 => .array .int
  | 14 => .array .boolean
  | 15 => .array .long
  | 16 => .array .long
  | 17 => .int
  | 18 => .array .int
  | 19 => .array .int
  | 20 => .array .int
  | 21 => .array .long
  | 22 => .int
  | 23 => .int
  | 24 => .array .int
  | 25 => .array .int
  | 26 => .int
  | 27 => .int
  | 28 => .array .int
  | 29 => .array .int
  | 30 => .array .int
  | 31 => .array .long
  | 32 => .int
  | _ => .array .long
abbrev wsX60 : List Cond := u_ws RX6 TX6 34
theorem nmX6 : ∀ a, a < 34 → ∀ b, b < 34 → a ≠ b → (TX6 a).2.1 ≠ (TX6 b).2.1 := by decide +kernel
theorem tyX6_ok : ∀ k, k < 34 → parseFieldDescriptor (TX6 k).2.2.1 = some (tyX6 k) := by decide +kernel
abbrev cX6_init : ByteArray := prog_8_method_1_code
def yX6_init : MethodName := ⟨RX6, "<init>", "()V"⟩
abbrev cX6_thrown : ByteArray := prog_8_method_2_code
def yX6_thrown : MethodName := ⟨RX6, "thrown", "()I"⟩
abbrev cX6_refuse : ByteArray := prog_8_method_3_code
def yX6_refuse : MethodName := ⟨RX6, "refuse", "(I)I"⟩
abbrev cX6_in : ByteArray := prog_8_method_4_code
def yX6_in : MethodName := ⟨RX6, "in", "(JJJ)Z"⟩
abbrev cX6_isDigit : ByteArray := prog_8_method_5_code
def yX6_isDigit : MethodName := ⟨RX6, "isDigit", "(I)Z"⟩
abbrev cX6_isName : ByteArray := prog_8_method_6_code
def yX6_isName : MethodName := ⟨RX6, "isName", "(I)Z"⟩
abbrev cX6_type : ByteArray := prog_8_method_7_code
def yX6_type : MethodName := ⟨RX6, "type", "(C)Z"⟩
abbrev cX6_clear : ByteArray := prog_8_method_8_code
def yX6_clear : MethodName := ⟨RX6, "clear", "()I"⟩
abbrev cX6_look : ByteArray := prog_8_method_9_code
def yX6_look : MethodName := ⟨RX6, "look", "(I)I"⟩
abbrev cX6_make : ByteArray := prog_8_method_10_code
def yX6_make : MethodName := ⟨RX6, "make", "(II)V"⟩
abbrev cX6_put : ByteArray := prog_8_method_11_code
def yX6_put : MethodName := ⟨RX6, "put", "(II)Z"⟩
abbrev cX6_top : ByteArray := prog_8_method_12_code
def yX6_top : MethodName := ⟨RX6, "top", "()I"⟩
abbrev cX6_deepness : ByteArray := prog_8_method_13_code
def yX6_deepness : MethodName := ⟨RX6, "deepness", "()I"⟩
abbrev cX6_number : ByteArray := prog_8_method_14_code
def yX6_number : MethodName := ⟨RX6, "number", "(I)I"⟩
abbrev cX6_begin : ByteArray := prog_8_method_15_code
def yX6_begin : MethodName := ⟨RX6, "begin", "()I"⟩
abbrev cX6_settle : ByteArray := prog_8_method_16_code
def yX6_settle : MethodName := ⟨RX6, "settle", "()V"⟩
abbrev cX6_close : ByteArray := prog_8_method_17_code
def yX6_close : MethodName := ⟨RX6, "close", "()Z"⟩
abbrev cX6_goOn : ByteArray := prog_8_method_18_code
def yX6_goOn : MethodName := ⟨RX6, "goOn", "(Z)I"⟩
abbrev cX6_ends : ByteArray := prog_8_method_19_code
def yX6_ends : MethodName := ⟨RX6, "ends", "(I)I"⟩
abbrev cX6_read : ByteArray := prog_8_method_20_code
def yX6_read : MethodName := ⟨RX6, "read", "()Z"⟩
abbrev cX6_define : ByteArray := prog_8_method_21_code
def yX6_define : MethodName := ⟨RX6, "define", "(I)I"⟩
abbrev cX6_input : ByteArray := prog_8_method_22_code
def yX6_input : MethodName := ⟨RX6, "input", "(I)Z"⟩
abbrev cX6_total : ByteArray := prog_8_method_23_code
def yX6_total : MethodName := ⟨RX6, "total", "(I)I"⟩
abbrev cX6_bracket : ByteArray := prog_8_method_24_code
def yX6_bracket : MethodName := ⟨RX6, "bracket", "(III)I"⟩
abbrev cX6_reset : ByteArray := prog_8_method_25_code
def yX6_reset : MethodName := ⟨RX6, "reset", "(II)I"⟩
abbrev cX6_divide : ByteArray := prog_8_method_26_code
def yX6_divide : MethodName := ⟨RX6, "divide", "(JJI)J"⟩
abbrev cX6_tabled : ByteArray := prog_8_method_27_code
def yX6_tabled : MethodName := ⟨RX6, "tabled", "(IJ)J"⟩
abbrev cX6_makeOrder : ByteArray := prog_8_method_28_code
def yX6_makeOrder : MethodName := ⟨RX6, "makeOrder", "()I"⟩
abbrev cX6_order : ByteArray := prog_8_method_29_code
def yX6_order : MethodName := ⟨RX6, "order", "(I)I"⟩
abbrev cX6_file : ByteArray := prog_8_method_30_code
def yX6_file : MethodName := ⟨RX6, "file", "(IIII)I"⟩
abbrev cX6_before : ByteArray := prog_8_method_31_code
def yX6_before : MethodName := ⟨RX6, "before", "(II)J"⟩
abbrev cX6_workOut : ByteArray := prog_8_method_32_code
def yX6_workOut : MethodName := ⟨RX6, "workOut", "(II)Z"⟩
abbrev cX6_operate : ByteArray := prog_8_method_33_code
def yX6_operate : MethodName := ⟨RX6, "operate", "(III)Z"⟩
abbrev cX6_assess : ByteArray := prog_8_method_34_code
def yX6_assess : MethodName := ⟨RX6, "assess", "(II)J"⟩
abbrev cX6_post : ByteArray := prog_8_method_35_code
def yX6_post : MethodName := ⟨RX6, "post", "(IIIJ)V"⟩
abbrev cX6_there : ByteArray := prog_8_method_36_code
def yX6_there : MethodName := ⟨RX6, "there", "(III)Z"⟩
abbrev cX6_value : ByteArray := prog_8_method_37_code
def yX6_value : MethodName := ⟨RX6, "value", "(III)J"⟩
abbrev cX6_share : ByteArray := prog_8_method_38_code
def yX6_share : MethodName := ⟨RX6, "share", "(III)D"⟩
abbrev cX6_sum : ByteArray := prog_8_method_39_code
def yX6_sum : MethodName := ⟨RX6, "sum", "(I)J"⟩
abbrev cX6_pay : ByteArray := prog_8_method_40_code
def yX6_pay : MethodName := ⟨RX6, "pay", "(II)J"⟩
abbrev cX6_interest : ByteArray := prog_8_method_41_code
def yX6_interest : MethodName := ⟨RX6, "interest", "(I)I"⟩
abbrev cX6_charge : ByteArray := prog_8_method_42_code
def yX6_charge : MethodName := ⟨RX6, "charge", "(II)J"⟩
abbrev cX6_pass : ByteArray := prog_8_method_43_code
def yX6_pass : MethodName := ⟨RX6, "pass", "(I)I"⟩
abbrev cX6_balance : ByteArray := prog_8_method_44_code
def yX6_balance : MethodName := ⟨RX6, "balance", "(I)J"⟩
abbrev cX6_posting : ByteArray := prog_8_method_45_code
def yX6_posting : MethodName := ⟨RX6, "posting", "(III)J"⟩
def RJ11 : String := "java/lang/Character"
def TJ11 : u_T := fun k => match k with
  | _ => ("", "", "", false)
def tyJ11 : Nat → FieldType := fun k => match k with
  | _ => .int
abbrev cJ11_isValidCodePoint_9a6ad : ByteArray := prog_10_method_11_code
def yJ11_isValidCodePoint_9a6ad : MethodName := ⟨RJ11, "isValidCodePoint", "(I)Z"⟩
abbrev cJ11_highSurrogate_5068e : ByteArray := prog_10_method_28_code
def yJ11_highSurrogate_5068e : MethodName := ⟨RJ11, "highSurrogate", "(I)C"⟩
abbrev cJ11_lowSurrogate_5068e : ByteArray := prog_10_method_29_code
def yJ11_lowSurrogate_5068e : MethodName := ⟨RJ11, "lowSurrogate", "(I)C"⟩
def RJ6 : String := "java/lang/Integer"
def TJ6 : u_T := fun k => match k with
  | _ => ("", "", "", false)
def tyJ6 : Nat → FieldType := fun k => match k with
  | _ => .int
abbrev cJ6_bitCount_0f7a4 : ByteArray := prog_14_method_49_code
def yJ6_bitCount_0f7a4 : MethodName := ⟨RJ6, "bitCount", "(I)I"⟩
def RJ9 : String := "java/lang/Math"
def TJ9 : u_T := fun k => match k with
  | _ => ("", "", "", false)
def tyJ9 : Nat → FieldType := fun k => match k with
  | _ => .int
abbrev cJ9_floorDiv_f86c9 : ByteArray := prog_15_method_49_code
def yJ9_floorDiv_f86c9 : MethodName := ⟨RJ9, "floorDiv", "(JJ)J"⟩
abbrev cJ9_floorMod_f86c9 : ByteArray := prog_15_method_52_code
def yJ9_floorMod_f86c9 : MethodName := ⟨RJ9, "floorMod", "(JJ)J"⟩
abbrev cJ9_max_7cf53 : ByteArray := prog_15_method_65_code
def yJ9_max_7cf53 : MethodName := ⟨RJ9, "max", "(II)I"⟩
abbrev cJ9_max_f86c9 : ByteArray := prog_15_method_66_code
def yJ9_max_f86c9 : MethodName := ⟨RJ9, "max", "(JJ)J"⟩
abbrev cJ9_min_7cf53 : ByteArray := prog_15_method_69_code
def yJ9_min_7cf53 : MethodName := ⟨RJ9, "min", "(II)I"⟩
abbrev cJ9_min_f86c9 : ByteArray := prog_15_method_70_code
def yJ9_min_f86c9 : MethodName := ⟨RJ9, "min", "(JJ)J"⟩
def RJ0 : String := "java/lang/String"
def TJ0 : u_T := fun k => match k with
  | _ => ("", "", "", false)
def tyJ0 : Nat → FieldType := fun k => match k with
  | _ => .int
abbrev cJ0_length_8abf5 : ByteArray := prog_17_method_54_code
def yJ0_length_8abf5 : MethodName := ⟨RJ0, "length", "()I"⟩
abbrev cJ0_indexOf_0f7a4 : ByteArray := prog_17_method_79_code
def yJ0_indexOf_0f7a4 : MethodName := ⟨RJ0, "indexOf", "(I)I"⟩
abbrev cJ0_indexOf_7cf53 : ByteArray := prog_17_method_80_code
def yJ0_indexOf_7cf53 : MethodName := ⟨RJ0, "indexOf", "(II)I"⟩
abbrev cJ0_coder_7d493 : ByteArray := prog_17_method_152_code
def yJ0_coder_7d493 : MethodName := ⟨RJ0, "coder", "()B"⟩
abbrev cJ0_isLatin1_aae02 : ByteArray := prog_17_method_154_code
def yJ0_isLatin1_aae02 : MethodName := ⟨RJ0, "isLatin1", "()Z"⟩
abbrev cJ0_checkBoundsBeginEnd_23922 : ByteArray := prog_17_method_158_code
def yJ0_checkBoundsBeginEnd_23922 : MethodName := ⟨RJ0, "checkBoundsBeginEnd", "(III)V"⟩
def RJ1 : String := "java/lang/StringLatin1"
def TJ1 : u_T := fun k => match k with
  | _ => ("", "", "", false)
def tyJ1 : Nat → FieldType := fun k => match k with
  | _ => .int
abbrev cJ1_canEncode_9a6ad : ByteArray := prog_18_method_4_code
def yJ1_canEncode_9a6ad : MethodName := ⟨RJ1, "canEncode", "(I)Z"⟩
abbrev cJ1_indexOf_4cfef : ByteArray := prog_18_method_22_code
def yJ1_indexOf_4cfef : MethodName := ⟨RJ1, "indexOf", "([BIII)I"⟩
abbrev cJ1_indexOfChar_4cfef : ByteArray := prog_18_method_23_code
def yJ1_indexOfChar_4cfef : MethodName := ⟨RJ1, "indexOfChar", "([BIII)I"⟩
def RJ2 : String := "java/lang/StringUTF16"
def TJ2 : u_T := fun k => match k with
  | _ => ("", "", "", false)
def tyJ2 : Nat → FieldType := fun k => match k with
  | _ => .int
abbrev cJ2_getChar_3b067 : ByteArray := prog_19_method_5_code
def yJ2_getChar_3b067 : MethodName := ⟨RJ2, "getChar", "([BI)C"⟩
abbrev cJ2_length_9d52b : ByteArray := prog_19_method_6_code
def yJ2_length_9d52b : MethodName := ⟨RJ2, "length", "([B)I"⟩
abbrev cJ2_indexOf_4cfef : ByteArray := prog_19_method_40_code
def yJ2_indexOf_4cfef : MethodName := ⟨RJ2, "indexOf", "([BIII)I"⟩
abbrev cJ2_indexOfChar_4cfef : ByteArray := prog_19_method_47_code
def yJ2_indexOfChar_4cfef : MethodName := ⟨RJ2, "indexOfChar", "([BIII)I"⟩
abbrev cJ2_indexOfCharUnsafe_4cfef : ByteArray := prog_19_method_48_code
def yJ2_indexOfCharUnsafe_4cfef : MethodName := ⟨RJ2, "indexOfCharUnsafe", "([BIII)I"⟩
abbrev cJ2_indexOfSupplementary_4cfef : ByteArray := prog_19_method_49_code
def yJ2_indexOfSupplementary_4cfef : MethodName := ⟨RJ2, "indexOfSupplementary", "([BIII)I"⟩
abbrev cJ2_checkBoundsBeginEnd_d044e : ByteArray := prog_19_method_93_code
def yJ2_checkBoundsBeginEnd_d044e : MethodName := ⟨RJ2, "checkBoundsBeginEnd", "(II[B)V"⟩
def RJ10 : String := "java/lang/System"
def TJ10 : u_T := fun k => match k with
  | _ => ("", "", "", false)
def tyJ10 : Nat → FieldType := fun k => match k with
  | _ => .int
def RJ3 : String := "jdk/internal/util/Preconditions"
def TJ3 : u_T := fun k => match k with
  | _ => ("", "", "", false)
def tyJ3 : Nat → FieldType := fun k => match k with
  | _ => .int
abbrev cJ3_checkFromToIndex_8c36e : ByteArray := prog_23_method_12_code
def yJ3_checkFromToIndex_8c36e : MethodName := ⟨RJ3, "checkFromToIndex", "(IIILjava/util/function/BiFunction;)I"⟩
def RL : String := "FormOfficeLaw"
abbrev cL_define : ByteArray := method_3_code
def yL_define : MethodName := ⟨RL, "define", "(LFormOffice;I[J)I"⟩
abbrev cL_input : ByteArray := method_4_code
def yL_input : MethodName := ⟨RL, "input", "(LFormOffice;I[J)I"⟩
abbrev cL_total : ByteArray := method_5_code
def yL_total : MethodName := ⟨RL, "total", "(LFormOffice;I[J)I"⟩
abbrev cL_bracket : ByteArray := method_6_code
def yL_bracket : MethodName := ⟨RL, "bracket", "(LFormOffice;III[J)I"⟩
abbrev cL_reset : ByteArray := method_7_code
def yL_reset : MethodName := ⟨RL, "reset", "(LFormOffice;II[J)I"⟩
abbrev cL_order : ByteArray := method_8_code
def yL_order : MethodName := ⟨RL, "order", "(LFormOffice;I[J)I"⟩
abbrev cL_file : ByteArray := method_9_code
def yL_file : MethodName := ⟨RL, "file", "(LFormOffice;IIII[J)I"⟩
abbrev cL_assess : ByteArray := method_10_code
def yL_assess : MethodName := ⟨RL, "assess", "(LFormOffice;II[J)I"⟩
abbrev cL_value : ByteArray := method_11_code
def yL_value : MethodName := ⟨RL, "value", "(LFormOffice;III[J)I"⟩
abbrev cL_share : ByteArray := method_12_code
def yL_share : MethodName := ⟨RL, "share", "(LFormOffice;III[D)I"⟩
abbrev cL_pay : ByteArray := method_13_code
def yL_pay : MethodName := ⟨RL, "pay", "(LFormOffice;II[J)I"⟩
abbrev cL_interest : ByteArray := method_14_code
def yL_interest : MethodName := ⟨RL, "interest", "(LFormOffice;I[J)I"⟩
abbrev cL_pass : ByteArray := method_15_code
def yL_pass : MethodName := ⟨RL, "pass", "(LFormOffice;I[J)I"⟩
abbrev cL_balance : ByteArray := method_16_code
def yL_balance : MethodName := ⟨RL, "balance", "(LFormOffice;I[J)I"⟩
abbrev cL_posting : ByteArray := method_17_code
def yL_posting : MethodName := ⟨RL, "posting", "(LFormOffice;III[J)I"⟩
abbrev cL_law : ByteArray := code
def yL_law : MethodName := ⟨RL, "law", "([I)Z"⟩
abbrev vwCl : List vw_C := [(RX0, TX0, 5), (RX1, TX1, 9), (RX2, TX2, 4), (RX3, TX3, 4), (RX4, TX4, 2), (RX5, TX5, 11), (RX6, TX6, 34)]
end
section
theorem dX0_init_0 : decode cX0_init 0 = .ok (.aload_n 0, 1) := by decide +kernel
theorem dX0_init_1 : decode cX0_init 1 = .ok (.invokespecial 1, 3) := by decide +kernel
theorem dX0_init_4 : decode cX0_init 4 = .ok (.aload_n 0, 1) := by decide +kernel
theorem dX0_init_5 : decode cX0_init 5 = .ok (.bipush 24, 2) := by decide +kernel
theorem dX0_init_7 : decode cX0_init 7 = .ok (.newarray .int, 2) := by decide +kernel
theorem dX0_init_9 : decode cX0_init 9 = .ok (.putfield 9, 3) := by decide +kernel
theorem dX0_init_12 : decode cX0_init 12 = .ok (.aload_n 0, 1) := by decide +kernel
theorem dX0_init_13 : decode cX0_init 13 = .ok (.bipush 24, 2) := by decide +kernel
theorem dX0_init_15 : decode cX0_init 15 = .ok (.newarray .int, 2) := by decide +kernel
theorem dX0_init_17 : decode cX0_init 17 = .ok (.putfield 13, 3) := by decide +kernel
theorem dX0_init_20 : decode cX0_init 20 = .ok (.aload_n 0, 1) := by decide +kernel
theorem dX0_init_21 : decode cX0_init 21 = .ok (.bipush 24, 2) := by decide +kernel
theorem dX0_init_23 : decode cX0_init 23 = .ok (.newarray .long, 2) := by decide +kernel
theorem dX0_init_25 : decode cX0_init 25 = .ok (.putfield 16, 3) := by decide +kernel
theorem dX0_init_28 : decode cX0_init 28 = .ok (.aload_n 0, 1) := by decide +kernel
theorem dX0_init_29 : decode cX0_init 29 = .ok (.iconst 0, 1) := by decide +kernel
theorem dX0_init_30 : decode cX0_init 30 = .ok (.putfield 20, 3) := by decide +kernel
theorem dX0_init_33 : decode cX0_init 33 = .ok (.aload_n 0, 1) := by decide +kernel
theorem dX0_init_34 : decode cX0_init 34 = .ok (.lconst 0, 1) := by decide +kernel
theorem dX0_init_35 : decode cX0_init 35 = .ok (.putfield 24, 3) := by decide +kernel
theorem dX0_init_38 : decode cX0_init 38 = .ok (.return_, 1) := by decide +kernel
theorem dX0_isFull_0 : decode cX0_isFull 0 = .ok (.aload_n 0, 1) := by decide +kernel
theorem dX0_isFull_1 : decode cX0_isFull 1 = .ok (.getfield 20, 3) := by decide +kernel
theorem dX0_isFull_4 : decode cX0_isFull 4 = .ok (.bipush 24, 2) := by decide +kernel
theorem dX0_isFull_6 : decode cX0_isFull 6 = .ok (.if_icmp .lt 7, 3) := by decide +kernel
theorem dX0_isFull_9 : decode cX0_isFull 9 = .ok (.iconst 1, 1) := by decide +kernel
theorem dX0_isFull_10 : decode cX0_isFull 10 = .ok (.goto 4, 3) := by decide +kernel
theorem dX0_isFull_13 : decode cX0_isFull 13 = .ok (.iconst 0, 1) := by decide +kernel
theorem dX0_isFull_14 : decode cX0_isFull 14 = .ok (.ireturn, 1) := by decide +kernel
theorem dX0_post_0 : decode cX0_post 0 = .ok (.aload_n 0, 1) := by decide +kernel
theorem dX0_post_1 : decode cX0_post 1 = .ok (.getfield 9, 3) := by decide +kernel
theorem dX0_post_4 : decode cX0_post 4 = .ok (.aload_n 0, 1) := by decide +kernel
theorem dX0_post_5 : decode cX0_post 5 = .ok (.getfield 20, 3) := by decide +kernel
theorem dX0_post_8 : decode cX0_post 8 = .ok (.iload_n 1, 1) := by decide +kernel
theorem dX0_post_9 : decode cX0_post 9 = .ok (.iastore, 1) := by decide +kernel
theorem dX0_post_10 : decode cX0_post 10 = .ok (.aload_n 0, 1) := by decide +kernel
theorem dX0_post_11 : decode cX0_post 11 = .ok (.getfield 13, 3) := by decide +kernel
theorem dX0_post_14 : decode cX0_post 14 = .ok (.aload_n 0, 1) := by decide +kernel
theorem dX0_post_15 : decode cX0_post 15 = .ok (.getfield 20, 3) := by decide +kernel
theorem dX0_post_18 : decode cX0_post 18 = .ok (.iload_n 2, 1) := by decide +kernel
theorem dX0_post_19 : decode cX0_post 19 = .ok (.iastore, 1) := by decide +kernel
theorem dX0_post_20 : decode cX0_post 20 = .ok (.aload_n 0, 1) := by decide +kernel
theorem dX0_post_21 : decode cX0_post 21 = .ok (.getfield 16, 3) := by decide +kernel
theorem dX0_post_24 : decode cX0_post 24 = .ok (.aload_n 0, 1) := by decide +kernel
theorem dX0_post_25 : decode cX0_post 25 = .ok (.getfield 20, 3) := by decide +kernel
theorem dX0_post_28 : decode cX0_post 28 = .ok (.lload_n 3, 1) := by decide +kernel
theorem dX0_post_29 : decode cX0_post 29 = .ok (.lastore, 1) := by decide +kernel
theorem dX0_post_30 : decode cX0_post 30 = .ok (.aload_n 0, 1) := by decide +kernel
theorem dX0_post_31 : decode cX0_post 31 = .ok (.dup, 1) := by decide +kernel
theorem dX0_post_32 : decode cX0_post 32 = .ok (.getfield 20, 3) := by decide +kernel
theorem dX0_post_35 : decode cX0_post 35 = .ok (.iconst 1, 1) := by decide +kernel
theorem dX0_post_36 : decode cX0_post 36 = .ok (.iadd, 1) := by decide +kernel
theorem dX0_post_37 : decode cX0_post 37 = .ok (.putfield 20, 3) := by decide +kernel
theorem dX0_post_40 : decode cX0_post 40 = .ok (.aload_n 0, 1) := by decide +kernel
theorem dX0_post_41 : decode cX0_post 41 = .ok (.dup, 1) := by decide +kernel
theorem dX0_post_42 : decode cX0_post 42 = .ok (.getfield 24, 3) := by decide +kernel
theorem dX0_post_45 : decode cX0_post 45 = .ok (.lload_n 3, 1) := by decide +kernel
theorem dX0_post_46 : decode cX0_post 46 = .ok (.ladd, 1) := by decide +kernel
theorem dX0_post_47 : decode cX0_post 47 = .ok (.putfield 24, 3) := by decide +kernel
theorem dX0_post_50 : decode cX0_post 50 = .ok (.return_, 1) := by decide +kernel
theorem dX0_interestFor_0 : decode cX0_interestFor 0 = .ok (.aload_n 0, 1) := by decide +kernel
theorem dX0_interestFor_1 : decode cX0_interestFor 1 = .ok (.getfield 24, 3) := by decide +kernel
theorem dX0_interestFor_4 : decode cX0_interestFor 4 = .ok (.lconst 0, 1) := by decide +kernel
theorem dX0_interestFor_5 : decode cX0_interestFor 5 = .ok (.lcmp, 1) := by decide +kernel
theorem dX0_interestFor_6 : decode cX0_interestFor 6 = .ok (.ifCond .gt 5, 3) := by decide +kernel
theorem dX0_interestFor_9 : decode cX0_interestFor 9 = .ok (.lconst 0, 1) := by decide +kernel
theorem dX0_interestFor_10 : decode cX0_interestFor 10 = .ok (.lreturn, 1) := by decide +kernel
theorem dX0_interestFor_11 : decode cX0_interestFor 11 = .ok (.aload_n 0, 1) := by decide +kernel
theorem dX0_interestFor_12 : decode cX0_interestFor 12 = .ok (.getfield 24, 3) := by decide +kernel
theorem dX0_interestFor_15 : decode cX0_interestFor 15 = .ok (.ldc2_w 28, 3) := by decide +kernel
theorem dX0_interestFor_18 : decode cX0_interestFor 18 = .ok (.lrem, 1) := by decide +kernel
theorem dX0_interestFor_19 : decode cX0_interestFor 19 = .ok (.iload_n 1, 1) := by decide +kernel
theorem dX0_interestFor_20 : decode cX0_interestFor 20 = .ok (.i2l, 1) := by decide +kernel
theorem dX0_interestFor_21 : decode cX0_interestFor 21 = .ok (.lmul, 1) := by decide +kernel
theorem dX0_interestFor_22 : decode cX0_interestFor 22 = .ok (.ldc2_w 28, 3) := by decide +kernel
theorem dX0_interestFor_25 : decode cX0_interestFor 25 = .ok (.ldiv, 1) := by decide +kernel
theorem dX0_interestFor_26 : decode cX0_interestFor 26 = .ok (.lstore_n 2, 1) := by decide +kernel
theorem dX0_interestFor_27 : decode cX0_interestFor 27 = .ok (.aload_n 0, 1) := by decide +kernel
theorem dX0_interestFor_28 : decode cX0_interestFor 28 = .ok (.getfield 24, 3) := by decide +kernel
theorem dX0_interestFor_31 : decode cX0_interestFor 31 = .ok (.ldc2_w 28, 3) := by decide +kernel
theorem dX0_interestFor_34 : decode cX0_interestFor 34 = .ok (.ldiv, 1) := by decide +kernel
theorem dX0_interestFor_35 : decode cX0_interestFor 35 = .ok (.iload_n 1, 1) := by decide +kernel
theorem dX0_interestFor_36 : decode cX0_interestFor 36 = .ok (.i2l, 1) := by decide +kernel
theorem dX0_interestFor_37 : decode cX0_interestFor 37 = .ok (.lmul, 1) := by decide +kernel
theorem dX0_interestFor_38 : decode cX0_interestFor 38 = .ok (.lload_n 2, 1) := by decide +kernel
theorem dX0_interestFor_39 : decode cX0_interestFor 39 = .ok (.ladd, 1) := by decide +kernel
theorem dX0_interestFor_40 : decode cX0_interestFor 40 = .ok (.lreturn, 1) := by decide +kernel
theorem dX1_init_0 : decode cX1_init 0 = .ok (.aload_n 0, 1) := by decide +kernel
theorem dX1_init_1 : decode cX1_init 1 = .ok (.invokespecial 3, 3) := by decide +kernel
theorem dX1_init_4 : decode cX1_init 4 = .ok (.aload_n 0, 1) := by decide +kernel
theorem dX1_init_5 : decode cX1_init 5 = .ok (.iconst 3, 1) := by decide +kernel
theorem dX1_init_6 : decode cX1_init 6 = .ok (.anewarray 9, 3) := by decide +kernel
theorem dX1_init_9 : decode cX1_init 9 = .ok (.putfield 11, 3) := by decide +kernel
theorem dX1_init_12 : decode cX1_init 12 = .ok (.aload_n 0, 1) := by decide +kernel
theorem dX1_init_13 : decode cX1_init 13 = .ok (.bipush 12, 2) := by decide +kernel
theorem dX1_init_15 : decode cX1_init 15 = .ok (.newarray .long, 2) := by decide +kernel
theorem dX1_init_17 : decode cX1_init 17 = .ok (.putfield 17, 3) := by decide +kernel
theorem dX1_init_20 : decode cX1_init 20 = .ok (.aload_n 0, 1) := by decide +kernel
theorem dX1_init_21 : decode cX1_init 21 = .ok (.new 21, 3) := by decide +kernel
theorem dX1_init_24 : decode cX1_init 24 = .ok (.dup, 1) := by decide +kernel
theorem dX1_init_25 : decode cX1_init 25 = .ok (.invokespecial 23, 3) := by decide +kernel
theorem dX1_init_28 : decode cX1_init 28 = .ok (.putfield 24, 3) := by decide +kernel
theorem dX1_init_31 : decode cX1_init 31 = .ok (.aload_n 0, 1) := by decide +kernel
theorem dX1_init_32 : decode cX1_init 32 = .ok (.iconst 0, 1) := by decide +kernel
theorem dX1_init_33 : decode cX1_init 33 = .ok (.putfield 28, 3) := by decide +kernel
theorem dX1_init_36 : decode cX1_init 36 = .ok (.aload_n 0, 1) := by decide +kernel
theorem dX1_init_37 : decode cX1_init 37 = .ok (.iconst 0, 1) := by decide +kernel
theorem dX1_init_38 : decode cX1_init 38 = .ok (.putfield 32, 3) := by decide +kernel
theorem dX1_init_41 : decode cX1_init 41 = .ok (.aload_n 0, 1) := by decide +kernel
theorem dX1_init_42 : decode cX1_init 42 = .ok (.aload_n 0, 1) := by decide +kernel
theorem dX1_init_43 : decode cX1_init 43 = .ok (.getfield 17, 3) := by decide +kernel
theorem dX1_init_46 : decode cX1_init 46 = .ok (.putfield 36, 3) := by decide +kernel
theorem dX1_init_49 : decode cX1_init 49 = .ok (.aload_n 0, 1) := by decide +kernel
theorem dX1_init_50 : decode cX1_init 50 = .ok (.aload_n 0, 1) := by decide +kernel
theorem dX1_init_51 : decode cX1_init 51 = .ok (.getfield 17, 3) := by decide +kernel
theorem dX1_init_54 : decode cX1_init 54 = .ok (.putfield 39, 3) := by decide +kernel
theorem dX1_init_57 : decode cX1_init 57 = .ok (.aload_n 0, 1) := by decide +kernel
theorem dX1_init_58 : decode cX1_init 58 = .ok (.iconst 0, 1) := by decide +kernel
theorem dX1_init_59 : decode cX1_init 59 = .ok (.putfield 42, 3) := by decide +kernel
theorem dX1_init_62 : decode cX1_init 62 = .ok (.aload_n 0, 1) := by decide +kernel
theorem dX1_init_63 : decode cX1_init 63 = .ok (.iconst 0, 1) := by decide +kernel
theorem dX1_init_64 : decode cX1_init 64 = .ok (.putfield 45, 3) := by decide +kernel
theorem dX1_init_67 : decode cX1_init 67 = .ok (.iconst 0, 1) := by decide +kernel
theorem dX1_init_68 : decode cX1_init 68 = .ok (.istore_n 1, 1) := by decide +kernel
theorem dX1_init_69 : decode cX1_init 69 = .ok (.iload_n 1, 1) := by decide +kernel
theorem dX1_init_70 : decode cX1_init 70 = .ok (.iconst 3, 1) := by decide +kernel
theorem dX1_init_71 : decode cX1_init 71 = .ok (.if_icmp .ge 22, 3) := by decide +kernel
theorem dX1_init_74 : decode cX1_init 74 = .ok (.aload_n 0, 1) := by decide +kernel
theorem dX1_init_75 : decode cX1_init 75 = .ok (.getfield 11, 3) := by decide +kernel
theorem dX1_init_78 : decode cX1_init 78 = .ok (.iload_n 1, 1) := by decide +kernel
theorem dX1_init_79 : decode cX1_init 79 = .ok (.new 9, 3) := by decide +kernel
theorem dX1_init_82 : decode cX1_init 82 = .ok (.dup, 1) := by decide +kernel
theorem dX1_init_83 : decode cX1_init 83 = .ok (.invokespecial 48, 3) := by decide +kernel
theorem dX1_init_86 : decode cX1_init 86 = .ok (.aastore, 1) := by decide +kernel
theorem dX1_init_87 : decode cX1_init 87 = .ok (.iinc 1 1, 3) := by decide +kernel
theorem dX1_init_90 : decode cX1_init 90 = .ok (.goto (-21), 3) := by decide +kernel
theorem dX1_init_93 : decode cX1_init 93 = .ok (.return_, 1) := by decide +kernel
theorem dX1_isFormula_0 : decode cX1_isFormula 0 = .ok (.aload_n 0, 1) := by decide +kernel
theorem dX1_isFormula_1 : decode cX1_isFormula 1 = .ok (.aload_n 1, 1) := by decide +kernel
theorem dX1_isFormula_2 : decode cX1_isFormula 2 = .ok (.aload_n 0, 1) := by decide +kernel
theorem dX1_isFormula_3 : decode cX1_isFormula 3 = .ok (.getfield 17, 3) := by decide +kernel
theorem dX1_isFormula_6 : decode cX1_isFormula 6 = .ok (.aload_n 0, 1) := by decide +kernel
theorem dX1_isFormula_7 : decode cX1_isFormula 7 = .ok (.getfield 17, 3) := by decide +kernel
theorem dX1_isFormula_10 : decode cX1_isFormula 10 = .ok (.invokevirtual 49, 3) := by decide +kernel
theorem dX1_isFormula_13 : decode cX1_isFormula 13 = .ok (.aload_n 0, 1) := by decide +kernel
theorem dX1_isFormula_14 : decode cX1_isFormula 14 = .ok (.iconst 0, 1) := by decide +kernel
theorem dX1_isFormula_15 : decode cX1_isFormula 15 = .ok (.iconst 0, 1) := by decide +kernel
theorem dX1_isFormula_16 : decode cX1_isFormula 16 = .ok (.iconst 0, 1) := by decide +kernel
theorem dX1_isFormula_17 : decode cX1_isFormula 17 = .ok (.invokevirtual 53, 3) := by decide +kernel
theorem dX1_isFormula_20 : decode cX1_isFormula 20 = .ok (.pop2, 1) := by decide +kernel
theorem dX1_isFormula_21 : decode cX1_isFormula 21 = .ok (.aload_n 0, 1) := by decide +kernel
theorem dX1_isFormula_22 : decode cX1_isFormula 22 = .ok (.getfield 32, 3) := by decide +kernel
theorem dX1_isFormula_25 : decode cX1_isFormula 25 = .ok (.ifCond .ne 18, 3) := by decide +kernel
theorem dX1_isFormula_28 : decode cX1_isFormula 28 = .ok (.aload_n 0, 1) := by decide +kernel
theorem dX1_isFormula_29 : decode cX1_isFormula 29 = .ok (.getfield 28, 3) := by decide +kernel
theorem dX1_isFormula_32 : decode cX1_isFormula 32 = .ok (.aload_n 1, 1) := by decide +kernel
theorem dX1_isFormula_33 : decode cX1_isFormula 33 = .ok (.getfield 57, 3) := by decide +kernel
theorem dX1_isFormula_36 : decode cX1_isFormula 36 = .ok (.if_icmp .ne 7, 3) := by decide +kernel
theorem dX1_isFormula_39 : decode cX1_isFormula 39 = .ok (.iconst 1, 1) := by decide +kernel
theorem dX1_isFormula_40 : decode cX1_isFormula 40 = .ok (.goto 4, 3) := by decide +kernel
theorem dX1_isFormula_43 : decode cX1_isFormula 43 = .ok (.iconst 0, 1) := by decide +kernel
theorem dX1_isFormula_44 : decode cX1_isFormula 44 = .ok (.ireturn, 1) := by decide +kernel
theorem dX1_work_0 : decode cX1_work 0 = .ok (.aload_n 0, 1) := by decide +kernel
theorem dX1_work_1 : decode cX1_work 1 = .ok (.aload_n 1, 1) := by decide +kernel
theorem dX1_work_2 : decode cX1_work 2 = .ok (.aload_n 2, 1) := by decide +kernel
theorem dX1_work_3 : decode cX1_work 3 = .ok (.aload_n 3, 1) := by decide +kernel
theorem dX1_work_4 : decode cX1_work 4 = .ok (.invokevirtual 49, 3) := by decide +kernel
theorem dX1_work_7 : decode cX1_work 7 = .ok (.aload_n 0, 1) := by decide +kernel
theorem dX1_work_8 : decode cX1_work 8 = .ok (.iconst 0, 1) := by decide +kernel
theorem dX1_work_9 : decode cX1_work 9 = .ok (.iconst 0, 1) := by decide +kernel
theorem dX1_work_10 : decode cX1_work 10 = .ok (.iconst 1, 1) := by decide +kernel
theorem dX1_work_11 : decode cX1_work 11 = .ok (.invokevirtual 53, 3) := by decide +kernel
theorem dX1_work_14 : decode cX1_work 14 = .ok (.lreturn, 1) := by decide +kernel
theorem dX1_begin_0 : decode cX1_begin 0 = .ok (.aload_n 0, 1) := by decide +kernel
theorem dX1_begin_1 : decode cX1_begin 1 = .ok (.aload_n 1, 1) := by decide +kernel
theorem dX1_begin_2 : decode cX1_begin 2 = .ok (.putfield 24, 3) := by decide +kernel
theorem dX1_begin_5 : decode cX1_begin 5 = .ok (.aload_n 0, 1) := by decide +kernel
theorem dX1_begin_6 : decode cX1_begin 6 = .ok (.iconst 0, 1) := by decide +kernel
theorem dX1_begin_7 : decode cX1_begin 7 = .ok (.putfield 28, 3) := by decide +kernel
theorem dX1_begin_10 : decode cX1_begin 10 = .ok (.aload_n 0, 1) := by decide +kernel
theorem dX1_begin_11 : decode cX1_begin 11 = .ok (.iconst 0, 1) := by decide +kernel
theorem dX1_begin_12 : decode cX1_begin 12 = .ok (.putfield 32, 3) := by decide +kernel
theorem dX1_begin_15 : decode cX1_begin 15 = .ok (.aload_n 0, 1) := by decide +kernel
theorem dX1_begin_16 : decode cX1_begin 16 = .ok (.aload_n 2, 1) := by decide +kernel
theorem dX1_begin_17 : decode cX1_begin 17 = .ok (.putfield 36, 3) := by decide +kernel
theorem dX1_begin_20 : decode cX1_begin 20 = .ok (.aload_n 0, 1) := by decide +kernel
theorem dX1_begin_21 : decode cX1_begin 21 = .ok (.aload_n 3, 1) := by decide +kernel
theorem dX1_begin_22 : decode cX1_begin 22 = .ok (.putfield 39, 3) := by decide +kernel
theorem dX1_begin_25 : decode cX1_begin 25 = .ok (.aload_n 0, 1) := by decide +kernel
theorem dX1_begin_26 : decode cX1_begin 26 = .ok (.iconst 0, 1) := by decide +kernel
theorem dX1_begin_27 : decode cX1_begin 27 = .ok (.putfield 42, 3) := by decide +kernel
theorem dX1_begin_30 : decode cX1_begin 30 = .ok (.aload_n 0, 1) := by decide +kernel
theorem dX1_begin_31 : decode cX1_begin 31 = .ok (.iconst 0, 1) := by decide +kernel
theorem dX1_begin_32 : decode cX1_begin 32 = .ok (.putfield 45, 3) := by decide +kernel
theorem dX1_begin_35 : decode cX1_begin 35 = .ok (.return_, 1) := by decide +kernel
theorem dX1_readFormula_0 : decode cX1_readFormula 0 = .ok (.iload_n 2, 1) := by decide +kernel
theorem dX1_readFormula_1 : decode cX1_readFormula 1 = .ok (.bipush 40, 2) := by decide +kernel
theorem dX1_readFormula_3 : decode cX1_readFormula 3 = .ok (.if_icmp .le 8, 3) := by decide +kernel
theorem dX1_readFormula_6 : decode cX1_readFormula 6 = .ok (.aload_n 0, 1) := by decide +kernel
theorem dX1_readFormula_7 : decode cX1_readFormula 7 = .ok (.invokevirtual 60, 3) := by decide +kernel
theorem dX1_readFormula_10 : decode cX1_readFormula 10 = .ok (.lreturn, 1) := by decide +kernel
theorem dX1_readFormula_11 : decode cX1_readFormula 11 = .ok (.aload_n 0, 1) := by decide +kernel
theorem dX1_readFormula_12 : decode cX1_readFormula 12 = .ok (.iload_n 1, 1) := by decide +kernel
theorem dX1_readFormula_13 : decode cX1_readFormula 13 = .ok (.iload_n 2, 1) := by decide +kernel
theorem dX1_readFormula_14 : decode cX1_readFormula 14 = .ok (.iload_n 3, 1) := by decide +kernel
theorem dX1_readFormula_15 : decode cX1_readFormula 15 = .ok (.invokevirtual 64, 3) := by decide +kernel
theorem dX1_readFormula_18 : decode cX1_readFormula 18 = .ok (.lstore 4, 2) := by decide +kernel
theorem dX1_readFormula_20 : decode cX1_readFormula 20 = .ok (.aload_n 0, 1) := by decide +kernel
theorem dX1_readFormula_21 : decode cX1_readFormula 21 = .ok (.bipush 60, 2) := by decide +kernel
theorem dX1_readFormula_23 : decode cX1_readFormula 23 = .ok (.invokevirtual 67, 3) := by decide +kernel
theorem dX1_readFormula_26 : decode cX1_readFormula 26 = .ok (.istore 6, 2) := by decide +kernel
theorem dX1_readFormula_28 : decode cX1_readFormula 28 = .ok (.iload 6, 2) := by decide +kernel
theorem dX1_readFormula_30 : decode cX1_readFormula 30 = .ok (.ifCond .ne 15, 3) := by decide +kernel
theorem dX1_readFormula_33 : decode cX1_readFormula 33 = .ok (.aload_n 0, 1) := by decide +kernel
theorem dX1_readFormula_34 : decode cX1_readFormula 34 = .ok (.bipush 62, 2) := by decide +kernel
theorem dX1_readFormula_36 : decode cX1_readFormula 36 = .ok (.invokevirtual 67, 3) := by decide +kernel
theorem dX1_readFormula_39 : decode cX1_readFormula 39 = .ok (.ifCond .ne 6, 3) := by decide +kernel
theorem dX1_readFormula_42 : decode cX1_readFormula 42 = .ok (.lload 4, 2) := by decide +kernel
theorem dX1_readFormula_44 : decode cX1_readFormula 44 = .ok (.lreturn, 1) := by decide +kernel
theorem dX1_readFormula_45 : decode cX1_readFormula 45 = .ok (.aload_n 0, 1) := by decide +kernel
theorem dX1_readFormula_46 : decode cX1_readFormula 46 = .ok (.iload_n 1, 1) := by decide +kernel
theorem dX1_readFormula_47 : decode cX1_readFormula 47 = .ok (.iload_n 2, 1) := by decide +kernel
theorem dX1_readFormula_48 : decode cX1_readFormula 48 = .ok (.iload_n 3, 1) := by decide +kernel
theorem dX1_readFormula_49 : decode cX1_readFormula 49 = .ok (.invokevirtual 64, 3) := by decide +kernel
theorem dX1_readFormula_52 : decode cX1_readFormula 52 = .ok (.lstore 7, 2) := by decide +kernel
theorem dX1_readFormula_54 : decode cX1_readFormula 54 = .ok (.iload 6, 2) := by decide +kernel
theorem dX1_readFormula_56 : decode cX1_readFormula 56 = .ok (.ifCond .eq 19, 3) := by decide +kernel
theorem dX1_readFormula_59 : decode cX1_readFormula 59 = .ok (.lload 4, 2) := by decide +kernel
theorem dX1_readFormula_61 : decode cX1_readFormula 61 = .ok (.lload 7, 2) := by decide +kernel
theorem dX1_readFormula_63 : decode cX1_readFormula 63 = .ok (.lcmp, 1) := by decide +kernel
theorem dX1_readFormula_64 : decode cX1_readFormula 64 = .ok (.ifCond .ge 7, 3) := by decide +kernel
theorem dX1_readFormula_67 : decode cX1_readFormula 67 = .ok (.iconst 1, 1) := by decide +kernel
theorem dX1_readFormula_68 : decode cX1_readFormula 68 = .ok (.goto 20, 3) := by decide +kernel
theorem dX1_readFormula_71 : decode cX1_readFormula 71 = .ok (.iconst 0, 1) := by decide +kernel
theorem dX1_readFormula_72 : decode cX1_readFormula 72 = .ok (.goto 16, 3) := by decide +kernel
theorem dX1_readFormula_75 : decode cX1_readFormula 75 = .ok (.lload 4, 2) := by decide +kernel
theorem dX1_readFormula_77 : decode cX1_readFormula 77 = .ok (.lload 7, 2) := by decide +kernel
theorem dX1_readFormula_79 : decode cX1_readFormula 79 = .ok (.lcmp, 1) := by decide +kernel
theorem dX1_readFormula_80 : decode cX1_readFormula 80 = .ok (.ifCond .le 7, 3) := by decide +kernel
theorem dX1_readFormula_83 : decode cX1_readFormula 83 = .ok (.iconst 1, 1) := by decide +kernel
theorem dX1_readFormula_84 : decode cX1_readFormula 84 = .ok (.goto 4, 3) := by decide +kernel
theorem dX1_readFormula_87 : decode cX1_readFormula 87 = .ok (.iconst 0, 1) := by decide +kernel
theorem dX1_readFormula_88 : decode cX1_readFormula 88 = .ok (.istore 9, 2) := by decide +kernel
theorem dX1_readFormula_90 : decode cX1_readFormula 90 = .ok (.aload_n 0, 1) := by decide +kernel
theorem dX1_readFormula_91 : decode cX1_readFormula 91 = .ok (.bipush 63, 2) := by decide +kernel
theorem dX1_readFormula_93 : decode cX1_readFormula 93 = .ok (.invokevirtual 71, 3) := by decide +kernel
theorem dX1_readFormula_96 : decode cX1_readFormula 96 = .ok (.aload_n 0, 1) := by decide +kernel
theorem dX1_readFormula_97 : decode cX1_readFormula 97 = .ok (.iload_n 1, 1) := by decide +kernel
theorem dX1_readFormula_98 : decode cX1_readFormula 98 = .ok (.iload_n 2, 1) := by decide +kernel
theorem dX1_readFormula_99 : decode cX1_readFormula 99 = .ok (.iconst 1, 1) := by decide +kernel
theorem dX1_readFormula_100 : decode cX1_readFormula 100 = .ok (.iadd, 1) := by decide +kernel
theorem dX1_readFormula_101 : decode cX1_readFormula 101 = .ok (.iload_n 3, 1) := by decide +kernel
theorem dX1_readFormula_102 : decode cX1_readFormula 102 = .ok (.ifCond .eq 12, 3) := by decide +kernel
theorem dX1_readFormula_105 : decode cX1_readFormula 105 = .ok (.iload 9, 2) := by decide +kernel
theorem dX1_readFormula_107 : decode cX1_readFormula 107 = .ok (.ifCond .eq 7, 3) := by decide +kernel
theorem dX1_readFormula_110 : decode cX1_readFormula 110 = .ok (.iconst 1, 1) := by decide +kernel
theorem dX1_readFormula_111 : decode cX1_readFormula 111 = .ok (.goto 4, 3) := by decide +kernel
theorem dX1_readFormula_114 : decode cX1_readFormula 114 = .ok (.iconst 0, 1) := by decide +kernel
theorem dX1_readFormula_115 : decode cX1_readFormula 115 = .ok (.invokevirtual 53, 3) := by decide +kernel
theorem dX1_readFormula_118 : decode cX1_readFormula 118 = .ok (.lstore 10, 2) := by decide +kernel
theorem dX1_readFormula_120 : decode cX1_readFormula 120 = .ok (.aload_n 0, 1) := by decide +kernel
theorem dX1_readFormula_121 : decode cX1_readFormula 121 = .ok (.bipush 58, 2) := by decide +kernel
theorem dX1_readFormula_123 : decode cX1_readFormula 123 = .ok (.invokevirtual 71, 3) := by decide +kernel
theorem dX1_readFormula_126 : decode cX1_readFormula 126 = .ok (.aload_n 0, 1) := by decide +kernel
theorem dX1_readFormula_127 : decode cX1_readFormula 127 = .ok (.iload_n 1, 1) := by decide +kernel
theorem dX1_readFormula_128 : decode cX1_readFormula 128 = .ok (.iload_n 2, 1) := by decide +kernel
theorem dX1_readFormula_129 : decode cX1_readFormula 129 = .ok (.iconst 1, 1) := by decide +kernel
theorem dX1_readFormula_130 : decode cX1_readFormula 130 = .ok (.iadd, 1) := by decide +kernel
theorem dX1_readFormula_131 : decode cX1_readFormula 131 = .ok (.iload_n 3, 1) := by decide +kernel
theorem dX1_readFormula_132 : decode cX1_readFormula 132 = .ok (.ifCond .eq 12, 3) := by decide +kernel
theorem dX1_readFormula_135 : decode cX1_readFormula 135 = .ok (.iload 9, 2) := by decide +kernel
theorem dX1_readFormula_137 : decode cX1_readFormula 137 = .ok (.ifCond .ne 7, 3) := by decide +kernel
theorem dX1_readFormula_140 : decode cX1_readFormula 140 = .ok (.iconst 1, 1) := by decide +kernel
theorem dX1_readFormula_141 : decode cX1_readFormula 141 = .ok (.goto 4, 3) := by decide +kernel
theorem dX1_readFormula_144 : decode cX1_readFormula 144 = .ok (.iconst 0, 1) := by decide +kernel
theorem dX1_readFormula_145 : decode cX1_readFormula 145 = .ok (.invokevirtual 53, 3) := by decide +kernel
theorem dX1_readFormula_148 : decode cX1_readFormula 148 = .ok (.lstore 12, 2) := by decide +kernel
theorem dX1_readFormula_150 : decode cX1_readFormula 150 = .ok (.iload 9, 2) := by decide +kernel
theorem dX1_readFormula_152 : decode cX1_readFormula 152 = .ok (.ifCond .eq 8, 3) := by decide +kernel
theorem dX1_readFormula_155 : decode cX1_readFormula 155 = .ok (.lload 10, 2) := by decide +kernel
theorem dX1_readFormula_157 : decode cX1_readFormula 157 = .ok (.goto 5, 3) := by decide +kernel
theorem dX1_readFormula_160 : decode cX1_readFormula 160 = .ok (.lload 12, 2) := by decide +kernel
theorem dX1_readFormula_162 : decode cX1_readFormula 162 = .ok (.lreturn, 1) := by decide +kernel
theorem dX1_readSum_0 : decode cX1_readSum 0 = .ok (.aload_n 0, 1) := by decide +kernel
theorem dX1_readSum_1 : decode cX1_readSum 1 = .ok (.iload_n 1, 1) := by decide +kernel
theorem dX1_readSum_2 : decode cX1_readSum 2 = .ok (.iload_n 2, 1) := by decide +kernel
theorem dX1_readSum_3 : decode cX1_readSum 3 = .ok (.iload_n 3, 1) := by decide +kernel
theorem dX1_readSum_4 : decode cX1_readSum 4 = .ok (.invokevirtual 75, 3) := by decide +kernel
theorem dX1_readSum_7 : decode cX1_readSum 7 = .ok (.lstore 4, 2) := by decide +kernel
theorem dX1_readSum_9 : decode cX1_readSum 9 = .ok (.iconst 0, 1) := by decide +kernel
theorem dX1_readSum_10 : decode cX1_readSum 10 = .ok (.istore 6, 2) := by decide +kernel
theorem dX1_readSum_12 : decode cX1_readSum 12 = .ok (.iload 6, 2) := by decide +kernel
theorem dX1_readSum_14 : decode cX1_readSum 14 = .ok (.bipush 40, 2) := by decide +kernel
theorem dX1_readSum_16 : decode cX1_readSum 16 = .ok (.if_icmp .ge 64, 3) := by decide +kernel
theorem dX1_readSum_19 : decode cX1_readSum 19 = .ok (.aload_n 0, 1) := by decide +kernel
theorem dX1_readSum_20 : decode cX1_readSum 20 = .ok (.bipush 43, 2) := by decide +kernel
theorem dX1_readSum_22 : decode cX1_readSum 22 = .ok (.invokevirtual 67, 3) := by decide +kernel
theorem dX1_readSum_25 : decode cX1_readSum 25 = .ok (.ifCond .eq 23, 3) := by decide +kernel
theorem dX1_readSum_28 : decode cX1_readSum 28 = .ok (.aload_n 0, 1) := by decide +kernel
theorem dX1_readSum_29 : decode cX1_readSum 29 = .ok (.lload 4, 2) := by decide +kernel
theorem dX1_readSum_31 : decode cX1_readSum 31 = .ok (.aload_n 0, 1) := by decide +kernel
theorem dX1_readSum_32 : decode cX1_readSum 32 = .ok (.iload_n 1, 1) := by decide +kernel
theorem dX1_readSum_33 : decode cX1_readSum 33 = .ok (.iload_n 2, 1) := by decide +kernel
theorem dX1_readSum_34 : decode cX1_readSum 34 = .ok (.iload_n 3, 1) := by decide +kernel
theorem dX1_readSum_35 : decode cX1_readSum 35 = .ok (.invokevirtual 75, 3) := by decide +kernel
theorem dX1_readSum_38 : decode cX1_readSum 38 = .ok (.ladd, 1) := by decide +kernel
theorem dX1_readSum_39 : decode cX1_readSum 39 = .ok (.iload_n 3, 1) := by decide +kernel
theorem dX1_readSum_40 : decode cX1_readSum 40 = .ok (.invokevirtual 78, 3) := by decide +kernel
theorem dX1_readSum_43 : decode cX1_readSum 43 = .ok (.lstore 4, 2) := by decide +kernel
theorem dX1_readSum_45 : decode cX1_readSum 45 = .ok (.goto 29, 3) := by decide +kernel
theorem dX1_readSum_48 : decode cX1_readSum 48 = .ok (.aload_n 0, 1) := by decide +kernel
theorem dX1_readSum_49 : decode cX1_readSum 49 = .ok (.bipush 45, 2) := by decide +kernel
theorem dX1_readSum_51 : decode cX1_readSum 51 = .ok (.invokevirtual 67, 3) := by decide +kernel
theorem dX1_readSum_54 : decode cX1_readSum 54 = .ok (.ifCond .eq 26, 3) := by decide +kernel
theorem dX1_readSum_57 : decode cX1_readSum 57 = .ok (.aload_n 0, 1) := by decide +kernel
theorem dX1_readSum_58 : decode cX1_readSum 58 = .ok (.lload 4, 2) := by decide +kernel
theorem dX1_readSum_60 : decode cX1_readSum 60 = .ok (.aload_n 0, 1) := by decide +kernel
theorem dX1_readSum_61 : decode cX1_readSum 61 = .ok (.iload_n 1, 1) := by decide +kernel
theorem dX1_readSum_62 : decode cX1_readSum 62 = .ok (.iload_n 2, 1) := by decide +kernel
theorem dX1_readSum_63 : decode cX1_readSum 63 = .ok (.iload_n 3, 1) := by decide +kernel
theorem dX1_readSum_64 : decode cX1_readSum 64 = .ok (.invokevirtual 75, 3) := by decide +kernel
theorem dX1_readSum_67 : decode cX1_readSum 67 = .ok (.lsub, 1) := by decide +kernel
theorem dX1_readSum_68 : decode cX1_readSum 68 = .ok (.iload_n 3, 1) := by decide +kernel
theorem dX1_readSum_69 : decode cX1_readSum 69 = .ok (.invokevirtual 78, 3) := by decide +kernel
theorem dX1_readSum_72 : decode cX1_readSum 72 = .ok (.lstore 4, 2) := by decide +kernel
theorem dX1_readSum_74 : decode cX1_readSum 74 = .ok (.iinc 6 1, 3) := by decide +kernel
theorem dX1_readSum_77 : decode cX1_readSum 77 = .ok (.goto (-65), 3) := by decide +kernel
theorem dX1_readSum_80 : decode cX1_readSum 80 = .ok (.lload 4, 2) := by decide +kernel
theorem dX1_readSum_82 : decode cX1_readSum 82 = .ok (.lreturn, 1) := by decide +kernel
theorem dX1_readPart_0 : decode cX1_readPart 0 = .ok (.aload_n 0, 1) := by decide +kernel
theorem dX1_readPart_1 : decode cX1_readPart 1 = .ok (.iload_n 1, 1) := by decide +kernel
theorem dX1_readPart_2 : decode cX1_readPart 2 = .ok (.iload_n 2, 1) := by decide +kernel
theorem dX1_readPart_3 : decode cX1_readPart 3 = .ok (.iload_n 3, 1) := by decide +kernel
theorem dX1_readPart_4 : decode cX1_readPart 4 = .ok (.invokevirtual 82, 3) := by decide +kernel
theorem dX1_readPart_7 : decode cX1_readPart 7 = .ok (.lstore 4, 2) := by decide +kernel
theorem dX1_readPart_9 : decode cX1_readPart 9 = .ok (.aload_n 0, 1) := by decide +kernel
theorem dX1_readPart_10 : decode cX1_readPart 10 = .ok (.bipush 42, 2) := by decide +kernel
theorem dX1_readPart_12 : decode cX1_readPart 12 = .ok (.invokevirtual 67, 3) := by decide +kernel
theorem dX1_readPart_15 : decode cX1_readPart 15 = .ok (.ifCond .ne 6, 3) := by decide +kernel
theorem dX1_readPart_18 : decode cX1_readPart 18 = .ok (.lload 4, 2) := by decide +kernel
theorem dX1_readPart_20 : decode cX1_readPart 20 = .ok (.lreturn, 1) := by decide +kernel
theorem dX1_readPart_21 : decode cX1_readPart 21 = .ok (.lload 4, 2) := by decide +kernel
theorem dX1_readPart_23 : decode cX1_readPart 23 = .ok (.aload_n 0, 1) := by decide +kernel
theorem dX1_readPart_24 : decode cX1_readPart 24 = .ok (.iconst 3, 1) := by decide +kernel
theorem dX1_readPart_25 : decode cX1_readPart 25 = .ok (.invokevirtual 85, 3) := by decide +kernel
theorem dX1_readPart_28 : decode cX1_readPart 28 = .ok (.lmul, 1) := by decide +kernel
theorem dX1_readPart_29 : decode cX1_readPart 29 = .ok (.lstore 6, 2) := by decide +kernel
theorem dX1_readPart_31 : decode cX1_readPart 31 = .ok (.aload_n 0, 1) := by decide +kernel
theorem dX1_readPart_32 : decode cX1_readPart 32 = .ok (.bipush 37, 2) := by decide +kernel
theorem dX1_readPart_34 : decode cX1_readPart 34 = .ok (.invokevirtual 71, 3) := by decide +kernel
theorem dX1_readPart_37 : decode cX1_readPart 37 = .ok (.lload 6, 2) := by decide +kernel
theorem dX1_readPart_39 : decode cX1_readPart 39 = .ok (.ldc2_w 89, 3) := by decide +kernel
theorem dX1_readPart_42 : decode cX1_readPart 42 = .ok (.invokestatic 91, 3) := by decide +kernel
theorem dX1_readPart_45 : decode cX1_readPart 45 = .ok (.lstore 8, 2) := by decide +kernel
theorem dX1_readPart_47 : decode cX1_readPart 47 = .ok (.lload 6, 2) := by decide +kernel
theorem dX1_readPart_49 : decode cX1_readPart 49 = .ok (.ldc2_w 89, 3) := by decide +kernel
theorem dX1_readPart_52 : decode cX1_readPart 52 = .ok (.invokestatic 97, 3) := by decide +kernel
theorem dX1_readPart_55 : decode cX1_readPart 55 = .ok (.lstore 10, 2) := by decide +kernel
theorem dX1_readPart_57 : decode cX1_readPart 57 = .ok (.aload_n 0, 1) := by decide +kernel
theorem dX1_readPart_58 : decode cX1_readPart 58 = .ok (.lload 8, 2) := by decide +kernel
theorem dX1_readPart_60 : decode cX1_readPart 60 = .ok (.lload 10, 2) := by decide +kernel
theorem dX1_readPart_62 : decode cX1_readPart 62 = .ok (.ldc2_w 100, 3) := by decide +kernel
theorem dX1_readPart_65 : decode cX1_readPart 65 = .ok (.invokestatic 102, 3) := by decide +kernel
theorem dX1_readPart_68 : decode cX1_readPart 68 = .ok (.ifCond .eq 10, 3) := by decide +kernel
theorem dX1_readPart_71 : decode cX1_readPart 71 = .ok (.lload 8, 2) := by decide +kernel
theorem dX1_readPart_73 : decode cX1_readPart 73 = .ok (.lconst 1, 1) := by decide +kernel
theorem dX1_readPart_74 : decode cX1_readPart 74 = .ok (.ladd, 1) := by decide +kernel
theorem dX1_readPart_75 : decode cX1_readPart 75 = .ok (.goto 5, 3) := by decide +kernel
theorem dX1_readPart_78 : decode cX1_readPart 78 = .ok (.lload 8, 2) := by decide +kernel
theorem dX1_readPart_80 : decode cX1_readPart 80 = .ok (.iload_n 3, 1) := by decide +kernel
theorem dX1_readPart_81 : decode cX1_readPart 81 = .ok (.invokevirtual 78, 3) := by decide +kernel
theorem dX1_readPart_84 : decode cX1_readPart 84 = .ok (.lreturn, 1) := by decide +kernel
theorem dX1_readUnit_0 : decode cX1_readUnit 0 = .ok (.aload_n 0, 1) := by decide +kernel
theorem dX1_readUnit_1 : decode cX1_readUnit 1 = .ok (.invokevirtual 106, 3) := by decide +kernel
theorem dX1_readUnit_4 : decode cX1_readUnit 4 = .ok (.istore 4, 2) := by decide +kernel
theorem dX1_readUnit_6 : decode cX1_readUnit 6 = .ok (.iload 4, 2) := by decide +kernel
theorem dX1_readUnit_8 : decode cX1_readUnit 8 = .ok (.bipush 65, 2) := by decide +kernel
theorem dX1_readUnit_10 : decode cX1_readUnit 10 = .ok (.if_icmp .lt 20, 3) := by decide +kernel
theorem dX1_readUnit_13 : decode cX1_readUnit 13 = .ok (.iload 4, 2) := by decide +kernel
theorem dX1_readUnit_15 : decode cX1_readUnit 15 = .ok (.bipush 76, 2) := by decide +kernel
theorem dX1_readUnit_17 : decode cX1_readUnit 17 = .ok (.if_icmp .gt 13, 3) := by decide +kernel
theorem dX1_readUnit_20 : decode cX1_readUnit 20 = .ok (.aload_n 0, 1) := by decide +kernel
theorem dX1_readUnit_21 : decode cX1_readUnit 21 = .ok (.iload 4, 2) := by decide +kernel
theorem dX1_readUnit_23 : decode cX1_readUnit 23 = .ok (.bipush 65, 2) := by decide +kernel
theorem dX1_readUnit_25 : decode cX1_readUnit 25 = .ok (.isub, 1) := by decide +kernel
theorem dX1_readUnit_26 : decode cX1_readUnit 26 = .ok (.invokevirtual 110, 3) := by decide +kernel
theorem dX1_readUnit_29 : decode cX1_readUnit 29 = .ok (.lreturn, 1) := by decide +kernel
theorem dX1_readUnit_30 : decode cX1_readUnit 30 = .ok (.iload 4, 2) := by decide +kernel
theorem dX1_readUnit_32 : decode cX1_readUnit 32 = .ok (.invokestatic 113, 3) := by decide +kernel
theorem dX1_readUnit_35 : decode cX1_readUnit 35 = .ok (.ifCond .eq 10, 3) := by decide +kernel
theorem dX1_readUnit_38 : decode cX1_readUnit 38 = .ok (.aload_n 0, 1) := by decide +kernel
theorem dX1_readUnit_39 : decode cX1_readUnit 39 = .ok (.bipush 6, 2) := by decide +kernel
theorem dX1_readUnit_41 : decode cX1_readUnit 41 = .ok (.invokevirtual 85, 3) := by decide +kernel
theorem dX1_readUnit_44 : decode cX1_readUnit 44 = .ok (.lreturn, 1) := by decide +kernel
theorem dX1_readUnit_45 : decode cX1_readUnit 45 = .ok (.iload_n 1, 1) := by decide +kernel
theorem dX1_readUnit_46 : decode cX1_readUnit 46 = .ok (.iconst 4, 1) := by decide +kernel
theorem dX1_readUnit_47 : decode cX1_readUnit 47 = .ok (.if_icmp .lt 8, 3) := by decide +kernel
theorem dX1_readUnit_50 : decode cX1_readUnit 50 = .ok (.aload_n 0, 1) := by decide +kernel
theorem dX1_readUnit_51 : decode cX1_readUnit 51 = .ok (.invokevirtual 60, 3) := by decide +kernel
theorem dX1_readUnit_54 : decode cX1_readUnit 54 = .ok (.lreturn, 1) := by decide +kernel
theorem dX1_readUnit_55 : decode cX1_readUnit 55 = .ok (.iload 4, 2) := by decide +kernel
theorem dX1_readUnit_57 : decode cX1_readUnit 57 = .ok (.bipush 40, 2) := by decide +kernel
theorem dX1_readUnit_59 : decode cX1_readUnit 59 = .ok (.if_icmp .ne 15, 3) := by decide +kernel
theorem dX1_readUnit_62 : decode cX1_readUnit 62 = .ok (.aload_n 0, 1) := by decide +kernel
theorem dX1_readUnit_63 : decode cX1_readUnit 63 = .ok (.iload_n 1, 1) := by decide +kernel
theorem dX1_readUnit_64 : decode cX1_readUnit 64 = .ok (.iconst 1, 1) := by decide +kernel
theorem dX1_readUnit_65 : decode cX1_readUnit 65 = .ok (.iadd, 1) := by decide +kernel
theorem dX1_readUnit_66 : decode cX1_readUnit 66 = .ok (.iload_n 2, 1) := by decide +kernel
theorem dX1_readUnit_67 : decode cX1_readUnit 67 = .ok (.iconst 1, 1) := by decide +kernel
theorem dX1_readUnit_68 : decode cX1_readUnit 68 = .ok (.iadd, 1) := by decide +kernel
theorem dX1_readUnit_69 : decode cX1_readUnit 69 = .ok (.iload_n 3, 1) := by decide +kernel
theorem dX1_readUnit_70 : decode cX1_readUnit 70 = .ok (.invokevirtual 116, 3) := by decide +kernel
theorem dX1_readUnit_73 : decode cX1_readUnit 73 = .ok (.lreturn, 1) := by decide +kernel
theorem dX1_readUnit_74 : decode cX1_readUnit 74 = .ok (.iload 4, 2) := by decide +kernel
theorem dX1_readUnit_76 : decode cX1_readUnit 76 = .ok (.bipush 109, 2) := by decide +kernel
theorem dX1_readUnit_78 : decode cX1_readUnit 78 = .ok (.if_icmp .eq 10, 3) := by decide +kernel
theorem dX1_readUnit_81 : decode cX1_readUnit 81 = .ok (.iload 4, 2) := by decide +kernel
theorem dX1_readUnit_83 : decode cX1_readUnit 83 = .ok (.bipush 120, 2) := by decide +kernel
theorem dX1_readUnit_85 : decode cX1_readUnit 85 = .ok (.if_icmp .ne 15, 3) := by decide +kernel
theorem dX1_readUnit_88 : decode cX1_readUnit 88 = .ok (.aload_n 0, 1) := by decide +kernel
theorem dX1_readUnit_89 : decode cX1_readUnit 89 = .ok (.iload_n 1, 1) := by decide +kernel
theorem dX1_readUnit_90 : decode cX1_readUnit 90 = .ok (.iconst 1, 1) := by decide +kernel
theorem dX1_readUnit_91 : decode cX1_readUnit 91 = .ok (.iadd, 1) := by decide +kernel
theorem dX1_readUnit_92 : decode cX1_readUnit 92 = .ok (.iload_n 2, 1) := by decide +kernel
theorem dX1_readUnit_93 : decode cX1_readUnit 93 = .ok (.iconst 1, 1) := by decide +kernel
theorem dX1_readUnit_94 : decode cX1_readUnit 94 = .ok (.iadd, 1) := by decide +kernel
theorem dX1_readUnit_95 : decode cX1_readUnit 95 = .ok (.iload_n 3, 1) := by decide +kernel
theorem dX1_readUnit_96 : decode cX1_readUnit 96 = .ok (.invokevirtual 119, 3) := by decide +kernel
theorem dX1_readUnit_99 : decode cX1_readUnit 99 = .ok (.lreturn, 1) := by decide +kernel
theorem dX1_readUnit_100 : decode cX1_readUnit 100 = .ok (.iload 4, 2) := by decide +kernel
theorem dX1_readUnit_102 : decode cX1_readUnit 102 = .ok (.bipush 116, 2) := by decide +kernel
theorem dX1_readUnit_104 : decode cX1_readUnit 104 = .ok (.if_icmp .ne 17, 3) := by decide +kernel
theorem dX1_readUnit_107 : decode cX1_readUnit 107 = .ok (.aload_n 0, 1) := by decide +kernel
theorem dX1_readUnit_108 : decode cX1_readUnit 108 = .ok (.iload_n 1, 1) := by decide +kernel
theorem dX1_readUnit_109 : decode cX1_readUnit 109 = .ok (.iconst 1, 1) := by decide +kernel
theorem dX1_readUnit_110 : decode cX1_readUnit 110 = .ok (.iadd, 1) := by decide +kernel
theorem dX1_readUnit_111 : decode cX1_readUnit 111 = .ok (.iload_n 2, 1) := by decide +kernel
theorem dX1_readUnit_112 : decode cX1_readUnit 112 = .ok (.iconst 1, 1) := by decide +kernel
theorem dX1_readUnit_113 : decode cX1_readUnit 113 = .ok (.iadd, 1) := by decide +kernel
theorem dX1_readUnit_114 : decode cX1_readUnit 114 = .ok (.iload_n 3, 1) := by decide +kernel
theorem dX1_readUnit_115 : decode cX1_readUnit 115 = .ok (.invokevirtual 122, 3) := by decide +kernel
theorem dX1_readUnit_118 : decode cX1_readUnit 118 = .ok (.goto 7, 3) := by decide +kernel
theorem dX1_readUnit_121 : decode cX1_readUnit 121 = .ok (.aload_n 0, 1) := by decide +kernel
theorem dX1_readUnit_122 : decode cX1_readUnit 122 = .ok (.invokevirtual 60, 3) := by decide +kernel
theorem dX1_readUnit_125 : decode cX1_readUnit 125 = .ok (.lreturn, 1) := by decide +kernel
theorem dX1_readName_0 : decode cX1_readName 0 = .ok (.aload_n 0, 1) := by decide +kernel
theorem dX1_readName_1 : decode cX1_readName 1 = .ok (.dup, 1) := by decide +kernel
theorem dX1_readName_2 : decode cX1_readName 2 = .ok (.getfield 28, 3) := by decide +kernel
theorem dX1_readName_5 : decode cX1_readName 5 = .ok (.iconst 1, 1) := by decide +kernel
theorem dX1_readName_6 : decode cX1_readName 6 = .ok (.iadd, 1) := by decide +kernel
theorem dX1_readName_7 : decode cX1_readName 7 = .ok (.putfield 28, 3) := by decide +kernel
theorem dX1_readName_10 : decode cX1_readName 10 = .ok (.aload_n 0, 1) := by decide +kernel
theorem dX1_readName_11 : decode cX1_readName 11 = .ok (.bipush 39, 2) := by decide +kernel
theorem dX1_readName_13 : decode cX1_readName 13 = .ok (.invokevirtual 67, 3) := by decide +kernel
theorem dX1_readName_16 : decode cX1_readName 16 = .ok (.ifCond .eq 10, 3) := by decide +kernel
theorem dX1_readName_19 : decode cX1_readName 19 = .ok (.aload_n 0, 1) := by decide +kernel
theorem dX1_readName_20 : decode cX1_readName 20 = .ok (.getfield 39, 3) := by decide +kernel
theorem dX1_readName_23 : decode cX1_readName 23 = .ok (.iload_n 1, 1) := by decide +kernel
theorem dX1_readName_24 : decode cX1_readName 24 = .ok (.laload, 1) := by decide +kernel
theorem dX1_readName_25 : decode cX1_readName 25 = .ok (.lreturn, 1) := by decide +kernel
theorem dX1_readName_26 : decode cX1_readName 26 = .ok (.aload_n 0, 1) := by decide +kernel
theorem dX1_readName_27 : decode cX1_readName 27 = .ok (.dup, 1) := by decide +kernel
theorem dX1_readName_28 : decode cX1_readName 28 = .ok (.getfield 42, 3) := by decide +kernel
theorem dX1_readName_31 : decode cX1_readName 31 = .ok (.iconst 1, 1) := by decide +kernel
theorem dX1_readName_32 : decode cX1_readName 32 = .ok (.iload_n 1, 1) := by decide +kernel
theorem dX1_readName_33 : decode cX1_readName 33 = .ok (.ishl, 1) := by decide +kernel
theorem dX1_readName_34 : decode cX1_readName 34 = .ok (.ior, 1) := by decide +kernel
theorem dX1_readName_35 : decode cX1_readName 35 = .ok (.putfield 42, 3) := by decide +kernel
theorem dX1_readName_38 : decode cX1_readName 38 = .ok (.aload_n 0, 1) := by decide +kernel
theorem dX1_readName_39 : decode cX1_readName 39 = .ok (.getfield 36, 3) := by decide +kernel
theorem dX1_readName_42 : decode cX1_readName 42 = .ok (.iload_n 1, 1) := by decide +kernel
theorem dX1_readName_43 : decode cX1_readName 43 = .ok (.laload, 1) := by decide +kernel
theorem dX1_readName_44 : decode cX1_readName 44 = .ok (.lreturn, 1) := by decide +kernel
theorem dX1_readNumber_0 : decode cX1_readNumber 0 = .ok (.aload_n 0, 1) := by decide +kernel
theorem dX1_readNumber_1 : decode cX1_readNumber 1 = .ok (.invokevirtual 106, 3) := by decide +kernel
theorem dX1_readNumber_4 : decode cX1_readNumber 4 = .ok (.invokestatic 113, 3) := by decide +kernel
theorem dX1_readNumber_7 : decode cX1_readNumber 7 = .ok (.ifCond .ne 8, 3) := by decide +kernel
theorem dX1_readNumber_10 : decode cX1_readNumber 10 = .ok (.aload_n 0, 1) := by decide +kernel
theorem dX1_readNumber_11 : decode cX1_readNumber 11 = .ok (.invokevirtual 60, 3) := by decide +kernel
theorem dX1_readNumber_14 : decode cX1_readNumber 14 = .ok (.lreturn, 1) := by decide +kernel
theorem dX1_readNumber_15 : decode cX1_readNumber 15 = .ok (.lconst 0, 1) := by decide +kernel
theorem dX1_readNumber_16 : decode cX1_readNumber 16 = .ok (.lstore_n 2, 1) := by decide +kernel
theorem dX1_readNumber_17 : decode cX1_readNumber 17 = .ok (.iconst 0, 1) := by decide +kernel
theorem dX1_readNumber_18 : decode cX1_readNumber 18 = .ok (.istore 4, 2) := by decide +kernel
theorem dX1_readNumber_20 : decode cX1_readNumber 20 = .ok (.iload 4, 2) := by decide +kernel
theorem dX1_readNumber_22 : decode cX1_readNumber 22 = .ok (.iload_n 1, 1) := by decide +kernel
theorem dX1_readNumber_23 : decode cX1_readNumber 23 = .ok (.if_icmp .ge 44, 3) := by decide +kernel
theorem dX1_readNumber_26 : decode cX1_readNumber 26 = .ok (.aload_n 0, 1) := by decide +kernel
theorem dX1_readNumber_27 : decode cX1_readNumber 27 = .ok (.invokevirtual 106, 3) := by decide +kernel
theorem dX1_readNumber_30 : decode cX1_readNumber 30 = .ok (.invokestatic 113, 3) := by decide +kernel
theorem dX1_readNumber_33 : decode cX1_readNumber 33 = .ok (.ifCond .eq 34, 3) := by decide +kernel
theorem dX1_readNumber_36 : decode cX1_readNumber 36 = .ok (.lload_n 2, 1) := by decide +kernel
theorem dX1_readNumber_37 : decode cX1_readNumber 37 = .ok (.ldc2_w 125, 3) := by decide +kernel
theorem dX1_readNumber_40 : decode cX1_readNumber 40 = .ok (.lmul, 1) := by decide +kernel
theorem dX1_readNumber_41 : decode cX1_readNumber 41 = .ok (.aload_n 0, 1) := by decide +kernel
theorem dX1_readNumber_42 : decode cX1_readNumber 42 = .ok (.invokevirtual 106, 3) := by decide +kernel
theorem dX1_readNumber_45 : decode cX1_readNumber 45 = .ok (.bipush 48, 2) := by decide +kernel
theorem dX1_readNumber_47 : decode cX1_readNumber 47 = .ok (.isub, 1) := by decide +kernel
theorem dX1_readNumber_48 : decode cX1_readNumber 48 = .ok (.i2l, 1) := by decide +kernel
theorem dX1_readNumber_49 : decode cX1_readNumber 49 = .ok (.ladd, 1) := by decide +kernel
theorem dX1_readNumber_50 : decode cX1_readNumber 50 = .ok (.lstore_n 2, 1) := by decide +kernel
theorem dX1_readNumber_51 : decode cX1_readNumber 51 = .ok (.aload_n 0, 1) := by decide +kernel
theorem dX1_readNumber_52 : decode cX1_readNumber 52 = .ok (.dup, 1) := by decide +kernel
theorem dX1_readNumber_53 : decode cX1_readNumber 53 = .ok (.getfield 28, 3) := by decide +kernel
theorem dX1_readNumber_56 : decode cX1_readNumber 56 = .ok (.iconst 1, 1) := by decide +kernel
theorem dX1_readNumber_57 : decode cX1_readNumber 57 = .ok (.iadd, 1) := by decide +kernel
theorem dX1_readNumber_58 : decode cX1_readNumber 58 = .ok (.putfield 28, 3) := by decide +kernel
theorem dX1_readNumber_61 : decode cX1_readNumber 61 = .ok (.iinc 4 1, 3) := by decide +kernel
theorem dX1_readNumber_64 : decode cX1_readNumber 64 = .ok (.goto (-44), 3) := by decide +kernel
theorem dX1_readNumber_67 : decode cX1_readNumber 67 = .ok (.lload_n 2, 1) := by decide +kernel
theorem dX1_readNumber_68 : decode cX1_readNumber 68 = .ok (.lreturn, 1) := by decide +kernel
theorem dX1_readInBrackets_0 : decode cX1_readInBrackets 0 = .ok (.aload_n 0, 1) := by decide +kernel
theorem dX1_readInBrackets_1 : decode cX1_readInBrackets 1 = .ok (.bipush 40, 2) := by decide +kernel
theorem dX1_readInBrackets_3 : decode cX1_readInBrackets 3 = .ok (.invokevirtual 71, 3) := by decide +kernel
theorem dX1_readInBrackets_6 : decode cX1_readInBrackets 6 = .ok (.aload_n 0, 1) := by decide +kernel
theorem dX1_readInBrackets_7 : decode cX1_readInBrackets 7 = .ok (.iload_n 1, 1) := by decide +kernel
theorem dX1_readInBrackets_8 : decode cX1_readInBrackets 8 = .ok (.iload_n 2, 1) := by decide +kernel
theorem dX1_readInBrackets_9 : decode cX1_readInBrackets 9 = .ok (.iload_n 3, 1) := by decide +kernel
theorem dX1_readInBrackets_10 : decode cX1_readInBrackets 10 = .ok (.invokevirtual 53, 3) := by decide +kernel
theorem dX1_readInBrackets_13 : decode cX1_readInBrackets 13 = .ok (.lstore 4, 2) := by decide +kernel
theorem dX1_readInBrackets_15 : decode cX1_readInBrackets 15 = .ok (.aload_n 0, 1) := by decide +kernel
theorem dX1_readInBrackets_16 : decode cX1_readInBrackets 16 = .ok (.bipush 41, 2) := by decide +kernel
theorem dX1_readInBrackets_18 : decode cX1_readInBrackets 18 = .ok (.invokevirtual 71, 3) := by decide +kernel
theorem dX1_readInBrackets_21 : decode cX1_readInBrackets 21 = .ok (.lload 4, 2) := by decide +kernel
theorem dX1_readInBrackets_23 : decode cX1_readInBrackets 23 = .ok (.lreturn, 1) := by decide +kernel
theorem dX1_readOneOfTwo_0 : decode cX1_readOneOfTwo 0 = .ok (.aload_n 0, 1) := by decide +kernel
theorem dX1_readOneOfTwo_1 : decode cX1_readOneOfTwo 1 = .ok (.invokevirtual 106, 3) := by decide +kernel
theorem dX1_readOneOfTwo_4 : decode cX1_readOneOfTwo 4 = .ok (.bipush 109, 2) := by decide +kernel
theorem dX1_readOneOfTwo_6 : decode cX1_readOneOfTwo 6 = .ok (.if_icmp .ne 7, 3) := by decide +kernel
theorem dX1_readOneOfTwo_9 : decode cX1_readOneOfTwo 9 = .ok (.iconst 1, 1) := by decide +kernel
theorem dX1_readOneOfTwo_10 : decode cX1_readOneOfTwo 10 = .ok (.goto 4, 3) := by decide +kernel
theorem dX1_readOneOfTwo_13 : decode cX1_readOneOfTwo 13 = .ok (.iconst 0, 1) := by decide +kernel
theorem dX1_readOneOfTwo_14 : decode cX1_readOneOfTwo 14 = .ok (.istore 4, 2) := by decide +kernel
theorem dX1_readOneOfTwo_16 : decode cX1_readOneOfTwo 16 = .ok (.aload_n 0, 1) := by decide +kernel
theorem dX1_readOneOfTwo_17 : decode cX1_readOneOfTwo 17 = .ok (.dup, 1) := by decide +kernel
theorem dX1_readOneOfTwo_18 : decode cX1_readOneOfTwo 18 = .ok (.getfield 28, 3) := by decide +kernel
theorem dX1_readOneOfTwo_21 : decode cX1_readOneOfTwo 21 = .ok (.iconst 1, 1) := by decide +kernel
theorem dX1_readOneOfTwo_22 : decode cX1_readOneOfTwo 22 = .ok (.iadd, 1) := by decide +kernel
theorem dX1_readOneOfTwo_23 : decode cX1_readOneOfTwo 23 = .ok (.putfield 28, 3) := by decide +kernel
theorem dX1_readOneOfTwo_26 : decode cX1_readOneOfTwo 26 = .ok (.aload_n 0, 1) := by decide +kernel
theorem dX1_readOneOfTwo_27 : decode cX1_readOneOfTwo 27 = .ok (.bipush 40, 2) := by decide +kernel
theorem dX1_readOneOfTwo_29 : decode cX1_readOneOfTwo 29 = .ok (.invokevirtual 71, 3) := by decide +kernel
theorem dX1_readOneOfTwo_32 : decode cX1_readOneOfTwo 32 = .ok (.aload_n 0, 1) := by decide +kernel
theorem dX1_readOneOfTwo_33 : decode cX1_readOneOfTwo 33 = .ok (.iload_n 1, 1) := by decide +kernel
theorem dX1_readOneOfTwo_34 : decode cX1_readOneOfTwo 34 = .ok (.iload_n 2, 1) := by decide +kernel
theorem dX1_readOneOfTwo_35 : decode cX1_readOneOfTwo 35 = .ok (.iload_n 3, 1) := by decide +kernel
theorem dX1_readOneOfTwo_36 : decode cX1_readOneOfTwo 36 = .ok (.invokevirtual 53, 3) := by decide +kernel
theorem dX1_readOneOfTwo_39 : decode cX1_readOneOfTwo 39 = .ok (.lstore 5, 2) := by decide +kernel
theorem dX1_readOneOfTwo_41 : decode cX1_readOneOfTwo 41 = .ok (.aload_n 0, 1) := by decide +kernel
theorem dX1_readOneOfTwo_42 : decode cX1_readOneOfTwo 42 = .ok (.bipush 44, 2) := by decide +kernel
theorem dX1_readOneOfTwo_44 : decode cX1_readOneOfTwo 44 = .ok (.invokevirtual 71, 3) := by decide +kernel
theorem dX1_readOneOfTwo_47 : decode cX1_readOneOfTwo 47 = .ok (.aload_n 0, 1) := by decide +kernel
theorem dX1_readOneOfTwo_48 : decode cX1_readOneOfTwo 48 = .ok (.iload_n 1, 1) := by decide +kernel
theorem dX1_readOneOfTwo_49 : decode cX1_readOneOfTwo 49 = .ok (.iload_n 2, 1) := by decide +kernel
theorem dX1_readOneOfTwo_50 : decode cX1_readOneOfTwo 50 = .ok (.iload_n 3, 1) := by decide +kernel
theorem dX1_readOneOfTwo_51 : decode cX1_readOneOfTwo 51 = .ok (.invokevirtual 53, 3) := by decide +kernel
theorem dX1_readOneOfTwo_54 : decode cX1_readOneOfTwo 54 = .ok (.lstore 7, 2) := by decide +kernel
theorem dX1_readOneOfTwo_56 : decode cX1_readOneOfTwo 56 = .ok (.aload_n 0, 1) := by decide +kernel
theorem dX1_readOneOfTwo_57 : decode cX1_readOneOfTwo 57 = .ok (.bipush 41, 2) := by decide +kernel
theorem dX1_readOneOfTwo_59 : decode cX1_readOneOfTwo 59 = .ok (.invokevirtual 71, 3) := by decide +kernel
theorem dX1_readOneOfTwo_62 : decode cX1_readOneOfTwo 62 = .ok (.iload 4, 2) := by decide +kernel
theorem dX1_readOneOfTwo_64 : decode cX1_readOneOfTwo 64 = .ok (.ifCond .eq 13, 3) := by decide +kernel
theorem dX1_readOneOfTwo_67 : decode cX1_readOneOfTwo 67 = .ok (.lload 5, 2) := by decide +kernel
theorem dX1_readOneOfTwo_69 : decode cX1_readOneOfTwo 69 = .ok (.lload 7, 2) := by decide +kernel
theorem dX1_readOneOfTwo_71 : decode cX1_readOneOfTwo 71 = .ok (.invokestatic 127, 3) := by decide +kernel
theorem dX1_readOneOfTwo_74 : decode cX1_readOneOfTwo 74 = .ok (.goto 10, 3) := by decide +kernel
theorem dX1_readOneOfTwo_77 : decode cX1_readOneOfTwo 77 = .ok (.lload 5, 2) := by decide +kernel
theorem dX1_readOneOfTwo_79 : decode cX1_readOneOfTwo 79 = .ok (.lload 7, 2) := by decide +kernel
theorem dX1_readOneOfTwo_81 : decode cX1_readOneOfTwo 81 = .ok (.invokestatic 130, 3) := by decide +kernel
theorem dX1_readOneOfTwo_84 : decode cX1_readOneOfTwo 84 = .ok (.lreturn, 1) := by decide +kernel
theorem dX1_readTable_0 : decode cX1_readTable 0 = .ok (.aload_n 0, 1) := by decide +kernel
theorem dX1_readTable_1 : decode cX1_readTable 1 = .ok (.dup, 1) := by decide +kernel
theorem dX1_readTable_2 : decode cX1_readTable 2 = .ok (.getfield 28, 3) := by decide +kernel
theorem dX1_readTable_5 : decode cX1_readTable 5 = .ok (.iconst 1, 1) := by decide +kernel
theorem dX1_readTable_6 : decode cX1_readTable 6 = .ok (.iadd, 1) := by decide +kernel
theorem dX1_readTable_7 : decode cX1_readTable 7 = .ok (.putfield 28, 3) := by decide +kernel
theorem dX1_readTable_10 : decode cX1_readTable 10 = .ok (.aload_n 0, 1) := by decide +kernel
theorem dX1_readTable_11 : decode cX1_readTable 11 = .ok (.invokevirtual 106, 3) := by decide +kernel
theorem dX1_readTable_14 : decode cX1_readTable 14 = .ok (.bipush 48, 2) := by decide +kernel
theorem dX1_readTable_16 : decode cX1_readTable 16 = .ok (.isub, 1) := by decide +kernel
theorem dX1_readTable_17 : decode cX1_readTable 17 = .ok (.istore 4, 2) := by decide +kernel
theorem dX1_readTable_19 : decode cX1_readTable 19 = .ok (.iload 4, 2) := by decide +kernel
theorem dX1_readTable_21 : decode cX1_readTable 21 = .ok (.ifCond .lt 9, 3) := by decide +kernel
theorem dX1_readTable_24 : decode cX1_readTable 24 = .ok (.iload 4, 2) := by decide +kernel
theorem dX1_readTable_26 : decode cX1_readTable 26 = .ok (.iconst 3, 1) := by decide +kernel
theorem dX1_readTable_27 : decode cX1_readTable 27 = .ok (.if_icmp .lt 8, 3) := by decide +kernel
theorem dX1_readTable_30 : decode cX1_readTable 30 = .ok (.aload_n 0, 1) := by decide +kernel
theorem dX1_readTable_31 : decode cX1_readTable 31 = .ok (.invokevirtual 60, 3) := by decide +kernel
theorem dX1_readTable_34 : decode cX1_readTable 34 = .ok (.lreturn, 1) := by decide +kernel
theorem dX1_readTable_35 : decode cX1_readTable 35 = .ok (.aload_n 0, 1) := by decide +kernel
theorem dX1_readTable_36 : decode cX1_readTable 36 = .ok (.dup, 1) := by decide +kernel
theorem dX1_readTable_37 : decode cX1_readTable 37 = .ok (.getfield 28, 3) := by decide +kernel
theorem dX1_readTable_40 : decode cX1_readTable 40 = .ok (.iconst 1, 1) := by decide +kernel
theorem dX1_readTable_41 : decode cX1_readTable 41 = .ok (.iadd, 1) := by decide +kernel
theorem dX1_readTable_42 : decode cX1_readTable 42 = .ok (.putfield 28, 3) := by decide +kernel
theorem dX1_readTable_45 : decode cX1_readTable 45 = .ok (.aload_n 0, 1) := by decide +kernel
theorem dX1_readTable_46 : decode cX1_readTable 46 = .ok (.getfield 11, 3) := by decide +kernel
theorem dX1_readTable_49 : decode cX1_readTable 49 = .ok (.iload 4, 2) := by decide +kernel
theorem dX1_readTable_51 : decode cX1_readTable 51 = .ok (.aaload, 1) := by decide +kernel
theorem dX1_readTable_52 : decode cX1_readTable 52 = .ok (.aload_n 0, 1) := by decide +kernel
theorem dX1_readTable_53 : decode cX1_readTable 53 = .ok (.iload_n 1, 1) := by decide +kernel
theorem dX1_readTable_54 : decode cX1_readTable 54 = .ok (.iload_n 2, 1) := by decide +kernel
theorem dX1_readTable_55 : decode cX1_readTable 55 = .ok (.iload_n 3, 1) := by decide +kernel
theorem dX1_readTable_56 : decode cX1_readTable 56 = .ok (.invokevirtual 116, 3) := by decide +kernel
theorem dX1_readTable_59 : decode cX1_readTable 59 = .ok (.invokevirtual 133, 3) := by decide +kernel
theorem dX1_readTable_62 : decode cX1_readTable 62 = .ok (.lreturn, 1) := by decide +kernel
theorem dX1_next_0 : decode cX1_next 0 = .ok (.aload_n 0, 1) := by decide +kernel
theorem dX1_next_1 : decode cX1_next 1 = .ok (.getfield 32, 3) := by decide +kernel
theorem dX1_next_4 : decode cX1_next 4 = .ok (.ifCond .ne 17, 3) := by decide +kernel
theorem dX1_next_7 : decode cX1_next 7 = .ok (.aload_n 0, 1) := by decide +kernel
theorem dX1_next_8 : decode cX1_next 8 = .ok (.getfield 28, 3) := by decide +kernel
theorem dX1_next_11 : decode cX1_next 11 = .ok (.aload_n 0, 1) := by decide +kernel
theorem dX1_next_12 : decode cX1_next 12 = .ok (.getfield 24, 3) := by decide +kernel
theorem dX1_next_15 : decode cX1_next 15 = .ok (.getfield 57, 3) := by decide +kernel
theorem dX1_next_18 : decode cX1_next 18 = .ok (.if_icmp .lt 7, 3) := by decide +kernel
theorem dX1_next_21 : decode cX1_next 21 = .ok (.iconst 0, 1) := by decide +kernel
theorem dX1_next_22 : decode cX1_next 22 = .ok (.goto 15, 3) := by decide +kernel
theorem dX1_next_25 : decode cX1_next 25 = .ok (.aload_n 0, 1) := by decide +kernel
theorem dX1_next_26 : decode cX1_next 26 = .ok (.getfield 24, 3) := by decide +kernel
theorem dX1_next_29 : decode cX1_next 29 = .ok (.getfield 137, 3) := by decide +kernel
theorem dX1_next_32 : decode cX1_next 32 = .ok (.aload_n 0, 1) := by decide +kernel
theorem dX1_next_33 : decode cX1_next 33 = .ok (.getfield 28, 3) := by decide +kernel
theorem dX1_next_36 : decode cX1_next 36 = .ok (.caload, 1) := by decide +kernel
theorem dX1_next_37 : decode cX1_next 37 = .ok (.ireturn, 1) := by decide +kernel
theorem dX1_take_0 : decode cX1_take 0 = .ok (.aload_n 0, 1) := by decide +kernel
theorem dX1_take_1 : decode cX1_take 1 = .ok (.invokevirtual 106, 3) := by decide +kernel
theorem dX1_take_4 : decode cX1_take 4 = .ok (.iload_n 1, 1) := by decide +kernel
theorem dX1_take_5 : decode cX1_take 5 = .ok (.if_icmp .eq 5, 3) := by decide +kernel
theorem dX1_take_8 : decode cX1_take 8 = .ok (.iconst 0, 1) := by decide +kernel
theorem dX1_take_9 : decode cX1_take 9 = .ok (.ireturn, 1) := by decide +kernel
theorem dX1_take_10 : decode cX1_take 10 = .ok (.aload_n 0, 1) := by decide +kernel
theorem dX1_take_11 : decode cX1_take 11 = .ok (.dup, 1) := by decide +kernel
theorem dX1_take_12 : decode cX1_take 12 = .ok (.getfield 28, 3) := by decide +kernel
theorem dX1_take_15 : decode cX1_take 15 = .ok (.iconst 1, 1) := by decide +kernel
theorem dX1_take_16 : decode cX1_take 16 = .ok (.iadd, 1) := by decide +kernel
theorem dX1_take_17 : decode cX1_take 17 = .ok (.putfield 28, 3) := by decide +kernel
theorem dX1_take_20 : decode cX1_take 20 = .ok (.iconst 1, 1) := by decide +kernel
theorem dX1_take_21 : decode cX1_take 21 = .ok (.ireturn, 1) := by decide +kernel
theorem dX1_expect_0 : decode cX1_expect 0 = .ok (.aload_n 0, 1) := by decide +kernel
theorem dX1_expect_1 : decode cX1_expect 1 = .ok (.iload_n 1, 1) := by decide +kernel
theorem dX1_expect_2 : decode cX1_expect 2 = .ok (.invokevirtual 67, 3) := by decide +kernel
theorem dX1_expect_5 : decode cX1_expect 5 = .ok (.ifCond .ne 8, 3) := by decide +kernel
theorem dX1_expect_8 : decode cX1_expect 8 = .ok (.aload_n 0, 1) := by decide +kernel
theorem dX1_expect_9 : decode cX1_expect 9 = .ok (.iconst 1, 1) := by decide +kernel
theorem dX1_expect_10 : decode cX1_expect 10 = .ok (.putfield 32, 3) := by decide +kernel
theorem dX1_expect_13 : decode cX1_expect 13 = .ok (.return_, 1) := by decide +kernel
theorem dX1_refuse_0 : decode cX1_refuse 0 = .ok (.aload_n 0, 1) := by decide +kernel
theorem dX1_refuse_1 : decode cX1_refuse 1 = .ok (.iconst 1, 1) := by decide +kernel
theorem dX1_refuse_2 : decode cX1_refuse 2 = .ok (.putfield 32, 3) := by decide +kernel
theorem dX1_refuse_5 : decode cX1_refuse 5 = .ok (.lconst 0, 1) := by decide +kernel
theorem dX1_refuse_6 : decode cX1_refuse 6 = .ok (.lreturn, 1) := by decide +kernel
theorem dX1_checked_0 : decode cX1_checked 0 = .ok (.lload_n 1, 1) := by decide +kernel
theorem dX1_checked_1 : decode cX1_checked 1 = .ok (.ldc2_w 141, 3) := by decide +kernel
theorem dX1_checked_4 : decode cX1_checked 4 = .ok (.lcmp, 1) := by decide +kernel
theorem dX1_checked_5 : decode cX1_checked 5 = .ok (.ifCond .lt 13, 3) := by decide +kernel
theorem dX1_checked_8 : decode cX1_checked 8 = .ok (.lload_n 1, 1) := by decide +kernel
theorem dX1_checked_9 : decode cX1_checked 9 = .ok (.ldc2_w 143, 3) := by decide +kernel
theorem dX1_checked_12 : decode cX1_checked 12 = .ok (.lcmp, 1) := by decide +kernel
theorem dX1_checked_13 : decode cX1_checked 13 = .ok (.ifCond .gt 5, 3) := by decide +kernel
theorem dX1_checked_16 : decode cX1_checked 16 = .ok (.lload_n 1, 1) := by decide +kernel
theorem dX1_checked_17 : decode cX1_checked 17 = .ok (.lreturn, 1) := by decide +kernel
theorem dX1_checked_18 : decode cX1_checked 18 = .ok (.aload_n 0, 1) := by decide +kernel
theorem dX1_checked_19 : decode cX1_checked 19 = .ok (.aload_n 0, 1) := by decide +kernel
theorem dX1_checked_20 : decode cX1_checked 20 = .ok (.getfield 45, 3) := by decide +kernel
theorem dX1_checked_23 : decode cX1_checked 23 = .ok (.ifCond .ne 7, 3) := by decide +kernel
theorem dX1_checked_26 : decode cX1_checked 26 = .ok (.iload_n 3, 1) := by decide +kernel
theorem dX1_checked_27 : decode cX1_checked 27 = .ok (.ifCond .eq 7, 3) := by decide +kernel
theorem dX1_checked_30 : decode cX1_checked 30 = .ok (.iconst 1, 1) := by decide +kernel
theorem dX1_checked_31 : decode cX1_checked 31 = .ok (.goto 4, 3) := by decide +kernel
theorem dX1_checked_34 : decode cX1_checked 34 = .ok (.iconst 0, 1) := by decide +kernel
theorem dX1_checked_35 : decode cX1_checked 35 = .ok (.putfield 45, 3) := by decide +kernel
theorem dX1_checked_38 : decode cX1_checked 38 = .ok (.lconst 0, 1) := by decide +kernel
theorem dX1_checked_39 : decode cX1_checked 39 = .ok (.lreturn, 1) := by decide +kernel
theorem dX1_isDigit_0 : decode cX1_isDigit 0 = .ok (.iload_n 0, 1) := by decide +kernel
theorem dX1_isDigit_1 : decode cX1_isDigit 1 = .ok (.bipush 48, 2) := by decide +kernel
theorem dX1_isDigit_3 : decode cX1_isDigit 3 = .ok (.if_icmp .lt 13, 3) := by decide +kernel
theorem dX1_isDigit_6 : decode cX1_isDigit 6 = .ok (.iload_n 0, 1) := by decide +kernel
theorem dX1_isDigit_7 : decode cX1_isDigit 7 = .ok (.bipush 57, 2) := by decide +kernel
theorem dX1_isDigit_9 : decode cX1_isDigit 9 = .ok (.if_icmp .gt 7, 3) := by decide +kernel
theorem dX1_isDigit_12 : decode cX1_isDigit 12 = .ok (.iconst 1, 1) := by decide +kernel
theorem dX1_isDigit_13 : decode cX1_isDigit 13 = .ok (.goto 4, 3) := by decide +kernel
theorem dX1_isDigit_16 : decode cX1_isDigit 16 = .ok (.iconst 0, 1) := by decide +kernel
theorem dX1_isDigit_17 : decode cX1_isDigit 17 = .ok (.ireturn, 1) := by decide +kernel
theorem dX2_init_0 : decode cX2_init 0 = .ok (.aload_n 0, 1) := by decide +kernel
theorem dX2_init_1 : decode cX2_init 1 = .ok (.invokespecial 3, 3) := by decide +kernel
theorem dX2_init_4 : decode cX2_init 4 = .ok (.aload_n 0, 1) := by decide +kernel
theorem dX2_init_5 : decode cX2_init 5 = .ok (.bipush 12, 2) := by decide +kernel
theorem dX2_init_7 : decode cX2_init 7 = .ok (.newarray .int, 2) := by decide +kernel
theorem dX2_init_9 : decode cX2_init 9 = .ok (.putfield 9, 3) := by decide +kernel
theorem dX2_init_12 : decode cX2_init 12 = .ok (.aload_n 0, 1) := by decide +kernel
theorem dX2_init_13 : decode cX2_init 13 = .ok (.bipush 12, 2) := by decide +kernel
theorem dX2_init_15 : decode cX2_init 15 = .ok (.newarray .long, 2) := by decide +kernel
theorem dX2_init_17 : decode cX2_init 17 = .ok (.putfield 15, 3) := by decide +kernel
theorem dX2_init_20 : decode cX2_init 20 = .ok (.aload_n 0, 1) := by decide +kernel
theorem dX2_init_21 : decode cX2_init 21 = .ok (.lconst 0, 1) := by decide +kernel
theorem dX2_init_22 : decode cX2_init 22 = .ok (.putfield 19, 3) := by decide +kernel
theorem dX2_init_25 : decode cX2_init 25 = .ok (.aload_n 0, 1) := by decide +kernel
theorem dX2_init_26 : decode cX2_init 26 = .ok (.iconst 0, 1) := by decide +kernel
theorem dX2_init_27 : decode cX2_init 27 = .ok (.putfield 23, 3) := by decide +kernel
theorem dX2_init_30 : decode cX2_init 30 = .ok (.return_, 1) := by decide +kernel
theorem dX2_keep_0 : decode cX2_keep 0 = .ok (.aload_n 1, 1) := by decide +kernel
theorem dX2_keep_1 : decode cX2_keep 1 = .ok (.iconst 0, 1) := by decide +kernel
theorem dX2_keep_2 : decode cX2_keep 2 = .ok (.aload_n 0, 1) := by decide +kernel
theorem dX2_keep_3 : decode cX2_keep 3 = .ok (.getfield 15, 3) := by decide +kernel
theorem dX2_keep_6 : decode cX2_keep 6 = .ok (.iconst 0, 1) := by decide +kernel
theorem dX2_keep_7 : decode cX2_keep 7 = .ok (.bipush 12, 2) := by decide +kernel
theorem dX2_keep_9 : decode cX2_keep 9 = .ok (.invokestatic 27, 3) := by decide +kernel
theorem dX2_keep_12 : decode cX2_keep 12 = .ok (.aload_n 0, 1) := by decide +kernel
theorem dX2_keep_13 : decode cX2_keep 13 = .ok (.lload_n 2, 1) := by decide +kernel
theorem dX2_keep_14 : decode cX2_keep 14 = .ok (.putfield 19, 3) := by decide +kernel
theorem dX2_keep_17 : decode cX2_keep 17 = .ok (.aload_n 0, 1) := by decide +kernel
theorem dX2_keep_18 : decode cX2_keep 18 = .ok (.iconst 1, 1) := by decide +kernel
theorem dX2_keep_19 : decode cX2_keep 19 = .ok (.putfield 23, 3) := by decide +kernel
theorem dX2_keep_22 : decode cX2_keep 22 = .ok (.return_, 1) := by decide +kernel
theorem dX3_init_0 : decode cX3_init 0 = .ok (.aload_n 0, 1) := by decide +kernel
theorem dX3_init_1 : decode cX3_init 1 = .ok (.invokespecial 1, 3) := by decide +kernel
theorem dX3_init_4 : decode cX3_init 4 = .ok (.aload_n 0, 1) := by decide +kernel
theorem dX3_init_5 : decode cX3_init 5 = .ok (.iconst 4, 1) := by decide +kernel
theorem dX3_init_6 : decode cX3_init 6 = .ok (.newarray .int, 2) := by decide +kernel
theorem dX3_init_8 : decode cX3_init 8 = .ok (.putfield 9, 3) := by decide +kernel
theorem dX3_init_11 : decode cX3_init 11 = .ok (.aload_n 0, 1) := by decide +kernel
theorem dX3_init_12 : decode cX3_init 12 = .ok (.iconst 4, 1) := by decide +kernel
theorem dX3_init_13 : decode cX3_init 13 = .ok (.newarray .int, 2) := by decide +kernel
theorem dX3_init_15 : decode cX3_init 15 = .ok (.putfield 13, 3) := by decide +kernel
theorem dX3_init_18 : decode cX3_init 18 = .ok (.aload_n 0, 1) := by decide +kernel
theorem dX3_init_19 : decode cX3_init 19 = .ok (.iconst 0, 1) := by decide +kernel
theorem dX3_init_20 : decode cX3_init 20 = .ok (.putfield 16, 3) := by decide +kernel
theorem dX3_init_23 : decode cX3_init 23 = .ok (.aload_n 0, 1) := by decide +kernel
theorem dX3_init_24 : decode cX3_init 24 = .ok (.iconst 0, 1) := by decide +kernel
theorem dX3_init_25 : decode cX3_init 25 = .ok (.putfield 20, 3) := by decide +kernel
theorem dX3_init_28 : decode cX3_init 28 = .ok (.return_, 1) := by decide +kernel
theorem dX3_isFull_0 : decode cX3_isFull 0 = .ok (.aload_n 0, 1) := by decide +kernel
theorem dX3_isFull_1 : decode cX3_isFull 1 = .ok (.getfield 16, 3) := by decide +kernel
theorem dX3_isFull_4 : decode cX3_isFull 4 = .ok (.iconst 4, 1) := by decide +kernel
theorem dX3_isFull_5 : decode cX3_isFull 5 = .ok (.if_icmp .lt 7, 3) := by decide +kernel
theorem dX3_isFull_8 : decode cX3_isFull 8 = .ok (.iconst 1, 1) := by decide +kernel
theorem dX3_isFull_9 : decode cX3_isFull 9 = .ok (.goto 4, 3) := by decide +kernel
theorem dX3_isFull_12 : decode cX3_isFull 12 = .ok (.iconst 0, 1) := by decide +kernel
theorem dX3_isFull_13 : decode cX3_isFull 13 = .ok (.ireturn, 1) := by decide +kernel
theorem dX3_allowsBeginning_0 : decode cX3_allowsBeginning 0 = .ok (.iload_n 1, 1) := by decide +kernel
theorem dX3_allowsBeginning_1 : decode cX3_allowsBeginning 1 = .ok (.ifCond .lt 35, 3) := by decide +kernel
theorem dX3_allowsBeginning_4 : decode cX3_allowsBeginning 4 = .ok (.iload_n 1, 1) := by decide +kernel
theorem dX3_allowsBeginning_5 : decode cX3_allowsBeginning 5 = .ok (.ldc 23, 2) := by decide +kernel
theorem dX3_allowsBeginning_7 : decode cX3_allowsBeginning 7 = .ok (.if_icmp .gt 29, 3) := by decide +kernel
theorem dX3_allowsBeginning_10 : decode cX3_allowsBeginning 10 = .ok (.aload_n 0, 1) := by decide +kernel
theorem dX3_allowsBeginning_11 : decode cX3_allowsBeginning 11 = .ok (.getfield 16, 3) := by decide +kernel
theorem dX3_allowsBeginning_14 : decode cX3_allowsBeginning 14 = .ok (.ifCond .eq 18, 3) := by decide +kernel
theorem dX3_allowsBeginning_17 : decode cX3_allowsBeginning 17 = .ok (.iload_n 1, 1) := by decide +kernel
theorem dX3_allowsBeginning_18 : decode cX3_allowsBeginning 18 = .ok (.aload_n 0, 1) := by decide +kernel
theorem dX3_allowsBeginning_19 : decode cX3_allowsBeginning 19 = .ok (.getfield 9, 3) := by decide +kernel
theorem dX3_allowsBeginning_22 : decode cX3_allowsBeginning 22 = .ok (.aload_n 0, 1) := by decide +kernel
theorem dX3_allowsBeginning_23 : decode cX3_allowsBeginning 23 = .ok (.getfield 16, 3) := by decide +kernel
theorem dX3_allowsBeginning_26 : decode cX3_allowsBeginning 26 = .ok (.iconst 1, 1) := by decide +kernel
theorem dX3_allowsBeginning_27 : decode cX3_allowsBeginning 27 = .ok (.isub, 1) := by decide +kernel
theorem dX3_allowsBeginning_28 : decode cX3_allowsBeginning 28 = .ok (.iaload, 1) := by decide +kernel
theorem dX3_allowsBeginning_29 : decode cX3_allowsBeginning 29 = .ok (.if_icmp .le 7, 3) := by decide +kernel
theorem dX3_allowsBeginning_32 : decode cX3_allowsBeginning 32 = .ok (.iconst 1, 1) := by decide +kernel
theorem dX3_allowsBeginning_33 : decode cX3_allowsBeginning 33 = .ok (.goto 4, 3) := by decide +kernel
theorem dX3_allowsBeginning_36 : decode cX3_allowsBeginning 36 = .ok (.iconst 0, 1) := by decide +kernel
theorem dX3_allowsBeginning_37 : decode cX3_allowsBeginning 37 = .ok (.ireturn, 1) := by decide +kernel
theorem dX3_append_0 : decode cX3_append 0 = .ok (.aload_n 0, 1) := by decide +kernel
theorem dX3_append_1 : decode cX3_append 1 = .ok (.getfield 9, 3) := by decide +kernel
theorem dX3_append_4 : decode cX3_append 4 = .ok (.aload_n 0, 1) := by decide +kernel
theorem dX3_append_5 : decode cX3_append 5 = .ok (.getfield 16, 3) := by decide +kernel
theorem dX3_append_8 : decode cX3_append 8 = .ok (.iload_n 1, 1) := by decide +kernel
theorem dX3_append_9 : decode cX3_append 9 = .ok (.iastore, 1) := by decide +kernel
theorem dX3_append_10 : decode cX3_append 10 = .ok (.aload_n 0, 1) := by decide +kernel
theorem dX3_append_11 : decode cX3_append 11 = .ok (.getfield 13, 3) := by decide +kernel
theorem dX3_append_14 : decode cX3_append 14 = .ok (.aload_n 0, 1) := by decide +kernel
theorem dX3_append_15 : decode cX3_append 15 = .ok (.getfield 16, 3) := by decide +kernel
theorem dX3_append_18 : decode cX3_append 18 = .ok (.iload_n 2, 1) := by decide +kernel
theorem dX3_append_19 : decode cX3_append 19 = .ok (.iastore, 1) := by decide +kernel
theorem dX3_append_20 : decode cX3_append 20 = .ok (.aload_n 0, 1) := by decide +kernel
theorem dX3_append_21 : decode cX3_append 21 = .ok (.dup, 1) := by decide +kernel
theorem dX3_append_22 : decode cX3_append 22 = .ok (.getfield 16, 3) := by decide +kernel
theorem dX3_append_25 : decode cX3_append 25 = .ok (.iconst 1, 1) := by decide +kernel
theorem dX3_append_26 : decode cX3_append 26 = .ok (.iadd, 1) := by decide +kernel
theorem dX3_append_27 : decode cX3_append 27 = .ok (.putfield 16, 3) := by decide +kernel
theorem dX3_append_30 : decode cX3_append 30 = .ok (.return_, 1) := by decide +kernel
theorem dX3_makeOf_0 : decode cX3_makeOf 0 = .ok (.lconst 0, 1) := by decide +kernel
theorem dX3_makeOf_1 : decode cX3_makeOf 1 = .ok (.lstore_n 3, 1) := by decide +kernel
theorem dX3_makeOf_2 : decode cX3_makeOf 2 = .ok (.iconst 0, 1) := by decide +kernel
theorem dX3_makeOf_3 : decode cX3_makeOf 3 = .ok (.istore 5, 2) := by decide +kernel
theorem dX3_makeOf_5 : decode cX3_makeOf 5 = .ok (.iload 5, 2) := by decide +kernel
theorem dX3_makeOf_7 : decode cX3_makeOf 7 = .ok (.aload_n 0, 1) := by decide +kernel
theorem dX3_makeOf_8 : decode cX3_makeOf 8 = .ok (.getfield 16, 3) := by decide +kernel
theorem dX3_makeOf_11 : decode cX3_makeOf 11 = .ok (.if_icmp .ge 77, 3) := by decide +kernel
theorem dX3_makeOf_14 : decode cX3_makeOf 14 = .ok (.iload 5, 2) := by decide +kernel
theorem dX3_makeOf_16 : decode cX3_makeOf 16 = .ok (.iconst 1, 1) := by decide +kernel
theorem dX3_makeOf_17 : decode cX3_makeOf 17 = .ok (.iadd, 1) := by decide +kernel
theorem dX3_makeOf_18 : decode cX3_makeOf 18 = .ok (.aload_n 0, 1) := by decide +kernel
theorem dX3_makeOf_19 : decode cX3_makeOf 19 = .ok (.getfield 16, 3) := by decide +kernel
theorem dX3_makeOf_22 : decode cX3_makeOf 22 = .ok (.if_icmp .ge 20, 3) := by decide +kernel
theorem dX3_makeOf_25 : decode cX3_makeOf 25 = .ok (.lload_n 1, 1) := by decide +kernel
theorem dX3_makeOf_26 : decode cX3_makeOf 26 = .ok (.aload_n 0, 1) := by decide +kernel
theorem dX3_makeOf_27 : decode cX3_makeOf 27 = .ok (.getfield 9, 3) := by decide +kernel
theorem dX3_makeOf_30 : decode cX3_makeOf 30 = .ok (.iload 5, 2) := by decide +kernel
theorem dX3_makeOf_32 : decode cX3_makeOf 32 = .ok (.iconst 1, 1) := by decide +kernel
theorem dX3_makeOf_33 : decode cX3_makeOf 33 = .ok (.iadd, 1) := by decide +kernel
theorem dX3_makeOf_34 : decode cX3_makeOf 34 = .ok (.iaload, 1) := by decide +kernel
theorem dX3_makeOf_35 : decode cX3_makeOf 35 = .ok (.i2l, 1) := by decide +kernel
theorem dX3_makeOf_36 : decode cX3_makeOf 36 = .ok (.invokestatic 24, 3) := by decide +kernel
theorem dX3_makeOf_39 : decode cX3_makeOf 39 = .ok (.goto 4, 3) := by decide +kernel
theorem dX3_makeOf_42 : decode cX3_makeOf 42 = .ok (.lload_n 1, 1) := by decide +kernel
theorem dX3_makeOf_43 : decode cX3_makeOf 43 = .ok (.lstore 6, 2) := by decide +kernel
theorem dX3_makeOf_45 : decode cX3_makeOf 45 = .ok (.lload 6, 2) := by decide +kernel
theorem dX3_makeOf_47 : decode cX3_makeOf 47 = .ok (.aload_n 0, 1) := by decide +kernel
theorem dX3_makeOf_48 : decode cX3_makeOf 48 = .ok (.getfield 9, 3) := by decide +kernel
theorem dX3_makeOf_51 : decode cX3_makeOf 51 = .ok (.iload 5, 2) := by decide +kernel
theorem dX3_makeOf_53 : decode cX3_makeOf 53 = .ok (.iaload, 1) := by decide +kernel
theorem dX3_makeOf_54 : decode cX3_makeOf 54 = .ok (.i2l, 1) := by decide +kernel
theorem dX3_makeOf_55 : decode cX3_makeOf 55 = .ok (.lcmp, 1) := by decide +kernel
theorem dX3_makeOf_56 : decode cX3_makeOf 56 = .ok (.ifCond .le 26, 3) := by decide +kernel
theorem dX3_makeOf_59 : decode cX3_makeOf 59 = .ok (.lload_n 3, 1) := by decide +kernel
theorem dX3_makeOf_60 : decode cX3_makeOf 60 = .ok (.aload_n 0, 1) := by decide +kernel
theorem dX3_makeOf_61 : decode cX3_makeOf 61 = .ok (.getfield 13, 3) := by decide +kernel
theorem dX3_makeOf_64 : decode cX3_makeOf 64 = .ok (.iload 5, 2) := by decide +kernel
theorem dX3_makeOf_66 : decode cX3_makeOf 66 = .ok (.iaload, 1) := by decide +kernel
theorem dX3_makeOf_67 : decode cX3_makeOf 67 = .ok (.i2l, 1) := by decide +kernel
theorem dX3_makeOf_68 : decode cX3_makeOf 68 = .ok (.lload 6, 2) := by decide +kernel
theorem dX3_makeOf_70 : decode cX3_makeOf 70 = .ok (.aload_n 0, 1) := by decide +kernel
theorem dX3_makeOf_71 : decode cX3_makeOf 71 = .ok (.getfield 9, 3) := by decide +kernel
theorem dX3_makeOf_74 : decode cX3_makeOf 74 = .ok (.iload 5, 2) := by decide +kernel
theorem dX3_makeOf_76 : decode cX3_makeOf 76 = .ok (.iaload, 1) := by decide +kernel
theorem dX3_makeOf_77 : decode cX3_makeOf 77 = .ok (.i2l, 1) := by decide +kernel
theorem dX3_makeOf_78 : decode cX3_makeOf 78 = .ok (.lsub, 1) := by decide +kernel
theorem dX3_makeOf_79 : decode cX3_makeOf 79 = .ok (.lmul, 1) := by decide +kernel
theorem dX3_makeOf_80 : decode cX3_makeOf 80 = .ok (.ladd, 1) := by decide +kernel
theorem dX3_makeOf_81 : decode cX3_makeOf 81 = .ok (.lstore_n 3, 1) := by decide +kernel
theorem dX3_makeOf_82 : decode cX3_makeOf 82 = .ok (.iinc 5 1, 3) := by decide +kernel
theorem dX3_makeOf_85 : decode cX3_makeOf 85 = .ok (.goto (-80), 3) := by decide +kernel
theorem dX3_makeOf_88 : decode cX3_makeOf 88 = .ok (.aload_n 0, 1) := by decide +kernel
theorem dX3_makeOf_89 : decode cX3_makeOf 89 = .ok (.lload_n 3, 1) := by decide +kernel
theorem dX3_makeOf_90 : decode cX3_makeOf 90 = .ok (.invokevirtual 30, 3) := by decide +kernel
theorem dX3_makeOf_93 : decode cX3_makeOf 93 = .ok (.lreturn, 1) := by decide +kernel
theorem dX3_rounded_0 : decode cX3_rounded 0 = .ok (.lload_n 1, 1) := by decide +kernel
theorem dX3_rounded_1 : decode cX3_rounded 1 = .ok (.ldc2_w 34, 3) := by decide +kernel
theorem dX3_rounded_4 : decode cX3_rounded 4 = .ok (.ldiv, 1) := by decide +kernel
theorem dX3_rounded_5 : decode cX3_rounded 5 = .ok (.lstore_n 3, 1) := by decide +kernel
theorem dX3_rounded_6 : decode cX3_rounded 6 = .ok (.lload_n 1, 1) := by decide +kernel
theorem dX3_rounded_7 : decode cX3_rounded 7 = .ok (.ldc2_w 34, 3) := by decide +kernel
theorem dX3_rounded_10 : decode cX3_rounded 10 = .ok (.lrem, 1) := by decide +kernel
theorem dX3_rounded_11 : decode cX3_rounded 11 = .ok (.lstore 5, 2) := by decide +kernel
theorem dX3_rounded_13 : decode cX3_rounded 13 = .ok (.aload_n 0, 1) := by decide +kernel
theorem dX3_rounded_14 : decode cX3_rounded 14 = .ok (.getfield 20, 3) := by decide +kernel
theorem dX3_rounded_17 : decode cX3_rounded 17 = .ok (.iconst 1, 1) := by decide +kernel
theorem dX3_rounded_18 : decode cX3_rounded 18 = .ok (.if_icmp .ne 12, 3) := by decide +kernel
theorem dX3_rounded_21 : decode cX3_rounded 21 = .ok (.lload 5, 2) := by decide +kernel
theorem dX3_rounded_23 : decode cX3_rounded 23 = .ok (.ldc2_w 36, 3) := by decide +kernel
theorem dX3_rounded_26 : decode cX3_rounded 26 = .ok (.lcmp, 1) := by decide +kernel
theorem dX3_rounded_27 : decode cX3_rounded 27 = .ok (.ifCond .ge 23, 3) := by decide +kernel
theorem dX3_rounded_30 : decode cX3_rounded 30 = .ok (.aload_n 0, 1) := by decide +kernel
theorem dX3_rounded_31 : decode cX3_rounded 31 = .ok (.getfield 20, 3) := by decide +kernel
theorem dX3_rounded_34 : decode cX3_rounded 34 = .ok (.iconst 2, 1) := by decide +kernel
theorem dX3_rounded_35 : decode cX3_rounded 35 = .ok (.if_icmp .ne 19, 3) := by decide +kernel
theorem dX3_rounded_38 : decode cX3_rounded 38 = .ok (.lload_n 3, 1) := by decide +kernel
theorem dX3_rounded_39 : decode cX3_rounded 39 = .ok (.lload 5, 2) := by decide +kernel
theorem dX3_rounded_41 : decode cX3_rounded 41 = .ok (.ldc2_w 36, 3) := by decide +kernel
theorem dX3_rounded_44 : decode cX3_rounded 44 = .ok (.invokestatic 38, 3) := by decide +kernel
theorem dX3_rounded_47 : decode cX3_rounded 47 = .ok (.ifCond .eq 7, 3) := by decide +kernel
theorem dX3_rounded_50 : decode cX3_rounded 50 = .ok (.iconst 1, 1) := by decide +kernel
theorem dX3_rounded_51 : decode cX3_rounded 51 = .ok (.goto 4, 3) := by decide +kernel
theorem dX3_rounded_54 : decode cX3_rounded 54 = .ok (.iconst 0, 1) := by decide +kernel
theorem dX3_rounded_55 : decode cX3_rounded 55 = .ok (.istore 7, 2) := by decide +kernel
theorem dX3_rounded_57 : decode cX3_rounded 57 = .ok (.iload 7, 2) := by decide +kernel
theorem dX3_rounded_59 : decode cX3_rounded 59 = .ok (.ifCond .eq 9, 3) := by decide +kernel
theorem dX3_rounded_62 : decode cX3_rounded 62 = .ok (.lload_n 3, 1) := by decide +kernel
theorem dX3_rounded_63 : decode cX3_rounded 63 = .ok (.lconst 1, 1) := by decide +kernel
theorem dX3_rounded_64 : decode cX3_rounded 64 = .ok (.ladd, 1) := by decide +kernel
theorem dX3_rounded_65 : decode cX3_rounded 65 = .ok (.goto 4, 3) := by decide +kernel
theorem dX3_rounded_68 : decode cX3_rounded 68 = .ok (.lload_n 3, 1) := by decide +kernel
theorem dX3_rounded_69 : decode cX3_rounded 69 = .ok (.lreturn, 1) := by decide +kernel
theorem dX4_init_0 : decode cX4_init 0 = .ok (.aload_n 0, 1) := by decide +kernel
theorem dX4_init_1 : decode cX4_init 1 = .ok (.invokespecial 3, 3) := by decide +kernel
theorem dX4_init_4 : decode cX4_init 4 = .ok (.aload_n 0, 1) := by decide +kernel
theorem dX4_init_5 : decode cX4_init 5 = .ok (.bipush 40, 2) := by decide +kernel
theorem dX4_init_7 : decode cX4_init 7 = .ok (.newarray .char, 2) := by decide +kernel
theorem dX4_init_9 : decode cX4_init 9 = .ok (.putfield 9, 3) := by decide +kernel
theorem dX4_init_12 : decode cX4_init 12 = .ok (.aload_n 0, 1) := by decide +kernel
theorem dX4_init_13 : decode cX4_init 13 = .ok (.iconst 0, 1) := by decide +kernel
theorem dX4_init_14 : decode cX4_init 14 = .ok (.putfield 15, 3) := by decide +kernel
theorem dX4_init_17 : decode cX4_init 17 = .ok (.return_, 1) := by decide +kernel
theorem dX4_isFull_0 : decode cX4_isFull 0 = .ok (.aload_n 0, 1) := by decide +kernel
theorem dX4_isFull_1 : decode cX4_isFull 1 = .ok (.getfield 15, 3) := by decide +kernel
theorem dX4_isFull_4 : decode cX4_isFull 4 = .ok (.bipush 40, 2) := by decide +kernel
theorem dX4_isFull_6 : decode cX4_isFull 6 = .ok (.if_icmp .lt 7, 3) := by decide +kernel
theorem dX4_isFull_9 : decode cX4_isFull 9 = .ok (.iconst 1, 1) := by decide +kernel
theorem dX4_isFull_10 : decode cX4_isFull 10 = .ok (.goto 4, 3) := by decide +kernel
theorem dX4_isFull_13 : decode cX4_isFull 13 = .ok (.iconst 0, 1) := by decide +kernel
theorem dX4_isFull_14 : decode cX4_isFull 14 = .ok (.ireturn, 1) := by decide +kernel
theorem dX4_append_0 : decode cX4_append 0 = .ok (.aload_n 0, 1) := by decide +kernel
theorem dX4_append_1 : decode cX4_append 1 = .ok (.getfield 9, 3) := by decide +kernel
theorem dX4_append_4 : decode cX4_append 4 = .ok (.aload_n 0, 1) := by decide +kernel
theorem dX4_append_5 : decode cX4_append 5 = .ok (.getfield 15, 3) := by decide +kernel
theorem dX4_append_8 : decode cX4_append 8 = .ok (.iload_n 1, 1) := by decide +kernel
theorem dX4_append_9 : decode cX4_append 9 = .ok (.castore, 1) := by decide +kernel
theorem dX4_append_10 : decode cX4_append 10 = .ok (.aload_n 0, 1) := by decide +kernel
theorem dX4_append_11 : decode cX4_append 11 = .ok (.dup, 1) := by decide +kernel
theorem dX4_append_12 : decode cX4_append 12 = .ok (.getfield 15, 3) := by decide +kernel
theorem dX4_append_15 : decode cX4_append 15 = .ok (.iconst 1, 1) := by decide +kernel
theorem dX4_append_16 : decode cX4_append 16 = .ok (.iadd, 1) := by decide +kernel
theorem dX4_append_17 : decode cX4_append 17 = .ok (.putfield 15, 3) := by decide +kernel
theorem dX4_append_20 : decode cX4_append 20 = .ok (.return_, 1) := by decide +kernel
theorem dX4_copy_0 : decode cX4_copy 0 = .ok (.aload_n 1, 1) := by decide +kernel
theorem dX4_copy_1 : decode cX4_copy 1 = .ok (.getfield 9, 3) := by decide +kernel
theorem dX4_copy_4 : decode cX4_copy 4 = .ok (.iconst 0, 1) := by decide +kernel
theorem dX4_copy_5 : decode cX4_copy 5 = .ok (.aload_n 0, 1) := by decide +kernel
theorem dX4_copy_6 : decode cX4_copy 6 = .ok (.getfield 9, 3) := by decide +kernel
theorem dX4_copy_9 : decode cX4_copy 9 = .ok (.iconst 0, 1) := by decide +kernel
theorem dX4_copy_10 : decode cX4_copy 10 = .ok (.aload_n 1, 1) := by decide +kernel
theorem dX4_copy_11 : decode cX4_copy 11 = .ok (.getfield 15, 3) := by decide +kernel
theorem dX4_copy_14 : decode cX4_copy 14 = .ok (.invokestatic 19, 3) := by decide +kernel
theorem dX4_copy_17 : decode cX4_copy 17 = .ok (.aload_n 0, 1) := by decide +kernel
theorem dX4_copy_18 : decode cX4_copy 18 = .ok (.aload_n 1, 1) := by decide +kernel
theorem dX4_copy_19 : decode cX4_copy 19 = .ok (.getfield 15, 3) := by decide +kernel
theorem dX4_copy_22 : decode cX4_copy 22 = .ok (.putfield 15, 3) := by decide +kernel
theorem dX4_copy_25 : decode cX4_copy 25 = .ok (.return_, 1) := by decide +kernel
theorem dX5_init_0 : decode cX5_init 0 = .ok (.aload_n 0, 1) := by decide +kernel
theorem dX5_init_1 : decode cX5_init 1 = .ok (.invokespecial 1, 3) := by decide +kernel
theorem dX5_init_4 : decode cX5_init 4 = .ok (.aload_n 0, 1) := by decide +kernel
theorem dX5_init_5 : decode cX5_init 5 = .ok (.new 7, 3) := by decide +kernel
theorem dX5_init_8 : decode cX5_init 8 = .ok (.dup, 1) := by decide +kernel
theorem dX5_init_9 : decode cX5_init 9 = .ok (.invokespecial 9, 3) := by decide +kernel
theorem dX5_init_12 : decode cX5_init 12 = .ok (.putfield 10, 3) := by decide +kernel
theorem dX5_init_15 : decode cX5_init 15 = .ok (.aload_n 0, 1) := by decide +kernel
theorem dX5_init_16 : decode cX5_init 16 = .ok (.bipush 12, 2) := by decide +kernel
theorem dX5_init_18 : decode cX5_init 18 = .ok (.anewarray 7, 3) := by decide +kernel
theorem dX5_init_21 : decode cX5_init 21 = .ok (.putfield 16, 3) := by decide +kernel
theorem dX5_init_24 : decode cX5_init 24 = .ok (.aload_n 0, 1) := by decide +kernel
theorem dX5_init_25 : decode cX5_init 25 = .ok (.bipush 12, 2) := by decide +kernel
theorem dX5_init_27 : decode cX5_init 27 = .ok (.newarray .int, 2) := by decide +kernel
theorem dX5_init_29 : decode cX5_init 29 = .ok (.putfield 20, 3) := by decide +kernel
theorem dX5_init_32 : decode cX5_init 32 = .ok (.aload_n 0, 1) := by decide +kernel
theorem dX5_init_33 : decode cX5_init 33 = .ok (.bipush 12, 2) := by decide +kernel
theorem dX5_init_35 : decode cX5_init 35 = .ok (.anewarray 24, 3) := by decide +kernel
theorem dX5_init_38 : decode cX5_init 38 = .ok (.putfield 26, 3) := by decide +kernel
theorem dX5_init_41 : decode cX5_init 41 = .ok (.aload_n 0, 1) := by decide +kernel
theorem dX5_init_42 : decode cX5_init 42 = .ok (.iconst 3, 1) := by decide +kernel
theorem dX5_init_43 : decode cX5_init 43 = .ok (.anewarray 30, 3) := by decide +kernel
theorem dX5_init_46 : decode cX5_init 46 = .ok (.putfield 32, 3) := by decide +kernel
theorem dX5_init_49 : decode cX5_init 49 = .ok (.aload_n 0, 1) := by decide +kernel
theorem dX5_init_50 : decode cX5_init 50 = .ok (.new 36, 3) := by decide +kernel
theorem dX5_init_53 : decode cX5_init 53 = .ok (.dup, 1) := by decide +kernel
theorem dX5_init_54 : decode cX5_init 54 = .ok (.invokespecial 38, 3) := by decide +kernel
theorem dX5_init_57 : decode cX5_init 57 = .ok (.putfield 39, 3) := by decide +kernel
theorem dX5_init_60 : decode cX5_init 60 = .ok (.aload_n 0, 1) := by decide +kernel
theorem dX5_init_61 : decode cX5_init 61 = .ok (.bipush 12, 2) := by decide +kernel
theorem dX5_init_63 : decode cX5_init 63 = .ok (.newarray .int, 2) := by decide +kernel
theorem dX5_init_65 : decode cX5_init 65 = .ok (.putfield 43, 3) := by decide +kernel
theorem dX5_init_68 : decode cX5_init 68 = .ok (.aload_n 0, 1) := by decide +kernel
theorem dX5_init_69 : decode cX5_init 69 = .ok (.bipush 12, 2) := by decide +kernel
theorem dX5_init_71 : decode cX5_init 71 = .ok (.newarray .long, 2) := by decide +kernel
theorem dX5_init_73 : decode cX5_init 73 = .ok (.putfield 46, 3) := by decide +kernel
theorem dX5_init_76 : decode cX5_init 76 = .ok (.aload_n 0, 1) := by decide +kernel
theorem dX5_init_77 : decode cX5_init 77 = .ok (.bipush 12, 2) := by decide +kernel
theorem dX5_init_79 : decode cX5_init 79 = .ok (.newarray .long, 2) := by decide +kernel
theorem dX5_init_81 : decode cX5_init 81 = .ok (.putfield 50, 3) := by decide +kernel
theorem dX5_init_84 : decode cX5_init 84 = .ok (.aload_n 0, 1) := by decide +kernel
theorem dX5_init_85 : decode cX5_init 85 = .ok (.bipush 11, 2) := by decide +kernel
theorem dX5_init_87 : decode cX5_init 87 = .ok (.putfield 53, 3) := by decide +kernel
theorem dX5_init_90 : decode cX5_init 90 = .ok (.aload_n 0, 1) := by decide +kernel
theorem dX5_init_91 : decode cX5_init 91 = .ok (.iconst 0, 1) := by decide +kernel
theorem dX5_init_92 : decode cX5_init 92 = .ok (.putfield 57, 3) := by decide +kernel
theorem dX5_init_95 : decode cX5_init 95 = .ok (.iconst 0, 1) := by decide +kernel
theorem dX5_init_96 : decode cX5_init 96 = .ok (.istore_n 1, 1) := by decide +kernel
theorem dX5_init_97 : decode cX5_init 97 = .ok (.iload_n 1, 1) := by decide +kernel
theorem dX5_init_98 : decode cX5_init 98 = .ok (.bipush 12, 2) := by decide +kernel
theorem dX5_init_100 : decode cX5_init 100 = .ok (.if_icmp .ge 22, 3) := by decide +kernel
theorem dX5_init_103 : decode cX5_init 103 = .ok (.aload_n 0, 1) := by decide +kernel
theorem dX5_init_104 : decode cX5_init 104 = .ok (.getfield 16, 3) := by decide +kernel
theorem dX5_init_107 : decode cX5_init 107 = .ok (.iload_n 1, 1) := by decide +kernel
theorem dX5_init_108 : decode cX5_init 108 = .ok (.new 7, 3) := by decide +kernel
theorem dX5_init_111 : decode cX5_init 111 = .ok (.dup, 1) := by decide +kernel
theorem dX5_init_112 : decode cX5_init 112 = .ok (.invokespecial 9, 3) := by decide +kernel
theorem dX5_init_115 : decode cX5_init 115 = .ok (.aastore, 1) := by decide +kernel
theorem dX5_init_116 : decode cX5_init 116 = .ok (.iinc 1 1, 3) := by decide +kernel
theorem dX5_init_119 : decode cX5_init 119 = .ok (.goto (-22), 3) := by decide +kernel
theorem dX5_init_122 : decode cX5_init 122 = .ok (.iconst 0, 1) := by decide +kernel
theorem dX5_init_123 : decode cX5_init 123 = .ok (.istore_n 1, 1) := by decide +kernel
theorem dX5_init_124 : decode cX5_init 124 = .ok (.iload_n 1, 1) := by decide +kernel
theorem dX5_init_125 : decode cX5_init 125 = .ok (.bipush 12, 2) := by decide +kernel
theorem dX5_init_127 : decode cX5_init 127 = .ok (.if_icmp .ge 22, 3) := by decide +kernel
theorem dX5_init_130 : decode cX5_init 130 = .ok (.aload_n 0, 1) := by decide +kernel
theorem dX5_init_131 : decode cX5_init 131 = .ok (.getfield 26, 3) := by decide +kernel
theorem dX5_init_134 : decode cX5_init 134 = .ok (.iload_n 1, 1) := by decide +kernel
theorem dX5_init_135 : decode cX5_init 135 = .ok (.new 24, 3) := by decide +kernel
theorem dX5_init_138 : decode cX5_init 138 = .ok (.dup, 1) := by decide +kernel
theorem dX5_init_139 : decode cX5_init 139 = .ok (.invokespecial 60, 3) := by decide +kernel
theorem dX5_init_142 : decode cX5_init 142 = .ok (.aastore, 1) := by decide +kernel
theorem dX5_init_143 : decode cX5_init 143 = .ok (.iinc 1 1, 3) := by decide +kernel
theorem dX5_init_146 : decode cX5_init 146 = .ok (.goto (-22), 3) := by decide +kernel
theorem dX5_init_149 : decode cX5_init 149 = .ok (.iconst 0, 1) := by decide +kernel
theorem dX5_init_150 : decode cX5_init 150 = .ok (.istore_n 1, 1) := by decide +kernel
theorem dX5_init_151 : decode cX5_init 151 = .ok (.iload_n 1, 1) := by decide +kernel
theorem dX5_init_152 : decode cX5_init 152 = .ok (.iconst 3, 1) := by decide +kernel
theorem dX5_init_153 : decode cX5_init 153 = .ok (.if_icmp .ge 22, 3) := by decide +kernel
theorem dX5_init_156 : decode cX5_init 156 = .ok (.aload_n 0, 1) := by decide +kernel
theorem dX5_init_157 : decode cX5_init 157 = .ok (.getfield 32, 3) := by decide +kernel
theorem dX5_init_160 : decode cX5_init 160 = .ok (.iload_n 1, 1) := by decide +kernel
theorem dX5_init_161 : decode cX5_init 161 = .ok (.new 30, 3) := by decide +kernel
theorem dX5_init_164 : decode cX5_init 164 = .ok (.dup, 1) := by decide +kernel
theorem dX5_init_165 : decode cX5_init 165 = .ok (.invokespecial 61, 3) := by decide +kernel
theorem dX5_init_168 : decode cX5_init 168 = .ok (.aastore, 1) := by decide +kernel
theorem dX5_init_169 : decode cX5_init 169 = .ok (.iinc 1 1, 3) := by decide +kernel
theorem dX5_init_172 : decode cX5_init 172 = .ok (.goto (-21), 3) := by decide +kernel
theorem dX5_init_175 : decode cX5_init 175 = .ok (.return_, 1) := by decide +kernel
theorem dX5_type_0 : decode cX5_type 0 = .ok (.ldc 62, 2) := by decide +kernel
theorem dX5_type_2 : decode cX5_type 2 = .ok (.iload_n 1, 1) := by decide +kernel
theorem dX5_type_3 : decode cX5_type 3 = .ok (.invokevirtual 64, 3) := by decide +kernel
theorem dX5_type_6 : decode cX5_type 6 = .ok (.ifCond .lt 13, 3) := by decide +kernel
theorem dX5_type_9 : decode cX5_type 9 = .ok (.aload_n 0, 1) := by decide +kernel
theorem dX5_type_10 : decode cX5_type 10 = .ok (.getfield 10, 3) := by decide +kernel
theorem dX5_type_13 : decode cX5_type 13 = .ok (.invokevirtual 70, 3) := by decide +kernel
theorem dX5_type_16 : decode cX5_type 16 = .ok (.ifCond .eq 5, 3) := by decide +kernel
theorem dX5_type_19 : decode cX5_type 19 = .ok (.iconst 0, 1) := by decide +kernel
theorem dX5_type_20 : decode cX5_type 20 = .ok (.ireturn, 1) := by decide +kernel
theorem dX5_type_21 : decode cX5_type 21 = .ok (.aload_n 0, 1) := by decide +kernel
theorem dX5_type_22 : decode cX5_type 22 = .ok (.getfield 10, 3) := by decide +kernel
theorem dX5_type_25 : decode cX5_type 25 = .ok (.iload_n 1, 1) := by decide +kernel
theorem dX5_type_26 : decode cX5_type 26 = .ok (.invokevirtual 74, 3) := by decide +kernel
theorem dX5_type_29 : decode cX5_type 29 = .ok (.iconst 1, 1) := by decide +kernel
theorem dX5_type_30 : decode cX5_type 30 = .ok (.ireturn, 1) := by decide +kernel
theorem dX5_clear_0 : decode cX5_clear 0 = .ok (.aload_n 0, 1) := by decide +kernel
theorem dX5_clear_1 : decode cX5_clear 1 = .ok (.getfield 10, 3) := by decide +kernel
theorem dX5_clear_4 : decode cX5_clear 4 = .ok (.getfield 78, 3) := by decide +kernel
theorem dX5_clear_7 : decode cX5_clear 7 = .ok (.istore_n 1, 1) := by decide +kernel
theorem dX5_clear_8 : decode cX5_clear 8 = .ok (.aload_n 0, 1) := by decide +kernel
theorem dX5_clear_9 : decode cX5_clear 9 = .ok (.getfield 10, 3) := by decide +kernel
theorem dX5_clear_12 : decode cX5_clear 12 = .ok (.iconst 0, 1) := by decide +kernel
theorem dX5_clear_13 : decode cX5_clear 13 = .ok (.putfield 78, 3) := by decide +kernel
theorem dX5_clear_16 : decode cX5_clear 16 = .ok (.iload_n 1, 1) := by decide +kernel
theorem dX5_clear_17 : decode cX5_clear 17 = .ok (.ireturn, 1) := by decide +kernel
theorem dX5_define_0 : decode cX5_define 0 = .ok (.iload_n 1, 1) := by decide +kernel
theorem dX5_define_1 : decode cX5_define 1 = .ok (.invokestatic 81, 3) := by decide +kernel
theorem dX5_define_4 : decode cX5_define 4 = .ok (.aload_n 0, 1) := by decide +kernel
theorem dX5_define_5 : decode cX5_define 5 = .ok (.getfield 39, 3) := by decide +kernel
theorem dX5_define_8 : decode cX5_define 8 = .ok (.aload_n 0, 1) := by decide +kernel
theorem dX5_define_9 : decode cX5_define 9 = .ok (.getfield 10, 3) := by decide +kernel
theorem dX5_define_12 : decode cX5_define 12 = .ok (.invokevirtual 85, 3) := by decide +kernel
theorem dX5_define_15 : decode cX5_define 15 = .ok (.ifCond .ne 13, 3) := by decide +kernel
theorem dX5_define_18 : decode cX5_define 18 = .ok (.new 89, 3) := by decide +kernel
theorem dX5_define_21 : decode cX5_define 21 = .ok (.dup, 1) := by decide +kernel
theorem dX5_define_22 : decode cX5_define 22 = .ok (.ldc 91, 2) := by decide +kernel
theorem dX5_define_24 : decode cX5_define 24 = .ok (.invokespecial 93, 3) := by decide +kernel
theorem dX5_define_27 : decode cX5_define 27 = .ok (.athrow, 1) := by decide +kernel
theorem dX5_define_28 : decode cX5_define 28 = .ok (.aload_n 0, 1) := by decide +kernel
theorem dX5_define_29 : decode cX5_define 29 = .ok (.getfield 16, 3) := by decide +kernel
theorem dX5_define_32 : decode cX5_define 32 = .ok (.iload_n 1, 1) := by decide +kernel
theorem dX5_define_33 : decode cX5_define 33 = .ok (.aaload, 1) := by decide +kernel
theorem dX5_define_34 : decode cX5_define 34 = .ok (.aload_n 0, 1) := by decide +kernel
theorem dX5_define_35 : decode cX5_define 35 = .ok (.getfield 10, 3) := by decide +kernel
theorem dX5_define_38 : decode cX5_define 38 = .ok (.invokevirtual 96, 3) := by decide +kernel
theorem dX5_define_41 : decode cX5_define 41 = .ok (.aload_n 0, 1) := by decide +kernel
theorem dX5_define_42 : decode cX5_define 42 = .ok (.getfield 20, 3) := by decide +kernel
theorem dX5_define_45 : decode cX5_define 45 = .ok (.iload_n 1, 1) := by decide +kernel
theorem dX5_define_46 : decode cX5_define 46 = .ok (.aload_n 0, 1) := by decide +kernel
theorem dX5_define_47 : decode cX5_define 47 = .ok (.getfield 39, 3) := by decide +kernel
theorem dX5_define_50 : decode cX5_define 50 = .ok (.getfield 100, 3) := by decide +kernel
theorem dX5_define_53 : decode cX5_define 53 = .ok (.iastore, 1) := by decide +kernel
theorem dX5_define_54 : decode cX5_define 54 = .ok (.aload_n 0, 1) := by decide +kernel
theorem dX5_define_55 : decode cX5_define 55 = .ok (.getfield 10, 3) := by decide +kernel
theorem dX5_define_58 : decode cX5_define 58 = .ok (.iconst 0, 1) := by decide +kernel
theorem dX5_define_59 : decode cX5_define 59 = .ok (.putfield 78, 3) := by decide +kernel
theorem dX5_define_62 : decode cX5_define 62 = .ok (.aload_n 0, 1) := by decide +kernel
theorem dX5_define_63 : decode cX5_define 63 = .ok (.getfield 20, 3) := by decide +kernel
theorem dX5_define_66 : decode cX5_define 66 = .ok (.iload_n 1, 1) := by decide +kernel
theorem dX5_define_67 : decode cX5_define 67 = .ok (.iaload, 1) := by decide +kernel
theorem dX5_define_68 : decode cX5_define 68 = .ok (.invokestatic 103, 3) := by decide +kernel
theorem dX5_define_71 : decode cX5_define 71 = .ok (.ireturn, 1) := by decide +kernel
theorem dX5_input_0 : decode cX5_input 0 = .ok (.iload_n 1, 1) := by decide +kernel
theorem dX5_input_1 : decode cX5_input 1 = .ok (.invokestatic 81, 3) := by decide +kernel
theorem dX5_input_4 : decode cX5_input 4 = .ok (.aload_n 0, 1) := by decide +kernel
theorem dX5_input_5 : decode cX5_input 5 = .ok (.iload_n 1, 1) := by decide +kernel
theorem dX5_input_6 : decode cX5_input 6 = .ok (.invokevirtual 108, 3) := by decide +kernel
theorem dX5_input_9 : decode cX5_input 9 = .ok (.istore_n 2, 1) := by decide +kernel
theorem dX5_input_10 : decode cX5_input 10 = .ok (.aload_n 0, 1) := by decide +kernel
theorem dX5_input_11 : decode cX5_input 11 = .ok (.getfield 16, 3) := by decide +kernel
theorem dX5_input_14 : decode cX5_input 14 = .ok (.iload_n 1, 1) := by decide +kernel
theorem dX5_input_15 : decode cX5_input 15 = .ok (.aaload, 1) := by decide +kernel
theorem dX5_input_16 : decode cX5_input 16 = .ok (.iconst 0, 1) := by decide +kernel
theorem dX5_input_17 : decode cX5_input 17 = .ok (.putfield 78, 3) := by decide +kernel
theorem dX5_input_20 : decode cX5_input 20 = .ok (.aload_n 0, 1) := by decide +kernel
theorem dX5_input_21 : decode cX5_input 21 = .ok (.getfield 20, 3) := by decide +kernel
theorem dX5_input_24 : decode cX5_input 24 = .ok (.iload_n 1, 1) := by decide +kernel
theorem dX5_input_25 : decode cX5_input 25 = .ok (.iconst 0, 1) := by decide +kernel
theorem dX5_input_26 : decode cX5_input 26 = .ok (.iastore, 1) := by decide +kernel
theorem dX5_input_27 : decode cX5_input 27 = .ok (.iload_n 2, 1) := by decide +kernel
theorem dX5_input_28 : decode cX5_input 28 = .ok (.ireturn, 1) := by decide +kernel
theorem dX5_total_0 : decode cX5_total 0 = .ok (.iload_n 1, 1) := by decide +kernel
theorem dX5_total_1 : decode cX5_total 1 = .ok (.invokestatic 81, 3) := by decide +kernel
theorem dX5_total_4 : decode cX5_total 4 = .ok (.aload_n 0, 1) := by decide +kernel
theorem dX5_total_5 : decode cX5_total 5 = .ok (.getfield 53, 3) := by decide +kernel
theorem dX5_total_8 : decode cX5_total 8 = .ok (.istore_n 2, 1) := by decide +kernel
theorem dX5_total_9 : decode cX5_total 9 = .ok (.aload_n 0, 1) := by decide +kernel
theorem dX5_total_10 : decode cX5_total 10 = .ok (.iload_n 1, 1) := by decide +kernel
theorem dX5_total_11 : decode cX5_total 11 = .ok (.putfield 53, 3) := by decide +kernel
theorem dX5_total_14 : decode cX5_total 14 = .ok (.iload_n 2, 1) := by decide +kernel
theorem dX5_total_15 : decode cX5_total 15 = .ok (.ireturn, 1) := by decide +kernel
theorem dX5_bracket_0 : decode cX5_bracket 0 = .ok (.iload_n 1, 1) := by decide +kernel
theorem dX5_bracket_1 : decode cX5_bracket 1 = .ok (.invokestatic 112, 3) := by decide +kernel
theorem dX5_bracket_4 : decode cX5_bracket 4 = .ok (.aload_n 0, 1) := by decide +kernel
theorem dX5_bracket_5 : decode cX5_bracket 5 = .ok (.getfield 39, 3) := by decide +kernel
theorem dX5_bracket_8 : decode cX5_bracket 8 = .ok (.getfield 115, 3) := by decide +kernel
theorem dX5_bracket_11 : decode cX5_bracket 11 = .ok (.iload_n 1, 1) := by decide +kernel
theorem dX5_bracket_12 : decode cX5_bracket 12 = .ok (.aaload, 1) := by decide +kernel
theorem dX5_bracket_13 : decode cX5_bracket 13 = .ok (.astore 4, 2) := by decide +kernel
theorem dX5_bracket_15 : decode cX5_bracket 15 = .ok (.aload 4, 2) := by decide +kernel
theorem dX5_bracket_17 : decode cX5_bracket 17 = .ok (.iload_n 2, 1) := by decide +kernel
theorem dX5_bracket_18 : decode cX5_bracket 18 = .ok (.invokevirtual 119, 3) := by decide +kernel
theorem dX5_bracket_21 : decode cX5_bracket 21 = .ok (.ifCond .eq 14, 3) := by decide +kernel
theorem dX5_bracket_24 : decode cX5_bracket 24 = .ok (.iload_n 3, 1) := by decide +kernel
theorem dX5_bracket_25 : decode cX5_bracket 25 = .ok (.ifCond .lt 10, 3) := by decide +kernel
theorem dX5_bracket_28 : decode cX5_bracket 28 = .ok (.iload_n 3, 1) := by decide +kernel
theorem dX5_bracket_29 : decode cX5_bracket 29 = .ok (.sipush 1000, 3) := by decide +kernel
theorem dX5_bracket_32 : decode cX5_bracket 32 = .ok (.if_icmp .le 13, 3) := by decide +kernel
theorem dX5_bracket_35 : decode cX5_bracket 35 = .ok (.new 89, 3) := by decide +kernel
theorem dX5_bracket_38 : decode cX5_bracket 38 = .ok (.dup, 1) := by decide +kernel
theorem dX5_bracket_39 : decode cX5_bracket 39 = .ok (.ldc 124, 2) := by decide +kernel
theorem dX5_bracket_41 : decode cX5_bracket 41 = .ok (.invokespecial 93, 3) := by decide +kernel
theorem dX5_bracket_44 : decode cX5_bracket 44 = .ok (.athrow, 1) := by decide +kernel
theorem dX5_bracket_45 : decode cX5_bracket 45 = .ok (.aload 4, 2) := by decide +kernel
theorem dX5_bracket_47 : decode cX5_bracket 47 = .ok (.invokevirtual 126, 3) := by decide +kernel
theorem dX5_bracket_50 : decode cX5_bracket 50 = .ok (.ifCond .eq 13, 3) := by decide +kernel
theorem dX5_bracket_53 : decode cX5_bracket 53 = .ok (.new 127, 3) := by decide +kernel
theorem dX5_bracket_56 : decode cX5_bracket 56 = .ok (.dup, 1) := by decide +kernel
theorem dX5_bracket_57 : decode cX5_bracket 57 = .ok (.ldc 129, 2) := by decide +kernel
theorem dX5_bracket_59 : decode cX5_bracket 59 = .ok (.invokespecial 131, 3) := by decide +kernel
theorem dX5_bracket_62 : decode cX5_bracket 62 = .ok (.athrow, 1) := by decide +kernel
theorem dX5_bracket_63 : decode cX5_bracket 63 = .ok (.aload 4, 2) := by decide +kernel
theorem dX5_bracket_65 : decode cX5_bracket 65 = .ok (.iload_n 2, 1) := by decide +kernel
theorem dX5_bracket_66 : decode cX5_bracket 66 = .ok (.iload_n 3, 1) := by decide +kernel
theorem dX5_bracket_67 : decode cX5_bracket 67 = .ok (.invokevirtual 132, 3) := by decide +kernel
theorem dX5_bracket_70 : decode cX5_bracket 70 = .ok (.aload 4, 2) := by decide +kernel
theorem dX5_bracket_72 : decode cX5_bracket 72 = .ok (.getfield 135, 3) := by decide +kernel
theorem dX5_bracket_75 : decode cX5_bracket 75 = .ok (.ireturn, 1) := by decide +kernel
theorem dX5_reset_0 : decode cX5_reset 0 = .ok (.iload_n 1, 1) := by decide +kernel
theorem dX5_reset_1 : decode cX5_reset 1 = .ok (.invokestatic 112, 3) := by decide +kernel
theorem dX5_reset_4 : decode cX5_reset 4 = .ok (.iload_n 2, 1) := by decide +kernel
theorem dX5_reset_5 : decode cX5_reset 5 = .ok (.ifCond .lt 8, 3) := by decide +kernel
theorem dX5_reset_8 : decode cX5_reset 8 = .ok (.iload_n 2, 1) := by decide +kernel
theorem dX5_reset_9 : decode cX5_reset 9 = .ok (.iconst 2, 1) := by decide +kernel
theorem dX5_reset_10 : decode cX5_reset 10 = .ok (.if_icmp .le 13, 3) := by decide +kernel
theorem dX5_reset_13 : decode cX5_reset 13 = .ok (.new 89, 3) := by decide +kernel
theorem dX5_reset_16 : decode cX5_reset 16 = .ok (.dup, 1) := by decide +kernel
theorem dX5_reset_17 : decode cX5_reset 17 = .ok (.ldc 138, 2) := by decide +kernel
theorem dX5_reset_19 : decode cX5_reset 19 = .ok (.invokespecial 93, 3) := by decide +kernel
theorem dX5_reset_22 : decode cX5_reset 22 = .ok (.athrow, 1) := by decide +kernel
theorem dX5_reset_23 : decode cX5_reset 23 = .ok (.aload_n 0, 1) := by decide +kernel
theorem dX5_reset_24 : decode cX5_reset 24 = .ok (.getfield 39, 3) := by decide +kernel
theorem dX5_reset_27 : decode cX5_reset 27 = .ok (.getfield 115, 3) := by decide +kernel
theorem dX5_reset_30 : decode cX5_reset 30 = .ok (.iload_n 1, 1) := by decide +kernel
theorem dX5_reset_31 : decode cX5_reset 31 = .ok (.aaload, 1) := by decide +kernel
theorem dX5_reset_32 : decode cX5_reset 32 = .ok (.astore_n 3, 1) := by decide +kernel
theorem dX5_reset_33 : decode cX5_reset 33 = .ok (.aload_n 3, 1) := by decide +kernel
theorem dX5_reset_34 : decode cX5_reset 34 = .ok (.getfield 135, 3) := by decide +kernel
theorem dX5_reset_37 : decode cX5_reset 37 = .ok (.istore 4, 2) := by decide +kernel
theorem dX5_reset_39 : decode cX5_reset 39 = .ok (.aload_n 3, 1) := by decide +kernel
theorem dX5_reset_40 : decode cX5_reset 40 = .ok (.iconst 0, 1) := by decide +kernel
theorem dX5_reset_41 : decode cX5_reset 41 = .ok (.putfield 135, 3) := by decide +kernel
theorem dX5_reset_44 : decode cX5_reset 44 = .ok (.aload_n 3, 1) := by decide +kernel
theorem dX5_reset_45 : decode cX5_reset 45 = .ok (.iload_n 2, 1) := by decide +kernel
theorem dX5_reset_46 : decode cX5_reset 46 = .ok (.putfield 140, 3) := by decide +kernel
theorem dX5_reset_49 : decode cX5_reset 49 = .ok (.iload 4, 2) := by decide +kernel
theorem dX5_reset_51 : decode cX5_reset 51 = .ok (.ireturn, 1) := by decide +kernel
theorem dX5_order_0 : decode cX5_order 0 = .ok (.iload_n 1, 1) := by decide +kernel
theorem dX5_order_1 : decode cX5_order 1 = .ok (.ifCond .lt 9, 3) := by decide +kernel
theorem dX5_order_4 : decode cX5_order 4 = .ok (.iload_n 1, 1) := by decide +kernel
theorem dX5_order_5 : decode cX5_order 5 = .ok (.bipush 12, 2) := by decide +kernel
theorem dX5_order_7 : decode cX5_order 7 = .ok (.if_icmp .lt 13, 3) := by decide +kernel
theorem dX5_order_10 : decode cX5_order 10 = .ok (.new 89, 3) := by decide +kernel
theorem dX5_order_13 : decode cX5_order 13 = .ok (.dup, 1) := by decide +kernel
theorem dX5_order_14 : decode cX5_order 14 = .ok (.ldc 143, 2) := by decide +kernel
theorem dX5_order_16 : decode cX5_order 16 = .ok (.invokespecial 93, 3) := by decide +kernel
theorem dX5_order_19 : decode cX5_order 19 = .ok (.athrow, 1) := by decide +kernel
theorem dX5_order_20 : decode cX5_order 20 = .ok (.iload_n 1, 1) := by decide +kernel
theorem dX5_order_21 : decode cX5_order 21 = .ok (.aload_n 0, 1) := by decide +kernel
theorem dX5_order_22 : decode cX5_order 22 = .ok (.invokevirtual 145, 3) := by decide +kernel
theorem dX5_order_25 : decode cX5_order 25 = .ok (.if_icmp .lt 13, 3) := by decide +kernel
theorem dX5_order_28 : decode cX5_order 28 = .ok (.new 127, 3) := by decide +kernel
theorem dX5_order_31 : decode cX5_order 31 = .ok (.dup, 1) := by decide +kernel
theorem dX5_order_32 : decode cX5_order 32 = .ok (.ldc 149, 2) := by decide +kernel
theorem dX5_order_34 : decode cX5_order 34 = .ok (.invokespecial 131, 3) := by decide +kernel
theorem dX5_order_37 : decode cX5_order 37 = .ok (.athrow, 1) := by decide +kernel
theorem dX5_order_38 : decode cX5_order 38 = .ok (.aload_n 0, 1) := by decide +kernel
theorem dX5_order_39 : decode cX5_order 39 = .ok (.getfield 43, 3) := by decide +kernel
theorem dX5_order_42 : decode cX5_order 42 = .ok (.iload_n 1, 1) := by decide +kernel
theorem dX5_order_43 : decode cX5_order 43 = .ok (.iaload, 1) := by decide +kernel
theorem dX5_order_44 : decode cX5_order 44 = .ok (.ireturn, 1) := by decide +kernel
theorem dX5_file_0 : decode cX5_file 0 = .ok (.iload_n 1, 1) := by decide +kernel
theorem dX5_file_1 : decode cX5_file 1 = .ok (.iload_n 2, 1) := by decide +kernel
theorem dX5_file_2 : decode cX5_file 2 = .ok (.invokestatic 151, 3) := by decide +kernel
theorem dX5_file_5 : decode cX5_file 5 = .ok (.iload_n 3, 1) := by decide +kernel
theorem dX5_file_6 : decode cX5_file 6 = .ok (.invokestatic 81, 3) := by decide +kernel
theorem dX5_file_9 : decode cX5_file 9 = .ok (.aload_n 0, 1) := by decide +kernel
theorem dX5_file_10 : decode cX5_file 10 = .ok (.iload_n 3, 1) := by decide +kernel
theorem dX5_file_11 : decode cX5_file 11 = .ok (.invokevirtual 108, 3) := by decide +kernel
theorem dX5_file_14 : decode cX5_file 14 = .ok (.ifCond .ne 17, 3) := by decide +kernel
theorem dX5_file_17 : decode cX5_file 17 = .ok (.iload 4, 2) := by decide +kernel
theorem dX5_file_19 : decode cX5_file 19 = .ok (.ldc 154, 2) := by decide +kernel
theorem dX5_file_21 : decode cX5_file 21 = .ok (.if_icmp .lt 10, 3) := by decide +kernel
theorem dX5_file_24 : decode cX5_file 24 = .ok (.iload 4, 2) := by decide +kernel
theorem dX5_file_26 : decode cX5_file 26 = .ok (.ldc 155, 2) := by decide +kernel
theorem dX5_file_28 : decode cX5_file 28 = .ok (.if_icmp .le 13, 3) := by decide +kernel
theorem dX5_file_31 : decode cX5_file 31 = .ok (.new 89, 3) := by decide +kernel
theorem dX5_file_34 : decode cX5_file 34 = .ok (.dup, 1) := by decide +kernel
theorem dX5_file_35 : decode cX5_file 35 = .ok (.ldc 156, 2) := by decide +kernel
theorem dX5_file_37 : decode cX5_file 37 = .ok (.invokespecial 93, 3) := by decide +kernel
theorem dX5_file_40 : decode cX5_file 40 = .ok (.athrow, 1) := by decide +kernel
theorem dX5_file_41 : decode cX5_file 41 = .ok (.aload_n 0, 1) := by decide +kernel
theorem dX5_file_42 : decode cX5_file 42 = .ok (.iload_n 1, 1) := by decide +kernel
theorem dX5_file_43 : decode cX5_file 43 = .ok (.iload_n 2, 1) := by decide +kernel
theorem dX5_file_44 : decode cX5_file 44 = .ok (.invokevirtual 158, 3) := by decide +kernel
theorem dX5_file_47 : decode cX5_file 47 = .ok (.astore 5, 2) := by decide +kernel
theorem dX5_file_49 : decode cX5_file 49 = .ok (.aload 5, 2) := by decide +kernel
theorem dX5_file_51 : decode cX5_file 51 = .ok (.getfield 162, 3) := by decide +kernel
theorem dX5_file_54 : decode cX5_file 54 = .ok (.iload_n 3, 1) := by decide +kernel
theorem dX5_file_55 : decode cX5_file 55 = .ok (.iaload, 1) := by decide +kernel
theorem dX5_file_56 : decode cX5_file 56 = .ok (.istore 6, 2) := by decide +kernel
theorem dX5_file_58 : decode cX5_file 58 = .ok (.aload 5, 2) := by decide +kernel
theorem dX5_file_60 : decode cX5_file 60 = .ok (.getfield 162, 3) := by decide +kernel
theorem dX5_file_63 : decode cX5_file 63 = .ok (.iload_n 3, 1) := by decide +kernel
theorem dX5_file_64 : decode cX5_file 64 = .ok (.iload 4, 2) := by decide +kernel
theorem dX5_file_66 : decode cX5_file 66 = .ok (.iastore, 1) := by decide +kernel
theorem dX5_file_67 : decode cX5_file 67 = .ok (.iload 6, 2) := by decide +kernel
theorem dX5_file_69 : decode cX5_file 69 = .ok (.ireturn, 1) := by decide +kernel
theorem dX5_assess_0 : decode cX5_assess 0 = .ok (.iload_n 1, 1) := by decide +kernel
theorem dX5_assess_1 : decode cX5_assess 1 = .ok (.iload_n 2, 1) := by decide +kernel
theorem dX5_assess_2 : decode cX5_assess 2 = .ok (.invokestatic 151, 3) := by decide +kernel
theorem dX5_assess_5 : decode cX5_assess 5 = .ok (.aload_n 0, 1) := by decide +kernel
theorem dX5_assess_6 : decode cX5_assess 6 = .ok (.getfield 32, 3) := by decide +kernel
theorem dX5_assess_9 : decode cX5_assess 9 = .ok (.iload_n 1, 1) := by decide +kernel
theorem dX5_assess_10 : decode cX5_assess 10 = .ok (.aaload, 1) := by decide +kernel
theorem dX5_assess_11 : decode cX5_assess 11 = .ok (.astore_n 3, 1) := by decide +kernel
theorem dX5_assess_12 : decode cX5_assess 12 = .ok (.aload_n 0, 1) := by decide +kernel
theorem dX5_assess_13 : decode cX5_assess 13 = .ok (.invokevirtual 145, 3) := by decide +kernel
theorem dX5_assess_16 : decode cX5_assess 16 = .ok (.bipush 12, 2) := by decide +kernel
theorem dX5_assess_18 : decode cX5_assess 18 = .ok (.if_icmp .lt 10, 3) := by decide +kernel
theorem dX5_assess_21 : decode cX5_assess 21 = .ok (.aload_n 3, 1) := by decide +kernel
theorem dX5_assess_22 : decode cX5_assess 22 = .ok (.invokevirtual 165, 3) := by decide +kernel
theorem dX5_assess_25 : decode cX5_assess 25 = .ok (.ifCond .eq 13, 3) := by decide +kernel
theorem dX5_assess_28 : decode cX5_assess 28 = .ok (.new 127, 3) := by decide +kernel
theorem dX5_assess_31 : decode cX5_assess 31 = .ok (.dup, 1) := by decide +kernel
theorem dX5_assess_32 : decode cX5_assess 32 = .ok (.ldc 166, 2) := by decide +kernel
theorem dX5_assess_34 : decode cX5_assess 34 = .ok (.invokespecial 131, 3) := by decide +kernel
theorem dX5_assess_37 : decode cX5_assess 37 = .ok (.athrow, 1) := by decide +kernel
theorem dX5_assess_38 : decode cX5_assess 38 = .ok (.aload_n 0, 1) := by decide +kernel
theorem dX5_assess_39 : decode cX5_assess 39 = .ok (.iload_n 1, 1) := by decide +kernel
theorem dX5_assess_40 : decode cX5_assess 40 = .ok (.iload_n 2, 1) := by decide +kernel
theorem dX5_assess_41 : decode cX5_assess 41 = .ok (.invokevirtual 158, 3) := by decide +kernel
theorem dX5_assess_44 : decode cX5_assess 44 = .ok (.astore 4, 2) := by decide +kernel
theorem dX5_assess_46 : decode cX5_assess 46 = .ok (.aload_n 0, 1) := by decide +kernel
theorem dX5_assess_47 : decode cX5_assess 47 = .ok (.aload 4, 2) := by decide +kernel
theorem dX5_assess_49 : decode cX5_assess 49 = .ok (.iload_n 2, 1) := by decide +kernel
theorem dX5_assess_50 : decode cX5_assess 50 = .ok (.ifCond .ne 10, 3) := by decide +kernel
theorem dX5_assess_53 : decode cX5_assess 53 = .ok (.aload_n 0, 1) := by decide +kernel
theorem dX5_assess_54 : decode cX5_assess 54 = .ok (.getfield 50, 3) := by decide +kernel
theorem dX5_assess_57 : decode cX5_assess 57 = .ok (.goto 14, 3) := by decide +kernel
theorem dX5_assess_60 : decode cX5_assess 60 = .ok (.aload_n 0, 1) := by decide +kernel
theorem dX5_assess_61 : decode cX5_assess 61 = .ok (.iload_n 1, 1) := by decide +kernel
theorem dX5_assess_62 : decode cX5_assess 62 = .ok (.iload_n 2, 1) := by decide +kernel
theorem dX5_assess_63 : decode cX5_assess 63 = .ok (.iconst 1, 1) := by decide +kernel
theorem dX5_assess_64 : decode cX5_assess 64 = .ok (.isub, 1) := by decide +kernel
theorem dX5_assess_65 : decode cX5_assess 65 = .ok (.invokevirtual 158, 3) := by decide +kernel
theorem dX5_assess_68 : decode cX5_assess 68 = .ok (.getfield 168, 3) := by decide +kernel
theorem dX5_assess_71 : decode cX5_assess 71 = .ok (.invokevirtual 171, 3) := by decide +kernel
theorem dX5_assess_74 : decode cX5_assess 74 = .ok (.ifCond .ne 13, 3) := by decide +kernel
theorem dX5_assess_77 : decode cX5_assess 77 = .ok (.new 175, 3) := by decide +kernel
theorem dX5_assess_80 : decode cX5_assess 80 = .ok (.dup, 1) := by decide +kernel
theorem dX5_assess_81 : decode cX5_assess 81 = .ok (.ldc 177, 2) := by decide +kernel
theorem dX5_assess_83 : decode cX5_assess 83 = .ok (.invokespecial 179, 3) := by decide +kernel
theorem dX5_assess_86 : decode cX5_assess 86 = .ok (.athrow, 1) := by decide +kernel
theorem dX5_assess_87 : decode cX5_assess 87 = .ok (.aload_n 0, 1) := by decide +kernel
theorem dX5_assess_88 : decode cX5_assess 88 = .ok (.getfield 46, 3) := by decide +kernel
theorem dX5_assess_91 : decode cX5_assess 91 = .ok (.aload_n 0, 1) := by decide +kernel
theorem dX5_assess_92 : decode cX5_assess 92 = .ok (.getfield 53, 3) := by decide +kernel
theorem dX5_assess_95 : decode cX5_assess 95 = .ok (.laload, 1) := by decide +kernel
theorem dX5_assess_96 : decode cX5_assess 96 = .ok (.lstore 5, 2) := by decide +kernel
theorem dX5_assess_98 : decode cX5_assess 98 = .ok (.aload_n 3, 1) := by decide +kernel
theorem dX5_assess_99 : decode cX5_assess 99 = .ok (.iconst 0, 1) := by decide +kernel
theorem dX5_assess_100 : decode cX5_assess 100 = .ok (.iload_n 2, 1) := by decide +kernel
theorem dX5_assess_101 : decode cX5_assess 101 = .ok (.lload 5, 2) := by decide +kernel
theorem dX5_assess_103 : decode cX5_assess 103 = .ok (.aload 4, 2) := by decide +kernel
theorem dX5_assess_105 : decode cX5_assess 105 = .ok (.getfield 180, 3) := by decide +kernel
theorem dX5_assess_108 : decode cX5_assess 108 = .ok (.lsub, 1) := by decide +kernel
theorem dX5_assess_109 : decode cX5_assess 109 = .ok (.invokevirtual 184, 3) := by decide +kernel
theorem dX5_assess_112 : decode cX5_assess 112 = .ok (.aload 4, 2) := by decide +kernel
theorem dX5_assess_114 : decode cX5_assess 114 = .ok (.aload_n 0, 1) := by decide +kernel
theorem dX5_assess_115 : decode cX5_assess 115 = .ok (.getfield 46, 3) := by decide +kernel
theorem dX5_assess_118 : decode cX5_assess 118 = .ok (.lload 5, 2) := by decide +kernel
theorem dX5_assess_120 : decode cX5_assess 120 = .ok (.invokevirtual 188, 3) := by decide +kernel
theorem dX5_assess_123 : decode cX5_assess 123 = .ok (.lload 5, 2) := by decide +kernel
theorem dX5_assess_125 : decode cX5_assess 125 = .ok (.lreturn, 1) := by decide +kernel
theorem dX5_value_0 : decode cX5_value 0 = .ok (.iload_n 1, 1) := by decide +kernel
theorem dX5_value_1 : decode cX5_value 1 = .ok (.iload_n 2, 1) := by decide +kernel
theorem dX5_value_2 : decode cX5_value 2 = .ok (.invokestatic 151, 3) := by decide +kernel
theorem dX5_value_5 : decode cX5_value 5 = .ok (.iload_n 3, 1) := by decide +kernel
theorem dX5_value_6 : decode cX5_value 6 = .ok (.invokestatic 81, 3) := by decide +kernel
theorem dX5_value_9 : decode cX5_value 9 = .ok (.aload_n 0, 1) := by decide +kernel
theorem dX5_value_10 : decode cX5_value 10 = .ok (.iload_n 1, 1) := by decide +kernel
theorem dX5_value_11 : decode cX5_value 11 = .ok (.iload_n 2, 1) := by decide +kernel
end
section
theorem dX5_value_12 : decode cX5_value 12 = .ok (.invokevirtual 192, 3) := by decide +kernel
theorem dX5_value_15 : decode cX5_value 15 = .ok (.aload_n 0, 1) := by decide +kernel
theorem dX5_value_16 : decode cX5_value 16 = .ok (.iload_n 1, 1) := by decide +kernel
theorem dX5_value_17 : decode cX5_value 17 = .ok (.iload_n 2, 1) := by decide +kernel
theorem dX5_value_18 : decode cX5_value 18 = .ok (.invokevirtual 158, 3) := by decide +kernel
theorem dX5_value_21 : decode cX5_value 21 = .ok (.getfield 168, 3) := by decide +kernel
theorem dX5_value_24 : decode cX5_value 24 = .ok (.iload_n 3, 1) := by decide +kernel
theorem dX5_value_25 : decode cX5_value 25 = .ok (.laload, 1) := by decide +kernel
theorem dX5_value_26 : decode cX5_value 26 = .ok (.lreturn, 1) := by decide +kernel
theorem dX5_share_0 : decode cX5_share 0 = .ok (.iload_n 1, 1) := by decide +kernel
theorem dX5_share_1 : decode cX5_share 1 = .ok (.iload_n 2, 1) := by decide +kernel
theorem dX5_share_2 : decode cX5_share 2 = .ok (.invokestatic 151, 3) := by decide +kernel
theorem dX5_share_5 : decode cX5_share 5 = .ok (.iload_n 3, 1) := by decide +kernel
theorem dX5_share_6 : decode cX5_share 6 = .ok (.invokestatic 81, 3) := by decide +kernel
theorem dX5_share_9 : decode cX5_share 9 = .ok (.aload_n 0, 1) := by decide +kernel
theorem dX5_share_10 : decode cX5_share 10 = .ok (.iload_n 1, 1) := by decide +kernel
theorem dX5_share_11 : decode cX5_share 11 = .ok (.iload_n 2, 1) := by decide +kernel
theorem dX5_share_12 : decode cX5_share 12 = .ok (.invokevirtual 192, 3) := by decide +kernel
theorem dX5_share_15 : decode cX5_share 15 = .ok (.aload_n 0, 1) := by decide +kernel
theorem dX5_share_16 : decode cX5_share 16 = .ok (.iload_n 1, 1) := by decide +kernel
theorem dX5_share_17 : decode cX5_share 17 = .ok (.iload_n 2, 1) := by decide +kernel
theorem dX5_share_18 : decode cX5_share 18 = .ok (.invokevirtual 158, 3) := by decide +kernel
theorem dX5_share_21 : decode cX5_share 21 = .ok (.astore 4, 2) := by decide +kernel
theorem dX5_share_23 : decode cX5_share 23 = .ok (.aload 4, 2) := by decide +kernel
theorem dX5_share_25 : decode cX5_share 25 = .ok (.getfield 180, 3) := by decide +kernel
theorem dX5_share_28 : decode cX5_share 28 = .ok (.lconst 0, 1) := by decide +kernel
theorem dX5_share_29 : decode cX5_share 29 = .ok (.lcmp, 1) := by decide +kernel
theorem dX5_share_30 : decode cX5_share 30 = .ok (.ifCond .ne 5, 3) := by decide +kernel
theorem dX5_share_33 : decode cX5_share 33 = .ok (.dconst 0, 1) := by decide +kernel
theorem dX5_share_34 : decode cX5_share 34 = .ok (.dreturn, 1) := by decide +kernel
theorem dX5_share_35 : decode cX5_share 35 = .ok (.aload 4, 2) := by decide +kernel
theorem dX5_share_37 : decode cX5_share 37 = .ok (.getfield 168, 3) := by decide +kernel
theorem dX5_share_40 : decode cX5_share 40 = .ok (.iload_n 3, 1) := by decide +kernel
theorem dX5_share_41 : decode cX5_share 41 = .ok (.laload, 1) := by decide +kernel
theorem dX5_share_42 : decode cX5_share 42 = .ok (.l2d, 1) := by decide +kernel
theorem dX5_share_43 : decode cX5_share 43 = .ok (.aload 4, 2) := by decide +kernel
theorem dX5_share_45 : decode cX5_share 45 = .ok (.getfield 180, 3) := by decide +kernel
theorem dX5_share_48 : decode cX5_share 48 = .ok (.l2d, 1) := by decide +kernel
theorem dX5_share_49 : decode cX5_share 49 = .ok (.ddiv, 1) := by decide +kernel
theorem dX5_share_50 : decode cX5_share 50 = .ok (.dreturn, 1) := by decide +kernel
theorem dX5_pay_0 : decode cX5_pay 0 = .ok (.iload_n 1, 1) := by decide +kernel
theorem dX5_pay_1 : decode cX5_pay 1 = .ok (.invokestatic 195, 3) := by decide +kernel
theorem dX5_pay_4 : decode cX5_pay 4 = .ok (.iload_n 2, 1) := by decide +kernel
theorem dX5_pay_5 : decode cX5_pay 5 = .ok (.iconst 1, 1) := by decide +kernel
theorem dX5_pay_6 : decode cX5_pay 6 = .ok (.if_icmp .lt 9, 3) := by decide +kernel
theorem dX5_pay_9 : decode cX5_pay 9 = .ok (.iload_n 2, 1) := by decide +kernel
theorem dX5_pay_10 : decode cX5_pay 10 = .ok (.ldc 155, 2) := by decide +kernel
theorem dX5_pay_12 : decode cX5_pay 12 = .ok (.if_icmp .le 13, 3) := by decide +kernel
theorem dX5_pay_15 : decode cX5_pay 15 = .ok (.new 89, 3) := by decide +kernel
theorem dX5_pay_18 : decode cX5_pay 18 = .ok (.dup, 1) := by decide +kernel
theorem dX5_pay_19 : decode cX5_pay 19 = .ok (.ldc 198, 2) := by decide +kernel
theorem dX5_pay_21 : decode cX5_pay 21 = .ok (.invokespecial 93, 3) := by decide +kernel
theorem dX5_pay_24 : decode cX5_pay 24 = .ok (.athrow, 1) := by decide +kernel
theorem dX5_pay_25 : decode cX5_pay 25 = .ok (.aload_n 0, 1) := by decide +kernel
theorem dX5_pay_26 : decode cX5_pay 26 = .ok (.getfield 32, 3) := by decide +kernel
theorem dX5_pay_29 : decode cX5_pay 29 = .ok (.iload_n 1, 1) := by decide +kernel
theorem dX5_pay_30 : decode cX5_pay 30 = .ok (.aaload, 1) := by decide +kernel
theorem dX5_pay_31 : decode cX5_pay 31 = .ok (.astore_n 3, 1) := by decide +kernel
theorem dX5_pay_32 : decode cX5_pay 32 = .ok (.aload_n 3, 1) := by decide +kernel
theorem dX5_pay_33 : decode cX5_pay 33 = .ok (.invokevirtual 165, 3) := by decide +kernel
theorem dX5_pay_36 : decode cX5_pay 36 = .ok (.ifCond .eq 13, 3) := by decide +kernel
theorem dX5_pay_39 : decode cX5_pay 39 = .ok (.new 127, 3) := by decide +kernel
theorem dX5_pay_42 : decode cX5_pay 42 = .ok (.dup, 1) := by decide +kernel
theorem dX5_pay_43 : decode cX5_pay 43 = .ok (.ldc 200, 2) := by decide +kernel
theorem dX5_pay_45 : decode cX5_pay 45 = .ok (.invokespecial 131, 3) := by decide +kernel
theorem dX5_pay_48 : decode cX5_pay 48 = .ok (.athrow, 1) := by decide +kernel
theorem dX5_pay_49 : decode cX5_pay 49 = .ok (.aload_n 3, 1) := by decide +kernel
theorem dX5_pay_50 : decode cX5_pay 50 = .ok (.iconst 1, 1) := by decide +kernel
theorem dX5_pay_51 : decode cX5_pay 51 = .ok (.iconst (-1), 1) := by decide +kernel
theorem dX5_pay_52 : decode cX5_pay 52 = .ok (.iload_n 2, 1) := by decide +kernel
theorem dX5_pay_53 : decode cX5_pay 53 = .ok (.ineg, 1) := by decide +kernel
theorem dX5_pay_54 : decode cX5_pay 54 = .ok (.i2l, 1) := by decide +kernel
theorem dX5_pay_55 : decode cX5_pay 55 = .ok (.invokevirtual 184, 3) := by decide +kernel
theorem dX5_pay_58 : decode cX5_pay 58 = .ok (.aload_n 3, 1) := by decide +kernel
theorem dX5_pay_59 : decode cX5_pay 59 = .ok (.getfield 202, 3) := by decide +kernel
theorem dX5_pay_62 : decode cX5_pay 62 = .ok (.lreturn, 1) := by decide +kernel
theorem dX5_interest_0 : decode cX5_interest 0 = .ok (.iload_n 1, 1) := by decide +kernel
theorem dX5_interest_1 : decode cX5_interest 1 = .ok (.ifCond .lt 9, 3) := by decide +kernel
theorem dX5_interest_4 : decode cX5_interest 4 = .ok (.iload_n 1, 1) := by decide +kernel
theorem dX5_interest_5 : decode cX5_interest 5 = .ok (.bipush 30, 2) := by decide +kernel
theorem dX5_interest_7 : decode cX5_interest 7 = .ok (.if_icmp .le 13, 3) := by decide +kernel
theorem dX5_interest_10 : decode cX5_interest 10 = .ok (.new 89, 3) := by decide +kernel
theorem dX5_interest_13 : decode cX5_interest 13 = .ok (.dup, 1) := by decide +kernel
theorem dX5_interest_14 : decode cX5_interest 14 = .ok (.ldc 205, 2) := by decide +kernel
theorem dX5_interest_16 : decode cX5_interest 16 = .ok (.invokespecial 93, 3) := by decide +kernel
theorem dX5_interest_19 : decode cX5_interest 19 = .ok (.athrow, 1) := by decide +kernel
theorem dX5_interest_20 : decode cX5_interest 20 = .ok (.aload_n 0, 1) := by decide +kernel
theorem dX5_interest_21 : decode cX5_interest 21 = .ok (.getfield 57, 3) := by decide +kernel
theorem dX5_interest_24 : decode cX5_interest 24 = .ok (.istore_n 2, 1) := by decide +kernel
theorem dX5_interest_25 : decode cX5_interest 25 = .ok (.aload_n 0, 1) := by decide +kernel
theorem dX5_interest_26 : decode cX5_interest 26 = .ok (.iload_n 1, 1) := by decide +kernel
theorem dX5_interest_27 : decode cX5_interest 27 = .ok (.putfield 57, 3) := by decide +kernel
theorem dX5_interest_30 : decode cX5_interest 30 = .ok (.iload_n 2, 1) := by decide +kernel
theorem dX5_interest_31 : decode cX5_interest 31 = .ok (.ireturn, 1) := by decide +kernel
theorem dX5_pass_0 : decode cX5_pass 0 = .ok (.iload_n 1, 1) := by decide +kernel
theorem dX5_pass_1 : decode cX5_pass 1 = .ok (.iconst 1, 1) := by decide +kernel
theorem dX5_pass_2 : decode cX5_pass 2 = .ok (.if_icmp .lt 10, 3) := by decide +kernel
theorem dX5_pass_5 : decode cX5_pass 5 = .ok (.iload_n 1, 1) := by decide +kernel
theorem dX5_pass_6 : decode cX5_pass 6 = .ok (.sipush 1000, 3) := by decide +kernel
theorem dX5_pass_9 : decode cX5_pass 9 = .ok (.if_icmp .le 13, 3) := by decide +kernel
theorem dX5_pass_12 : decode cX5_pass 12 = .ok (.new 89, 3) := by decide +kernel
theorem dX5_pass_15 : decode cX5_pass 15 = .ok (.dup, 1) := by decide +kernel
theorem dX5_pass_16 : decode cX5_pass 16 = .ok (.ldc 207, 2) := by decide +kernel
theorem dX5_pass_18 : decode cX5_pass 18 = .ok (.invokespecial 93, 3) := by decide +kernel
theorem dX5_pass_21 : decode cX5_pass 21 = .ok (.athrow, 1) := by decide +kernel
theorem dX5_pass_22 : decode cX5_pass 22 = .ok (.aload_n 0, 1) := by decide +kernel
theorem dX5_pass_23 : decode cX5_pass 23 = .ok (.getfield 57, 3) := by decide +kernel
theorem dX5_pass_26 : decode cX5_pass 26 = .ok (.iload_n 1, 1) := by decide +kernel
theorem dX5_pass_27 : decode cX5_pass 27 = .ok (.imul, 1) := by decide +kernel
theorem dX5_pass_28 : decode cX5_pass 28 = .ok (.istore_n 2, 1) := by decide +kernel
theorem dX5_pass_29 : decode cX5_pass 29 = .ok (.aload_n 0, 1) := by decide +kernel
theorem dX5_pass_30 : decode cX5_pass 30 = .ok (.getfield 32, 3) := by decide +kernel
theorem dX5_pass_33 : decode cX5_pass 33 = .ok (.astore_n 3, 1) := by decide +kernel
theorem dX5_pass_34 : decode cX5_pass 34 = .ok (.aload_n 3, 1) := by decide +kernel
theorem dX5_pass_35 : decode cX5_pass 35 = .ok (.arraylength, 1) := by decide +kernel
theorem dX5_pass_36 : decode cX5_pass 36 = .ok (.istore 4, 2) := by decide +kernel
theorem dX5_pass_38 : decode cX5_pass 38 = .ok (.iconst 0, 1) := by decide +kernel
theorem dX5_pass_39 : decode cX5_pass 39 = .ok (.istore 5, 2) := by decide +kernel
theorem dX5_pass_41 : decode cX5_pass 41 = .ok (.iload 5, 2) := by decide +kernel
theorem dX5_pass_43 : decode cX5_pass 43 = .ok (.iload 4, 2) := by decide +kernel
theorem dX5_pass_45 : decode cX5_pass 45 = .ok (.if_icmp .ge 44, 3) := by decide +kernel
theorem dX5_pass_48 : decode cX5_pass 48 = .ok (.aload_n 3, 1) := by decide +kernel
theorem dX5_pass_49 : decode cX5_pass 49 = .ok (.iload 5, 2) := by decide +kernel
theorem dX5_pass_51 : decode cX5_pass 51 = .ok (.aaload, 1) := by decide +kernel
theorem dX5_pass_52 : decode cX5_pass 52 = .ok (.astore 6, 2) := by decide +kernel
theorem dX5_pass_54 : decode cX5_pass 54 = .ok (.aload 6, 2) := by decide +kernel
theorem dX5_pass_56 : decode cX5_pass 56 = .ok (.invokevirtual 165, 3) := by decide +kernel
theorem dX5_pass_59 : decode cX5_pass 59 = .ok (.ifCond .eq 24, 3) := by decide +kernel
theorem dX5_pass_62 : decode cX5_pass 62 = .ok (.aload 6, 2) := by decide +kernel
theorem dX5_pass_64 : decode cX5_pass 64 = .ok (.iload_n 2, 1) := by decide +kernel
theorem dX5_pass_65 : decode cX5_pass 65 = .ok (.invokevirtual 209, 3) := by decide +kernel
theorem dX5_pass_68 : decode cX5_pass 68 = .ok (.lconst 0, 1) := by decide +kernel
theorem dX5_pass_69 : decode cX5_pass 69 = .ok (.lcmp, 1) := by decide +kernel
theorem dX5_pass_70 : decode cX5_pass 70 = .ok (.ifCond .eq 13, 3) := by decide +kernel
theorem dX5_pass_73 : decode cX5_pass 73 = .ok (.new 127, 3) := by decide +kernel
theorem dX5_pass_76 : decode cX5_pass 76 = .ok (.dup, 1) := by decide +kernel
theorem dX5_pass_77 : decode cX5_pass 77 = .ok (.ldc 213, 2) := by decide +kernel
theorem dX5_pass_79 : decode cX5_pass 79 = .ok (.invokespecial 131, 3) := by decide +kernel
theorem dX5_pass_82 : decode cX5_pass 82 = .ok (.athrow, 1) := by decide +kernel
theorem dX5_pass_83 : decode cX5_pass 83 = .ok (.iinc 5 1, 3) := by decide +kernel
theorem dX5_pass_86 : decode cX5_pass 86 = .ok (.goto (-45), 3) := by decide +kernel
theorem dX5_pass_89 : decode cX5_pass 89 = .ok (.iconst 0, 1) := by decide +kernel
theorem dX5_pass_90 : decode cX5_pass 90 = .ok (.istore_n 3, 1) := by decide +kernel
theorem dX5_pass_91 : decode cX5_pass 91 = .ok (.aload_n 0, 1) := by decide +kernel
theorem dX5_pass_92 : decode cX5_pass 92 = .ok (.getfield 32, 3) := by decide +kernel
theorem dX5_pass_95 : decode cX5_pass 95 = .ok (.astore 4, 2) := by decide +kernel
theorem dX5_pass_97 : decode cX5_pass 97 = .ok (.aload 4, 2) := by decide +kernel
theorem dX5_pass_99 : decode cX5_pass 99 = .ok (.arraylength, 1) := by decide +kernel
theorem dX5_pass_100 : decode cX5_pass 100 = .ok (.istore 5, 2) := by decide +kernel
theorem dX5_pass_102 : decode cX5_pass 102 = .ok (.iconst 0, 1) := by decide +kernel
theorem dX5_pass_103 : decode cX5_pass 103 = .ok (.istore 6, 2) := by decide +kernel
theorem dX5_pass_105 : decode cX5_pass 105 = .ok (.iload 6, 2) := by decide +kernel
theorem dX5_pass_107 : decode cX5_pass 107 = .ok (.iload 5, 2) := by decide +kernel
theorem dX5_pass_109 : decode cX5_pass 109 = .ok (.if_icmp .ge 43, 3) := by decide +kernel
theorem dX5_pass_112 : decode cX5_pass 112 = .ok (.aload 4, 2) := by decide +kernel
theorem dX5_pass_114 : decode cX5_pass 114 = .ok (.iload 6, 2) := by decide +kernel
theorem dX5_pass_116 : decode cX5_pass 116 = .ok (.aaload, 1) := by decide +kernel
theorem dX5_pass_117 : decode cX5_pass 117 = .ok (.astore 7, 2) := by decide +kernel
theorem dX5_pass_119 : decode cX5_pass 119 = .ok (.aload 7, 2) := by decide +kernel
theorem dX5_pass_121 : decode cX5_pass 121 = .ok (.iload_n 2, 1) := by decide +kernel
theorem dX5_pass_122 : decode cX5_pass 122 = .ok (.invokevirtual 209, 3) := by decide +kernel
theorem dX5_pass_125 : decode cX5_pass 125 = .ok (.lstore 8, 2) := by decide +kernel
theorem dX5_pass_127 : decode cX5_pass 127 = .ok (.lload 8, 2) := by decide +kernel
theorem dX5_pass_129 : decode cX5_pass 129 = .ok (.lconst 0, 1) := by decide +kernel
theorem dX5_pass_130 : decode cX5_pass 130 = .ok (.lcmp, 1) := by decide +kernel
theorem dX5_pass_131 : decode cX5_pass 131 = .ok (.ifCond .eq 15, 3) := by decide +kernel
theorem dX5_pass_134 : decode cX5_pass 134 = .ok (.aload 7, 2) := by decide +kernel
theorem dX5_pass_136 : decode cX5_pass 136 = .ok (.iconst 2, 1) := by decide +kernel
theorem dX5_pass_137 : decode cX5_pass 137 = .ok (.iconst (-1), 1) := by decide +kernel
theorem dX5_pass_138 : decode cX5_pass 138 = .ok (.lload 8, 2) := by decide +kernel
theorem dX5_pass_140 : decode cX5_pass 140 = .ok (.invokevirtual 184, 3) := by decide +kernel
theorem dX5_pass_143 : decode cX5_pass 143 = .ok (.iinc 3 1, 3) := by decide +kernel
theorem dX5_pass_146 : decode cX5_pass 146 = .ok (.iinc 6 1, 3) := by decide +kernel
theorem dX5_pass_149 : decode cX5_pass 149 = .ok (.goto (-44), 3) := by decide +kernel
theorem dX5_pass_152 : decode cX5_pass 152 = .ok (.iload_n 3, 1) := by decide +kernel
theorem dX5_pass_153 : decode cX5_pass 153 = .ok (.ireturn, 1) := by decide +kernel
theorem dX5_balance_0 : decode cX5_balance 0 = .ok (.iload_n 1, 1) := by decide +kernel
theorem dX5_balance_1 : decode cX5_balance 1 = .ok (.invokestatic 195, 3) := by decide +kernel
theorem dX5_balance_4 : decode cX5_balance 4 = .ok (.aload_n 0, 1) := by decide +kernel
theorem dX5_balance_5 : decode cX5_balance 5 = .ok (.getfield 32, 3) := by decide +kernel
theorem dX5_balance_8 : decode cX5_balance 8 = .ok (.iload_n 1, 1) := by decide +kernel
theorem dX5_balance_9 : decode cX5_balance 9 = .ok (.aaload, 1) := by decide +kernel
theorem dX5_balance_10 : decode cX5_balance 10 = .ok (.getfield 202, 3) := by decide +kernel
theorem dX5_balance_13 : decode cX5_balance 13 = .ok (.lreturn, 1) := by decide +kernel
theorem dX5_posting_0 : decode cX5_posting 0 = .ok (.iload_n 1, 1) := by decide +kernel
theorem dX5_posting_1 : decode cX5_posting 1 = .ok (.invokestatic 195, 3) := by decide +kernel
theorem dX5_posting_4 : decode cX5_posting 4 = .ok (.aload_n 0, 1) := by decide +kernel
theorem dX5_posting_5 : decode cX5_posting 5 = .ok (.getfield 32, 3) := by decide +kernel
theorem dX5_posting_8 : decode cX5_posting 8 = .ok (.iload_n 1, 1) := by decide +kernel
theorem dX5_posting_9 : decode cX5_posting 9 = .ok (.aaload, 1) := by decide +kernel
theorem dX5_posting_10 : decode cX5_posting 10 = .ok (.astore 4, 2) := by decide +kernel
theorem dX5_posting_12 : decode cX5_posting 12 = .ok (.iload_n 2, 1) := by decide +kernel
theorem dX5_posting_13 : decode cX5_posting 13 = .ok (.ifCond .lt 21, 3) := by decide +kernel
theorem dX5_posting_16 : decode cX5_posting 16 = .ok (.iload_n 2, 1) := by decide +kernel
theorem dX5_posting_17 : decode cX5_posting 17 = .ok (.aload 4, 2) := by decide +kernel
theorem dX5_posting_19 : decode cX5_posting 19 = .ok (.getfield 215, 3) := by decide +kernel
theorem dX5_posting_22 : decode cX5_posting 22 = .ok (.if_icmp .ge 12, 3) := by decide +kernel
theorem dX5_posting_25 : decode cX5_posting 25 = .ok (.iload_n 3, 1) := by decide +kernel
theorem dX5_posting_26 : decode cX5_posting 26 = .ok (.ifCond .lt 8, 3) := by decide +kernel
theorem dX5_posting_29 : decode cX5_posting 29 = .ok (.iload_n 3, 1) := by decide +kernel
theorem dX5_posting_30 : decode cX5_posting 30 = .ok (.iconst 2, 1) := by decide +kernel
theorem dX5_posting_31 : decode cX5_posting 31 = .ok (.if_icmp .le 13, 3) := by decide +kernel
theorem dX5_posting_34 : decode cX5_posting 34 = .ok (.new 89, 3) := by decide +kernel
theorem dX5_posting_37 : decode cX5_posting 37 = .ok (.dup, 1) := by decide +kernel
theorem dX5_posting_38 : decode cX5_posting 38 = .ok (.ldc 216, 2) := by decide +kernel
theorem dX5_posting_40 : decode cX5_posting 40 = .ok (.invokespecial 93, 3) := by decide +kernel
theorem dX5_posting_43 : decode cX5_posting 43 = .ok (.athrow, 1) := by decide +kernel
theorem dX5_posting_44 : decode cX5_posting 44 = .ok (.iload_n 3, 1) := by decide +kernel
theorem dX5_posting_45 : decode cX5_posting 45 = .ok (.ifCond .ne 12, 3) := by decide +kernel
theorem dX5_posting_48 : decode cX5_posting 48 = .ok (.aload 4, 2) := by decide +kernel
theorem dX5_posting_50 : decode cX5_posting 50 = .ok (.getfield 218, 3) := by decide +kernel
theorem dX5_posting_53 : decode cX5_posting 53 = .ok (.iload_n 2, 1) := by decide +kernel
theorem dX5_posting_54 : decode cX5_posting 54 = .ok (.iaload, 1) := by decide +kernel
theorem dX5_posting_55 : decode cX5_posting 55 = .ok (.i2l, 1) := by decide +kernel
theorem dX5_posting_56 : decode cX5_posting 56 = .ok (.lreturn, 1) := by decide +kernel
theorem dX5_posting_57 : decode cX5_posting 57 = .ok (.iload_n 3, 1) := by decide +kernel
theorem dX5_posting_58 : decode cX5_posting 58 = .ok (.iconst 1, 1) := by decide +kernel
theorem dX5_posting_59 : decode cX5_posting 59 = .ok (.if_icmp .ne 14, 3) := by decide +kernel
theorem dX5_posting_62 : decode cX5_posting 62 = .ok (.aload 4, 2) := by decide +kernel
theorem dX5_posting_64 : decode cX5_posting 64 = .ok (.getfield 221, 3) := by decide +kernel
theorem dX5_posting_67 : decode cX5_posting 67 = .ok (.iload_n 2, 1) := by decide +kernel
theorem dX5_posting_68 : decode cX5_posting 68 = .ok (.iaload, 1) := by decide +kernel
theorem dX5_posting_69 : decode cX5_posting 69 = .ok (.i2l, 1) := by decide +kernel
theorem dX5_posting_70 : decode cX5_posting 70 = .ok (.goto 10, 3) := by decide +kernel
theorem dX5_posting_73 : decode cX5_posting 73 = .ok (.aload 4, 2) := by decide +kernel
theorem dX5_posting_75 : decode cX5_posting 75 = .ok (.getfield 224, 3) := by decide +kernel
theorem dX5_posting_78 : decode cX5_posting 78 = .ok (.iload_n 2, 1) := by decide +kernel
theorem dX5_posting_79 : decode cX5_posting 79 = .ok (.laload, 1) := by decide +kernel
theorem dX5_posting_80 : decode cX5_posting 80 = .ok (.lreturn, 1) := by decide +kernel
theorem dX5_requireLine_0 : decode cX5_requireLine 0 = .ok (.iload_n 0, 1) := by decide +kernel
theorem dX5_requireLine_1 : decode cX5_requireLine 1 = .ok (.ifCond .lt 9, 3) := by decide +kernel
theorem dX5_requireLine_4 : decode cX5_requireLine 4 = .ok (.iload_n 0, 1) := by decide +kernel
theorem dX5_requireLine_5 : decode cX5_requireLine 5 = .ok (.bipush 12, 2) := by decide +kernel
theorem dX5_requireLine_7 : decode cX5_requireLine 7 = .ok (.if_icmp .lt 13, 3) := by decide +kernel
theorem dX5_requireLine_10 : decode cX5_requireLine 10 = .ok (.new 227, 3) := by decide +kernel
theorem dX5_requireLine_13 : decode cX5_requireLine 13 = .ok (.dup, 1) := by decide +kernel
theorem dX5_requireLine_14 : decode cX5_requireLine 14 = .ok (.ldc 229, 2) := by decide +kernel
theorem dX5_requireLine_16 : decode cX5_requireLine 16 = .ok (.invokespecial 231, 3) := by decide +kernel
theorem dX5_requireLine_19 : decode cX5_requireLine 19 = .ok (.athrow, 1) := by decide +kernel
theorem dX5_requireLine_20 : decode cX5_requireLine 20 = .ok (.return_, 1) := by decide +kernel
theorem dX5_requireTable_0 : decode cX5_requireTable 0 = .ok (.iload_n 0, 1) := by decide +kernel
theorem dX5_requireTable_1 : decode cX5_requireTable 1 = .ok (.ifCond .lt 8, 3) := by decide +kernel
theorem dX5_requireTable_4 : decode cX5_requireTable 4 = .ok (.iload_n 0, 1) := by decide +kernel
theorem dX5_requireTable_5 : decode cX5_requireTable 5 = .ok (.iconst 3, 1) := by decide +kernel
theorem dX5_requireTable_6 : decode cX5_requireTable 6 = .ok (.if_icmp .lt 13, 3) := by decide +kernel
theorem dX5_requireTable_9 : decode cX5_requireTable 9 = .ok (.new 227, 3) := by decide +kernel
theorem dX5_requireTable_12 : decode cX5_requireTable 12 = .ok (.dup, 1) := by decide +kernel
theorem dX5_requireTable_13 : decode cX5_requireTable 13 = .ok (.ldc 232, 2) := by decide +kernel
theorem dX5_requireTable_15 : decode cX5_requireTable 15 = .ok (.invokespecial 231, 3) := by decide +kernel
theorem dX5_requireTable_18 : decode cX5_requireTable 18 = .ok (.athrow, 1) := by decide +kernel
theorem dX5_requireTable_19 : decode cX5_requireTable 19 = .ok (.return_, 1) := by decide +kernel
theorem dX5_requireTaxpayer_0 : decode cX5_requireTaxpayer 0 = .ok (.iload_n 0, 1) := by decide +kernel
theorem dX5_requireTaxpayer_1 : decode cX5_requireTaxpayer 1 = .ok (.ifCond .lt 8, 3) := by decide +kernel
theorem dX5_requireTaxpayer_4 : decode cX5_requireTaxpayer 4 = .ok (.iload_n 0, 1) := by decide +kernel
theorem dX5_requireTaxpayer_5 : decode cX5_requireTaxpayer 5 = .ok (.iconst 3, 1) := by decide +kernel
theorem dX5_requireTaxpayer_6 : decode cX5_requireTaxpayer 6 = .ok (.if_icmp .lt 13, 3) := by decide +kernel
theorem dX5_requireTaxpayer_9 : decode cX5_requireTaxpayer 9 = .ok (.new 227, 3) := by decide +kernel
theorem dX5_requireTaxpayer_12 : decode cX5_requireTaxpayer 12 = .ok (.dup, 1) := by decide +kernel
theorem dX5_requireTaxpayer_13 : decode cX5_requireTaxpayer 13 = .ok (.ldc 234, 2) := by decide +kernel
theorem dX5_requireTaxpayer_15 : decode cX5_requireTaxpayer 15 = .ok (.invokespecial 231, 3) := by decide +kernel
theorem dX5_requireTaxpayer_18 : decode cX5_requireTaxpayer 18 = .ok (.athrow, 1) := by decide +kernel
theorem dX5_requireTaxpayer_19 : decode cX5_requireTaxpayer 19 = .ok (.return_, 1) := by decide +kernel
theorem dX5_requireReturn_0 : decode cX5_requireReturn 0 = .ok (.iload_n 0, 1) := by decide +kernel
theorem dX5_requireReturn_1 : decode cX5_requireReturn 1 = .ok (.invokestatic 195, 3) := by decide +kernel
theorem dX5_requireReturn_4 : decode cX5_requireReturn 4 = .ok (.iload_n 1, 1) := by decide +kernel
theorem dX5_requireReturn_5 : decode cX5_requireReturn 5 = .ok (.ifCond .lt 8, 3) := by decide +kernel
theorem dX5_requireReturn_8 : decode cX5_requireReturn 8 = .ok (.iload_n 1, 1) := by decide +kernel
theorem dX5_requireReturn_9 : decode cX5_requireReturn 9 = .ok (.iconst 4, 1) := by decide +kernel
theorem dX5_requireReturn_10 : decode cX5_requireReturn 10 = .ok (.if_icmp .lt 13, 3) := by decide +kernel
theorem dX5_requireReturn_13 : decode cX5_requireReturn 13 = .ok (.new 227, 3) := by decide +kernel
theorem dX5_requireReturn_16 : decode cX5_requireReturn 16 = .ok (.dup, 1) := by decide +kernel
theorem dX5_requireReturn_17 : decode cX5_requireReturn 17 = .ok (.ldc 236, 2) := by decide +kernel
theorem dX5_requireReturn_19 : decode cX5_requireReturn 19 = .ok (.invokespecial 231, 3) := by decide +kernel
theorem dX5_requireReturn_22 : decode cX5_requireReturn 22 = .ok (.athrow, 1) := by decide +kernel
theorem dX5_requireReturn_23 : decode cX5_requireReturn 23 = .ok (.return_, 1) := by decide +kernel
theorem dX5_requireAssessed_0 : decode cX5_requireAssessed 0 = .ok (.aload_n 0, 1) := by decide +kernel
theorem dX5_requireAssessed_1 : decode cX5_requireAssessed 1 = .ok (.iload_n 1, 1) := by decide +kernel
theorem dX5_requireAssessed_2 : decode cX5_requireAssessed 2 = .ok (.iload_n 2, 1) := by decide +kernel
theorem dX5_requireAssessed_3 : decode cX5_requireAssessed 3 = .ok (.invokevirtual 158, 3) := by decide +kernel
theorem dX5_requireAssessed_6 : decode cX5_requireAssessed 6 = .ok (.getfield 238, 3) := by decide +kernel
theorem dX5_requireAssessed_9 : decode cX5_requireAssessed 9 = .ok (.ifCond .ne 13, 3) := by decide +kernel
theorem dX5_requireAssessed_12 : decode cX5_requireAssessed 12 = .ok (.new 127, 3) := by decide +kernel
theorem dX5_requireAssessed_15 : decode cX5_requireAssessed 15 = .ok (.dup, 1) := by decide +kernel
theorem dX5_requireAssessed_16 : decode cX5_requireAssessed 16 = .ok (.ldc 242, 2) := by decide +kernel
theorem dX5_requireAssessed_18 : decode cX5_requireAssessed 18 = .ok (.invokespecial 131, 3) := by decide +kernel
theorem dX5_requireAssessed_21 : decode cX5_requireAssessed 21 = .ok (.athrow, 1) := by decide +kernel
theorem dX5_requireAssessed_22 : decode cX5_requireAssessed 22 = .ok (.return_, 1) := by decide +kernel
theorem dX5_returnOf_0 : decode cX5_returnOf 0 = .ok (.aload_n 0, 1) := by decide +kernel
theorem dX5_returnOf_1 : decode cX5_returnOf 1 = .ok (.getfield 26, 3) := by decide +kernel
theorem dX5_returnOf_4 : decode cX5_returnOf 4 = .ok (.iload_n 1, 1) := by decide +kernel
theorem dX5_returnOf_5 : decode cX5_returnOf 5 = .ok (.iconst 4, 1) := by decide +kernel
theorem dX5_returnOf_6 : decode cX5_returnOf 6 = .ok (.imul, 1) := by decide +kernel
theorem dX5_returnOf_7 : decode cX5_returnOf 7 = .ok (.iload_n 2, 1) := by decide +kernel
theorem dX5_returnOf_8 : decode cX5_returnOf 8 = .ok (.iadd, 1) := by decide +kernel
theorem dX5_returnOf_9 : decode cX5_returnOf 9 = .ok (.aaload, 1) := by decide +kernel
theorem dX5_returnOf_10 : decode cX5_returnOf 10 = .ok (.areturn, 1) := by decide +kernel
theorem dX5_hasFormula_0 : decode cX5_hasFormula 0 = .ok (.aload_n 0, 1) := by decide +kernel
theorem dX5_hasFormula_1 : decode cX5_hasFormula 1 = .ok (.getfield 16, 3) := by decide +kernel
theorem dX5_hasFormula_4 : decode cX5_hasFormula 4 = .ok (.iload_n 1, 1) := by decide +kernel
theorem dX5_hasFormula_5 : decode cX5_hasFormula 5 = .ok (.aaload, 1) := by decide +kernel
theorem dX5_hasFormula_6 : decode cX5_hasFormula 6 = .ok (.getfield 78, 3) := by decide +kernel
theorem dX5_hasFormula_9 : decode cX5_hasFormula 9 = .ok (.ifCond .le 7, 3) := by decide +kernel
theorem dX5_hasFormula_12 : decode cX5_hasFormula 12 = .ok (.iconst 1, 1) := by decide +kernel
theorem dX5_hasFormula_13 : decode cX5_hasFormula 13 = .ok (.goto 4, 3) := by decide +kernel
theorem dX5_hasFormula_16 : decode cX5_hasFormula 16 = .ok (.iconst 0, 1) := by decide +kernel
theorem dX5_hasFormula_17 : decode cX5_hasFormula 17 = .ok (.ireturn, 1) := by decide +kernel
theorem dX5_arrangeLines_0 : decode cX5_arrangeLines 0 = .ok (.iconst 0, 1) := by decide +kernel
theorem dX5_arrangeLines_1 : decode cX5_arrangeLines 1 = .ok (.istore_n 1, 1) := by decide +kernel
theorem dX5_arrangeLines_2 : decode cX5_arrangeLines 2 = .ok (.iconst 0, 1) := by decide +kernel
theorem dX5_arrangeLines_3 : decode cX5_arrangeLines 3 = .ok (.istore_n 2, 1) := by decide +kernel
theorem dX5_arrangeLines_4 : decode cX5_arrangeLines 4 = .ok (.iload_n 2, 1) := by decide +kernel
theorem dX5_arrangeLines_5 : decode cX5_arrangeLines 5 = .ok (.bipush 12, 2) := by decide +kernel
theorem dX5_arrangeLines_7 : decode cX5_arrangeLines 7 = .ok (.if_icmp .ge 36, 3) := by decide +kernel
theorem dX5_arrangeLines_10 : decode cX5_arrangeLines 10 = .ok (.aload_n 0, 1) := by decide +kernel
theorem dX5_arrangeLines_11 : decode cX5_arrangeLines 11 = .ok (.iload_n 1, 1) := by decide +kernel
theorem dX5_arrangeLines_12 : decode cX5_arrangeLines 12 = .ok (.invokevirtual 244, 3) := by decide +kernel
theorem dX5_arrangeLines_15 : decode cX5_arrangeLines 15 = .ok (.istore_n 3, 1) := by decide +kernel
theorem dX5_arrangeLines_16 : decode cX5_arrangeLines 16 = .ok (.iload_n 3, 1) := by decide +kernel
theorem dX5_arrangeLines_17 : decode cX5_arrangeLines 17 = .ok (.bipush 12, 2) := by decide +kernel
theorem dX5_arrangeLines_19 : decode cX5_arrangeLines 19 = .ok (.if_icmp .ne 5, 3) := by decide +kernel
theorem dX5_arrangeLines_22 : decode cX5_arrangeLines 22 = .ok (.iload_n 2, 1) := by decide +kernel
theorem dX5_arrangeLines_23 : decode cX5_arrangeLines 23 = .ok (.ireturn, 1) := by decide +kernel
theorem dX5_arrangeLines_24 : decode cX5_arrangeLines 24 = .ok (.aload_n 0, 1) := by decide +kernel
theorem dX5_arrangeLines_25 : decode cX5_arrangeLines 25 = .ok (.getfield 43, 3) := by decide +kernel
theorem dX5_arrangeLines_28 : decode cX5_arrangeLines 28 = .ok (.iload_n 2, 1) := by decide +kernel
theorem dX5_arrangeLines_29 : decode cX5_arrangeLines 29 = .ok (.iload_n 3, 1) := by decide +kernel
theorem dX5_arrangeLines_30 : decode cX5_arrangeLines 30 = .ok (.iastore, 1) := by decide +kernel
theorem dX5_arrangeLines_31 : decode cX5_arrangeLines 31 = .ok (.iload_n 1, 1) := by decide +kernel
theorem dX5_arrangeLines_32 : decode cX5_arrangeLines 32 = .ok (.iconst 1, 1) := by decide +kernel
theorem dX5_arrangeLines_33 : decode cX5_arrangeLines 33 = .ok (.iload_n 3, 1) := by decide +kernel
theorem dX5_arrangeLines_34 : decode cX5_arrangeLines 34 = .ok (.ishl, 1) := by decide +kernel
theorem dX5_arrangeLines_35 : decode cX5_arrangeLines 35 = .ok (.ior, 1) := by decide +kernel
theorem dX5_arrangeLines_36 : decode cX5_arrangeLines 36 = .ok (.istore_n 1, 1) := by decide +kernel
theorem dX5_arrangeLines_37 : decode cX5_arrangeLines 37 = .ok (.iinc 2 1, 3) := by decide +kernel
theorem dX5_arrangeLines_40 : decode cX5_arrangeLines 40 = .ok (.goto (-36), 3) := by decide +kernel
theorem dX5_arrangeLines_43 : decode cX5_arrangeLines 43 = .ok (.bipush 12, 2) := by decide +kernel
theorem dX5_arrangeLines_45 : decode cX5_arrangeLines 45 = .ok (.ireturn, 1) := by decide +kernel
theorem dX5_lowestReady_0 : decode cX5_lowestReady 0 = .ok (.iconst 0, 1) := by decide +kernel
theorem dX5_lowestReady_1 : decode cX5_lowestReady 1 = .ok (.istore_n 2, 1) := by decide +kernel
theorem dX5_lowestReady_2 : decode cX5_lowestReady 2 = .ok (.iload_n 2, 1) := by decide +kernel
theorem dX5_lowestReady_3 : decode cX5_lowestReady 3 = .ok (.bipush 12, 2) := by decide +kernel
theorem dX5_lowestReady_5 : decode cX5_lowestReady 5 = .ok (.if_icmp .ge 32, 3) := by decide +kernel
theorem dX5_lowestReady_8 : decode cX5_lowestReady 8 = .ok (.iload_n 1, 1) := by decide +kernel
theorem dX5_lowestReady_9 : decode cX5_lowestReady 9 = .ok (.iconst 1, 1) := by decide +kernel
theorem dX5_lowestReady_10 : decode cX5_lowestReady 10 = .ok (.iload_n 2, 1) := by decide +kernel
theorem dX5_lowestReady_11 : decode cX5_lowestReady 11 = .ok (.ishl, 1) := by decide +kernel
theorem dX5_lowestReady_12 : decode cX5_lowestReady 12 = .ok (.iand, 1) := by decide +kernel
theorem dX5_lowestReady_13 : decode cX5_lowestReady 13 = .ok (.ifCond .ne 18, 3) := by decide +kernel
theorem dX5_lowestReady_16 : decode cX5_lowestReady 16 = .ok (.aload_n 0, 1) := by decide +kernel
theorem dX5_lowestReady_17 : decode cX5_lowestReady 17 = .ok (.getfield 20, 3) := by decide +kernel
theorem dX5_lowestReady_20 : decode cX5_lowestReady 20 = .ok (.iload_n 2, 1) := by decide +kernel
theorem dX5_lowestReady_21 : decode cX5_lowestReady 21 = .ok (.iaload, 1) := by decide +kernel
theorem dX5_lowestReady_22 : decode cX5_lowestReady 22 = .ok (.iload_n 1, 1) := by decide +kernel
theorem dX5_lowestReady_23 : decode cX5_lowestReady 23 = .ok (.iconst (-1), 1) := by decide +kernel
theorem dX5_lowestReady_24 : decode cX5_lowestReady 24 = .ok (.ixor, 1) := by decide +kernel
theorem dX5_lowestReady_25 : decode cX5_lowestReady 25 = .ok (.iand, 1) := by decide +kernel
theorem dX5_lowestReady_26 : decode cX5_lowestReady 26 = .ok (.ifCond .ne 5, 3) := by decide +kernel
theorem dX5_lowestReady_29 : decode cX5_lowestReady 29 = .ok (.iload_n 2, 1) := by decide +kernel
theorem dX5_lowestReady_30 : decode cX5_lowestReady 30 = .ok (.ireturn, 1) := by decide +kernel
theorem dX5_lowestReady_31 : decode cX5_lowestReady 31 = .ok (.iinc 2 1, 3) := by decide +kernel
theorem dX5_lowestReady_34 : decode cX5_lowestReady 34 = .ok (.goto (-32), 3) := by decide +kernel
theorem dX5_lowestReady_37 : decode cX5_lowestReady 37 = .ok (.bipush 12, 2) := by decide +kernel
theorem dX5_lowestReady_39 : decode cX5_lowestReady 39 = .ok (.ireturn, 1) := by decide +kernel
theorem dX5_workOut_0 : decode cX5_workOut 0 = .ok (.aload_n 0, 1) := by decide +kernel
theorem dX5_workOut_1 : decode cX5_workOut 1 = .ok (.getfield 43, 3) := by decide +kernel
theorem dX5_workOut_4 : decode cX5_workOut 4 = .ok (.astore_n 3, 1) := by decide +kernel
theorem dX5_workOut_5 : decode cX5_workOut 5 = .ok (.aload_n 3, 1) := by decide +kernel
theorem dX5_workOut_6 : decode cX5_workOut 6 = .ok (.arraylength, 1) := by decide +kernel
theorem dX5_workOut_7 : decode cX5_workOut 7 = .ok (.istore 4, 2) := by decide +kernel
theorem dX5_workOut_9 : decode cX5_workOut 9 = .ok (.iconst 0, 1) := by decide +kernel
theorem dX5_workOut_10 : decode cX5_workOut 10 = .ok (.istore 5, 2) := by decide +kernel
theorem dX5_workOut_12 : decode cX5_workOut 12 = .ok (.iload 5, 2) := by decide +kernel
theorem dX5_workOut_14 : decode cX5_workOut 14 = .ok (.iload 4, 2) := by decide +kernel
theorem dX5_workOut_16 : decode cX5_workOut 16 = .ok (.if_icmp .ge 80, 3) := by decide +kernel
theorem dX5_workOut_19 : decode cX5_workOut 19 = .ok (.aload_n 3, 1) := by decide +kernel
theorem dX5_workOut_20 : decode cX5_workOut 20 = .ok (.iload 5, 2) := by decide +kernel
theorem dX5_workOut_22 : decode cX5_workOut 22 = .ok (.iaload, 1) := by decide +kernel
theorem dX5_workOut_23 : decode cX5_workOut 23 = .ok (.istore 6, 2) := by decide +kernel
theorem dX5_workOut_25 : decode cX5_workOut 25 = .ok (.aload_n 0, 1) := by decide +kernel
theorem dX5_workOut_26 : decode cX5_workOut 26 = .ok (.iload 6, 2) := by decide +kernel
theorem dX5_workOut_28 : decode cX5_workOut 28 = .ok (.invokevirtual 108, 3) := by decide +kernel
theorem dX5_workOut_31 : decode cX5_workOut 31 = .ok (.ifCond .ne 21, 3) := by decide +kernel
theorem dX5_workOut_34 : decode cX5_workOut 34 = .ok (.aload_n 0, 1) := by decide +kernel
theorem dX5_workOut_35 : decode cX5_workOut 35 = .ok (.getfield 46, 3) := by decide +kernel
theorem dX5_workOut_38 : decode cX5_workOut 38 = .ok (.iload 6, 2) := by decide +kernel
theorem dX5_workOut_40 : decode cX5_workOut 40 = .ok (.aload_n 1, 1) := by decide +kernel
theorem dX5_workOut_41 : decode cX5_workOut 41 = .ok (.getfield 162, 3) := by decide +kernel
theorem dX5_workOut_44 : decode cX5_workOut 44 = .ok (.iload 6, 2) := by decide +kernel
theorem dX5_workOut_46 : decode cX5_workOut 46 = .ok (.iaload, 1) := by decide +kernel
theorem dX5_workOut_47 : decode cX5_workOut 47 = .ok (.i2l, 1) := by decide +kernel
theorem dX5_workOut_48 : decode cX5_workOut 48 = .ok (.lastore, 1) := by decide +kernel
theorem dX5_workOut_49 : decode cX5_workOut 49 = .ok (.goto 41, 3) := by decide +kernel
theorem dX5_workOut_52 : decode cX5_workOut 52 = .ok (.aload_n 0, 1) := by decide +kernel
theorem dX5_workOut_53 : decode cX5_workOut 53 = .ok (.getfield 46, 3) := by decide +kernel
theorem dX5_workOut_56 : decode cX5_workOut 56 = .ok (.iload 6, 2) := by decide +kernel
theorem dX5_workOut_58 : decode cX5_workOut 58 = .ok (.aload_n 0, 1) := by decide +kernel
theorem dX5_workOut_59 : decode cX5_workOut 59 = .ok (.getfield 39, 3) := by decide +kernel
theorem dX5_workOut_62 : decode cX5_workOut 62 = .ok (.aload_n 0, 1) := by decide +kernel
theorem dX5_workOut_63 : decode cX5_workOut 63 = .ok (.getfield 16, 3) := by decide +kernel
theorem dX5_workOut_66 : decode cX5_workOut 66 = .ok (.iload 6, 2) := by decide +kernel
theorem dX5_workOut_68 : decode cX5_workOut 68 = .ok (.aaload, 1) := by decide +kernel
theorem dX5_workOut_69 : decode cX5_workOut 69 = .ok (.aload_n 0, 1) := by decide +kernel
theorem dX5_workOut_70 : decode cX5_workOut 70 = .ok (.getfield 46, 3) := by decide +kernel
theorem dX5_workOut_73 : decode cX5_workOut 73 = .ok (.aload_n 2, 1) := by decide +kernel
theorem dX5_workOut_74 : decode cX5_workOut 74 = .ok (.invokevirtual 247, 3) := by decide +kernel
theorem dX5_workOut_77 : decode cX5_workOut 77 = .ok (.lastore, 1) := by decide +kernel
theorem dX5_workOut_78 : decode cX5_workOut 78 = .ok (.aload_n 0, 1) := by decide +kernel
theorem dX5_workOut_79 : decode cX5_workOut 79 = .ok (.getfield 39, 3) := by decide +kernel
theorem dX5_workOut_82 : decode cX5_workOut 82 = .ok (.getfield 251, 3) := by decide +kernel
theorem dX5_workOut_85 : decode cX5_workOut 85 = .ok (.ifCond .eq 5, 3) := by decide +kernel
theorem dX5_workOut_88 : decode cX5_workOut 88 = .ok (.iconst 0, 1) := by decide +kernel
theorem dX5_workOut_89 : decode cX5_workOut 89 = .ok (.ireturn, 1) := by decide +kernel
theorem dX5_workOut_90 : decode cX5_workOut 90 = .ok (.iinc 5 1, 3) := by decide +kernel
theorem dX5_workOut_93 : decode cX5_workOut 93 = .ok (.goto (-81), 3) := by decide +kernel
theorem dX5_workOut_96 : decode cX5_workOut 96 = .ok (.iconst 1, 1) := by decide +kernel
theorem dX5_workOut_97 : decode cX5_workOut 97 = .ok (.ireturn, 1) := by decide +kernel
theorem dX5_carriesToEven_0 : decode cX5_carriesToEven 0 = .ok (.lload_n 2, 1) := by decide +kernel
theorem dX5_carriesToEven_1 : decode cX5_carriesToEven 1 = .ok (.lload 4, 2) := by decide +kernel
theorem dX5_carriesToEven_3 : decode cX5_carriesToEven 3 = .ok (.lcmp, 1) := by decide +kernel
theorem dX5_carriesToEven_4 : decode cX5_carriesToEven 4 = .ok (.ifCond .gt 18, 3) := by decide +kernel
theorem dX5_carriesToEven_7 : decode cX5_carriesToEven 7 = .ok (.lload_n 2, 1) := by decide +kernel
theorem dX5_carriesToEven_8 : decode cX5_carriesToEven 8 = .ok (.lload 4, 2) := by decide +kernel
theorem dX5_carriesToEven_10 : decode cX5_carriesToEven 10 = .ok (.lcmp, 1) := by decide +kernel
theorem dX5_carriesToEven_11 : decode cX5_carriesToEven 11 = .ok (.ifCond .ne 15, 3) := by decide +kernel
theorem dX5_carriesToEven_14 : decode cX5_carriesToEven 14 = .ok (.lload_n 0, 1) := by decide +kernel
theorem dX5_carriesToEven_15 : decode cX5_carriesToEven 15 = .ok (.lconst 1, 1) := by decide +kernel
theorem dX5_carriesToEven_16 : decode cX5_carriesToEven 16 = .ok (.land, 1) := by decide +kernel
theorem dX5_carriesToEven_17 : decode cX5_carriesToEven 17 = .ok (.lconst 0, 1) := by decide +kernel
theorem dX5_carriesToEven_18 : decode cX5_carriesToEven 18 = .ok (.lcmp, 1) := by decide +kernel
theorem dX5_carriesToEven_19 : decode cX5_carriesToEven 19 = .ok (.ifCond .eq 7, 3) := by decide +kernel
theorem dX5_carriesToEven_22 : decode cX5_carriesToEven 22 = .ok (.iconst 1, 1) := by decide +kernel
theorem dX5_carriesToEven_23 : decode cX5_carriesToEven 23 = .ok (.goto 4, 3) := by decide +kernel
theorem dX5_carriesToEven_26 : decode cX5_carriesToEven 26 = .ok (.iconst 0, 1) := by decide +kernel
theorem dX5_carriesToEven_27 : decode cX5_carriesToEven 27 = .ok (.ireturn, 1) := by decide +kernel
theorem dX6_init_0 : decode cX6_init 0 = .ok (.aload_n 0, 1) := by decide +kernel
theorem dX6_init_1 : decode cX6_init 1 = .ok (.invokespecial 1, 3) := by decide +kernel
theorem dX6_init_4 : decode cX6_init 4 = .ok (.aload_n 0, 1) := by decide +kernel
theorem dX6_init_5 : decode cX6_init 5 = .ok (.bipush 40, 2) := by decide +kernel
theorem dX6_init_7 : decode cX6_init 7 = .ok (.newarray .int, 2) := by decide +kernel
theorem dX6_init_9 : decode cX6_init 9 = .ok (.putfield 7, 3) := by decide +kernel
theorem dX6_init_12 : decode cX6_init 12 = .ok (.aload_n 0, 1) := by decide +kernel
theorem dX6_init_13 : decode cX6_init 13 = .ok (.bipush 12, 2) := by decide +kernel
theorem dX6_init_15 : decode cX6_init 15 = .ok (.newarray .boolean, 2) := by decide +kernel
theorem dX6_init_17 : decode cX6_init 17 = .ok (.putfield 13, 3) := by decide +kernel
theorem dX6_init_20 : decode cX6_init 20 = .ok (.aload_n 0, 1) := by decide +kernel
theorem dX6_init_21 : decode cX6_init 21 = .ok (.bipush 12, 2) := by decide +kernel
theorem dX6_init_23 : decode cX6_init 23 = .ok (.newarray .int, 2) := by decide +kernel
theorem dX6_init_25 : decode cX6_init 25 = .ok (.putfield 17, 3) := by decide +kernel
theorem dX6_init_28 : decode cX6_init 28 = .ok (.aload_n 0, 1) := by decide +kernel
theorem dX6_init_29 : decode cX6_init 29 = .ok (.bipush 12, 2) := by decide +kernel
theorem dX6_init_31 : decode cX6_init 31 = .ok (.newarray .int, 2) := by decide +kernel
theorem dX6_init_33 : decode cX6_init 33 = .ok (.putfield 20, 3) := by decide +kernel
theorem dX6_init_36 : decode cX6_init 36 = .ok (.aload_n 0, 1) := by decide +kernel
theorem dX6_init_37 : decode cX6_init 37 = .ok (.sipush 576, 3) := by decide +kernel
theorem dX6_init_40 : decode cX6_init 40 = .ok (.newarray .int, 2) := by decide +kernel
theorem dX6_init_42 : decode cX6_init 42 = .ok (.putfield 23, 3) := by decide +kernel
theorem dX6_init_45 : decode cX6_init 45 = .ok (.aload_n 0, 1) := by decide +kernel
theorem dX6_init_46 : decode cX6_init 46 = .ok (.sipush 576, 3) := by decide +kernel
theorem dX6_init_49 : decode cX6_init 49 = .ok (.newarray .int, 2) := by decide +kernel
theorem dX6_init_51 : decode cX6_init 51 = .ok (.putfield 26, 3) := by decide +kernel
theorem dX6_init_54 : decode cX6_init 54 = .ok (.aload_n 0, 1) := by decide +kernel
theorem dX6_init_55 : decode cX6_init 55 = .ok (.bipush 11, 2) := by decide +kernel
theorem dX6_init_57 : decode cX6_init 57 = .ok (.putfield 29, 3) := by decide +kernel
theorem dX6_init_60 : decode cX6_init 60 = .ok (.aload_n 0, 1) := by decide +kernel
theorem dX6_init_61 : decode cX6_init 61 = .ok (.iconst 3, 1) := by decide +kernel
theorem dX6_init_62 : decode cX6_init 62 = .ok (.newarray .int, 2) := by decide +kernel
theorem dX6_init_64 : decode cX6_init 64 = .ok (.putfield 33, 3) := by decide +kernel
theorem dX6_init_67 : decode cX6_init 67 = .ok (.aload_n 0, 1) := by decide +kernel
theorem dX6_init_68 : decode cX6_init 68 = .ok (.bipush 12, 2) := by decide +kernel
theorem dX6_init_70 : decode cX6_init 70 = .ok (.newarray .int, 2) := by decide +kernel
theorem dX6_init_72 : decode cX6_init 72 = .ok (.putfield 36, 3) := by decide +kernel
theorem dX6_init_75 : decode cX6_init 75 = .ok (.aload_n 0, 1) := by decide +kernel
theorem dX6_init_76 : decode cX6_init 76 = .ok (.bipush 12, 2) := by decide +kernel
theorem dX6_init_78 : decode cX6_init 78 = .ok (.newarray .int, 2) := by decide +kernel
theorem dX6_init_80 : decode cX6_init 80 = .ok (.putfield 39, 3) := by decide +kernel
theorem dX6_init_83 : decode cX6_init 83 = .ok (.aload_n 0, 1) := by decide +kernel
theorem dX6_init_84 : decode cX6_init 84 = .ok (.iconst 3, 1) := by decide +kernel
theorem dX6_init_85 : decode cX6_init 85 = .ok (.newarray .int, 2) := by decide +kernel
theorem dX6_init_87 : decode cX6_init 87 = .ok (.putfield 42, 3) := by decide +kernel
theorem dX6_init_90 : decode cX6_init 90 = .ok (.aload_n 0, 1) := by decide +kernel
theorem dX6_init_91 : decode cX6_init 91 = .ok (.sipush 144, 3) := by decide +kernel
theorem dX6_init_94 : decode cX6_init 94 = .ok (.newarray .int, 2) := by decide +kernel
theorem dX6_init_96 : decode cX6_init 96 = .ok (.putfield 45, 3) := by decide +kernel
theorem dX6_init_99 : decode cX6_init 99 = .ok (.aload_n 0, 1) := by decide +kernel
theorem dX6_init_100 : decode cX6_init 100 = .ok (.bipush 12, 2) := by decide +kernel
theorem dX6_init_102 : decode cX6_init 102 = .ok (.newarray .boolean, 2) := by decide +kernel
theorem dX6_init_104 : decode cX6_init 104 = .ok (.putfield 48, 3) := by decide +kernel
theorem dX6_init_107 : decode cX6_init 107 = .ok (.aload_n 0, 1) := by decide +kernel
theorem dX6_init_108 : decode cX6_init 108 = .ok (.sipush 144, 3) := by decide +kernel
theorem dX6_init_111 : decode cX6_init 111 = .ok (.newarray .long, 2) := by decide +kernel
theorem dX6_init_113 : decode cX6_init 113 = .ok (.putfield 51, 3) := by decide +kernel
theorem dX6_init_116 : decode cX6_init 116 = .ok (.aload_n 0, 1) := by decide +kernel
theorem dX6_init_117 : decode cX6_init 117 = .ok (.bipush 12, 2) := by decide +kernel
theorem dX6_init_119 : decode cX6_init 119 = .ok (.newarray .long, 2) := by decide +kernel
theorem dX6_init_121 : decode cX6_init 121 = .ok (.putfield 55, 3) := by decide +kernel
theorem dX6_init_124 : decode cX6_init 124 = .ok (.aload_n 0, 1) := by decide +kernel
theorem dX6_init_125 : decode cX6_init 125 = .ok (.iconst 3, 1) := by decide +kernel
theorem dX6_init_126 : decode cX6_init 126 = .ok (.newarray .int, 2) := by decide +kernel
theorem dX6_init_128 : decode cX6_init 128 = .ok (.putfield 58, 3) := by decide +kernel
theorem dX6_init_131 : decode cX6_init 131 = .ok (.aload_n 0, 1) := by decide +kernel
theorem dX6_init_132 : decode cX6_init 132 = .ok (.bipush 72, 2) := by decide +kernel
theorem dX6_init_134 : decode cX6_init 134 = .ok (.newarray .int, 2) := by decide +kernel
theorem dX6_init_136 : decode cX6_init 136 = .ok (.putfield 61, 3) := by decide +kernel
theorem dX6_init_139 : decode cX6_init 139 = .ok (.aload_n 0, 1) := by decide +kernel
theorem dX6_init_140 : decode cX6_init 140 = .ok (.bipush 72, 2) := by decide +kernel
theorem dX6_init_142 : decode cX6_init 142 = .ok (.newarray .int, 2) := by decide +kernel
theorem dX6_init_144 : decode cX6_init 144 = .ok (.putfield 64, 3) := by decide +kernel
theorem dX6_init_147 : decode cX6_init 147 = .ok (.aload_n 0, 1) := by decide +kernel
theorem dX6_init_148 : decode cX6_init 148 = .ok (.bipush 72, 2) := by decide +kernel
theorem dX6_init_150 : decode cX6_init 150 = .ok (.newarray .long, 2) := by decide +kernel
theorem dX6_init_152 : decode cX6_init 152 = .ok (.putfield 67, 3) := by decide +kernel
theorem dX6_init_155 : decode cX6_init 155 = .ok (.aload_n 0, 1) := by decide +kernel
theorem dX6_init_156 : decode cX6_init 156 = .ok (.bipush 48, 2) := by decide +kernel
theorem dX6_init_158 : decode cX6_init 158 = .ok (.newarray .int, 2) := by decide +kernel
theorem dX6_init_160 : decode cX6_init 160 = .ok (.putfield 70, 3) := by decide +kernel
theorem dX6_init_163 : decode cX6_init 163 = .ok (.aload_n 0, 1) := by decide +kernel
theorem dX6_init_164 : decode cX6_init 164 = .ok (.bipush 48, 2) := by decide +kernel
theorem dX6_init_166 : decode cX6_init 166 = .ok (.newarray .int, 2) := by decide +kernel
theorem dX6_init_168 : decode cX6_init 168 = .ok (.putfield 73, 3) := by decide +kernel
theorem dX6_init_171 : decode cX6_init 171 = .ok (.aload_n 0, 1) := by decide +kernel
theorem dX6_init_172 : decode cX6_init 172 = .ok (.bipush 48, 2) := by decide +kernel
theorem dX6_init_174 : decode cX6_init 174 = .ok (.newarray .int, 2) := by decide +kernel
theorem dX6_init_176 : decode cX6_init 176 = .ok (.putfield 76, 3) := by decide +kernel
theorem dX6_init_179 : decode cX6_init 179 = .ok (.aload_n 0, 1) := by decide +kernel
theorem dX6_init_180 : decode cX6_init 180 = .ok (.bipush 48, 2) := by decide +kernel
theorem dX6_init_182 : decode cX6_init 182 = .ok (.newarray .int, 2) := by decide +kernel
theorem dX6_init_184 : decode cX6_init 184 = .ok (.putfield 79, 3) := by decide +kernel
theorem dX6_init_187 : decode cX6_init 187 = .ok (.aload_n 0, 1) := by decide +kernel
theorem dX6_init_188 : decode cX6_init 188 = .ok (.bipush 12, 2) := by decide +kernel
theorem dX6_init_190 : decode cX6_init 190 = .ok (.newarray .int, 2) := by decide +kernel
theorem dX6_init_192 : decode cX6_init 192 = .ok (.putfield 82, 3) := by decide +kernel
theorem dX6_init_195 : decode cX6_init 195 = .ok (.aload_n 0, 1) := by decide +kernel
theorem dX6_init_196 : decode cX6_init 196 = .ok (.bipush 12, 2) := by decide +kernel
theorem dX6_init_198 : decode cX6_init 198 = .ok (.newarray .long, 2) := by decide +kernel
theorem dX6_init_200 : decode cX6_init 200 = .ok (.putfield 85, 3) := by decide +kernel
theorem dX6_init_203 : decode cX6_init 203 = .ok (.aload_n 0, 1) := by decide +kernel
theorem dX6_init_204 : decode cX6_init 204 = .ok (.bipush 48, 2) := by decide +kernel
theorem dX6_init_206 : decode cX6_init 206 = .ok (.newarray .long, 2) := by decide +kernel
theorem dX6_init_208 : decode cX6_init 208 = .ok (.putfield 88, 3) := by decide +kernel
theorem dX6_init_211 : decode cX6_init 211 = .ok (.return_, 1) := by decide +kernel
theorem dX6_thrown_0 : decode cX6_thrown 0 = .ok (.aload_n 0, 1) := by decide +kernel
theorem dX6_thrown_1 : decode cX6_thrown 1 = .ok (.getfield 91, 3) := by decide +kernel
theorem dX6_thrown_4 : decode cX6_thrown 4 = .ok (.ireturn, 1) := by decide +kernel
theorem dX6_refuse_0 : decode cX6_refuse 0 = .ok (.aload_n 0, 1) := by decide +kernel
theorem dX6_refuse_1 : decode cX6_refuse 1 = .ok (.iload_n 1, 1) := by decide +kernel
theorem dX6_refuse_2 : decode cX6_refuse 2 = .ok (.putfield 91, 3) := by decide +kernel
theorem dX6_refuse_5 : decode cX6_refuse 5 = .ok (.iconst 0, 1) := by decide +kernel
theorem dX6_refuse_6 : decode cX6_refuse 6 = .ok (.ireturn, 1) := by decide +kernel
theorem dX6_in_0 : decode cX6_in 0 = .ok (.lload_n 0, 1) := by decide +kernel
theorem dX6_in_1 : decode cX6_in 1 = .ok (.lload_n 2, 1) := by decide +kernel
theorem dX6_in_2 : decode cX6_in 2 = .ok (.lcmp, 1) := by decide +kernel
theorem dX6_in_3 : decode cX6_in 3 = .ok (.ifCond .lt 14, 3) := by decide +kernel
theorem dX6_in_6 : decode cX6_in 6 = .ok (.lload_n 0, 1) := by decide +kernel
theorem dX6_in_7 : decode cX6_in 7 = .ok (.lload 4, 2) := by decide +kernel
theorem dX6_in_9 : decode cX6_in 9 = .ok (.lcmp, 1) := by decide +kernel
theorem dX6_in_10 : decode cX6_in 10 = .ok (.ifCond .gt 7, 3) := by decide +kernel
theorem dX6_in_13 : decode cX6_in 13 = .ok (.iconst 1, 1) := by decide +kernel
theorem dX6_in_14 : decode cX6_in 14 = .ok (.goto 4, 3) := by decide +kernel
theorem dX6_in_17 : decode cX6_in 17 = .ok (.iconst 0, 1) := by decide +kernel
theorem dX6_in_18 : decode cX6_in 18 = .ok (.ireturn, 1) := by decide +kernel
theorem dX6_isDigit_0 : decode cX6_isDigit 0 = .ok (.iload_n 0, 1) := by decide +kernel
theorem dX6_isDigit_1 : decode cX6_isDigit 1 = .ok (.bipush 48, 2) := by decide +kernel
theorem dX6_isDigit_3 : decode cX6_isDigit 3 = .ok (.if_icmp .lt 13, 3) := by decide +kernel
theorem dX6_isDigit_6 : decode cX6_isDigit 6 = .ok (.iload_n 0, 1) := by decide +kernel
theorem dX6_isDigit_7 : decode cX6_isDigit 7 = .ok (.bipush 57, 2) := by decide +kernel
theorem dX6_isDigit_9 : decode cX6_isDigit 9 = .ok (.if_icmp .gt 7, 3) := by decide +kernel
theorem dX6_isDigit_12 : decode cX6_isDigit 12 = .ok (.iconst 1, 1) := by decide +kernel
theorem dX6_isDigit_13 : decode cX6_isDigit 13 = .ok (.goto 4, 3) := by decide +kernel
theorem dX6_isDigit_16 : decode cX6_isDigit 16 = .ok (.iconst 0, 1) := by decide +kernel
theorem dX6_isDigit_17 : decode cX6_isDigit 17 = .ok (.ireturn, 1) := by decide +kernel
theorem dX6_isName_0 : decode cX6_isName 0 = .ok (.iload_n 0, 1) := by decide +kernel
theorem dX6_isName_1 : decode cX6_isName 1 = .ok (.bipush 65, 2) := by decide +kernel
theorem dX6_isName_3 : decode cX6_isName 3 = .ok (.if_icmp .lt 13, 3) := by decide +kernel
theorem dX6_isName_6 : decode cX6_isName 6 = .ok (.iload_n 0, 1) := by decide +kernel
theorem dX6_isName_7 : decode cX6_isName 7 = .ok (.bipush 76, 2) := by decide +kernel
theorem dX6_isName_9 : decode cX6_isName 9 = .ok (.if_icmp .gt 7, 3) := by decide +kernel
theorem dX6_isName_12 : decode cX6_isName 12 = .ok (.iconst 1, 1) := by decide +kernel
theorem dX6_isName_13 : decode cX6_isName 13 = .ok (.goto 4, 3) := by decide +kernel
theorem dX6_isName_16 : decode cX6_isName 16 = .ok (.iconst 0, 1) := by decide +kernel
theorem dX6_isName_17 : decode cX6_isName 17 = .ok (.ireturn, 1) := by decide +kernel
theorem dX6_type_0 : decode cX6_type 0 = .ok (.aload_n 0, 1) := by decide +kernel
theorem dX6_type_1 : decode cX6_type 1 = .ok (.iconst 0, 1) := by decide +kernel
theorem dX6_type_2 : decode cX6_type 2 = .ok (.putfield 91, 3) := by decide +kernel
theorem dX6_type_5 : decode cX6_type 5 = .ok (.iload_n 1, 1) := by decide +kernel
theorem dX6_type_6 : decode cX6_type 6 = .ok (.bipush 39, 2) := by decide +kernel
theorem dX6_type_8 : decode cX6_type 8 = .ok (.if_icmp .eq 87, 3) := by decide +kernel
theorem dX6_type_11 : decode cX6_type 11 = .ok (.iload_n 1, 1) := by decide +kernel
theorem dX6_type_12 : decode cX6_type 12 = .ok (.bipush 109, 2) := by decide +kernel
theorem dX6_type_14 : decode cX6_type 14 = .ok (.if_icmp .eq 81, 3) := by decide +kernel
theorem dX6_type_17 : decode cX6_type 17 = .ok (.iload_n 1, 1) := by decide +kernel
theorem dX6_type_18 : decode cX6_type 18 = .ok (.bipush 120, 2) := by decide +kernel
theorem dX6_type_20 : decode cX6_type 20 = .ok (.if_icmp .eq 75, 3) := by decide +kernel
theorem dX6_type_23 : decode cX6_type 23 = .ok (.iload_n 1, 1) := by decide +kernel
theorem dX6_type_24 : decode cX6_type 24 = .ok (.bipush 116, 2) := by decide +kernel
theorem dX6_type_26 : decode cX6_type 26 = .ok (.if_icmp .eq 69, 3) := by decide +kernel
theorem dX6_type_29 : decode cX6_type 29 = .ok (.iload_n 1, 1) := by decide +kernel
theorem dX6_type_30 : decode cX6_type 30 = .ok (.bipush 40, 2) := by decide +kernel
theorem dX6_type_32 : decode cX6_type 32 = .ok (.if_icmp .eq 63, 3) := by decide +kernel
theorem dX6_type_35 : decode cX6_type 35 = .ok (.iload_n 1, 1) := by decide +kernel
theorem dX6_type_36 : decode cX6_type 36 = .ok (.bipush 41, 2) := by decide +kernel
theorem dX6_type_38 : decode cX6_type 38 = .ok (.if_icmp .eq 57, 3) := by decide +kernel
theorem dX6_type_41 : decode cX6_type 41 = .ok (.iload_n 1, 1) := by decide +kernel
theorem dX6_type_42 : decode cX6_type 42 = .ok (.bipush 44, 2) := by decide +kernel
theorem dX6_type_44 : decode cX6_type 44 = .ok (.if_icmp .eq 51, 3) := by decide +kernel
theorem dX6_type_47 : decode cX6_type 47 = .ok (.iload_n 1, 1) := by decide +kernel
theorem dX6_type_48 : decode cX6_type 48 = .ok (.bipush 43, 2) := by decide +kernel
theorem dX6_type_50 : decode cX6_type 50 = .ok (.if_icmp .eq 45, 3) := by decide +kernel
theorem dX6_type_53 : decode cX6_type 53 = .ok (.iload_n 1, 1) := by decide +kernel
theorem dX6_type_54 : decode cX6_type 54 = .ok (.bipush 45, 2) := by decide +kernel
theorem dX6_type_56 : decode cX6_type 56 = .ok (.if_icmp .eq 39, 3) := by decide +kernel
theorem dX6_type_59 : decode cX6_type 59 = .ok (.iload_n 1, 1) := by decide +kernel
theorem dX6_type_60 : decode cX6_type 60 = .ok (.bipush 42, 2) := by decide +kernel
theorem dX6_type_62 : decode cX6_type 62 = .ok (.if_icmp .eq 33, 3) := by decide +kernel
theorem dX6_type_65 : decode cX6_type 65 = .ok (.iload_n 1, 1) := by decide +kernel
theorem dX6_type_66 : decode cX6_type 66 = .ok (.bipush 37, 2) := by decide +kernel
theorem dX6_type_68 : decode cX6_type 68 = .ok (.if_icmp .eq 27, 3) := by decide +kernel
theorem dX6_type_71 : decode cX6_type 71 = .ok (.iload_n 1, 1) := by decide +kernel
theorem dX6_type_72 : decode cX6_type 72 = .ok (.bipush 60, 2) := by decide +kernel
theorem dX6_type_74 : decode cX6_type 74 = .ok (.if_icmp .eq 21, 3) := by decide +kernel
theorem dX6_type_77 : decode cX6_type 77 = .ok (.iload_n 1, 1) := by decide +kernel
theorem dX6_type_78 : decode cX6_type 78 = .ok (.bipush 62, 2) := by decide +kernel
theorem dX6_type_80 : decode cX6_type 80 = .ok (.if_icmp .eq 15, 3) := by decide +kernel
theorem dX6_type_83 : decode cX6_type 83 = .ok (.iload_n 1, 1) := by decide +kernel
theorem dX6_type_84 : decode cX6_type 84 = .ok (.bipush 63, 2) := by decide +kernel
theorem dX6_type_86 : decode cX6_type 86 = .ok (.if_icmp .eq 9, 3) := by decide +kernel
theorem dX6_type_89 : decode cX6_type 89 = .ok (.iload_n 1, 1) := by decide +kernel
theorem dX6_type_90 : decode cX6_type 90 = .ok (.bipush 58, 2) := by decide +kernel
theorem dX6_type_92 : decode cX6_type 92 = .ok (.if_icmp .ne 7, 3) := by decide +kernel
theorem dX6_type_95 : decode cX6_type 95 = .ok (.iconst 1, 1) := by decide +kernel
theorem dX6_type_96 : decode cX6_type 96 = .ok (.goto 4, 3) := by decide +kernel
theorem dX6_type_99 : decode cX6_type 99 = .ok (.iconst 0, 1) := by decide +kernel
theorem dX6_type_100 : decode cX6_type 100 = .ok (.istore_n 2, 1) := by decide +kernel
theorem dX6_type_101 : decode cX6_type 101 = .ok (.iload_n 2, 1) := by decide +kernel
theorem dX6_type_102 : decode cX6_type 102 = .ok (.ifCond .ne 17, 3) := by decide +kernel
theorem dX6_type_105 : decode cX6_type 105 = .ok (.iload_n 1, 1) := by decide +kernel
theorem dX6_type_106 : decode cX6_type 106 = .ok (.invokestatic 94, 3) := by decide +kernel
theorem dX6_type_109 : decode cX6_type 109 = .ok (.ifCond .ne 10, 3) := by decide +kernel
theorem dX6_type_112 : decode cX6_type 112 = .ok (.iload_n 1, 1) := by decide +kernel
theorem dX6_type_113 : decode cX6_type 113 = .ok (.invokestatic 98, 3) := by decide +kernel
theorem dX6_type_116 : decode cX6_type 116 = .ok (.ifCond .eq 12, 3) := by decide +kernel
theorem dX6_type_119 : decode cX6_type 119 = .ok (.aload_n 0, 1) := by decide +kernel
theorem dX6_type_120 : decode cX6_type 120 = .ok (.getfield 101, 3) := by decide +kernel
theorem dX6_type_123 : decode cX6_type 123 = .ok (.bipush 40, 2) := by decide +kernel
theorem dX6_type_125 : decode cX6_type 125 = .ok (.if_icmp .ne 5, 3) := by decide +kernel
theorem dX6_type_128 : decode cX6_type 128 = .ok (.iconst 0, 1) := by decide +kernel
theorem dX6_type_129 : decode cX6_type 129 = .ok (.ireturn, 1) := by decide +kernel
theorem dX6_type_130 : decode cX6_type 130 = .ok (.aload_n 0, 1) := by decide +kernel
theorem dX6_type_131 : decode cX6_type 131 = .ok (.getfield 7, 3) := by decide +kernel
theorem dX6_type_134 : decode cX6_type 134 = .ok (.aload_n 0, 1) := by decide +kernel
theorem dX6_type_135 : decode cX6_type 135 = .ok (.getfield 101, 3) := by decide +kernel
theorem dX6_type_138 : decode cX6_type 138 = .ok (.iload_n 1, 1) := by decide +kernel
theorem dX6_type_139 : decode cX6_type 139 = .ok (.iastore, 1) := by decide +kernel
theorem dX6_type_140 : decode cX6_type 140 = .ok (.aload_n 0, 1) := by decide +kernel
theorem dX6_type_141 : decode cX6_type 141 = .ok (.dup, 1) := by decide +kernel
theorem dX6_type_142 : decode cX6_type 142 = .ok (.getfield 101, 3) := by decide +kernel
theorem dX6_type_145 : decode cX6_type 145 = .ok (.iconst 1, 1) := by decide +kernel
theorem dX6_type_146 : decode cX6_type 146 = .ok (.iadd, 1) := by decide +kernel
theorem dX6_type_147 : decode cX6_type 147 = .ok (.putfield 101, 3) := by decide +kernel
theorem dX6_type_150 : decode cX6_type 150 = .ok (.iconst 1, 1) := by decide +kernel
theorem dX6_type_151 : decode cX6_type 151 = .ok (.ireturn, 1) := by decide +kernel
theorem dX6_clear_0 : decode cX6_clear 0 = .ok (.aload_n 0, 1) := by decide +kernel
theorem dX6_clear_1 : decode cX6_clear 1 = .ok (.iconst 0, 1) := by decide +kernel
theorem dX6_clear_2 : decode cX6_clear 2 = .ok (.putfield 91, 3) := by decide +kernel
theorem dX6_clear_5 : decode cX6_clear 5 = .ok (.aload_n 0, 1) := by decide +kernel
theorem dX6_clear_6 : decode cX6_clear 6 = .ok (.getfield 101, 3) := by decide +kernel
theorem dX6_clear_9 : decode cX6_clear 9 = .ok (.istore_n 1, 1) := by decide +kernel
theorem dX6_clear_10 : decode cX6_clear 10 = .ok (.aload_n 0, 1) := by decide +kernel
theorem dX6_clear_11 : decode cX6_clear 11 = .ok (.iconst 0, 1) := by decide +kernel
theorem dX6_clear_12 : decode cX6_clear 12 = .ok (.putfield 101, 3) := by decide +kernel
theorem dX6_clear_15 : decode cX6_clear 15 = .ok (.iload_n 1, 1) := by decide +kernel
theorem dX6_clear_16 : decode cX6_clear 16 = .ok (.ireturn, 1) := by decide +kernel
theorem dX6_look_0 : decode cX6_look 0 = .ok (.iload_n 1, 1) := by decide +kernel
theorem dX6_look_1 : decode cX6_look 1 = .ok (.aload_n 0, 1) := by decide +kernel
theorem dX6_look_2 : decode cX6_look 2 = .ok (.getfield 101, 3) := by decide +kernel
theorem dX6_look_5 : decode cX6_look 5 = .ok (.if_icmp .ge 12, 3) := by decide +kernel
theorem dX6_look_8 : decode cX6_look 8 = .ok (.aload_n 0, 1) := by decide +kernel
theorem dX6_look_9 : decode cX6_look 9 = .ok (.getfield 7, 3) := by decide +kernel
theorem dX6_look_12 : decode cX6_look 12 = .ok (.iload_n 1, 1) := by decide +kernel
theorem dX6_look_13 : decode cX6_look 13 = .ok (.iaload, 1) := by decide +kernel
theorem dX6_look_14 : decode cX6_look 14 = .ok (.goto 4, 3) := by decide +kernel
theorem dX6_look_17 : decode cX6_look 17 = .ok (.iconst 0, 1) := by decide +kernel
theorem dX6_look_18 : decode cX6_look 18 = .ok (.ireturn, 1) := by decide +kernel
theorem dX6_make_0 : decode cX6_make 0 = .ok (.aload_n 0, 1) := by decide +kernel
theorem dX6_make_1 : decode cX6_make 1 = .ok (.getfield 76, 3) := by decide +kernel
theorem dX6_make_4 : decode cX6_make 4 = .ok (.aload_n 0, 1) := by decide +kernel
theorem dX6_make_5 : decode cX6_make 5 = .ok (.getfield 104, 3) := by decide +kernel
theorem dX6_make_8 : decode cX6_make 8 = .ok (.iload_n 1, 1) := by decide +kernel
theorem dX6_make_9 : decode cX6_make 9 = .ok (.iastore, 1) := by decide +kernel
theorem dX6_make_10 : decode cX6_make 10 = .ok (.aload_n 0, 1) := by decide +kernel
theorem dX6_make_11 : decode cX6_make 11 = .ok (.getfield 79, 3) := by decide +kernel
theorem dX6_make_14 : decode cX6_make 14 = .ok (.aload_n 0, 1) := by decide +kernel
theorem dX6_make_15 : decode cX6_make 15 = .ok (.getfield 104, 3) := by decide +kernel
theorem dX6_make_18 : decode cX6_make 18 = .ok (.iload_n 2, 1) := by decide +kernel
theorem dX6_make_19 : decode cX6_make 19 = .ok (.iastore, 1) := by decide +kernel
theorem dX6_make_20 : decode cX6_make 20 = .ok (.aload_n 0, 1) := by decide +kernel
theorem dX6_make_21 : decode cX6_make 21 = .ok (.dup, 1) := by decide +kernel
theorem dX6_make_22 : decode cX6_make 22 = .ok (.getfield 104, 3) := by decide +kernel
theorem dX6_make_25 : decode cX6_make 25 = .ok (.iconst 1, 1) := by decide +kernel
theorem dX6_make_26 : decode cX6_make 26 = .ok (.iadd, 1) := by decide +kernel
theorem dX6_make_27 : decode cX6_make 27 = .ok (.putfield 104, 3) := by decide +kernel
theorem dX6_make_30 : decode cX6_make 30 = .ok (.return_, 1) := by decide +kernel
theorem dX6_put_0 : decode cX6_put 0 = .ok (.aload_n 0, 1) := by decide +kernel
theorem dX6_put_1 : decode cX6_put 1 = .ok (.getfield 70, 3) := by decide +kernel
theorem dX6_put_4 : decode cX6_put 4 = .ok (.aload_n 0, 1) := by decide +kernel
theorem dX6_put_5 : decode cX6_put 5 = .ok (.getfield 107, 3) := by decide +kernel
theorem dX6_put_8 : decode cX6_put 8 = .ok (.iload_n 1, 1) := by decide +kernel
theorem dX6_put_9 : decode cX6_put 9 = .ok (.iastore, 1) := by decide +kernel
theorem dX6_put_10 : decode cX6_put 10 = .ok (.aload_n 0, 1) := by decide +kernel
theorem dX6_put_11 : decode cX6_put 11 = .ok (.getfield 73, 3) := by decide +kernel
theorem dX6_put_14 : decode cX6_put 14 = .ok (.aload_n 0, 1) := by decide +kernel
theorem dX6_put_15 : decode cX6_put 15 = .ok (.getfield 107, 3) := by decide +kernel
theorem dX6_put_18 : decode cX6_put 18 = .ok (.iload_n 2, 1) := by decide +kernel
theorem dX6_put_19 : decode cX6_put 19 = .ok (.iastore, 1) := by decide +kernel
theorem dX6_put_20 : decode cX6_put 20 = .ok (.aload_n 0, 1) := by decide +kernel
theorem dX6_put_21 : decode cX6_put 21 = .ok (.dup, 1) := by decide +kernel
theorem dX6_put_22 : decode cX6_put 22 = .ok (.getfield 107, 3) := by decide +kernel
theorem dX6_put_25 : decode cX6_put 25 = .ok (.iconst 1, 1) := by decide +kernel
theorem dX6_put_26 : decode cX6_put 26 = .ok (.iadd, 1) := by decide +kernel
theorem dX6_put_27 : decode cX6_put 27 = .ok (.putfield 107, 3) := by decide +kernel
theorem dX6_put_30 : decode cX6_put 30 = .ok (.iconst 1, 1) := by decide +kernel
theorem dX6_put_31 : decode cX6_put 31 = .ok (.ireturn, 1) := by decide +kernel
theorem dX6_top_0 : decode cX6_top 0 = .ok (.aload_n 0, 1) := by decide +kernel
theorem dX6_top_1 : decode cX6_top 1 = .ok (.getfield 107, 3) := by decide +kernel
theorem dX6_top_4 : decode cX6_top 4 = .ok (.ifCond .le 17, 3) := by decide +kernel
theorem dX6_top_7 : decode cX6_top 7 = .ok (.aload_n 0, 1) := by decide +kernel
theorem dX6_top_8 : decode cX6_top 8 = .ok (.getfield 70, 3) := by decide +kernel
theorem dX6_top_11 : decode cX6_top 11 = .ok (.aload_n 0, 1) := by decide +kernel
theorem dX6_top_12 : decode cX6_top 12 = .ok (.getfield 107, 3) := by decide +kernel
theorem dX6_top_15 : decode cX6_top 15 = .ok (.iconst 1, 1) := by decide +kernel
theorem dX6_top_16 : decode cX6_top 16 = .ok (.isub, 1) := by decide +kernel
theorem dX6_top_17 : decode cX6_top 17 = .ok (.iaload, 1) := by decide +kernel
theorem dX6_top_18 : decode cX6_top 18 = .ok (.goto 4, 3) := by decide +kernel
theorem dX6_top_21 : decode cX6_top 21 = .ok (.iconst 0, 1) := by decide +kernel
theorem dX6_top_22 : decode cX6_top 22 = .ok (.ireturn, 1) := by decide +kernel
theorem dX6_deepness_0 : decode cX6_deepness 0 = .ok (.iconst 0, 1) := by decide +kernel
theorem dX6_deepness_1 : decode cX6_deepness 1 = .ok (.istore_n 1, 1) := by decide +kernel
theorem dX6_deepness_2 : decode cX6_deepness 2 = .ok (.iconst 0, 1) := by decide +kernel
theorem dX6_deepness_3 : decode cX6_deepness 3 = .ok (.istore_n 2, 1) := by decide +kernel
theorem dX6_deepness_4 : decode cX6_deepness 4 = .ok (.iload_n 2, 1) := by decide +kernel
theorem dX6_deepness_5 : decode cX6_deepness 5 = .ok (.aload_n 0, 1) := by decide +kernel
theorem dX6_deepness_6 : decode cX6_deepness 6 = .ok (.getfield 107, 3) := by decide +kernel
theorem dX6_deepness_9 : decode cX6_deepness 9 = .ok (.if_icmp .ge 28, 3) := by decide +kernel
theorem dX6_deepness_12 : decode cX6_deepness 12 = .ok (.aload_n 0, 1) := by decide +kernel
theorem dX6_deepness_13 : decode cX6_deepness 13 = .ok (.getfield 70, 3) := by decide +kernel
theorem dX6_deepness_16 : decode cX6_deepness 16 = .ok (.iload_n 2, 1) := by decide +kernel
theorem dX6_deepness_17 : decode cX6_deepness 17 = .ok (.iaload, 1) := by decide +kernel
theorem dX6_deepness_18 : decode cX6_deepness 18 = .ok (.bipush 6, 2) := by decide +kernel
theorem dX6_deepness_20 : decode cX6_deepness 20 = .ok (.if_icmp .gt 9, 3) := by decide +kernel
theorem dX6_deepness_23 : decode cX6_deepness 23 = .ok (.iload_n 1, 1) := by decide +kernel
theorem dX6_deepness_24 : decode cX6_deepness 24 = .ok (.iconst 1, 1) := by decide +kernel
theorem dX6_deepness_25 : decode cX6_deepness 25 = .ok (.iadd, 1) := by decide +kernel
theorem dX6_deepness_26 : decode cX6_deepness 26 = .ok (.goto 4, 3) := by decide +kernel
theorem dX6_deepness_29 : decode cX6_deepness 29 = .ok (.iload_n 1, 1) := by decide +kernel
theorem dX6_deepness_30 : decode cX6_deepness 30 = .ok (.istore_n 1, 1) := by decide +kernel
theorem dX6_deepness_31 : decode cX6_deepness 31 = .ok (.iinc 2 1, 3) := by decide +kernel
theorem dX6_deepness_34 : decode cX6_deepness 34 = .ok (.goto (-30), 3) := by decide +kernel
theorem dX6_deepness_37 : decode cX6_deepness 37 = .ok (.iload_n 1, 1) := by decide +kernel
theorem dX6_deepness_38 : decode cX6_deepness 38 = .ok (.ireturn, 1) := by decide +kernel
theorem dX6_number_0 : decode cX6_number 0 = .ok (.iconst 0, 1) := by decide +kernel
theorem dX6_number_1 : decode cX6_number 1 = .ok (.istore_n 2, 1) := by decide +kernel
theorem dX6_number_2 : decode cX6_number 2 = .ok (.iconst 0, 1) := by decide +kernel
theorem dX6_number_3 : decode cX6_number 3 = .ok (.istore_n 3, 1) := by decide +kernel
theorem dX6_number_4 : decode cX6_number 4 = .ok (.iload_n 3, 1) := by decide +kernel
theorem dX6_number_5 : decode cX6_number 5 = .ok (.iload_n 1, 1) := by decide +kernel
theorem dX6_number_6 : decode cX6_number 6 = .ok (.if_icmp .ge 51, 3) := by decide +kernel
theorem dX6_number_9 : decode cX6_number 9 = .ok (.aload_n 0, 1) := by decide +kernel
theorem dX6_number_10 : decode cX6_number 10 = .ok (.aload_n 0, 1) := by decide +kernel
theorem dX6_number_11 : decode cX6_number 11 = .ok (.getfield 110, 3) := by decide +kernel
theorem dX6_number_14 : decode cX6_number 14 = .ok (.invokevirtual 113, 3) := by decide +kernel
theorem dX6_number_17 : decode cX6_number 17 = .ok (.invokestatic 94, 3) := by decide +kernel
theorem dX6_number_20 : decode cX6_number 20 = .ok (.ifCond .eq 37, 3) := by decide +kernel
theorem dX6_number_23 : decode cX6_number 23 = .ok (.bipush 10, 2) := by decide +kernel
theorem dX6_number_25 : decode cX6_number 25 = .ok (.iload_n 2, 1) := by decide +kernel
theorem dX6_number_26 : decode cX6_number 26 = .ok (.imul, 1) := by decide +kernel
theorem dX6_number_27 : decode cX6_number 27 = .ok (.aload_n 0, 1) := by decide +kernel
theorem dX6_number_28 : decode cX6_number 28 = .ok (.getfield 7, 3) := by decide +kernel
theorem dX6_number_31 : decode cX6_number 31 = .ok (.aload_n 0, 1) := by decide +kernel
theorem dX6_number_32 : decode cX6_number 32 = .ok (.getfield 110, 3) := by decide +kernel
theorem dX6_number_35 : decode cX6_number 35 = .ok (.iaload, 1) := by decide +kernel
theorem dX6_number_36 : decode cX6_number 36 = .ok (.iadd, 1) := by decide +kernel
theorem dX6_number_37 : decode cX6_number 37 = .ok (.bipush 48, 2) := by decide +kernel
theorem dX6_number_39 : decode cX6_number 39 = .ok (.isub, 1) := by decide +kernel
theorem dX6_number_40 : decode cX6_number 40 = .ok (.istore_n 2, 1) := by decide +kernel
theorem dX6_number_41 : decode cX6_number 41 = .ok (.aload_n 0, 1) := by decide +kernel
theorem dX6_number_42 : decode cX6_number 42 = .ok (.dup, 1) := by decide +kernel
theorem dX6_number_43 : decode cX6_number 43 = .ok (.getfield 110, 3) := by decide +kernel
theorem dX6_number_46 : decode cX6_number 46 = .ok (.iconst 1, 1) := by decide +kernel
theorem dX6_number_47 : decode cX6_number 47 = .ok (.iadd, 1) := by decide +kernel
theorem dX6_number_48 : decode cX6_number 48 = .ok (.putfield 110, 3) := by decide +kernel
theorem dX6_number_51 : decode cX6_number 51 = .ok (.iinc 3 1, 3) := by decide +kernel
theorem dX6_number_54 : decode cX6_number 54 = .ok (.goto (-50), 3) := by decide +kernel
theorem dX6_number_57 : decode cX6_number 57 = .ok (.iload_n 2, 1) := by decide +kernel
theorem dX6_number_58 : decode cX6_number 58 = .ok (.ireturn, 1) := by decide +kernel
theorem dX6_begin_0 : decode cX6_begin 0 = .ok (.aload_n 0, 1) := by decide +kernel
theorem dX6_begin_1 : decode cX6_begin 1 = .ok (.aload_n 0, 1) := by decide +kernel
theorem dX6_begin_2 : decode cX6_begin 2 = .ok (.getfield 110, 3) := by decide +kernel
theorem dX6_begin_5 : decode cX6_begin 5 = .ok (.invokevirtual 113, 3) := by decide +kernel
theorem dX6_begin_8 : decode cX6_begin 8 = .ok (.istore_n 1, 1) := by decide +kernel
theorem dX6_begin_9 : decode cX6_begin 9 = .ok (.iload_n 1, 1) := by decide +kernel
theorem dX6_begin_10 : decode cX6_begin 10 = .ok (.invokestatic 98, 3) := by decide +kernel
theorem dX6_begin_13 : decode cX6_begin 13 = .ok (.ifCond .eq 92, 3) := by decide +kernel
theorem dX6_begin_16 : decode cX6_begin 16 = .ok (.aload_n 0, 1) := by decide +kernel
theorem dX6_begin_17 : decode cX6_begin 17 = .ok (.aload_n 0, 1) := by decide +kernel
theorem dX6_begin_18 : decode cX6_begin 18 = .ok (.getfield 110, 3) := by decide +kernel
theorem dX6_begin_21 : decode cX6_begin 21 = .ok (.iconst 1, 1) := by decide +kernel
theorem dX6_begin_22 : decode cX6_begin 22 = .ok (.iadd, 1) := by decide +kernel
theorem dX6_begin_23 : decode cX6_begin 23 = .ok (.invokevirtual 113, 3) := by decide +kernel
theorem dX6_begin_26 : decode cX6_begin 26 = .ok (.bipush 39, 2) := by decide +kernel
theorem dX6_begin_28 : decode cX6_begin 28 = .ok (.if_icmp .ne 7, 3) := by decide +kernel
theorem dX6_begin_31 : decode cX6_begin 31 = .ok (.iconst 1, 1) := by decide +kernel
theorem dX6_begin_32 : decode cX6_begin 32 = .ok (.goto 4, 3) := by decide +kernel
theorem dX6_begin_35 : decode cX6_begin 35 = .ok (.iconst 0, 1) := by decide +kernel
theorem dX6_begin_36 : decode cX6_begin 36 = .ok (.istore_n 2, 1) := by decide +kernel
theorem dX6_begin_37 : decode cX6_begin 37 = .ok (.aload_n 0, 1) := by decide +kernel
theorem dX6_begin_38 : decode cX6_begin 38 = .ok (.iload_n 2, 1) := by decide +kernel
theorem dX6_begin_39 : decode cX6_begin 39 = .ok (.ifCond .eq 7, 3) := by decide +kernel
theorem dX6_begin_42 : decode cX6_begin 42 = .ok (.iconst 2, 1) := by decide +kernel
theorem dX6_begin_43 : decode cX6_begin 43 = .ok (.goto 4, 3) := by decide +kernel
theorem dX6_begin_46 : decode cX6_begin 46 = .ok (.iconst 1, 1) := by decide +kernel
theorem dX6_begin_47 : decode cX6_begin 47 = .ok (.iload_n 1, 1) := by decide +kernel
theorem dX6_begin_48 : decode cX6_begin 48 = .ok (.bipush 65, 2) := by decide +kernel
theorem dX6_begin_50 : decode cX6_begin 50 = .ok (.isub, 1) := by decide +kernel
theorem dX6_begin_51 : decode cX6_begin 51 = .ok (.invokevirtual 117, 3) := by decide +kernel
theorem dX6_begin_54 : decode cX6_begin 54 = .ok (.aload_n 0, 1) := by decide +kernel
theorem dX6_begin_55 : decode cX6_begin 55 = .ok (.iload_n 2, 1) := by decide +kernel
theorem dX6_begin_56 : decode cX6_begin 56 = .ok (.ifCond .eq 10, 3) := by decide +kernel
theorem dX6_begin_59 : decode cX6_begin 59 = .ok (.aload_n 0, 1) := by decide +kernel
theorem dX6_begin_60 : decode cX6_begin 60 = .ok (.getfield 121, 3) := by decide +kernel
theorem dX6_begin_63 : decode cX6_begin 63 = .ok (.goto 14, 3) := by decide +kernel
theorem dX6_begin_66 : decode cX6_begin 66 = .ok (.aload_n 0, 1) := by decide +kernel
theorem dX6_begin_67 : decode cX6_begin 67 = .ok (.getfield 121, 3) := by decide +kernel
theorem dX6_begin_70 : decode cX6_begin 70 = .ok (.iconst 1, 1) := by decide +kernel
theorem dX6_begin_71 : decode cX6_begin 71 = .ok (.iload_n 1, 1) := by decide +kernel
theorem dX6_begin_72 : decode cX6_begin 72 = .ok (.bipush 65, 2) := by decide +kernel
theorem dX6_begin_74 : decode cX6_begin 74 = .ok (.isub, 1) := by decide +kernel
theorem dX6_begin_75 : decode cX6_begin 75 = .ok (.ishl, 1) := by decide +kernel
theorem dX6_begin_76 : decode cX6_begin 76 = .ok (.ior, 1) := by decide +kernel
theorem dX6_begin_77 : decode cX6_begin 77 = .ok (.putfield 121, 3) := by decide +kernel
theorem dX6_begin_80 : decode cX6_begin 80 = .ok (.aload_n 0, 1) := by decide +kernel
theorem dX6_begin_81 : decode cX6_begin 81 = .ok (.iload_n 2, 1) := by decide +kernel
theorem dX6_begin_82 : decode cX6_begin 82 = .ok (.ifCond .eq 12, 3) := by decide +kernel
theorem dX6_begin_85 : decode cX6_begin 85 = .ok (.aload_n 0, 1) := by decide +kernel
theorem dX6_begin_86 : decode cX6_begin 86 = .ok (.getfield 110, 3) := by decide +kernel
theorem dX6_begin_89 : decode cX6_begin 89 = .ok (.iconst 2, 1) := by decide +kernel
theorem dX6_begin_90 : decode cX6_begin 90 = .ok (.iadd, 1) := by decide +kernel
theorem dX6_begin_91 : decode cX6_begin 91 = .ok (.goto 9, 3) := by decide +kernel
theorem dX6_begin_94 : decode cX6_begin 94 = .ok (.aload_n 0, 1) := by decide +kernel
theorem dX6_begin_95 : decode cX6_begin 95 = .ok (.getfield 110, 3) := by decide +kernel
theorem dX6_begin_98 : decode cX6_begin 98 = .ok (.iconst 1, 1) := by decide +kernel
theorem dX6_begin_99 : decode cX6_begin 99 = .ok (.iadd, 1) := by decide +kernel
theorem dX6_begin_100 : decode cX6_begin 100 = .ok (.putfield 110, 3) := by decide +kernel
theorem dX6_begin_103 : decode cX6_begin 103 = .ok (.iconst 1, 1) := by decide +kernel
theorem dX6_begin_104 : decode cX6_begin 104 = .ok (.ireturn, 1) := by decide +kernel
theorem dX6_begin_105 : decode cX6_begin 105 = .ok (.iload_n 1, 1) := by decide +kernel
theorem dX6_begin_106 : decode cX6_begin 106 = .ok (.invokestatic 94, 3) := by decide +kernel
theorem dX6_begin_109 : decode cX6_begin 109 = .ok (.ifCond .eq 18, 3) := by decide +kernel
theorem dX6_begin_112 : decode cX6_begin 112 = .ok (.aload_n 0, 1) := by decide +kernel
theorem dX6_begin_113 : decode cX6_begin 113 = .ok (.bipush 6, 2) := by decide +kernel
theorem dX6_begin_115 : decode cX6_begin 115 = .ok (.invokevirtual 124, 3) := by decide +kernel
theorem dX6_begin_118 : decode cX6_begin 118 = .ok (.istore_n 2, 1) := by decide +kernel
theorem dX6_begin_119 : decode cX6_begin 119 = .ok (.aload_n 0, 1) := by decide +kernel
theorem dX6_begin_120 : decode cX6_begin 120 = .ok (.iconst 0, 1) := by decide +kernel
theorem dX6_begin_121 : decode cX6_begin 121 = .ok (.iload_n 2, 1) := by decide +kernel
theorem dX6_begin_122 : decode cX6_begin 122 = .ok (.invokevirtual 117, 3) := by decide +kernel
theorem dX6_begin_125 : decode cX6_begin 125 = .ok (.iconst 1, 1) := by decide +kernel
theorem dX6_begin_126 : decode cX6_begin 126 = .ok (.ireturn, 1) := by decide +kernel
theorem dX6_begin_127 : decode cX6_begin 127 = .ok (.aload_n 0, 1) := by decide +kernel
theorem dX6_begin_128 : decode cX6_begin 128 = .ok (.invokevirtual 127, 3) := by decide +kernel
theorem dX6_begin_131 : decode cX6_begin 131 = .ok (.iconst 4, 1) := by decide +kernel
theorem dX6_begin_132 : decode cX6_begin 132 = .ok (.if_icmp .ne 5, 3) := by decide +kernel
theorem dX6_begin_135 : decode cX6_begin 135 = .ok (.iconst 0, 1) := by decide +kernel
theorem dX6_begin_136 : decode cX6_begin 136 = .ok (.ireturn, 1) := by decide +kernel
theorem dX6_begin_137 : decode cX6_begin 137 = .ok (.iload_n 1, 1) := by decide +kernel
theorem dX6_begin_138 : decode cX6_begin 138 = .ok (.bipush 40, 2) := by decide +kernel
theorem dX6_begin_140 : decode cX6_begin 140 = .ok (.if_icmp .ne 22, 3) := by decide +kernel
theorem dX6_begin_143 : decode cX6_begin 143 = .ok (.aload_n 0, 1) := by decide +kernel
theorem dX6_begin_144 : decode cX6_begin 144 = .ok (.iconst 1, 1) := by decide +kernel
theorem dX6_begin_145 : decode cX6_begin 145 = .ok (.iconst 0, 1) := by decide +kernel
theorem dX6_begin_146 : decode cX6_begin 146 = .ok (.invokevirtual 131, 3) := by decide +kernel
theorem dX6_begin_149 : decode cX6_begin 149 = .ok (.pop, 1) := by decide +kernel
theorem dX6_begin_150 : decode cX6_begin 150 = .ok (.aload_n 0, 1) := by decide +kernel
theorem dX6_begin_151 : decode cX6_begin 151 = .ok (.dup, 1) := by decide +kernel
theorem dX6_begin_152 : decode cX6_begin 152 = .ok (.getfield 110, 3) := by decide +kernel
theorem dX6_begin_155 : decode cX6_begin 155 = .ok (.iconst 1, 1) := by decide +kernel
theorem dX6_begin_156 : decode cX6_begin 156 = .ok (.iadd, 1) := by decide +kernel
theorem dX6_begin_157 : decode cX6_begin 157 = .ok (.putfield 110, 3) := by decide +kernel
theorem dX6_begin_160 : decode cX6_begin 160 = .ok (.iconst 2, 1) := by decide +kernel
theorem dX6_begin_161 : decode cX6_begin 161 = .ok (.ireturn, 1) := by decide +kernel
theorem dX6_begin_162 : decode cX6_begin 162 = .ok (.iload_n 1, 1) := by decide +kernel
theorem dX6_begin_163 : decode cX6_begin 163 = .ok (.bipush 109, 2) := by decide +kernel
theorem dX6_begin_165 : decode cX6_begin 165 = .ok (.if_icmp .eq 9, 3) := by decide +kernel
theorem dX6_begin_168 : decode cX6_begin 168 = .ok (.iload_n 1, 1) := by decide +kernel
theorem dX6_begin_169 : decode cX6_begin 169 = .ok (.bipush 120, 2) := by decide +kernel
theorem dX6_begin_171 : decode cX6_begin 171 = .ok (.if_icmp .ne 47, 3) := by decide +kernel
theorem dX6_begin_174 : decode cX6_begin 174 = .ok (.aload_n 0, 1) := by decide +kernel
theorem dX6_begin_175 : decode cX6_begin 175 = .ok (.aload_n 0, 1) := by decide +kernel
theorem dX6_begin_176 : decode cX6_begin 176 = .ok (.getfield 110, 3) := by decide +kernel
theorem dX6_begin_179 : decode cX6_begin 179 = .ok (.iconst 1, 1) := by decide +kernel
theorem dX6_begin_180 : decode cX6_begin 180 = .ok (.iadd, 1) := by decide +kernel
theorem dX6_begin_181 : decode cX6_begin 181 = .ok (.invokevirtual 113, 3) := by decide +kernel
theorem dX6_begin_184 : decode cX6_begin 184 = .ok (.bipush 40, 2) := by decide +kernel
theorem dX6_begin_186 : decode cX6_begin 186 = .ok (.if_icmp .ne 32, 3) := by decide +kernel
theorem dX6_begin_189 : decode cX6_begin 189 = .ok (.aload_n 0, 1) := by decide +kernel
theorem dX6_begin_190 : decode cX6_begin 190 = .ok (.iload_n 1, 1) := by decide +kernel
theorem dX6_begin_191 : decode cX6_begin 191 = .ok (.bipush 109, 2) := by decide +kernel
theorem dX6_begin_193 : decode cX6_begin 193 = .ok (.if_icmp .ne 7, 3) := by decide +kernel
theorem dX6_begin_196 : decode cX6_begin 196 = .ok (.iconst 2, 1) := by decide +kernel
theorem dX6_begin_197 : decode cX6_begin 197 = .ok (.goto 4, 3) := by decide +kernel
theorem dX6_begin_200 : decode cX6_begin 200 = .ok (.iconst 3, 1) := by decide +kernel
theorem dX6_begin_201 : decode cX6_begin 201 = .ok (.iconst 0, 1) := by decide +kernel
theorem dX6_begin_202 : decode cX6_begin 202 = .ok (.invokevirtual 131, 3) := by decide +kernel
theorem dX6_begin_205 : decode cX6_begin 205 = .ok (.pop, 1) := by decide +kernel
theorem dX6_begin_206 : decode cX6_begin 206 = .ok (.aload_n 0, 1) := by decide +kernel
theorem dX6_begin_207 : decode cX6_begin 207 = .ok (.dup, 1) := by decide +kernel
theorem dX6_begin_208 : decode cX6_begin 208 = .ok (.getfield 110, 3) := by decide +kernel
theorem dX6_begin_211 : decode cX6_begin 211 = .ok (.iconst 2, 1) := by decide +kernel
theorem dX6_begin_212 : decode cX6_begin 212 = .ok (.iadd, 1) := by decide +kernel
theorem dX6_begin_213 : decode cX6_begin 213 = .ok (.putfield 110, 3) := by decide +kernel
theorem dX6_begin_216 : decode cX6_begin 216 = .ok (.iconst 2, 1) := by decide +kernel
theorem dX6_begin_217 : decode cX6_begin 217 = .ok (.ireturn, 1) := by decide +kernel
theorem dX6_begin_218 : decode cX6_begin 218 = .ok (.aload_n 0, 1) := by decide +kernel
theorem dX6_begin_219 : decode cX6_begin 219 = .ok (.aload_n 0, 1) := by decide +kernel
theorem dX6_begin_220 : decode cX6_begin 220 = .ok (.getfield 110, 3) := by decide +kernel
theorem dX6_begin_223 : decode cX6_begin 223 = .ok (.iconst 1, 1) := by decide +kernel
theorem dX6_begin_224 : decode cX6_begin 224 = .ok (.iadd, 1) := by decide +kernel
theorem dX6_begin_225 : decode cX6_begin 225 = .ok (.invokevirtual 113, 3) := by decide +kernel
theorem dX6_begin_228 : decode cX6_begin 228 = .ok (.bipush 48, 2) := by decide +kernel
theorem dX6_begin_230 : decode cX6_begin 230 = .ok (.isub, 1) := by decide +kernel
theorem dX6_begin_231 : decode cX6_begin 231 = .ok (.istore_n 2, 1) := by decide +kernel
theorem dX6_begin_232 : decode cX6_begin 232 = .ok (.iload_n 1, 1) := by decide +kernel
theorem dX6_begin_233 : decode cX6_begin 233 = .ok (.bipush 116, 2) := by decide +kernel
theorem dX6_begin_235 : decode cX6_begin 235 = .ok (.if_icmp .ne 30, 3) := by decide +kernel
theorem dX6_begin_238 : decode cX6_begin 238 = .ok (.iload_n 2, 1) := by decide +kernel
theorem dX6_begin_239 : decode cX6_begin 239 = .ok (.i2l, 1) := by decide +kernel
theorem dX6_begin_240 : decode cX6_begin 240 = .ok (.lconst 0, 1) := by decide +kernel
theorem dX6_begin_241 : decode cX6_begin 241 = .ok (.ldc2_w 135, 3) := by decide +kernel
theorem dX6_begin_244 : decode cX6_begin 244 = .ok (.invokestatic 137, 3) := by decide +kernel
theorem dX6_begin_247 : decode cX6_begin 247 = .ok (.ifCond .eq 18, 3) := by decide +kernel
theorem dX6_begin_250 : decode cX6_begin 250 = .ok (.aload_n 0, 1) := by decide +kernel
theorem dX6_begin_251 : decode cX6_begin 251 = .ok (.aload_n 0, 1) := by decide +kernel
theorem dX6_begin_252 : decode cX6_begin 252 = .ok (.getfield 110, 3) := by decide +kernel
theorem dX6_begin_255 : decode cX6_begin 255 = .ok (.iconst 2, 1) := by decide +kernel
theorem dX6_begin_256 : decode cX6_begin 256 = .ok (.iadd, 1) := by decide +kernel
theorem dX6_begin_257 : decode cX6_begin 257 = .ok (.invokevirtual 113, 3) := by decide +kernel
theorem dX6_begin_260 : decode cX6_begin 260 = .ok (.bipush 40, 2) := by decide +kernel
theorem dX6_begin_262 : decode cX6_begin 262 = .ok (.if_icmp .eq 5, 3) := by decide +kernel
theorem dX6_begin_265 : decode cX6_begin 265 = .ok (.iconst 0, 1) := by decide +kernel
theorem dX6_begin_266 : decode cX6_begin 266 = .ok (.ireturn, 1) := by decide +kernel
theorem dX6_begin_267 : decode cX6_begin 267 = .ok (.aload_n 0, 1) := by decide +kernel
theorem dX6_begin_268 : decode cX6_begin 268 = .ok (.bipush 6, 2) := by decide +kernel
theorem dX6_begin_270 : decode cX6_begin 270 = .ok (.iload_n 2, 1) := by decide +kernel
theorem dX6_begin_271 : decode cX6_begin 271 = .ok (.invokevirtual 131, 3) := by decide +kernel
theorem dX6_begin_274 : decode cX6_begin 274 = .ok (.pop, 1) := by decide +kernel
theorem dX6_begin_275 : decode cX6_begin 275 = .ok (.aload_n 0, 1) := by decide +kernel
theorem dX6_begin_276 : decode cX6_begin 276 = .ok (.dup, 1) := by decide +kernel
theorem dX6_begin_277 : decode cX6_begin 277 = .ok (.getfield 110, 3) := by decide +kernel
theorem dX6_begin_280 : decode cX6_begin 280 = .ok (.iconst 3, 1) := by decide +kernel
theorem dX6_begin_281 : decode cX6_begin 281 = .ok (.iadd, 1) := by decide +kernel
theorem dX6_begin_282 : decode cX6_begin 282 = .ok (.putfield 110, 3) := by decide +kernel
theorem dX6_begin_285 : decode cX6_begin 285 = .ok (.iconst 2, 1) := by decide +kernel
theorem dX6_begin_286 : decode cX6_begin 286 = .ok (.ireturn, 1) := by decide +kernel
theorem dX6_settle_0 : decode cX6_settle 0 = .ok (.aload_n 0, 1) := by decide +kernel
theorem dX6_settle_1 : decode cX6_settle 1 = .ok (.invokevirtual 141, 3) := by decide +kernel
theorem dX6_settle_4 : decode cX6_settle 4 = .ok (.bipush 11, 2) := by decide +kernel
theorem dX6_settle_6 : decode cX6_settle 6 = .ok (.if_icmp .eq 12, 3) := by decide +kernel
theorem dX6_settle_9 : decode cX6_settle 9 = .ok (.aload_n 0, 1) := by decide +kernel
theorem dX6_settle_10 : decode cX6_settle 10 = .ok (.invokevirtual 141, 3) := by decide +kernel
theorem dX6_settle_13 : decode cX6_settle 13 = .ok (.bipush 12, 2) := by decide +kernel
theorem dX6_settle_15 : decode cX6_settle 15 = .ok (.if_icmp .ne 42, 3) := by decide +kernel
theorem dX6_settle_18 : decode cX6_settle 18 = .ok (.aload_n 0, 1) := by decide +kernel
theorem dX6_settle_19 : decode cX6_settle 19 = .ok (.dup, 1) := by decide +kernel
theorem dX6_settle_20 : decode cX6_settle 20 = .ok (.getfield 107, 3) := by decide +kernel
theorem dX6_settle_23 : decode cX6_settle 23 = .ok (.iconst 1, 1) := by decide +kernel
theorem dX6_settle_24 : decode cX6_settle 24 = .ok (.isub, 1) := by decide +kernel
theorem dX6_settle_25 : decode cX6_settle 25 = .ok (.putfield 107, 3) := by decide +kernel
theorem dX6_settle_28 : decode cX6_settle 28 = .ok (.aload_n 0, 1) := by decide +kernel
theorem dX6_settle_29 : decode cX6_settle 29 = .ok (.aload_n 0, 1) := by decide +kernel
theorem dX6_settle_30 : decode cX6_settle 30 = .ok (.getfield 70, 3) := by decide +kernel
theorem dX6_settle_33 : decode cX6_settle 33 = .ok (.aload_n 0, 1) := by decide +kernel
theorem dX6_settle_34 : decode cX6_settle 34 = .ok (.getfield 107, 3) := by decide +kernel
theorem dX6_settle_37 : decode cX6_settle 37 = .ok (.iaload, 1) := by decide +kernel
theorem dX6_settle_38 : decode cX6_settle 38 = .ok (.bipush 11, 2) := by decide +kernel
theorem dX6_settle_40 : decode cX6_settle 40 = .ok (.if_icmp .ne 8, 3) := by decide +kernel
theorem dX6_settle_43 : decode cX6_settle 43 = .ok (.bipush 7, 2) := by decide +kernel
theorem dX6_settle_45 : decode cX6_settle 45 = .ok (.goto 5, 3) := by decide +kernel
theorem dX6_settle_48 : decode cX6_settle 48 = .ok (.bipush 8, 2) := by decide +kernel
theorem dX6_settle_50 : decode cX6_settle 50 = .ok (.iconst 0, 1) := by decide +kernel
theorem dX6_settle_51 : decode cX6_settle 51 = .ok (.invokevirtual 117, 3) := by decide +kernel
theorem dX6_settle_54 : decode cX6_settle 54 = .ok (.goto (-54), 3) := by decide +kernel
theorem dX6_settle_57 : decode cX6_settle 57 = .ok (.return_, 1) := by decide +kernel
theorem dX6_close_0 : decode cX6_close 0 = .ok (.aload_n 0, 1) := by decide +kernel
theorem dX6_close_1 : decode cX6_close 1 = .ok (.invokevirtual 144, 3) := by decide +kernel
theorem dX6_close_4 : decode cX6_close 4 = .ok (.aload_n 0, 1) := by decide +kernel
theorem dX6_close_5 : decode cX6_close 5 = .ok (.invokevirtual 141, 3) := by decide +kernel
theorem dX6_close_8 : decode cX6_close 8 = .ok (.bipush 10, 2) := by decide +kernel
theorem dX6_close_10 : decode cX6_close 10 = .ok (.if_icmp .ne 34, 3) := by decide +kernel
theorem dX6_close_13 : decode cX6_close 13 = .ok (.aload_n 0, 1) := by decide +kernel
theorem dX6_close_14 : decode cX6_close 14 = .ok (.dup, 1) := by decide +kernel
theorem dX6_close_15 : decode cX6_close 15 = .ok (.getfield 107, 3) := by decide +kernel
theorem dX6_close_18 : decode cX6_close 18 = .ok (.iconst 1, 1) := by decide +kernel
theorem dX6_close_19 : decode cX6_close 19 = .ok (.isub, 1) := by decide +kernel
theorem dX6_close_20 : decode cX6_close 20 = .ok (.putfield 107, 3) := by decide +kernel
theorem dX6_close_23 : decode cX6_close 23 = .ok (.aload_n 0, 1) := by decide +kernel
theorem dX6_close_24 : decode cX6_close 24 = .ok (.getfield 79, 3) := by decide +kernel
theorem dX6_close_27 : decode cX6_close 27 = .ok (.aload_n 0, 1) := by decide +kernel
theorem dX6_close_28 : decode cX6_close 28 = .ok (.getfield 73, 3) := by decide +kernel
theorem dX6_close_31 : decode cX6_close 31 = .ok (.aload_n 0, 1) := by decide +kernel
theorem dX6_close_32 : decode cX6_close 32 = .ok (.getfield 107, 3) := by decide +kernel
theorem dX6_close_35 : decode cX6_close 35 = .ok (.iaload, 1) := by decide +kernel
theorem dX6_close_36 : decode cX6_close 36 = .ok (.aload_n 0, 1) := by decide +kernel
theorem dX6_close_37 : decode cX6_close 37 = .ok (.getfield 104, 3) := by decide +kernel
theorem dX6_close_40 : decode cX6_close 40 = .ok (.iastore, 1) := by decide +kernel
theorem dX6_close_41 : decode cX6_close 41 = .ok (.goto (-37), 3) := by decide +kernel
theorem dX6_close_44 : decode cX6_close 44 = .ok (.aload_n 0, 1) := by decide +kernel
theorem dX6_close_45 : decode cX6_close 45 = .ok (.invokevirtual 141, 3) := by decide +kernel
theorem dX6_close_48 : decode cX6_close 48 = .ok (.bipush 7, 2) := by decide +kernel
theorem dX6_close_50 : decode cX6_close 50 = .ok (.if_icmp .eq 16, 3) := by decide +kernel
theorem dX6_close_53 : decode cX6_close 53 = .ok (.aload_n 0, 1) := by decide +kernel
theorem dX6_close_54 : decode cX6_close 54 = .ok (.invokevirtual 141, 3) := by decide +kernel
theorem dX6_close_57 : decode cX6_close 57 = .ok (.bipush 8, 2) := by decide +kernel
theorem dX6_close_59 : decode cX6_close 59 = .ok (.if_icmp .eq 7, 3) := by decide +kernel
theorem dX6_close_62 : decode cX6_close 62 = .ok (.iconst 1, 1) := by decide +kernel
theorem dX6_close_63 : decode cX6_close 63 = .ok (.goto 4, 3) := by decide +kernel
theorem dX6_close_66 : decode cX6_close 66 = .ok (.iconst 0, 1) := by decide +kernel
theorem dX6_close_67 : decode cX6_close 67 = .ok (.ireturn, 1) := by decide +kernel
theorem dX6_goOn_0 : decode cX6_goOn 0 = .ok (.aload_n 0, 1) := by decide +kernel
theorem dX6_goOn_1 : decode cX6_goOn 1 = .ok (.aload_n 0, 1) := by decide +kernel
theorem dX6_goOn_2 : decode cX6_goOn 2 = .ok (.getfield 110, 3) := by decide +kernel
theorem dX6_goOn_5 : decode cX6_goOn 5 = .ok (.invokevirtual 113, 3) := by decide +kernel
theorem dX6_goOn_8 : decode cX6_goOn 8 = .ok (.istore_n 2, 1) := by decide +kernel
theorem dX6_goOn_9 : decode cX6_goOn 9 = .ok (.aload_n 0, 1) := by decide +kernel
theorem dX6_goOn_10 : decode cX6_goOn 10 = .ok (.dup, 1) := by decide +kernel
theorem dX6_goOn_11 : decode cX6_goOn 11 = .ok (.getfield 110, 3) := by decide +kernel
theorem dX6_goOn_14 : decode cX6_goOn 14 = .ok (.iconst 1, 1) := by decide +kernel
theorem dX6_goOn_15 : decode cX6_goOn 15 = .ok (.iadd, 1) := by decide +kernel
theorem dX6_goOn_16 : decode cX6_goOn 16 = .ok (.putfield 110, 3) := by decide +kernel
theorem dX6_goOn_19 : decode cX6_goOn 19 = .ok (.iload_n 2, 1) := by decide +kernel
theorem dX6_goOn_20 : decode cX6_goOn 20 = .ok (.bipush 42, 2) := by decide +kernel
theorem dX6_goOn_22 : decode cX6_goOn 22 = .ok (.if_icmp .ne 76, 3) := by decide +kernel
theorem dX6_goOn_25 : decode cX6_goOn 25 = .ok (.aload_n 0, 1) := by decide +kernel
theorem dX6_goOn_26 : decode cX6_goOn 26 = .ok (.getfield 110, 3) := by decide +kernel
theorem dX6_goOn_29 : decode cX6_goOn 29 = .ok (.istore_n 3, 1) := by decide +kernel
theorem dX6_goOn_30 : decode cX6_goOn 30 = .ok (.aload_n 0, 1) := by decide +kernel
theorem dX6_goOn_31 : decode cX6_goOn 31 = .ok (.iconst 3, 1) := by decide +kernel
theorem dX6_goOn_32 : decode cX6_goOn 32 = .ok (.invokevirtual 124, 3) := by decide +kernel
theorem dX6_goOn_35 : decode cX6_goOn 35 = .ok (.istore 4, 2) := by decide +kernel
theorem dX6_goOn_37 : decode cX6_goOn 37 = .ok (.iload_n 1, 1) := by decide +kernel
theorem dX6_goOn_38 : decode cX6_goOn 38 = .ok (.ifCond .ne 28, 3) := by decide +kernel
theorem dX6_goOn_41 : decode cX6_goOn 41 = .ok (.aload_n 0, 1) := by decide +kernel
theorem dX6_goOn_42 : decode cX6_goOn 42 = .ok (.getfield 110, 3) := by decide +kernel
theorem dX6_goOn_45 : decode cX6_goOn 45 = .ok (.iload_n 3, 1) := by decide +kernel
theorem dX6_goOn_46 : decode cX6_goOn 46 = .ok (.if_icmp .le 20, 3) := by decide +kernel
theorem dX6_goOn_49 : decode cX6_goOn 49 = .ok (.aload_n 0, 1) := by decide +kernel
theorem dX6_goOn_50 : decode cX6_goOn 50 = .ok (.aload_n 0, 1) := by decide +kernel
theorem dX6_goOn_51 : decode cX6_goOn 51 = .ok (.getfield 110, 3) := by decide +kernel
theorem dX6_goOn_54 : decode cX6_goOn 54 = .ok (.invokevirtual 113, 3) := by decide +kernel
theorem dX6_goOn_57 : decode cX6_goOn 57 = .ok (.bipush 37, 2) := by decide +kernel
theorem dX6_goOn_59 : decode cX6_goOn 59 = .ok (.if_icmp .ne 7, 3) := by decide +kernel
theorem dX6_goOn_62 : decode cX6_goOn 62 = .ok (.iconst 1, 1) := by decide +kernel
theorem dX6_goOn_63 : decode cX6_goOn 63 = .ok (.goto 4, 3) := by decide +kernel
theorem dX6_goOn_66 : decode cX6_goOn 66 = .ok (.iconst 0, 1) := by decide +kernel
theorem dX6_goOn_67 : decode cX6_goOn 67 = .ok (.istore 5, 2) := by decide +kernel
theorem dX6_goOn_69 : decode cX6_goOn 69 = .ok (.aload_n 0, 1) := by decide +kernel
theorem dX6_goOn_70 : decode cX6_goOn 70 = .ok (.dup, 1) := by decide +kernel
theorem dX6_goOn_71 : decode cX6_goOn 71 = .ok (.getfield 110, 3) := by decide +kernel
theorem dX6_goOn_74 : decode cX6_goOn 74 = .ok (.iconst 1, 1) := by decide +kernel
theorem dX6_goOn_75 : decode cX6_goOn 75 = .ok (.iadd, 1) := by decide +kernel
theorem dX6_goOn_76 : decode cX6_goOn 76 = .ok (.putfield 110, 3) := by decide +kernel
theorem dX6_goOn_79 : decode cX6_goOn 79 = .ok (.aload_n 0, 1) := by decide +kernel
theorem dX6_goOn_80 : decode cX6_goOn 80 = .ok (.bipush 6, 2) := by decide +kernel
theorem dX6_goOn_82 : decode cX6_goOn 82 = .ok (.iload 4, 2) := by decide +kernel
theorem dX6_goOn_84 : decode cX6_goOn 84 = .ok (.invokevirtual 117, 3) := by decide +kernel
theorem dX6_goOn_87 : decode cX6_goOn 87 = .ok (.iload 5, 2) := by decide +kernel
theorem dX6_goOn_89 : decode cX6_goOn 89 = .ok (.ifCond .eq 7, 3) := by decide +kernel
theorem dX6_goOn_92 : decode cX6_goOn 92 = .ok (.iconst 3, 1) := by decide +kernel
theorem dX6_goOn_93 : decode cX6_goOn 93 = .ok (.goto 4, 3) := by decide +kernel
theorem dX6_goOn_96 : decode cX6_goOn 96 = .ok (.iconst 0, 1) := by decide +kernel
theorem dX6_goOn_97 : decode cX6_goOn 97 = .ok (.ireturn, 1) := by decide +kernel
theorem dX6_goOn_98 : decode cX6_goOn 98 = .ok (.iload_n 2, 1) := by decide +kernel
theorem dX6_goOn_99 : decode cX6_goOn 99 = .ok (.bipush 43, 2) := by decide +kernel
theorem dX6_goOn_101 : decode cX6_goOn 101 = .ok (.if_icmp .eq 9, 3) := by decide +kernel
theorem dX6_goOn_104 : decode cX6_goOn 104 = .ok (.iload_n 2, 1) := by decide +kernel
theorem dX6_goOn_105 : decode cX6_goOn 105 = .ok (.bipush 45, 2) := by decide +kernel
theorem dX6_goOn_107 : decode cX6_goOn 107 = .ok (.if_icmp .ne 28, 3) := by decide +kernel
theorem dX6_goOn_110 : decode cX6_goOn 110 = .ok (.aload_n 0, 1) := by decide +kernel
theorem dX6_goOn_111 : decode cX6_goOn 111 = .ok (.invokevirtual 144, 3) := by decide +kernel
theorem dX6_goOn_114 : decode cX6_goOn 114 = .ok (.aload_n 0, 1) := by decide +kernel
theorem dX6_goOn_115 : decode cX6_goOn 115 = .ok (.iload_n 2, 1) := by decide +kernel
theorem dX6_goOn_116 : decode cX6_goOn 116 = .ok (.bipush 43, 2) := by decide +kernel
theorem dX6_goOn_118 : decode cX6_goOn 118 = .ok (.if_icmp .ne 8, 3) := by decide +kernel
theorem dX6_goOn_121 : decode cX6_goOn 121 = .ok (.bipush 11, 2) := by decide +kernel
theorem dX6_goOn_123 : decode cX6_goOn 123 = .ok (.goto 5, 3) := by decide +kernel
theorem dX6_goOn_126 : decode cX6_goOn 126 = .ok (.bipush 12, 2) := by decide +kernel
theorem dX6_goOn_128 : decode cX6_goOn 128 = .ok (.iconst 0, 1) := by decide +kernel
theorem dX6_goOn_129 : decode cX6_goOn 129 = .ok (.invokevirtual 131, 3) := by decide +kernel
theorem dX6_goOn_132 : decode cX6_goOn 132 = .ok (.pop, 1) := by decide +kernel
theorem dX6_goOn_133 : decode cX6_goOn 133 = .ok (.iconst 2, 1) := by decide +kernel
theorem dX6_goOn_134 : decode cX6_goOn 134 = .ok (.ireturn, 1) := by decide +kernel
theorem dX6_goOn_135 : decode cX6_goOn 135 = .ok (.iload_n 2, 1) := by decide +kernel
theorem dX6_goOn_136 : decode cX6_goOn 136 = .ok (.bipush 60, 2) := by decide +kernel
theorem dX6_goOn_138 : decode cX6_goOn 138 = .ok (.if_icmp .eq 9, 3) := by decide +kernel
theorem dX6_goOn_141 : decode cX6_goOn 141 = .ok (.iload_n 2, 1) := by decide +kernel
theorem dX6_goOn_142 : decode cX6_goOn 142 = .ok (.bipush 62, 2) := by decide +kernel
theorem dX6_goOn_144 : decode cX6_goOn 144 = .ok (.if_icmp .ne 48, 3) := by decide +kernel
theorem dX6_goOn_147 : decode cX6_goOn 147 = .ok (.aload_n 0, 1) := by decide +kernel
theorem dX6_goOn_148 : decode cX6_goOn 148 = .ok (.invokevirtual 144, 3) := by decide +kernel
theorem dX6_goOn_151 : decode cX6_goOn 151 = .ok (.aload_n 0, 1) := by decide +kernel
theorem dX6_goOn_152 : decode cX6_goOn 152 = .ok (.invokevirtual 141, 3) := by decide +kernel
theorem dX6_goOn_155 : decode cX6_goOn 155 = .ok (.bipush 7, 2) := by decide +kernel
theorem dX6_goOn_157 : decode cX6_goOn 157 = .ok (.if_icmp .eq 12, 3) := by decide +kernel
theorem dX6_goOn_160 : decode cX6_goOn 160 = .ok (.aload_n 0, 1) := by decide +kernel
theorem dX6_goOn_161 : decode cX6_goOn 161 = .ok (.invokevirtual 141, 3) := by decide +kernel
theorem dX6_goOn_164 : decode cX6_goOn 164 = .ok (.bipush 8, 2) := by decide +kernel
theorem dX6_goOn_166 : decode cX6_goOn 166 = .ok (.if_icmp .ne 5, 3) := by decide +kernel
theorem dX6_goOn_169 : decode cX6_goOn 169 = .ok (.iconst 0, 1) := by decide +kernel
theorem dX6_goOn_170 : decode cX6_goOn 170 = .ok (.ireturn, 1) := by decide +kernel
theorem dX6_goOn_171 : decode cX6_goOn 171 = .ok (.aload_n 0, 1) := by decide +kernel
theorem dX6_goOn_172 : decode cX6_goOn 172 = .ok (.iload_n 2, 1) := by decide +kernel
theorem dX6_goOn_173 : decode cX6_goOn 173 = .ok (.bipush 60, 2) := by decide +kernel
theorem dX6_goOn_175 : decode cX6_goOn 175 = .ok (.if_icmp .ne 8, 3) := by decide +kernel
theorem dX6_goOn_178 : decode cX6_goOn 178 = .ok (.bipush 7, 2) := by decide +kernel
theorem dX6_goOn_180 : decode cX6_goOn 180 = .ok (.goto 5, 3) := by decide +kernel
theorem dX6_goOn_183 : decode cX6_goOn 183 = .ok (.bipush 8, 2) := by decide +kernel
theorem dX6_goOn_185 : decode cX6_goOn 185 = .ok (.iconst 0, 1) := by decide +kernel
theorem dX6_goOn_186 : decode cX6_goOn 186 = .ok (.invokevirtual 131, 3) := by decide +kernel
theorem dX6_goOn_189 : decode cX6_goOn 189 = .ok (.pop, 1) := by decide +kernel
theorem dX6_goOn_190 : decode cX6_goOn 190 = .ok (.iconst 2, 1) := by decide +kernel
theorem dX6_goOn_191 : decode cX6_goOn 191 = .ok (.ireturn, 1) := by decide +kernel
theorem dX6_goOn_192 : decode cX6_goOn 192 = .ok (.iload_n 2, 1) := by decide +kernel
theorem dX6_goOn_193 : decode cX6_goOn 193 = .ok (.bipush 63, 2) := by decide +kernel
theorem dX6_goOn_195 : decode cX6_goOn 195 = .ok (.if_icmp .ne 85, 3) := by decide +kernel
theorem dX6_goOn_198 : decode cX6_goOn 198 = .ok (.aload_n 0, 1) := by decide +kernel
theorem dX6_goOn_199 : decode cX6_goOn 199 = .ok (.invokevirtual 144, 3) := by decide +kernel
theorem dX6_goOn_202 : decode cX6_goOn 202 = .ok (.aload_n 0, 1) := by decide +kernel
theorem dX6_goOn_203 : decode cX6_goOn 203 = .ok (.invokevirtual 141, 3) := by decide +kernel
theorem dX6_goOn_206 : decode cX6_goOn 206 = .ok (.bipush 7, 2) := by decide +kernel
theorem dX6_goOn_208 : decode cX6_goOn 208 = .ok (.if_icmp .eq 14, 3) := by decide +kernel
theorem dX6_goOn_211 : decode cX6_goOn 211 = .ok (.aload_n 0, 1) := by decide +kernel
theorem dX6_goOn_212 : decode cX6_goOn 212 = .ok (.invokevirtual 141, 3) := by decide +kernel
theorem dX6_goOn_215 : decode cX6_goOn 215 = .ok (.bipush 8, 2) := by decide +kernel
theorem dX6_goOn_217 : decode cX6_goOn 217 = .ok (.if_icmp .eq 5, 3) := by decide +kernel
theorem dX6_goOn_220 : decode cX6_goOn 220 = .ok (.iconst 0, 1) := by decide +kernel
theorem dX6_goOn_221 : decode cX6_goOn 221 = .ok (.ireturn, 1) := by decide +kernel
theorem dX6_goOn_222 : decode cX6_goOn 222 = .ok (.aload_n 0, 1) := by decide +kernel
theorem dX6_goOn_223 : decode cX6_goOn 223 = .ok (.dup, 1) := by decide +kernel
theorem dX6_goOn_224 : decode cX6_goOn 224 = .ok (.getfield 107, 3) := by decide +kernel
theorem dX6_goOn_227 : decode cX6_goOn 227 = .ok (.iconst 1, 1) := by decide +kernel
theorem dX6_goOn_228 : decode cX6_goOn 228 = .ok (.isub, 1) := by decide +kernel
theorem dX6_goOn_229 : decode cX6_goOn 229 = .ok (.putfield 107, 3) := by decide +kernel
theorem dX6_goOn_232 : decode cX6_goOn 232 = .ok (.aload_n 0, 1) := by decide +kernel
theorem dX6_goOn_233 : decode cX6_goOn 233 = .ok (.aload_n 0, 1) := by decide +kernel
theorem dX6_goOn_234 : decode cX6_goOn 234 = .ok (.getfield 70, 3) := by decide +kernel
theorem dX6_goOn_237 : decode cX6_goOn 237 = .ok (.aload_n 0, 1) := by decide +kernel
theorem dX6_goOn_238 : decode cX6_goOn 238 = .ok (.getfield 107, 3) := by decide +kernel
theorem dX6_goOn_241 : decode cX6_goOn 241 = .ok (.iaload, 1) := by decide +kernel
theorem dX6_goOn_242 : decode cX6_goOn 242 = .ok (.bipush 7, 2) := by decide +kernel
theorem dX6_goOn_244 : decode cX6_goOn 244 = .ok (.if_icmp .ne 8, 3) := by decide +kernel
theorem dX6_goOn_247 : decode cX6_goOn 247 = .ok (.bipush 9, 2) := by decide +kernel
theorem dX6_goOn_249 : decode cX6_goOn 249 = .ok (.goto 5, 3) := by decide +kernel
theorem dX6_goOn_252 : decode cX6_goOn 252 = .ok (.bipush 10, 2) := by decide +kernel
theorem dX6_goOn_254 : decode cX6_goOn 254 = .ok (.iconst 0, 1) := by decide +kernel
theorem dX6_goOn_255 : decode cX6_goOn 255 = .ok (.invokevirtual 117, 3) := by decide +kernel
theorem dX6_goOn_258 : decode cX6_goOn 258 = .ok (.aload_n 0, 1) := by decide +kernel
theorem dX6_goOn_259 : decode cX6_goOn 259 = .ok (.bipush 11, 2) := by decide +kernel
theorem dX6_goOn_261 : decode cX6_goOn 261 = .ok (.iconst 0, 1) := by decide +kernel
theorem dX6_goOn_262 : decode cX6_goOn 262 = .ok (.invokevirtual 117, 3) := by decide +kernel
theorem dX6_goOn_265 : decode cX6_goOn 265 = .ok (.aload_n 0, 1) := by decide +kernel
theorem dX6_goOn_266 : decode cX6_goOn 266 = .ok (.bipush 9, 2) := by decide +kernel
theorem dX6_goOn_268 : decode cX6_goOn 268 = .ok (.aload_n 0, 1) := by decide +kernel
theorem dX6_goOn_269 : decode cX6_goOn 269 = .ok (.getfield 104, 3) := by decide +kernel
theorem dX6_goOn_272 : decode cX6_goOn 272 = .ok (.iconst 1, 1) := by decide +kernel
theorem dX6_goOn_273 : decode cX6_goOn 273 = .ok (.isub, 1) := by decide +kernel
theorem dX6_goOn_274 : decode cX6_goOn 274 = .ok (.invokevirtual 131, 3) := by decide +kernel
theorem dX6_goOn_277 : decode cX6_goOn 277 = .ok (.pop, 1) := by decide +kernel
theorem dX6_goOn_278 : decode cX6_goOn 278 = .ok (.iconst 2, 1) := by decide +kernel
theorem dX6_goOn_279 : decode cX6_goOn 279 = .ok (.ireturn, 1) := by decide +kernel
theorem dX6_goOn_280 : decode cX6_goOn 280 = .ok (.aload_n 0, 1) := by decide +kernel
theorem dX6_goOn_281 : decode cX6_goOn 281 = .ok (.iload_n 2, 1) := by decide +kernel
theorem dX6_goOn_282 : decode cX6_goOn 282 = .ok (.invokevirtual 147, 3) := by decide +kernel
theorem dX6_goOn_285 : decode cX6_goOn 285 = .ok (.ireturn, 1) := by decide +kernel
theorem dX6_ends_0 : decode cX6_ends 0 = .ok (.aload_n 0, 1) := by decide +kernel
theorem dX6_ends_1 : decode cX6_ends 1 = .ok (.invokevirtual 150, 3) := by decide +kernel
theorem dX6_ends_4 : decode cX6_ends 4 = .ok (.ifCond .ne 5, 3) := by decide +kernel
theorem dX6_ends_7 : decode cX6_ends 7 = .ok (.iconst 0, 1) := by decide +kernel
theorem dX6_ends_8 : decode cX6_ends 8 = .ok (.ireturn, 1) := by decide +kernel
theorem dX6_ends_9 : decode cX6_ends 9 = .ok (.aload_n 0, 1) := by decide +kernel
theorem dX6_ends_10 : decode cX6_ends 10 = .ok (.invokevirtual 141, 3) := by decide +kernel
theorem dX6_ends_13 : decode cX6_ends 13 = .ok (.istore_n 2, 1) := by decide +kernel
theorem dX6_ends_14 : decode cX6_ends 14 = .ok (.aload_n 0, 1) := by decide +kernel
theorem dX6_ends_15 : decode cX6_ends 15 = .ok (.aload_n 0, 1) := by decide +kernel
theorem dX6_ends_16 : decode cX6_ends 16 = .ok (.getfield 107, 3) := by decide +kernel
theorem dX6_ends_19 : decode cX6_ends 19 = .ok (.ifCond .le 12, 3) := by decide +kernel
theorem dX6_ends_22 : decode cX6_ends 22 = .ok (.aload_n 0, 1) := by decide +kernel
theorem dX6_ends_23 : decode cX6_ends 23 = .ok (.getfield 107, 3) := by decide +kernel
theorem dX6_ends_26 : decode cX6_ends 26 = .ok (.iconst 1, 1) := by decide +kernel
theorem dX6_ends_27 : decode cX6_ends 27 = .ok (.isub, 1) := by decide +kernel
theorem dX6_ends_28 : decode cX6_ends 28 = .ok (.goto 4, 3) := by decide +kernel
theorem dX6_ends_31 : decode cX6_ends 31 = .ok (.iconst 0, 1) := by decide +kernel
theorem dX6_ends_32 : decode cX6_ends 32 = .ok (.putfield 107, 3) := by decide +kernel
theorem dX6_ends_35 : decode cX6_ends 35 = .ok (.iload_n 1, 1) := by decide +kernel
theorem dX6_ends_36 : decode cX6_ends 36 = .ok (.bipush 58, 2) := by decide +kernel
theorem dX6_ends_38 : decode cX6_ends 38 = .ok (.if_icmp .ne 49, 3) := by decide +kernel
theorem dX6_ends_41 : decode cX6_ends 41 = .ok (.iload_n 2, 1) := by decide +kernel
theorem dX6_ends_42 : decode cX6_ends 42 = .ok (.bipush 9, 2) := by decide +kernel
theorem dX6_ends_44 : decode cX6_ends 44 = .ok (.if_icmp .ne 43, 3) := by decide +kernel
theorem dX6_ends_47 : decode cX6_ends 47 = .ok (.aload_n 0, 1) := by decide +kernel
theorem dX6_ends_48 : decode cX6_ends 48 = .ok (.bipush 12, 2) := by decide +kernel
theorem dX6_ends_50 : decode cX6_ends 50 = .ok (.iconst 0, 1) := by decide +kernel
theorem dX6_ends_51 : decode cX6_ends 51 = .ok (.invokevirtual 117, 3) := by decide +kernel
theorem dX6_ends_54 : decode cX6_ends 54 = .ok (.aload_n 0, 1) := by decide +kernel
theorem dX6_ends_55 : decode cX6_ends 55 = .ok (.getfield 79, 3) := by decide +kernel
theorem dX6_ends_58 : decode cX6_ends 58 = .ok (.aload_n 0, 1) := by decide +kernel
theorem dX6_ends_59 : decode cX6_ends 59 = .ok (.getfield 73, 3) := by decide +kernel
theorem dX6_ends_62 : decode cX6_ends 62 = .ok (.aload_n 0, 1) := by decide +kernel
theorem dX6_ends_63 : decode cX6_ends 63 = .ok (.getfield 107, 3) := by decide +kernel
theorem dX6_ends_66 : decode cX6_ends 66 = .ok (.iaload, 1) := by decide +kernel
theorem dX6_ends_67 : decode cX6_ends 67 = .ok (.aload_n 0, 1) := by decide +kernel
theorem dX6_ends_68 : decode cX6_ends 68 = .ok (.getfield 104, 3) := by decide +kernel
theorem dX6_ends_71 : decode cX6_ends 71 = .ok (.iastore, 1) := by decide +kernel
theorem dX6_ends_72 : decode cX6_ends 72 = .ok (.aload_n 0, 1) := by decide +kernel
theorem dX6_ends_73 : decode cX6_ends 73 = .ok (.bipush 10, 2) := by decide +kernel
theorem dX6_ends_75 : decode cX6_ends 75 = .ok (.aload_n 0, 1) := by decide +kernel
theorem dX6_ends_76 : decode cX6_ends 76 = .ok (.getfield 104, 3) := by decide +kernel
theorem dX6_ends_79 : decode cX6_ends 79 = .ok (.iconst 1, 1) := by decide +kernel
theorem dX6_ends_80 : decode cX6_ends 80 = .ok (.isub, 1) := by decide +kernel
theorem dX6_ends_81 : decode cX6_ends 81 = .ok (.invokevirtual 131, 3) := by decide +kernel
theorem dX6_ends_84 : decode cX6_ends 84 = .ok (.pop, 1) := by decide +kernel
theorem dX6_ends_85 : decode cX6_ends 85 = .ok (.iconst 2, 1) := by decide +kernel
theorem dX6_ends_86 : decode cX6_ends 86 = .ok (.ireturn, 1) := by decide +kernel
theorem dX6_ends_87 : decode cX6_ends 87 = .ok (.iload_n 1, 1) := by decide +kernel
theorem dX6_ends_88 : decode cX6_ends 88 = .ok (.bipush 44, 2) := by decide +kernel
theorem dX6_ends_90 : decode cX6_ends 90 = .ok (.if_icmp .ne 24, 3) := by decide +kernel
theorem dX6_ends_93 : decode cX6_ends 93 = .ok (.iload_n 2, 1) := by decide +kernel
theorem dX6_ends_94 : decode cX6_ends 94 = .ok (.iconst 2, 1) := by decide +kernel
theorem dX6_ends_95 : decode cX6_ends 95 = .ok (.if_icmp .eq 8, 3) := by decide +kernel
theorem dX6_ends_98 : decode cX6_ends 98 = .ok (.iload_n 2, 1) := by decide +kernel
theorem dX6_ends_99 : decode cX6_ends 99 = .ok (.iconst 3, 1) := by decide +kernel
theorem dX6_ends_100 : decode cX6_ends 100 = .ok (.if_icmp .ne 14, 3) := by decide +kernel
theorem dX6_ends_103 : decode cX6_ends 103 = .ok (.aload_n 0, 1) := by decide +kernel
theorem dX6_ends_104 : decode cX6_ends 104 = .ok (.iload_n 2, 1) := by decide +kernel
theorem dX6_ends_105 : decode cX6_ends 105 = .ok (.iconst 2, 1) := by decide +kernel
theorem dX6_ends_106 : decode cX6_ends 106 = .ok (.iadd, 1) := by decide +kernel
theorem dX6_ends_107 : decode cX6_ends 107 = .ok (.iconst 0, 1) := by decide +kernel
theorem dX6_ends_108 : decode cX6_ends 108 = .ok (.invokevirtual 131, 3) := by decide +kernel
theorem dX6_ends_111 : decode cX6_ends 111 = .ok (.pop, 1) := by decide +kernel
theorem dX6_ends_112 : decode cX6_ends 112 = .ok (.iconst 2, 1) := by decide +kernel
theorem dX6_ends_113 : decode cX6_ends 113 = .ok (.ireturn, 1) := by decide +kernel
theorem dX6_ends_114 : decode cX6_ends 114 = .ok (.iload_n 1, 1) := by decide +kernel
theorem dX6_ends_115 : decode cX6_ends 115 = .ok (.bipush 41, 2) := by decide +kernel
theorem dX6_ends_117 : decode cX6_ends 117 = .ok (.if_icmp .ne 24, 3) := by decide +kernel
theorem dX6_ends_120 : decode cX6_ends 120 = .ok (.iload_n 2, 1) := by decide +kernel
theorem dX6_ends_121 : decode cX6_ends 121 = .ok (.iconst 1, 1) := by decide +kernel
theorem dX6_ends_122 : decode cX6_ends 122 = .ok (.if_icmp .eq 21, 3) := by decide +kernel
theorem dX6_ends_125 : decode cX6_ends 125 = .ok (.iload_n 2, 1) := by decide +kernel
theorem dX6_ends_126 : decode cX6_ends 126 = .ok (.iconst 4, 1) := by decide +kernel
theorem dX6_ends_127 : decode cX6_ends 127 = .ok (.if_icmp .eq 16, 3) := by decide +kernel
theorem dX6_ends_130 : decode cX6_ends 130 = .ok (.iload_n 2, 1) := by decide +kernel
theorem dX6_ends_131 : decode cX6_ends 131 = .ok (.iconst 5, 1) := by decide +kernel
theorem dX6_ends_132 : decode cX6_ends 132 = .ok (.if_icmp .eq 11, 3) := by decide +kernel
theorem dX6_ends_135 : decode cX6_ends 135 = .ok (.iload_n 2, 1) := by decide +kernel
theorem dX6_ends_136 : decode cX6_ends 136 = .ok (.bipush 6, 2) := by decide +kernel
theorem dX6_ends_138 : decode cX6_ends 138 = .ok (.if_icmp .eq 5, 3) := by decide +kernel
theorem dX6_ends_141 : decode cX6_ends 141 = .ok (.iconst 0, 1) := by decide +kernel
theorem dX6_ends_142 : decode cX6_ends 142 = .ok (.ireturn, 1) := by decide +kernel
theorem dX6_ends_143 : decode cX6_ends 143 = .ok (.iload_n 2, 1) := by decide +kernel
theorem dX6_ends_144 : decode cX6_ends 144 = .ok (.iconst 1, 1) := by decide +kernel
theorem dX6_ends_145 : decode cX6_ends 145 = .ok (.if_icmp .eq 35, 3) := by decide +kernel
theorem dX6_ends_148 : decode cX6_ends 148 = .ok (.aload_n 0, 1) := by decide +kernel
theorem dX6_ends_149 : decode cX6_ends 149 = .ok (.iload_n 2, 1) := by decide +kernel
theorem dX6_ends_150 : decode cX6_ends 150 = .ok (.iconst 4, 1) := by decide +kernel
theorem dX6_ends_151 : decode cX6_ends 151 = .ok (.if_icmp .ne 7, 3) := by decide +kernel
theorem dX6_ends_154 : decode cX6_ends 154 = .ok (.iconst 3, 1) := by decide +kernel
theorem dX6_ends_155 : decode cX6_ends 155 = .ok (.goto 13, 3) := by decide +kernel
theorem dX6_ends_158 : decode cX6_ends 158 = .ok (.iload_n 2, 1) := by decide +kernel
theorem dX6_ends_159 : decode cX6_ends 159 = .ok (.iconst 5, 1) := by decide +kernel
theorem dX6_ends_160 : decode cX6_ends 160 = .ok (.if_icmp .ne 7, 3) := by decide +kernel
theorem dX6_ends_163 : decode cX6_ends 163 = .ok (.iconst 4, 1) := by decide +kernel
theorem dX6_ends_164 : decode cX6_ends 164 = .ok (.goto 4, 3) := by decide +kernel
theorem dX6_ends_167 : decode cX6_ends 167 = .ok (.iconst 5, 1) := by decide +kernel
theorem dX6_ends_168 : decode cX6_ends 168 = .ok (.aload_n 0, 1) := by decide +kernel
theorem dX6_ends_169 : decode cX6_ends 169 = .ok (.getfield 73, 3) := by decide +kernel
theorem dX6_ends_172 : decode cX6_ends 172 = .ok (.aload_n 0, 1) := by decide +kernel
theorem dX6_ends_173 : decode cX6_ends 173 = .ok (.getfield 107, 3) := by decide +kernel
theorem dX6_ends_176 : decode cX6_ends 176 = .ok (.iaload, 1) := by decide +kernel
theorem dX6_ends_177 : decode cX6_ends 177 = .ok (.invokevirtual 117, 3) := by decide +kernel
theorem dX6_ends_180 : decode cX6_ends 180 = .ok (.iconst 1, 1) := by decide +kernel
theorem dX6_ends_181 : decode cX6_ends 181 = .ok (.ireturn, 1) := by decide +kernel
theorem dX6_read_0 : decode cX6_read 0 = .ok (.aload_n 0, 1) := by decide +kernel
theorem dX6_read_1 : decode cX6_read 1 = .ok (.iconst 0, 1) := by decide +kernel
theorem dX6_read_2 : decode cX6_read 2 = .ok (.putfield 110, 3) := by decide +kernel
theorem dX6_read_5 : decode cX6_read 5 = .ok (.aload_n 0, 1) := by decide +kernel
theorem dX6_read_6 : decode cX6_read 6 = .ok (.iconst 0, 1) := by decide +kernel
theorem dX6_read_7 : decode cX6_read 7 = .ok (.putfield 107, 3) := by decide +kernel
theorem dX6_read_10 : decode cX6_read 10 = .ok (.aload_n 0, 1) := by decide +kernel
theorem dX6_read_11 : decode cX6_read 11 = .ok (.iconst 0, 1) := by decide +kernel
theorem dX6_read_12 : decode cX6_read 12 = .ok (.putfield 104, 3) := by decide +kernel
theorem dX6_read_15 : decode cX6_read 15 = .ok (.aload_n 0, 1) := by decide +kernel
theorem dX6_read_16 : decode cX6_read 16 = .ok (.iconst 0, 1) := by decide +kernel
theorem dX6_read_17 : decode cX6_read 17 = .ok (.putfield 121, 3) := by decide +kernel
theorem dX6_read_20 : decode cX6_read 20 = .ok (.iconst 2, 1) := by decide +kernel
end
section
theorem dX6_read_21 : decode cX6_read 21 = .ok (.istore_n 1, 1) := by decide +kernel
theorem dX6_read_22 : decode cX6_read 22 = .ok (.iload_n 1, 1) := by decide +kernel
theorem dX6_read_23 : decode cX6_read 23 = .ok (.ifCond .le 46, 3) := by decide +kernel
theorem dX6_read_26 : decode cX6_read 26 = .ok (.aload_n 0, 1) := by decide +kernel
theorem dX6_read_27 : decode cX6_read 27 = .ok (.getfield 110, 3) := by decide +kernel
theorem dX6_read_30 : decode cX6_read 30 = .ok (.aload_n 0, 1) := by decide +kernel
theorem dX6_read_31 : decode cX6_read 31 = .ok (.getfield 101, 3) := by decide +kernel
theorem dX6_read_34 : decode cX6_read 34 = .ok (.if_icmp .ge 35, 3) := by decide +kernel
theorem dX6_read_37 : decode cX6_read 37 = .ok (.iload_n 1, 1) := by decide +kernel
theorem dX6_read_38 : decode cX6_read 38 = .ok (.istore_n 2, 1) := by decide +kernel
theorem dX6_read_39 : decode cX6_read 39 = .ok (.iload_n 2, 1) := by decide +kernel
theorem dX6_read_40 : decode cX6_read 40 = .ok (.iconst 2, 1) := by decide +kernel
theorem dX6_read_41 : decode cX6_read 41 = .ok (.if_icmp .ne 10, 3) := by decide +kernel
theorem dX6_read_44 : decode cX6_read 44 = .ok (.aload_n 0, 1) := by decide +kernel
theorem dX6_read_45 : decode cX6_read 45 = .ok (.invokevirtual 154, 3) := by decide +kernel
theorem dX6_read_48 : decode cX6_read 48 = .ok (.goto 17, 3) := by decide +kernel
theorem dX6_read_51 : decode cX6_read 51 = .ok (.aload_n 0, 1) := by decide +kernel
theorem dX6_read_52 : decode cX6_read 52 = .ok (.iload_n 2, 1) := by decide +kernel
theorem dX6_read_53 : decode cX6_read 53 = .ok (.iconst 3, 1) := by decide +kernel
theorem dX6_read_54 : decode cX6_read 54 = .ok (.if_icmp .ne 7, 3) := by decide +kernel
theorem dX6_read_57 : decode cX6_read 57 = .ok (.iconst 1, 1) := by decide +kernel
theorem dX6_read_58 : decode cX6_read 58 = .ok (.goto 4, 3) := by decide +kernel
theorem dX6_read_61 : decode cX6_read 61 = .ok (.iconst 0, 1) := by decide +kernel
theorem dX6_read_62 : decode cX6_read 62 = .ok (.invokevirtual 157, 3) := by decide +kernel
theorem dX6_read_65 : decode cX6_read 65 = .ok (.istore_n 1, 1) := by decide +kernel
theorem dX6_read_66 : decode cX6_read 66 = .ok (.goto (-44), 3) := by decide +kernel
theorem dX6_read_69 : decode cX6_read 69 = .ok (.iload_n 1, 1) := by decide +kernel
theorem dX6_read_70 : decode cX6_read 70 = .ok (.iconst 1, 1) := by decide +kernel
theorem dX6_read_71 : decode cX6_read 71 = .ok (.if_icmp .eq 8, 3) := by decide +kernel
theorem dX6_read_74 : decode cX6_read 74 = .ok (.iload_n 1, 1) := by decide +kernel
theorem dX6_read_75 : decode cX6_read 75 = .ok (.iconst 3, 1) := by decide +kernel
theorem dX6_read_76 : decode cX6_read 76 = .ok (.if_icmp .ne 32, 3) := by decide +kernel
theorem dX6_read_79 : decode cX6_read 79 = .ok (.aload_n 0, 1) := by decide +kernel
theorem dX6_read_80 : decode cX6_read 80 = .ok (.getfield 110, 3) := by decide +kernel
theorem dX6_read_83 : decode cX6_read 83 = .ok (.aload_n 0, 1) := by decide +kernel
theorem dX6_read_84 : decode cX6_read 84 = .ok (.getfield 101, 3) := by decide +kernel
theorem dX6_read_87 : decode cX6_read 87 = .ok (.if_icmp .ne 21, 3) := by decide +kernel
theorem dX6_read_90 : decode cX6_read 90 = .ok (.aload_n 0, 1) := by decide +kernel
theorem dX6_read_91 : decode cX6_read 91 = .ok (.invokevirtual 150, 3) := by decide +kernel
theorem dX6_read_94 : decode cX6_read 94 = .ok (.ifCond .eq 14, 3) := by decide +kernel
theorem dX6_read_97 : decode cX6_read 97 = .ok (.aload_n 0, 1) := by decide +kernel
theorem dX6_read_98 : decode cX6_read 98 = .ok (.getfield 107, 3) := by decide +kernel
theorem dX6_read_101 : decode cX6_read 101 = .ok (.ifCond .ne 7, 3) := by decide +kernel
theorem dX6_read_104 : decode cX6_read 104 = .ok (.iconst 1, 1) := by decide +kernel
theorem dX6_read_105 : decode cX6_read 105 = .ok (.goto 4, 3) := by decide +kernel
theorem dX6_read_108 : decode cX6_read 108 = .ok (.iconst 0, 1) := by decide +kernel
theorem dX6_read_109 : decode cX6_read 109 = .ok (.ireturn, 1) := by decide +kernel
theorem dX6_define_0 : decode cX6_define 0 = .ok (.aload_n 0, 1) := by decide +kernel
theorem dX6_define_1 : decode cX6_define 1 = .ok (.iconst 0, 1) := by decide +kernel
theorem dX6_define_2 : decode cX6_define 2 = .ok (.putfield 91, 3) := by decide +kernel
theorem dX6_define_5 : decode cX6_define 5 = .ok (.iload_n 1, 1) := by decide +kernel
theorem dX6_define_6 : decode cX6_define 6 = .ok (.i2l, 1) := by decide +kernel
theorem dX6_define_7 : decode cX6_define 7 = .ok (.lconst 0, 1) := by decide +kernel
theorem dX6_define_8 : decode cX6_define 8 = .ok (.ldc2_w 161, 3) := by decide +kernel
theorem dX6_define_11 : decode cX6_define 11 = .ok (.invokestatic 137, 3) := by decide +kernel
theorem dX6_define_14 : decode cX6_define 14 = .ok (.ifCond .ne 9, 3) := by decide +kernel
theorem dX6_define_17 : decode cX6_define 17 = .ok (.aload_n 0, 1) := by decide +kernel
theorem dX6_define_18 : decode cX6_define 18 = .ok (.iconst 1, 1) := by decide +kernel
theorem dX6_define_19 : decode cX6_define 19 = .ok (.invokevirtual 163, 3) := by decide +kernel
theorem dX6_define_22 : decode cX6_define 22 = .ok (.ireturn, 1) := by decide +kernel
theorem dX6_define_23 : decode cX6_define 23 = .ok (.aload_n 0, 1) := by decide +kernel
theorem dX6_define_24 : decode cX6_define 24 = .ok (.invokevirtual 166, 3) := by decide +kernel
theorem dX6_define_27 : decode cX6_define 27 = .ok (.ifCond .ne 9, 3) := by decide +kernel
theorem dX6_define_30 : decode cX6_define 30 = .ok (.aload_n 0, 1) := by decide +kernel
theorem dX6_define_31 : decode cX6_define 31 = .ok (.iconst 2, 1) := by decide +kernel
theorem dX6_define_32 : decode cX6_define 32 = .ok (.invokevirtual 163, 3) := by decide +kernel
theorem dX6_define_35 : decode cX6_define 35 = .ok (.ireturn, 1) := by decide +kernel
theorem dX6_define_36 : decode cX6_define 36 = .ok (.aload_n 0, 1) := by decide +kernel
theorem dX6_define_37 : decode cX6_define 37 = .ok (.getfield 13, 3) := by decide +kernel
theorem dX6_define_40 : decode cX6_define 40 = .ok (.iload_n 1, 1) := by decide +kernel
theorem dX6_define_41 : decode cX6_define 41 = .ok (.iconst 1, 1) := by decide +kernel
theorem dX6_define_42 : decode cX6_define 42 = .ok (.bastore, 1) := by decide +kernel
theorem dX6_define_43 : decode cX6_define 43 = .ok (.aload_n 0, 1) := by decide +kernel
theorem dX6_define_44 : decode cX6_define 44 = .ok (.getfield 17, 3) := by decide +kernel
theorem dX6_define_47 : decode cX6_define 47 = .ok (.iload_n 1, 1) := by decide +kernel
theorem dX6_define_48 : decode cX6_define 48 = .ok (.aload_n 0, 1) := by decide +kernel
theorem dX6_define_49 : decode cX6_define 49 = .ok (.getfield 121, 3) := by decide +kernel
theorem dX6_define_52 : decode cX6_define 52 = .ok (.iastore, 1) := by decide +kernel
theorem dX6_define_53 : decode cX6_define 53 = .ok (.aload_n 0, 1) := by decide +kernel
theorem dX6_define_54 : decode cX6_define 54 = .ok (.getfield 20, 3) := by decide +kernel
theorem dX6_define_57 : decode cX6_define 57 = .ok (.iload_n 1, 1) := by decide +kernel
theorem dX6_define_58 : decode cX6_define 58 = .ok (.aload_n 0, 1) := by decide +kernel
theorem dX6_define_59 : decode cX6_define 59 = .ok (.getfield 104, 3) := by decide +kernel
theorem dX6_define_62 : decode cX6_define 62 = .ok (.iastore, 1) := by decide +kernel
theorem dX6_define_63 : decode cX6_define 63 = .ok (.iconst 0, 1) := by decide +kernel
theorem dX6_define_64 : decode cX6_define 64 = .ok (.istore_n 2, 1) := by decide +kernel
theorem dX6_define_65 : decode cX6_define 65 = .ok (.iload_n 2, 1) := by decide +kernel
theorem dX6_define_66 : decode cX6_define 66 = .ok (.aload_n 0, 1) := by decide +kernel
theorem dX6_define_67 : decode cX6_define 67 = .ok (.getfield 104, 3) := by decide +kernel
theorem dX6_define_70 : decode cX6_define 70 = .ok (.if_icmp .ge 43, 3) := by decide +kernel
theorem dX6_define_73 : decode cX6_define 73 = .ok (.aload_n 0, 1) := by decide +kernel
theorem dX6_define_74 : decode cX6_define 74 = .ok (.getfield 23, 3) := by decide +kernel
theorem dX6_define_77 : decode cX6_define 77 = .ok (.bipush 48, 2) := by decide +kernel
theorem dX6_define_79 : decode cX6_define 79 = .ok (.iload_n 1, 1) := by decide +kernel
theorem dX6_define_80 : decode cX6_define 80 = .ok (.imul, 1) := by decide +kernel
theorem dX6_define_81 : decode cX6_define 81 = .ok (.iload_n 2, 1) := by decide +kernel
theorem dX6_define_82 : decode cX6_define 82 = .ok (.iadd, 1) := by decide +kernel
theorem dX6_define_83 : decode cX6_define 83 = .ok (.aload_n 0, 1) := by decide +kernel
theorem dX6_define_84 : decode cX6_define 84 = .ok (.getfield 76, 3) := by decide +kernel
theorem dX6_define_87 : decode cX6_define 87 = .ok (.iload_n 2, 1) := by decide +kernel
theorem dX6_define_88 : decode cX6_define 88 = .ok (.iaload, 1) := by decide +kernel
theorem dX6_define_89 : decode cX6_define 89 = .ok (.iastore, 1) := by decide +kernel
theorem dX6_define_90 : decode cX6_define 90 = .ok (.aload_n 0, 1) := by decide +kernel
theorem dX6_define_91 : decode cX6_define 91 = .ok (.getfield 26, 3) := by decide +kernel
theorem dX6_define_94 : decode cX6_define 94 = .ok (.bipush 48, 2) := by decide +kernel
theorem dX6_define_96 : decode cX6_define 96 = .ok (.iload_n 1, 1) := by decide +kernel
theorem dX6_define_97 : decode cX6_define 97 = .ok (.imul, 1) := by decide +kernel
theorem dX6_define_98 : decode cX6_define 98 = .ok (.iload_n 2, 1) := by decide +kernel
theorem dX6_define_99 : decode cX6_define 99 = .ok (.iadd, 1) := by decide +kernel
theorem dX6_define_100 : decode cX6_define 100 = .ok (.aload_n 0, 1) := by decide +kernel
theorem dX6_define_101 : decode cX6_define 101 = .ok (.getfield 79, 3) := by decide +kernel
theorem dX6_define_104 : decode cX6_define 104 = .ok (.iload_n 2, 1) := by decide +kernel
theorem dX6_define_105 : decode cX6_define 105 = .ok (.iaload, 1) := by decide +kernel
theorem dX6_define_106 : decode cX6_define 106 = .ok (.iastore, 1) := by decide +kernel
theorem dX6_define_107 : decode cX6_define 107 = .ok (.iinc 2 1, 3) := by decide +kernel
theorem dX6_define_110 : decode cX6_define 110 = .ok (.goto (-45), 3) := by decide +kernel
theorem dX6_define_113 : decode cX6_define 113 = .ok (.aload_n 0, 1) := by decide +kernel
theorem dX6_define_114 : decode cX6_define 114 = .ok (.iconst 0, 1) := by decide +kernel
theorem dX6_define_115 : decode cX6_define 115 = .ok (.putfield 101, 3) := by decide +kernel
theorem dX6_define_118 : decode cX6_define 118 = .ok (.iconst 0, 1) := by decide +kernel
theorem dX6_define_119 : decode cX6_define 119 = .ok (.istore_n 2, 1) := by decide +kernel
theorem dX6_define_120 : decode cX6_define 120 = .ok (.iconst 0, 1) := by decide +kernel
theorem dX6_define_121 : decode cX6_define 121 = .ok (.istore_n 3, 1) := by decide +kernel
theorem dX6_define_122 : decode cX6_define 122 = .ok (.iload_n 3, 1) := by decide +kernel
theorem dX6_define_123 : decode cX6_define 123 = .ok (.bipush 12, 2) := by decide +kernel
theorem dX6_define_125 : decode cX6_define 125 = .ok (.if_icmp .ge 20, 3) := by decide +kernel
theorem dX6_define_128 : decode cX6_define 128 = .ok (.iload_n 2, 1) := by decide +kernel
theorem dX6_define_129 : decode cX6_define 129 = .ok (.aload_n 0, 1) := by decide +kernel
theorem dX6_define_130 : decode cX6_define 130 = .ok (.getfield 121, 3) := by decide +kernel
theorem dX6_define_133 : decode cX6_define 133 = .ok (.iload_n 3, 1) := by decide +kernel
theorem dX6_define_134 : decode cX6_define 134 = .ok (.ishr, 1) := by decide +kernel
theorem dX6_define_135 : decode cX6_define 135 = .ok (.iconst 1, 1) := by decide +kernel
theorem dX6_define_136 : decode cX6_define 136 = .ok (.iand, 1) := by decide +kernel
theorem dX6_define_137 : decode cX6_define 137 = .ok (.iadd, 1) := by decide +kernel
theorem dX6_define_138 : decode cX6_define 138 = .ok (.istore_n 2, 1) := by decide +kernel
theorem dX6_define_139 : decode cX6_define 139 = .ok (.iinc 3 1, 3) := by decide +kernel
theorem dX6_define_142 : decode cX6_define 142 = .ok (.goto (-20), 3) := by decide +kernel
theorem dX6_define_145 : decode cX6_define 145 = .ok (.iload_n 2, 1) := by decide +kernel
theorem dX6_define_146 : decode cX6_define 146 = .ok (.ireturn, 1) := by decide +kernel
theorem dX6_input_0 : decode cX6_input 0 = .ok (.aload_n 0, 1) := by decide +kernel
theorem dX6_input_1 : decode cX6_input 1 = .ok (.iconst 0, 1) := by decide +kernel
theorem dX6_input_2 : decode cX6_input 2 = .ok (.putfield 91, 3) := by decide +kernel
theorem dX6_input_5 : decode cX6_input 5 = .ok (.iload_n 1, 1) := by decide +kernel
theorem dX6_input_6 : decode cX6_input 6 = .ok (.i2l, 1) := by decide +kernel
theorem dX6_input_7 : decode cX6_input 7 = .ok (.lconst 0, 1) := by decide +kernel
theorem dX6_input_8 : decode cX6_input 8 = .ok (.ldc2_w 161, 3) := by decide +kernel
theorem dX6_input_11 : decode cX6_input 11 = .ok (.invokestatic 137, 3) := by decide +kernel
theorem dX6_input_14 : decode cX6_input 14 = .ok (.ifCond .ne 17, 3) := by decide +kernel
theorem dX6_input_17 : decode cX6_input 17 = .ok (.aload_n 0, 1) := by decide +kernel
theorem dX6_input_18 : decode cX6_input 18 = .ok (.iconst 1, 1) := by decide +kernel
theorem dX6_input_19 : decode cX6_input 19 = .ok (.invokevirtual 163, 3) := by decide +kernel
theorem dX6_input_22 : decode cX6_input 22 = .ok (.ifCond .le 7, 3) := by decide +kernel
theorem dX6_input_25 : decode cX6_input 25 = .ok (.iconst 1, 1) := by decide +kernel
theorem dX6_input_26 : decode cX6_input 26 = .ok (.goto 4, 3) := by decide +kernel
theorem dX6_input_29 : decode cX6_input 29 = .ok (.iconst 0, 1) := by decide +kernel
theorem dX6_input_30 : decode cX6_input 30 = .ok (.ireturn, 1) := by decide +kernel
theorem dX6_input_31 : decode cX6_input 31 = .ok (.aload_n 0, 1) := by decide +kernel
theorem dX6_input_32 : decode cX6_input 32 = .ok (.getfield 13, 3) := by decide +kernel
theorem dX6_input_35 : decode cX6_input 35 = .ok (.iload_n 1, 1) := by decide +kernel
theorem dX6_input_36 : decode cX6_input 36 = .ok (.baload, 1) := by decide +kernel
theorem dX6_input_37 : decode cX6_input 37 = .ok (.istore_n 2, 1) := by decide +kernel
theorem dX6_input_38 : decode cX6_input 38 = .ok (.aload_n 0, 1) := by decide +kernel
theorem dX6_input_39 : decode cX6_input 39 = .ok (.getfield 13, 3) := by decide +kernel
theorem dX6_input_42 : decode cX6_input 42 = .ok (.iload_n 1, 1) := by decide +kernel
theorem dX6_input_43 : decode cX6_input 43 = .ok (.iconst 0, 1) := by decide +kernel
theorem dX6_input_44 : decode cX6_input 44 = .ok (.bastore, 1) := by decide +kernel
theorem dX6_input_45 : decode cX6_input 45 = .ok (.iload_n 2, 1) := by decide +kernel
theorem dX6_input_46 : decode cX6_input 46 = .ok (.ireturn, 1) := by decide +kernel
theorem dX6_total_0 : decode cX6_total 0 = .ok (.aload_n 0, 1) := by decide +kernel
theorem dX6_total_1 : decode cX6_total 1 = .ok (.iconst 0, 1) := by decide +kernel
theorem dX6_total_2 : decode cX6_total 2 = .ok (.putfield 91, 3) := by decide +kernel
theorem dX6_total_5 : decode cX6_total 5 = .ok (.iload_n 1, 1) := by decide +kernel
theorem dX6_total_6 : decode cX6_total 6 = .ok (.i2l, 1) := by decide +kernel
theorem dX6_total_7 : decode cX6_total 7 = .ok (.lconst 0, 1) := by decide +kernel
theorem dX6_total_8 : decode cX6_total 8 = .ok (.ldc2_w 161, 3) := by decide +kernel
theorem dX6_total_11 : decode cX6_total 11 = .ok (.invokestatic 137, 3) := by decide +kernel
theorem dX6_total_14 : decode cX6_total 14 = .ok (.ifCond .ne 9, 3) := by decide +kernel
theorem dX6_total_17 : decode cX6_total 17 = .ok (.aload_n 0, 1) := by decide +kernel
theorem dX6_total_18 : decode cX6_total 18 = .ok (.iconst 1, 1) := by decide +kernel
theorem dX6_total_19 : decode cX6_total 19 = .ok (.invokevirtual 163, 3) := by decide +kernel
theorem dX6_total_22 : decode cX6_total 22 = .ok (.ireturn, 1) := by decide +kernel
theorem dX6_total_23 : decode cX6_total 23 = .ok (.aload_n 0, 1) := by decide +kernel
theorem dX6_total_24 : decode cX6_total 24 = .ok (.getfield 29, 3) := by decide +kernel
theorem dX6_total_27 : decode cX6_total 27 = .ok (.istore_n 2, 1) := by decide +kernel
theorem dX6_total_28 : decode cX6_total 28 = .ok (.aload_n 0, 1) := by decide +kernel
theorem dX6_total_29 : decode cX6_total 29 = .ok (.iload_n 1, 1) := by decide +kernel
theorem dX6_total_30 : decode cX6_total 30 = .ok (.putfield 29, 3) := by decide +kernel
theorem dX6_total_33 : decode cX6_total 33 = .ok (.iload_n 2, 1) := by decide +kernel
theorem dX6_total_34 : decode cX6_total 34 = .ok (.ireturn, 1) := by decide +kernel
theorem dX6_bracket_0 : decode cX6_bracket 0 = .ok (.aload_n 0, 1) := by decide +kernel
theorem dX6_bracket_1 : decode cX6_bracket 1 = .ok (.iconst 0, 1) := by decide +kernel
theorem dX6_bracket_2 : decode cX6_bracket 2 = .ok (.putfield 91, 3) := by decide +kernel
theorem dX6_bracket_5 : decode cX6_bracket 5 = .ok (.iload_n 1, 1) := by decide +kernel
theorem dX6_bracket_6 : decode cX6_bracket 6 = .ok (.i2l, 1) := by decide +kernel
theorem dX6_bracket_7 : decode cX6_bracket 7 = .ok (.lconst 0, 1) := by decide +kernel
theorem dX6_bracket_8 : decode cX6_bracket 8 = .ok (.ldc2_w 135, 3) := by decide +kernel
theorem dX6_bracket_11 : decode cX6_bracket 11 = .ok (.invokestatic 137, 3) := by decide +kernel
theorem dX6_bracket_14 : decode cX6_bracket 14 = .ok (.ifCond .ne 9, 3) := by decide +kernel
theorem dX6_bracket_17 : decode cX6_bracket 17 = .ok (.aload_n 0, 1) := by decide +kernel
theorem dX6_bracket_18 : decode cX6_bracket 18 = .ok (.iconst 1, 1) := by decide +kernel
theorem dX6_bracket_19 : decode cX6_bracket 19 = .ok (.invokevirtual 163, 3) := by decide +kernel
theorem dX6_bracket_22 : decode cX6_bracket 22 = .ok (.ireturn, 1) := by decide +kernel
theorem dX6_bracket_23 : decode cX6_bracket 23 = .ok (.aload_n 0, 1) := by decide +kernel
theorem dX6_bracket_24 : decode cX6_bracket 24 = .ok (.getfield 33, 3) := by decide +kernel
theorem dX6_bracket_27 : decode cX6_bracket 27 = .ok (.iload_n 1, 1) := by decide +kernel
theorem dX6_bracket_28 : decode cX6_bracket 28 = .ok (.iaload, 1) := by decide +kernel
theorem dX6_bracket_29 : decode cX6_bracket 29 = .ok (.istore 4, 2) := by decide +kernel
theorem dX6_bracket_31 : decode cX6_bracket 31 = .ok (.iload 4, 2) := by decide +kernel
theorem dX6_bracket_33 : decode cX6_bracket 33 = .ok (.ifCond .eq 20, 3) := by decide +kernel
theorem dX6_bracket_36 : decode cX6_bracket 36 = .ok (.iload_n 2, 1) := by decide +kernel
theorem dX6_bracket_37 : decode cX6_bracket 37 = .ok (.aload_n 0, 1) := by decide +kernel
theorem dX6_bracket_38 : decode cX6_bracket 38 = .ok (.getfield 36, 3) := by decide +kernel
theorem dX6_bracket_41 : decode cX6_bracket 41 = .ok (.iconst 4, 1) := by decide +kernel
theorem dX6_bracket_42 : decode cX6_bracket 42 = .ok (.iload_n 1, 1) := by decide +kernel
theorem dX6_bracket_43 : decode cX6_bracket 43 = .ok (.imul, 1) := by decide +kernel
theorem dX6_bracket_44 : decode cX6_bracket 44 = .ok (.iload 4, 2) := by decide +kernel
theorem dX6_bracket_46 : decode cX6_bracket 46 = .ok (.iadd, 1) := by decide +kernel
theorem dX6_bracket_47 : decode cX6_bracket 47 = .ok (.iconst 1, 1) := by decide +kernel
theorem dX6_bracket_48 : decode cX6_bracket 48 = .ok (.isub, 1) := by decide +kernel
theorem dX6_bracket_49 : decode cX6_bracket 49 = .ok (.iaload, 1) := by decide +kernel
theorem dX6_bracket_50 : decode cX6_bracket 50 = .ok (.if_icmp .le 7, 3) := by decide +kernel
theorem dX6_bracket_53 : decode cX6_bracket 53 = .ok (.iconst 1, 1) := by decide +kernel
theorem dX6_bracket_54 : decode cX6_bracket 54 = .ok (.goto 4, 3) := by decide +kernel
theorem dX6_bracket_57 : decode cX6_bracket 57 = .ok (.iconst 0, 1) := by decide +kernel
theorem dX6_bracket_58 : decode cX6_bracket 58 = .ok (.istore 5, 2) := by decide +kernel
theorem dX6_bracket_60 : decode cX6_bracket 60 = .ok (.iload_n 2, 1) := by decide +kernel
theorem dX6_bracket_61 : decode cX6_bracket 61 = .ok (.i2l, 1) := by decide +kernel
theorem dX6_bracket_62 : decode cX6_bracket 62 = .ok (.lconst 0, 1) := by decide +kernel
theorem dX6_bracket_63 : decode cX6_bracket 63 = .ok (.ldc2_w 169, 3) := by decide +kernel
theorem dX6_bracket_66 : decode cX6_bracket 66 = .ok (.invokestatic 137, 3) := by decide +kernel
theorem dX6_bracket_69 : decode cX6_bracket 69 = .ok (.ifCond .eq 20, 3) := by decide +kernel
theorem dX6_bracket_72 : decode cX6_bracket 72 = .ok (.iload 5, 2) := by decide +kernel
theorem dX6_bracket_74 : decode cX6_bracket 74 = .ok (.ifCond .eq 15, 3) := by decide +kernel
theorem dX6_bracket_77 : decode cX6_bracket 77 = .ok (.iload_n 3, 1) := by decide +kernel
theorem dX6_bracket_78 : decode cX6_bracket 78 = .ok (.i2l, 1) := by decide +kernel
theorem dX6_bracket_79 : decode cX6_bracket 79 = .ok (.lconst 0, 1) := by decide +kernel
theorem dX6_bracket_80 : decode cX6_bracket 80 = .ok (.ldc2_w 171, 3) := by decide +kernel
theorem dX6_bracket_83 : decode cX6_bracket 83 = .ok (.invokestatic 137, 3) := by decide +kernel
theorem dX6_bracket_86 : decode cX6_bracket 86 = .ok (.ifCond .ne 9, 3) := by decide +kernel
theorem dX6_bracket_89 : decode cX6_bracket 89 = .ok (.aload_n 0, 1) := by decide +kernel
theorem dX6_bracket_90 : decode cX6_bracket 90 = .ok (.iconst 2, 1) := by decide +kernel
theorem dX6_bracket_91 : decode cX6_bracket 91 = .ok (.invokevirtual 163, 3) := by decide +kernel
theorem dX6_bracket_94 : decode cX6_bracket 94 = .ok (.ireturn, 1) := by decide +kernel
theorem dX6_bracket_95 : decode cX6_bracket 95 = .ok (.iload 4, 2) := by decide +kernel
theorem dX6_bracket_97 : decode cX6_bracket 97 = .ok (.iconst 4, 1) := by decide +kernel
theorem dX6_bracket_98 : decode cX6_bracket 98 = .ok (.if_icmp .ne 9, 3) := by decide +kernel
theorem dX6_bracket_101 : decode cX6_bracket 101 = .ok (.aload_n 0, 1) := by decide +kernel
theorem dX6_bracket_102 : decode cX6_bracket 102 = .ok (.iconst 3, 1) := by decide +kernel
theorem dX6_bracket_103 : decode cX6_bracket 103 = .ok (.invokevirtual 163, 3) := by decide +kernel
theorem dX6_bracket_106 : decode cX6_bracket 106 = .ok (.ireturn, 1) := by decide +kernel
theorem dX6_bracket_107 : decode cX6_bracket 107 = .ok (.aload_n 0, 1) := by decide +kernel
theorem dX6_bracket_108 : decode cX6_bracket 108 = .ok (.getfield 36, 3) := by decide +kernel
theorem dX6_bracket_111 : decode cX6_bracket 111 = .ok (.iconst 4, 1) := by decide +kernel
theorem dX6_bracket_112 : decode cX6_bracket 112 = .ok (.iload_n 1, 1) := by decide +kernel
theorem dX6_bracket_113 : decode cX6_bracket 113 = .ok (.imul, 1) := by decide +kernel
theorem dX6_bracket_114 : decode cX6_bracket 114 = .ok (.iload 4, 2) := by decide +kernel
theorem dX6_bracket_116 : decode cX6_bracket 116 = .ok (.iadd, 1) := by decide +kernel
theorem dX6_bracket_117 : decode cX6_bracket 117 = .ok (.iload_n 2, 1) := by decide +kernel
theorem dX6_bracket_118 : decode cX6_bracket 118 = .ok (.iastore, 1) := by decide +kernel
theorem dX6_bracket_119 : decode cX6_bracket 119 = .ok (.aload_n 0, 1) := by decide +kernel
theorem dX6_bracket_120 : decode cX6_bracket 120 = .ok (.getfield 39, 3) := by decide +kernel
theorem dX6_bracket_123 : decode cX6_bracket 123 = .ok (.iconst 4, 1) := by decide +kernel
theorem dX6_bracket_124 : decode cX6_bracket 124 = .ok (.iload_n 1, 1) := by decide +kernel
theorem dX6_bracket_125 : decode cX6_bracket 125 = .ok (.imul, 1) := by decide +kernel
theorem dX6_bracket_126 : decode cX6_bracket 126 = .ok (.iload 4, 2) := by decide +kernel
theorem dX6_bracket_128 : decode cX6_bracket 128 = .ok (.iadd, 1) := by decide +kernel
theorem dX6_bracket_129 : decode cX6_bracket 129 = .ok (.iload_n 3, 1) := by decide +kernel
theorem dX6_bracket_130 : decode cX6_bracket 130 = .ok (.iastore, 1) := by decide +kernel
theorem dX6_bracket_131 : decode cX6_bracket 131 = .ok (.aload_n 0, 1) := by decide +kernel
theorem dX6_bracket_132 : decode cX6_bracket 132 = .ok (.getfield 33, 3) := by decide +kernel
theorem dX6_bracket_135 : decode cX6_bracket 135 = .ok (.iload_n 1, 1) := by decide +kernel
theorem dX6_bracket_136 : decode cX6_bracket 136 = .ok (.dup2, 1) := by decide +kernel
theorem dX6_bracket_137 : decode cX6_bracket 137 = .ok (.iaload, 1) := by decide +kernel
theorem dX6_bracket_138 : decode cX6_bracket 138 = .ok (.iconst 1, 1) := by decide +kernel
theorem dX6_bracket_139 : decode cX6_bracket 139 = .ok (.iadd, 1) := by decide +kernel
theorem dX6_bracket_140 : decode cX6_bracket 140 = .ok (.iastore, 1) := by decide +kernel
theorem dX6_bracket_141 : decode cX6_bracket 141 = .ok (.iload 4, 2) := by decide +kernel
theorem dX6_bracket_143 : decode cX6_bracket 143 = .ok (.iconst 1, 1) := by decide +kernel
theorem dX6_bracket_144 : decode cX6_bracket 144 = .ok (.iadd, 1) := by decide +kernel
theorem dX6_bracket_145 : decode cX6_bracket 145 = .ok (.ireturn, 1) := by decide +kernel
theorem dX6_reset_0 : decode cX6_reset 0 = .ok (.aload_n 0, 1) := by decide +kernel
theorem dX6_reset_1 : decode cX6_reset 1 = .ok (.iconst 0, 1) := by decide +kernel
theorem dX6_reset_2 : decode cX6_reset 2 = .ok (.putfield 91, 3) := by decide +kernel
theorem dX6_reset_5 : decode cX6_reset 5 = .ok (.iload_n 1, 1) := by decide +kernel
theorem dX6_reset_6 : decode cX6_reset 6 = .ok (.i2l, 1) := by decide +kernel
theorem dX6_reset_7 : decode cX6_reset 7 = .ok (.lconst 0, 1) := by decide +kernel
theorem dX6_reset_8 : decode cX6_reset 8 = .ok (.ldc2_w 135, 3) := by decide +kernel
theorem dX6_reset_11 : decode cX6_reset 11 = .ok (.invokestatic 137, 3) := by decide +kernel
theorem dX6_reset_14 : decode cX6_reset 14 = .ok (.ifCond .ne 9, 3) := by decide +kernel
theorem dX6_reset_17 : decode cX6_reset 17 = .ok (.aload_n 0, 1) := by decide +kernel
theorem dX6_reset_18 : decode cX6_reset 18 = .ok (.iconst 1, 1) := by decide +kernel
theorem dX6_reset_19 : decode cX6_reset 19 = .ok (.invokevirtual 163, 3) := by decide +kernel
theorem dX6_reset_22 : decode cX6_reset 22 = .ok (.ireturn, 1) := by decide +kernel
theorem dX6_reset_23 : decode cX6_reset 23 = .ok (.iload_n 2, 1) := by decide +kernel
theorem dX6_reset_24 : decode cX6_reset 24 = .ok (.i2l, 1) := by decide +kernel
theorem dX6_reset_25 : decode cX6_reset 25 = .ok (.lconst 0, 1) := by decide +kernel
theorem dX6_reset_26 : decode cX6_reset 26 = .ok (.ldc2_w 135, 3) := by decide +kernel
theorem dX6_reset_29 : decode cX6_reset 29 = .ok (.invokestatic 137, 3) := by decide +kernel
theorem dX6_reset_32 : decode cX6_reset 32 = .ok (.ifCond .ne 9, 3) := by decide +kernel
theorem dX6_reset_35 : decode cX6_reset 35 = .ok (.aload_n 0, 1) := by decide +kernel
theorem dX6_reset_36 : decode cX6_reset 36 = .ok (.iconst 2, 1) := by decide +kernel
theorem dX6_reset_37 : decode cX6_reset 37 = .ok (.invokevirtual 163, 3) := by decide +kernel
theorem dX6_reset_40 : decode cX6_reset 40 = .ok (.ireturn, 1) := by decide +kernel
theorem dX6_reset_41 : decode cX6_reset 41 = .ok (.aload_n 0, 1) := by decide +kernel
theorem dX6_reset_42 : decode cX6_reset 42 = .ok (.getfield 33, 3) := by decide +kernel
theorem dX6_reset_45 : decode cX6_reset 45 = .ok (.iload_n 1, 1) := by decide +kernel
theorem dX6_reset_46 : decode cX6_reset 46 = .ok (.iaload, 1) := by decide +kernel
theorem dX6_reset_47 : decode cX6_reset 47 = .ok (.istore_n 3, 1) := by decide +kernel
theorem dX6_reset_48 : decode cX6_reset 48 = .ok (.aload_n 0, 1) := by decide +kernel
theorem dX6_reset_49 : decode cX6_reset 49 = .ok (.getfield 33, 3) := by decide +kernel
theorem dX6_reset_52 : decode cX6_reset 52 = .ok (.iload_n 1, 1) := by decide +kernel
theorem dX6_reset_53 : decode cX6_reset 53 = .ok (.iconst 0, 1) := by decide +kernel
theorem dX6_reset_54 : decode cX6_reset 54 = .ok (.iastore, 1) := by decide +kernel
theorem dX6_reset_55 : decode cX6_reset 55 = .ok (.aload_n 0, 1) := by decide +kernel
theorem dX6_reset_56 : decode cX6_reset 56 = .ok (.getfield 42, 3) := by decide +kernel
theorem dX6_reset_59 : decode cX6_reset 59 = .ok (.iload_n 1, 1) := by decide +kernel
theorem dX6_reset_60 : decode cX6_reset 60 = .ok (.iload_n 2, 1) := by decide +kernel
theorem dX6_reset_61 : decode cX6_reset 61 = .ok (.iastore, 1) := by decide +kernel
theorem dX6_reset_62 : decode cX6_reset 62 = .ok (.iload_n 3, 1) := by decide +kernel
theorem dX6_reset_63 : decode cX6_reset 63 = .ok (.ireturn, 1) := by decide +kernel
theorem dX6_divide_0 : decode cX6_divide 0 = .ok (.lload_n 0, 1) := by decide +kernel
theorem dX6_divide_1 : decode cX6_divide 1 = .ok (.lload_n 2, 1) := by decide +kernel
theorem dX6_divide_2 : decode cX6_divide 2 = .ok (.ldiv, 1) := by decide +kernel
theorem dX6_divide_3 : decode cX6_divide 3 = .ok (.lstore 5, 2) := by decide +kernel
theorem dX6_divide_5 : decode cX6_divide 5 = .ok (.lload_n 0, 1) := by decide +kernel
theorem dX6_divide_6 : decode cX6_divide 6 = .ok (.lload_n 2, 1) := by decide +kernel
theorem dX6_divide_7 : decode cX6_divide 7 = .ok (.lrem, 1) := by decide +kernel
theorem dX6_divide_8 : decode cX6_divide 8 = .ok (.lconst 0, 1) := by decide +kernel
theorem dX6_divide_9 : decode cX6_divide 9 = .ok (.lcmp, 1) := by decide +kernel
theorem dX6_divide_10 : decode cX6_divide 10 = .ok (.ifCond .ge 9, 3) := by decide +kernel
theorem dX6_divide_13 : decode cX6_divide 13 = .ok (.lload 5, 2) := by decide +kernel
theorem dX6_divide_15 : decode cX6_divide 15 = .ok (.lconst 1, 1) := by decide +kernel
theorem dX6_divide_16 : decode cX6_divide 16 = .ok (.lsub, 1) := by decide +kernel
theorem dX6_divide_17 : decode cX6_divide 17 = .ok (.lstore 5, 2) := by decide +kernel
theorem dX6_divide_19 : decode cX6_divide 19 = .ok (.lload_n 0, 1) := by decide +kernel
theorem dX6_divide_20 : decode cX6_divide 20 = .ok (.lload 5, 2) := by decide +kernel
theorem dX6_divide_22 : decode cX6_divide 22 = .ok (.lload_n 2, 1) := by decide +kernel
theorem dX6_divide_23 : decode cX6_divide 23 = .ok (.lmul, 1) := by decide +kernel
theorem dX6_divide_24 : decode cX6_divide 24 = .ok (.lsub, 1) := by decide +kernel
theorem dX6_divide_25 : decode cX6_divide 25 = .ok (.lstore 7, 2) := by decide +kernel
theorem dX6_divide_27 : decode cX6_divide 27 = .ok (.iload 4, 2) := by decide +kernel
theorem dX6_divide_29 : decode cX6_divide 29 = .ok (.ifCond .eq 14, 3) := by decide +kernel
theorem dX6_divide_32 : decode cX6_divide 32 = .ok (.ldc2_w 135, 3) := by decide +kernel
theorem dX6_divide_35 : decode cX6_divide 35 = .ok (.lload 7, 2) := by decide +kernel
theorem dX6_divide_37 : decode cX6_divide 37 = .ok (.lmul, 1) := by decide +kernel
theorem dX6_divide_38 : decode cX6_divide 38 = .ok (.lload_n 2, 1) := by decide +kernel
theorem dX6_divide_39 : decode cX6_divide 39 = .ok (.lcmp, 1) := by decide +kernel
theorem dX6_divide_40 : decode cX6_divide 40 = .ok (.ifCond .ge 6, 3) := by decide +kernel
theorem dX6_divide_43 : decode cX6_divide 43 = .ok (.lload 5, 2) := by decide +kernel
theorem dX6_divide_45 : decode cX6_divide 45 = .ok (.lreturn, 1) := by decide +kernel
theorem dX6_divide_46 : decode cX6_divide 46 = .ok (.ldc2_w 135, 3) := by decide +kernel
theorem dX6_divide_49 : decode cX6_divide 49 = .ok (.lload 7, 2) := by decide +kernel
theorem dX6_divide_51 : decode cX6_divide 51 = .ok (.lmul, 1) := by decide +kernel
theorem dX6_divide_52 : decode cX6_divide 52 = .ok (.lload_n 2, 1) := by decide +kernel
theorem dX6_divide_53 : decode cX6_divide 53 = .ok (.lcmp, 1) := by decide +kernel
theorem dX6_divide_54 : decode cX6_divide 54 = .ok (.ifCond .gt 20, 3) := by decide +kernel
theorem dX6_divide_57 : decode cX6_divide 57 = .ok (.iload 4, 2) := by decide +kernel
theorem dX6_divide_59 : decode cX6_divide 59 = .ok (.iconst 1, 1) := by decide +kernel
theorem dX6_divide_60 : decode cX6_divide 60 = .ok (.if_icmp .eq 14, 3) := by decide +kernel
theorem dX6_divide_63 : decode cX6_divide 63 = .ok (.lload 5, 2) := by decide +kernel
theorem dX6_divide_65 : decode cX6_divide 65 = .ok (.ldc2_w 135, 3) := by decide +kernel
theorem dX6_divide_68 : decode cX6_divide 68 = .ok (.lrem, 1) := by decide +kernel
theorem dX6_divide_69 : decode cX6_divide 69 = .ok (.lconst 0, 1) := by decide +kernel
theorem dX6_divide_70 : decode cX6_divide 70 = .ok (.lcmp, 1) := by decide +kernel
theorem dX6_divide_71 : decode cX6_divide 71 = .ok (.ifCond .eq 10, 3) := by decide +kernel
theorem dX6_divide_74 : decode cX6_divide 74 = .ok (.lload 5, 2) := by decide +kernel
theorem dX6_divide_76 : decode cX6_divide 76 = .ok (.lconst 1, 1) := by decide +kernel
theorem dX6_divide_77 : decode cX6_divide 77 = .ok (.ladd, 1) := by decide +kernel
theorem dX6_divide_78 : decode cX6_divide 78 = .ok (.goto 5, 3) := by decide +kernel
theorem dX6_divide_81 : decode cX6_divide 81 = .ok (.lload 5, 2) := by decide +kernel
theorem dX6_divide_83 : decode cX6_divide 83 = .ok (.lreturn, 1) := by decide +kernel
theorem dX6_tabled_0 : decode cX6_tabled 0 = .ok (.lconst 0, 1) := by decide +kernel
theorem dX6_tabled_1 : decode cX6_tabled 1 = .ok (.lstore 4, 2) := by decide +kernel
theorem dX6_tabled_3 : decode cX6_tabled 3 = .ok (.iconst 4, 1) := by decide +kernel
theorem dX6_tabled_4 : decode cX6_tabled 4 = .ok (.iload_n 1, 1) := by decide +kernel
theorem dX6_tabled_5 : decode cX6_tabled 5 = .ok (.imul, 1) := by decide +kernel
theorem dX6_tabled_6 : decode cX6_tabled 6 = .ok (.istore 6, 2) := by decide +kernel
theorem dX6_tabled_8 : decode cX6_tabled 8 = .ok (.iload 6, 2) := by decide +kernel
theorem dX6_tabled_10 : decode cX6_tabled 10 = .ok (.iconst 4, 1) := by decide +kernel
theorem dX6_tabled_11 : decode cX6_tabled 11 = .ok (.iload_n 1, 1) := by decide +kernel
theorem dX6_tabled_12 : decode cX6_tabled 12 = .ok (.imul, 1) := by decide +kernel
theorem dX6_tabled_13 : decode cX6_tabled 13 = .ok (.aload_n 0, 1) := by decide +kernel
theorem dX6_tabled_14 : decode cX6_tabled 14 = .ok (.getfield 33, 3) := by decide +kernel
theorem dX6_tabled_17 : decode cX6_tabled 17 = .ok (.iload_n 1, 1) := by decide +kernel
theorem dX6_tabled_18 : decode cX6_tabled 18 = .ok (.iaload, 1) := by decide +kernel
theorem dX6_tabled_19 : decode cX6_tabled 19 = .ok (.iadd, 1) := by decide +kernel
theorem dX6_tabled_20 : decode cX6_tabled 20 = .ok (.if_icmp .ge 112, 3) := by decide +kernel
theorem dX6_tabled_23 : decode cX6_tabled 23 = .ok (.iload 6, 2) := by decide +kernel
theorem dX6_tabled_25 : decode cX6_tabled 25 = .ok (.iconst 4, 1) := by decide +kernel
theorem dX6_tabled_26 : decode cX6_tabled 26 = .ok (.iload_n 1, 1) := by decide +kernel
theorem dX6_tabled_27 : decode cX6_tabled 27 = .ok (.imul, 1) := by decide +kernel
theorem dX6_tabled_28 : decode cX6_tabled 28 = .ok (.aload_n 0, 1) := by decide +kernel
theorem dX6_tabled_29 : decode cX6_tabled 29 = .ok (.getfield 33, 3) := by decide +kernel
theorem dX6_tabled_32 : decode cX6_tabled 32 = .ok (.iload_n 1, 1) := by decide +kernel
theorem dX6_tabled_33 : decode cX6_tabled 33 = .ok (.iaload, 1) := by decide +kernel
theorem dX6_tabled_34 : decode cX6_tabled 34 = .ok (.iadd, 1) := by decide +kernel
theorem dX6_tabled_35 : decode cX6_tabled 35 = .ok (.iconst 1, 1) := by decide +kernel
theorem dX6_tabled_36 : decode cX6_tabled 36 = .ok (.isub, 1) := by decide +kernel
theorem dX6_tabled_37 : decode cX6_tabled 37 = .ok (.if_icmp .ne 7, 3) := by decide +kernel
theorem dX6_tabled_40 : decode cX6_tabled 40 = .ok (.iconst 1, 1) := by decide +kernel
theorem dX6_tabled_41 : decode cX6_tabled 41 = .ok (.goto 4, 3) := by decide +kernel
theorem dX6_tabled_44 : decode cX6_tabled 44 = .ok (.iconst 0, 1) := by decide +kernel
theorem dX6_tabled_45 : decode cX6_tabled 45 = .ok (.istore 7, 2) := by decide +kernel
theorem dX6_tabled_47 : decode cX6_tabled 47 = .ok (.iload 7, 2) := by decide +kernel
theorem dX6_tabled_49 : decode cX6_tabled 49 = .ok (.ifCond .ne 18, 3) := by decide +kernel
theorem dX6_tabled_52 : decode cX6_tabled 52 = .ok (.lload_n 2, 1) := by decide +kernel
theorem dX6_tabled_53 : decode cX6_tabled 53 = .ok (.aload_n 0, 1) := by decide +kernel
theorem dX6_tabled_54 : decode cX6_tabled 54 = .ok (.getfield 36, 3) := by decide +kernel
theorem dX6_tabled_57 : decode cX6_tabled 57 = .ok (.iload 6, 2) := by decide +kernel
theorem dX6_tabled_59 : decode cX6_tabled 59 = .ok (.iconst 1, 1) := by decide +kernel
theorem dX6_tabled_60 : decode cX6_tabled 60 = .ok (.iadd, 1) := by decide +kernel
theorem dX6_tabled_61 : decode cX6_tabled 61 = .ok (.iaload, 1) := by decide +kernel
theorem dX6_tabled_62 : decode cX6_tabled 62 = .ok (.i2l, 1) := by decide +kernel
theorem dX6_tabled_63 : decode cX6_tabled 63 = .ok (.lcmp, 1) := by decide +kernel
theorem dX6_tabled_64 : decode cX6_tabled 64 = .ok (.ifCond .ge 7, 3) := by decide +kernel
theorem dX6_tabled_67 : decode cX6_tabled 67 = .ok (.lload_n 2, 1) := by decide +kernel
theorem dX6_tabled_68 : decode cX6_tabled 68 = .ok (.goto 13, 3) := by decide +kernel
theorem dX6_tabled_71 : decode cX6_tabled 71 = .ok (.aload_n 0, 1) := by decide +kernel
theorem dX6_tabled_72 : decode cX6_tabled 72 = .ok (.getfield 36, 3) := by decide +kernel
theorem dX6_tabled_75 : decode cX6_tabled 75 = .ok (.iload 6, 2) := by decide +kernel
theorem dX6_tabled_77 : decode cX6_tabled 77 = .ok (.iconst 1, 1) := by decide +kernel
theorem dX6_tabled_78 : decode cX6_tabled 78 = .ok (.iadd, 1) := by decide +kernel
theorem dX6_tabled_79 : decode cX6_tabled 79 = .ok (.iaload, 1) := by decide +kernel
theorem dX6_tabled_80 : decode cX6_tabled 80 = .ok (.i2l, 1) := by decide +kernel
theorem dX6_tabled_81 : decode cX6_tabled 81 = .ok (.lstore 8, 2) := by decide +kernel
theorem dX6_tabled_83 : decode cX6_tabled 83 = .ok (.lload 4, 2) := by decide +kernel
theorem dX6_tabled_85 : decode cX6_tabled 85 = .ok (.lload 8, 2) := by decide +kernel
theorem dX6_tabled_87 : decode cX6_tabled 87 = .ok (.aload_n 0, 1) := by decide +kernel
theorem dX6_tabled_88 : decode cX6_tabled 88 = .ok (.getfield 36, 3) := by decide +kernel
theorem dX6_tabled_91 : decode cX6_tabled 91 = .ok (.iload 6, 2) := by decide +kernel
theorem dX6_tabled_93 : decode cX6_tabled 93 = .ok (.iaload, 1) := by decide +kernel
theorem dX6_tabled_94 : decode cX6_tabled 94 = .ok (.i2l, 1) := by decide +kernel
theorem dX6_tabled_95 : decode cX6_tabled 95 = .ok (.lcmp, 1) := by decide +kernel
theorem dX6_tabled_96 : decode cX6_tabled 96 = .ok (.ifCond .le 26, 3) := by decide +kernel
theorem dX6_tabled_99 : decode cX6_tabled 99 = .ok (.aload_n 0, 1) := by decide +kernel
theorem dX6_tabled_100 : decode cX6_tabled 100 = .ok (.getfield 39, 3) := by decide +kernel
theorem dX6_tabled_103 : decode cX6_tabled 103 = .ok (.iload 6, 2) := by decide +kernel
theorem dX6_tabled_105 : decode cX6_tabled 105 = .ok (.iaload, 1) := by decide +kernel
theorem dX6_tabled_106 : decode cX6_tabled 106 = .ok (.i2l, 1) := by decide +kernel
theorem dX6_tabled_107 : decode cX6_tabled 107 = .ok (.lload 8, 2) := by decide +kernel
theorem dX6_tabled_109 : decode cX6_tabled 109 = .ok (.aload_n 0, 1) := by decide +kernel
theorem dX6_tabled_110 : decode cX6_tabled 110 = .ok (.getfield 36, 3) := by decide +kernel
theorem dX6_tabled_113 : decode cX6_tabled 113 = .ok (.iload 6, 2) := by decide +kernel
theorem dX6_tabled_115 : decode cX6_tabled 115 = .ok (.iaload, 1) := by decide +kernel
theorem dX6_tabled_116 : decode cX6_tabled 116 = .ok (.i2l, 1) := by decide +kernel
theorem dX6_tabled_117 : decode cX6_tabled 117 = .ok (.lsub, 1) := by decide +kernel
theorem dX6_tabled_118 : decode cX6_tabled 118 = .ok (.lmul, 1) := by decide +kernel
theorem dX6_tabled_119 : decode cX6_tabled 119 = .ok (.goto 4, 3) := by decide +kernel
theorem dX6_tabled_122 : decode cX6_tabled 122 = .ok (.lconst 0, 1) := by decide +kernel
theorem dX6_tabled_123 : decode cX6_tabled 123 = .ok (.ladd, 1) := by decide +kernel
theorem dX6_tabled_124 : decode cX6_tabled 124 = .ok (.lstore 4, 2) := by decide +kernel
theorem dX6_tabled_126 : decode cX6_tabled 126 = .ok (.iinc 6 1, 3) := by decide +kernel
theorem dX6_tabled_129 : decode cX6_tabled 129 = .ok (.goto (-121), 3) := by decide +kernel
theorem dX6_tabled_132 : decode cX6_tabled 132 = .ok (.lload 4, 2) := by decide +kernel
theorem dX6_tabled_134 : decode cX6_tabled 134 = .ok (.ldc2_w 171, 3) := by decide +kernel
theorem dX6_tabled_137 : decode cX6_tabled 137 = .ok (.aload_n 0, 1) := by decide +kernel
theorem dX6_tabled_138 : decode cX6_tabled 138 = .ok (.getfield 42, 3) := by decide +kernel
theorem dX6_tabled_141 : decode cX6_tabled 141 = .ok (.iload_n 1, 1) := by decide +kernel
theorem dX6_tabled_142 : decode cX6_tabled 142 = .ok (.iaload, 1) := by decide +kernel
theorem dX6_tabled_143 : decode cX6_tabled 143 = .ok (.invokestatic 173, 3) := by decide +kernel
theorem dX6_tabled_146 : decode cX6_tabled 146 = .ok (.lreturn, 1) := by decide +kernel
theorem dX6_makeOrder_0 : decode cX6_makeOrder 0 = .ok (.iconst 0, 1) := by decide +kernel
theorem dX6_makeOrder_1 : decode cX6_makeOrder 1 = .ok (.istore_n 1, 1) := by decide +kernel
theorem dX6_makeOrder_2 : decode cX6_makeOrder 2 = .ok (.iconst 0, 1) := by decide +kernel
theorem dX6_makeOrder_3 : decode cX6_makeOrder 3 = .ok (.istore_n 2, 1) := by decide +kernel
theorem dX6_makeOrder_4 : decode cX6_makeOrder 4 = .ok (.iconst 0, 1) := by decide +kernel
theorem dX6_makeOrder_5 : decode cX6_makeOrder 5 = .ok (.istore_n 3, 1) := by decide +kernel
theorem dX6_makeOrder_6 : decode cX6_makeOrder 6 = .ok (.iload_n 3, 1) := by decide +kernel
theorem dX6_makeOrder_7 : decode cX6_makeOrder 7 = .ok (.bipush 12, 2) := by decide +kernel
theorem dX6_makeOrder_9 : decode cX6_makeOrder 9 = .ok (.if_icmp .ge 73, 3) := by decide +kernel
theorem dX6_makeOrder_12 : decode cX6_makeOrder 12 = .ok (.iconst 0, 1) := by decide +kernel
theorem dX6_makeOrder_13 : decode cX6_makeOrder 13 = .ok (.istore_n 3, 1) := by decide +kernel
theorem dX6_makeOrder_14 : decode cX6_makeOrder 14 = .ok (.iload_n 3, 1) := by decide +kernel
theorem dX6_makeOrder_15 : decode cX6_makeOrder 15 = .ok (.bipush 12, 2) := by decide +kernel
theorem dX6_makeOrder_17 : decode cX6_makeOrder 17 = .ok (.if_icmp .ge 40, 3) := by decide +kernel
theorem dX6_makeOrder_20 : decode cX6_makeOrder 20 = .ok (.iload_n 1, 1) := by decide +kernel
theorem dX6_makeOrder_21 : decode cX6_makeOrder 21 = .ok (.iload_n 3, 1) := by decide +kernel
theorem dX6_makeOrder_22 : decode cX6_makeOrder 22 = .ok (.ishr, 1) := by decide +kernel
theorem dX6_makeOrder_23 : decode cX6_makeOrder 23 = .ok (.iconst 1, 1) := by decide +kernel
theorem dX6_makeOrder_24 : decode cX6_makeOrder 24 = .ok (.iand, 1) := by decide +kernel
theorem dX6_makeOrder_25 : decode cX6_makeOrder 25 = .ok (.iconst 1, 1) := by decide +kernel
theorem dX6_makeOrder_26 : decode cX6_makeOrder 26 = .ok (.if_icmp .eq 25, 3) := by decide +kernel
theorem dX6_makeOrder_29 : decode cX6_makeOrder 29 = .ok (.aload_n 0, 1) := by decide +kernel
theorem dX6_makeOrder_30 : decode cX6_makeOrder 30 = .ok (.getfield 13, 3) := by decide +kernel
theorem dX6_makeOrder_33 : decode cX6_makeOrder 33 = .ok (.iload_n 3, 1) := by decide +kernel
theorem dX6_makeOrder_34 : decode cX6_makeOrder 34 = .ok (.baload, 1) := by decide +kernel
theorem dX6_makeOrder_35 : decode cX6_makeOrder 35 = .ok (.ifCond .eq 22, 3) := by decide +kernel
theorem dX6_makeOrder_38 : decode cX6_makeOrder 38 = .ok (.aload_n 0, 1) := by decide +kernel
theorem dX6_makeOrder_39 : decode cX6_makeOrder 39 = .ok (.getfield 17, 3) := by decide +kernel
theorem dX6_makeOrder_42 : decode cX6_makeOrder 42 = .ok (.iload_n 3, 1) := by decide +kernel
theorem dX6_makeOrder_43 : decode cX6_makeOrder 43 = .ok (.iaload, 1) := by decide +kernel
theorem dX6_makeOrder_44 : decode cX6_makeOrder 44 = .ok (.iload_n 1, 1) := by decide +kernel
theorem dX6_makeOrder_45 : decode cX6_makeOrder 45 = .ok (.iconst (-1), 1) := by decide +kernel
theorem dX6_makeOrder_46 : decode cX6_makeOrder 46 = .ok (.ixor, 1) := by decide +kernel
theorem dX6_makeOrder_47 : decode cX6_makeOrder 47 = .ok (.iand, 1) := by decide +kernel
theorem dX6_makeOrder_48 : decode cX6_makeOrder 48 = .ok (.ifCond .eq 9, 3) := by decide +kernel
theorem dX6_makeOrder_51 : decode cX6_makeOrder 51 = .ok (.iinc 3 1, 3) := by decide +kernel
theorem dX6_makeOrder_54 : decode cX6_makeOrder 54 = .ok (.goto (-40), 3) := by decide +kernel
theorem dX6_makeOrder_57 : decode cX6_makeOrder 57 = .ok (.iload_n 3, 1) := by decide +kernel
theorem dX6_makeOrder_58 : decode cX6_makeOrder 58 = .ok (.bipush 12, 2) := by decide +kernel
theorem dX6_makeOrder_60 : decode cX6_makeOrder 60 = .ok (.if_icmp .ge (-54), 3) := by decide +kernel
theorem dX6_makeOrder_63 : decode cX6_makeOrder 63 = .ok (.aload_n 0, 1) := by decide +kernel
theorem dX6_makeOrder_64 : decode cX6_makeOrder 64 = .ok (.getfield 82, 3) := by decide +kernel
theorem dX6_makeOrder_67 : decode cX6_makeOrder 67 = .ok (.iload_n 2, 1) := by decide +kernel
theorem dX6_makeOrder_68 : decode cX6_makeOrder 68 = .ok (.iload_n 3, 1) := by decide +kernel
theorem dX6_makeOrder_69 : decode cX6_makeOrder 69 = .ok (.iastore, 1) := by decide +kernel
theorem dX6_makeOrder_70 : decode cX6_makeOrder 70 = .ok (.iinc 2 1, 3) := by decide +kernel
theorem dX6_makeOrder_73 : decode cX6_makeOrder 73 = .ok (.iload_n 1, 1) := by decide +kernel
theorem dX6_makeOrder_74 : decode cX6_makeOrder 74 = .ok (.iconst 1, 1) := by decide +kernel
theorem dX6_makeOrder_75 : decode cX6_makeOrder 75 = .ok (.iload_n 3, 1) := by decide +kernel
theorem dX6_makeOrder_76 : decode cX6_makeOrder 76 = .ok (.ishl, 1) := by decide +kernel
theorem dX6_makeOrder_77 : decode cX6_makeOrder 77 = .ok (.ior, 1) := by decide +kernel
theorem dX6_makeOrder_78 : decode cX6_makeOrder 78 = .ok (.istore_n 1, 1) := by decide +kernel
theorem dX6_makeOrder_79 : decode cX6_makeOrder 79 = .ok (.goto (-73), 3) := by decide +kernel
theorem dX6_makeOrder_82 : decode cX6_makeOrder 82 = .ok (.iload_n 2, 1) := by decide +kernel
theorem dX6_makeOrder_83 : decode cX6_makeOrder 83 = .ok (.ireturn, 1) := by decide +kernel
theorem dX6_order_0 : decode cX6_order 0 = .ok (.aload_n 0, 1) := by decide +kernel
theorem dX6_order_1 : decode cX6_order 1 = .ok (.iconst 0, 1) := by decide +kernel
theorem dX6_order_2 : decode cX6_order 2 = .ok (.putfield 91, 3) := by decide +kernel
theorem dX6_order_5 : decode cX6_order 5 = .ok (.iload_n 1, 1) := by decide +kernel
theorem dX6_order_6 : decode cX6_order 6 = .ok (.i2l, 1) := by decide +kernel
theorem dX6_order_7 : decode cX6_order 7 = .ok (.lconst 0, 1) := by decide +kernel
theorem dX6_order_8 : decode cX6_order 8 = .ok (.ldc2_w 161, 3) := by decide +kernel
theorem dX6_order_11 : decode cX6_order 11 = .ok (.invokestatic 137, 3) := by decide +kernel
theorem dX6_order_14 : decode cX6_order 14 = .ok (.ifCond .ne 9, 3) := by decide +kernel
theorem dX6_order_17 : decode cX6_order 17 = .ok (.aload_n 0, 1) := by decide +kernel
theorem dX6_order_18 : decode cX6_order 18 = .ok (.iconst 1, 1) := by decide +kernel
theorem dX6_order_19 : decode cX6_order 19 = .ok (.invokevirtual 163, 3) := by decide +kernel
theorem dX6_order_22 : decode cX6_order 22 = .ok (.ireturn, 1) := by decide +kernel
theorem dX6_order_23 : decode cX6_order 23 = .ok (.iload_n 1, 1) := by decide +kernel
theorem dX6_order_24 : decode cX6_order 24 = .ok (.aload_n 0, 1) := by decide +kernel
theorem dX6_order_25 : decode cX6_order 25 = .ok (.invokevirtual 177, 3) := by decide +kernel
theorem dX6_order_28 : decode cX6_order 28 = .ok (.if_icmp .lt 11, 3) := by decide +kernel
theorem dX6_order_31 : decode cX6_order 31 = .ok (.aload_n 0, 1) := by decide +kernel
theorem dX6_order_32 : decode cX6_order 32 = .ok (.iconst 2, 1) := by decide +kernel
theorem dX6_order_33 : decode cX6_order 33 = .ok (.invokevirtual 163, 3) := by decide +kernel
theorem dX6_order_36 : decode cX6_order 36 = .ok (.goto 9, 3) := by decide +kernel
theorem dX6_order_39 : decode cX6_order 39 = .ok (.aload_n 0, 1) := by decide +kernel
theorem dX6_order_40 : decode cX6_order 40 = .ok (.getfield 82, 3) := by decide +kernel
theorem dX6_order_43 : decode cX6_order 43 = .ok (.iload_n 1, 1) := by decide +kernel
theorem dX6_order_44 : decode cX6_order 44 = .ok (.iaload, 1) := by decide +kernel
theorem dX6_order_45 : decode cX6_order 45 = .ok (.ireturn, 1) := by decide +kernel
theorem dX6_file_0 : decode cX6_file 0 = .ok (.aload_n 0, 1) := by decide +kernel
theorem dX6_file_1 : decode cX6_file 1 = .ok (.iconst 0, 1) := by decide +kernel
theorem dX6_file_2 : decode cX6_file 2 = .ok (.putfield 91, 3) := by decide +kernel
theorem dX6_file_5 : decode cX6_file 5 = .ok (.iload_n 1, 1) := by decide +kernel
theorem dX6_file_6 : decode cX6_file 6 = .ok (.i2l, 1) := by decide +kernel
theorem dX6_file_7 : decode cX6_file 7 = .ok (.lconst 0, 1) := by decide +kernel
theorem dX6_file_8 : decode cX6_file 8 = .ok (.ldc2_w 135, 3) := by decide +kernel
theorem dX6_file_11 : decode cX6_file 11 = .ok (.invokestatic 137, 3) := by decide +kernel
theorem dX6_file_14 : decode cX6_file 14 = .ok (.ifCond .eq 27, 3) := by decide +kernel
theorem dX6_file_17 : decode cX6_file 17 = .ok (.iload_n 2, 1) := by decide +kernel
theorem dX6_file_18 : decode cX6_file 18 = .ok (.i2l, 1) := by decide +kernel
theorem dX6_file_19 : decode cX6_file 19 = .ok (.lconst 0, 1) := by decide +kernel
theorem dX6_file_20 : decode cX6_file 20 = .ok (.ldc2_w 180, 3) := by decide +kernel
theorem dX6_file_23 : decode cX6_file 23 = .ok (.invokestatic 137, 3) := by decide +kernel
theorem dX6_file_26 : decode cX6_file 26 = .ok (.ifCond .eq 15, 3) := by decide +kernel
theorem dX6_file_29 : decode cX6_file 29 = .ok (.iload_n 3, 1) := by decide +kernel
theorem dX6_file_30 : decode cX6_file 30 = .ok (.i2l, 1) := by decide +kernel
theorem dX6_file_31 : decode cX6_file 31 = .ok (.lconst 0, 1) := by decide +kernel
theorem dX6_file_32 : decode cX6_file 32 = .ok (.ldc2_w 161, 3) := by decide +kernel
theorem dX6_file_35 : decode cX6_file 35 = .ok (.invokestatic 137, 3) := by decide +kernel
theorem dX6_file_38 : decode cX6_file 38 = .ok (.ifCond .ne 9, 3) := by decide +kernel
theorem dX6_file_41 : decode cX6_file 41 = .ok (.aload_n 0, 1) := by decide +kernel
theorem dX6_file_42 : decode cX6_file 42 = .ok (.iconst 1, 1) := by decide +kernel
theorem dX6_file_43 : decode cX6_file 43 = .ok (.invokevirtual 163, 3) := by decide +kernel
theorem dX6_file_46 : decode cX6_file 46 = .ok (.ireturn, 1) := by decide +kernel
theorem dX6_file_47 : decode cX6_file 47 = .ok (.aload_n 0, 1) := by decide +kernel
theorem dX6_file_48 : decode cX6_file 48 = .ok (.getfield 13, 3) := by decide +kernel
theorem dX6_file_51 : decode cX6_file 51 = .ok (.iload_n 3, 1) := by decide +kernel
theorem dX6_file_52 : decode cX6_file 52 = .ok (.baload, 1) := by decide +kernel
theorem dX6_file_53 : decode cX6_file 53 = .ok (.ifCond .ne 18, 3) := by decide +kernel
theorem dX6_file_56 : decode cX6_file 56 = .ok (.iload 4, 2) := by decide +kernel
theorem dX6_file_58 : decode cX6_file 58 = .ok (.i2l, 1) := by decide +kernel
theorem dX6_file_59 : decode cX6_file 59 = .ok (.ldc2_w 182, 3) := by decide +kernel
theorem dX6_file_62 : decode cX6_file 62 = .ok (.ldc2_w 169, 3) := by decide +kernel
theorem dX6_file_65 : decode cX6_file 65 = .ok (.invokestatic 137, 3) := by decide +kernel
theorem dX6_file_68 : decode cX6_file 68 = .ok (.ifCond .ne 9, 3) := by decide +kernel
theorem dX6_file_71 : decode cX6_file 71 = .ok (.aload_n 0, 1) := by decide +kernel
theorem dX6_file_72 : decode cX6_file 72 = .ok (.iconst 2, 1) := by decide +kernel
theorem dX6_file_73 : decode cX6_file 73 = .ok (.invokevirtual 163, 3) := by decide +kernel
theorem dX6_file_76 : decode cX6_file 76 = .ok (.ireturn, 1) := by decide +kernel
theorem dX6_file_77 : decode cX6_file 77 = .ok (.bipush 12, 2) := by decide +kernel
theorem dX6_file_79 : decode cX6_file 79 = .ok (.iconst 4, 1) := by decide +kernel
theorem dX6_file_80 : decode cX6_file 80 = .ok (.iload_n 1, 1) := by decide +kernel
theorem dX6_file_81 : decode cX6_file 81 = .ok (.imul, 1) := by decide +kernel
theorem dX6_file_82 : decode cX6_file 82 = .ok (.iload_n 2, 1) := by decide +kernel
theorem dX6_file_83 : decode cX6_file 83 = .ok (.iadd, 1) := by decide +kernel
theorem dX6_file_84 : decode cX6_file 84 = .ok (.imul, 1) := by decide +kernel
theorem dX6_file_85 : decode cX6_file 85 = .ok (.iload_n 3, 1) := by decide +kernel
theorem dX6_file_86 : decode cX6_file 86 = .ok (.iadd, 1) := by decide +kernel
theorem dX6_file_87 : decode cX6_file 87 = .ok (.istore 5, 2) := by decide +kernel
theorem dX6_file_89 : decode cX6_file 89 = .ok (.aload_n 0, 1) := by decide +kernel
theorem dX6_file_90 : decode cX6_file 90 = .ok (.getfield 45, 3) := by decide +kernel
theorem dX6_file_93 : decode cX6_file 93 = .ok (.iload 5, 2) := by decide +kernel
theorem dX6_file_95 : decode cX6_file 95 = .ok (.iaload, 1) := by decide +kernel
theorem dX6_file_96 : decode cX6_file 96 = .ok (.istore 6, 2) := by decide +kernel
theorem dX6_file_98 : decode cX6_file 98 = .ok (.aload_n 0, 1) := by decide +kernel
theorem dX6_file_99 : decode cX6_file 99 = .ok (.getfield 45, 3) := by decide +kernel
theorem dX6_file_102 : decode cX6_file 102 = .ok (.iload 5, 2) := by decide +kernel
theorem dX6_file_104 : decode cX6_file 104 = .ok (.iload 4, 2) := by decide +kernel
theorem dX6_file_106 : decode cX6_file 106 = .ok (.iastore, 1) := by decide +kernel
theorem dX6_file_107 : decode cX6_file 107 = .ok (.iload 6, 2) := by decide +kernel
theorem dX6_file_109 : decode cX6_file 109 = .ok (.ireturn, 1) := by decide +kernel
theorem dX6_before_0 : decode cX6_before 0 = .ok (.iload_n 1, 1) := by decide +kernel
theorem dX6_before_1 : decode cX6_before 1 = .ok (.iconst 4, 1) := by decide +kernel
theorem dX6_before_2 : decode cX6_before 2 = .ok (.irem, 1) := by decide +kernel
theorem dX6_before_3 : decode cX6_before 3 = .ok (.ifCond .eq 24, 3) := by decide +kernel
theorem dX6_before_6 : decode cX6_before 6 = .ok (.aload_n 0, 1) := by decide +kernel
theorem dX6_before_7 : decode cX6_before 7 = .ok (.getfield 48, 3) := by decide +kernel
theorem dX6_before_10 : decode cX6_before 10 = .ok (.iload_n 1, 1) := by decide +kernel
theorem dX6_before_11 : decode cX6_before 11 = .ok (.iconst 4, 1) := by decide +kernel
theorem dX6_before_12 : decode cX6_before 12 = .ok (.irem, 1) := by decide +kernel
theorem dX6_before_13 : decode cX6_before 13 = .ok (.ifCond .ne 7, 3) := by decide +kernel
theorem dX6_before_16 : decode cX6_before 16 = .ok (.iconst 0, 1) := by decide +kernel
theorem dX6_before_17 : decode cX6_before 17 = .ok (.goto 6, 3) := by decide +kernel
theorem dX6_before_20 : decode cX6_before 20 = .ok (.iload_n 1, 1) := by decide +kernel
theorem dX6_before_21 : decode cX6_before 21 = .ok (.iconst 1, 1) := by decide +kernel
theorem dX6_before_22 : decode cX6_before 22 = .ok (.isub, 1) := by decide +kernel
theorem dX6_before_23 : decode cX6_before 23 = .ok (.baload, 1) := by decide +kernel
theorem dX6_before_24 : decode cX6_before 24 = .ok (.ifCond .ne 7, 3) := by decide +kernel
theorem dX6_before_27 : decode cX6_before 27 = .ok (.lconst 0, 1) := by decide +kernel
theorem dX6_before_28 : decode cX6_before 28 = .ok (.goto 16, 3) := by decide +kernel
theorem dX6_before_31 : decode cX6_before 31 = .ok (.aload_n 0, 1) := by decide +kernel
theorem dX6_before_32 : decode cX6_before 32 = .ok (.getfield 51, 3) := by decide +kernel
theorem dX6_before_35 : decode cX6_before 35 = .ok (.bipush 12, 2) := by decide +kernel
theorem dX6_before_37 : decode cX6_before 37 = .ok (.iload_n 1, 1) := by decide +kernel
theorem dX6_before_38 : decode cX6_before 38 = .ok (.iconst 1, 1) := by decide +kernel
theorem dX6_before_39 : decode cX6_before 39 = .ok (.isub, 1) := by decide +kernel
theorem dX6_before_40 : decode cX6_before 40 = .ok (.imul, 1) := by decide +kernel
theorem dX6_before_41 : decode cX6_before 41 = .ok (.iload_n 2, 1) := by decide +kernel
theorem dX6_before_42 : decode cX6_before 42 = .ok (.iadd, 1) := by decide +kernel
theorem dX6_before_43 : decode cX6_before 43 = .ok (.laload, 1) := by decide +kernel
theorem dX6_before_44 : decode cX6_before 44 = .ok (.lreturn, 1) := by decide +kernel
theorem dX6_workOut_0 : decode cX6_workOut 0 = .ok (.aload_n 0, 1) := by decide +kernel
theorem dX6_workOut_1 : decode cX6_workOut 1 = .ok (.iconst 0, 1) := by decide +kernel
theorem dX6_workOut_2 : decode cX6_workOut 2 = .ok (.putfield 184, 3) := by decide +kernel
theorem dX6_workOut_5 : decode cX6_workOut 5 = .ok (.iconst 0, 1) := by decide +kernel
theorem dX6_workOut_6 : decode cX6_workOut 6 = .ok (.istore_n 3, 1) := by decide +kernel
theorem dX6_workOut_7 : decode cX6_workOut 7 = .ok (.iload_n 3, 1) := by decide +kernel
theorem dX6_workOut_8 : decode cX6_workOut 8 = .ok (.aload_n 0, 1) := by decide +kernel
theorem dX6_workOut_9 : decode cX6_workOut 9 = .ok (.getfield 20, 3) := by decide +kernel
theorem dX6_workOut_12 : decode cX6_workOut 12 = .ok (.iload_n 2, 1) := by decide +kernel
theorem dX6_workOut_13 : decode cX6_workOut 13 = .ok (.iaload, 1) := by decide +kernel
theorem dX6_workOut_14 : decode cX6_workOut 14 = .ok (.if_icmp .ge 103, 3) := by decide +kernel
theorem dX6_workOut_17 : decode cX6_workOut 17 = .ok (.aload_n 0, 1) := by decide +kernel
theorem dX6_workOut_18 : decode cX6_workOut 18 = .ok (.getfield 23, 3) := by decide +kernel
theorem dX6_workOut_21 : decode cX6_workOut 21 = .ok (.bipush 48, 2) := by decide +kernel
theorem dX6_workOut_23 : decode cX6_workOut 23 = .ok (.iload_n 2, 1) := by decide +kernel
theorem dX6_workOut_24 : decode cX6_workOut 24 = .ok (.imul, 1) := by decide +kernel
theorem dX6_workOut_25 : decode cX6_workOut 25 = .ok (.iload_n 3, 1) := by decide +kernel
theorem dX6_workOut_26 : decode cX6_workOut 26 = .ok (.iadd, 1) := by decide +kernel
theorem dX6_workOut_27 : decode cX6_workOut 27 = .ok (.iaload, 1) := by decide +kernel
theorem dX6_workOut_28 : decode cX6_workOut 28 = .ok (.istore 4, 2) := by decide +kernel
theorem dX6_workOut_30 : decode cX6_workOut 30 = .ok (.aload_n 0, 1) := by decide +kernel
theorem dX6_workOut_31 : decode cX6_workOut 31 = .ok (.getfield 26, 3) := by decide +kernel
theorem dX6_workOut_34 : decode cX6_workOut 34 = .ok (.bipush 48, 2) := by decide +kernel
theorem dX6_workOut_36 : decode cX6_workOut 36 = .ok (.iload_n 2, 1) := by decide +kernel
theorem dX6_workOut_37 : decode cX6_workOut 37 = .ok (.imul, 1) := by decide +kernel
theorem dX6_workOut_38 : decode cX6_workOut 38 = .ok (.iload_n 3, 1) := by decide +kernel
theorem dX6_workOut_39 : decode cX6_workOut 39 = .ok (.iadd, 1) := by decide +kernel
theorem dX6_workOut_40 : decode cX6_workOut 40 = .ok (.iaload, 1) := by decide +kernel
theorem dX6_workOut_41 : decode cX6_workOut 41 = .ok (.istore 5, 2) := by decide +kernel
theorem dX6_workOut_43 : decode cX6_workOut 43 = .ok (.iinc 3 1, 3) := by decide +kernel
theorem dX6_workOut_46 : decode cX6_workOut 46 = .ok (.iload 4, 2) := by decide +kernel
theorem dX6_workOut_48 : decode cX6_workOut 48 = .ok (.bipush 12, 2) := by decide +kernel
theorem dX6_workOut_50 : decode cX6_workOut 50 = .ok (.if_icmp .ne 9, 3) := by decide +kernel
theorem dX6_workOut_53 : decode cX6_workOut 53 = .ok (.iload 5, 2) := by decide +kernel
theorem dX6_workOut_55 : decode cX6_workOut 55 = .ok (.istore_n 3, 1) := by decide +kernel
theorem dX6_workOut_56 : decode cX6_workOut 56 = .ok (.goto 58, 3) := by decide +kernel
theorem dX6_workOut_59 : decode cX6_workOut 59 = .ok (.iload 4, 2) := by decide +kernel
theorem dX6_workOut_61 : decode cX6_workOut 61 = .ok (.bipush 11, 2) := by decide +kernel
theorem dX6_workOut_63 : decode cX6_workOut 63 = .ok (.if_icmp .ne 37, 3) := by decide +kernel
theorem dX6_workOut_66 : decode cX6_workOut 66 = .ok (.aload_n 0, 1) := by decide +kernel
theorem dX6_workOut_67 : decode cX6_workOut 67 = .ok (.dup, 1) := by decide +kernel
theorem dX6_workOut_68 : decode cX6_workOut 68 = .ok (.getfield 184, 3) := by decide +kernel
theorem dX6_workOut_71 : decode cX6_workOut 71 = .ok (.iconst 1, 1) := by decide +kernel
theorem dX6_workOut_72 : decode cX6_workOut 72 = .ok (.isub, 1) := by decide +kernel
theorem dX6_workOut_73 : decode cX6_workOut 73 = .ok (.putfield 184, 3) := by decide +kernel
theorem dX6_workOut_76 : decode cX6_workOut 76 = .ok (.aload_n 0, 1) := by decide +kernel
theorem dX6_workOut_77 : decode cX6_workOut 77 = .ok (.getfield 88, 3) := by decide +kernel
theorem dX6_workOut_80 : decode cX6_workOut 80 = .ok (.aload_n 0, 1) := by decide +kernel
theorem dX6_workOut_81 : decode cX6_workOut 81 = .ok (.getfield 184, 3) := by decide +kernel
theorem dX6_workOut_84 : decode cX6_workOut 84 = .ok (.laload, 1) := by decide +kernel
theorem dX6_workOut_85 : decode cX6_workOut 85 = .ok (.lconst 0, 1) := by decide +kernel
theorem dX6_workOut_86 : decode cX6_workOut 86 = .ok (.lcmp, 1) := by decide +kernel
theorem dX6_workOut_87 : decode cX6_workOut 87 = .ok (.ifCond .ne 8, 3) := by decide +kernel
theorem dX6_workOut_90 : decode cX6_workOut 90 = .ok (.iload 5, 2) := by decide +kernel
theorem dX6_workOut_92 : decode cX6_workOut 92 = .ok (.goto 4, 3) := by decide +kernel
theorem dX6_workOut_95 : decode cX6_workOut 95 = .ok (.iload_n 3, 1) := by decide +kernel
theorem dX6_workOut_96 : decode cX6_workOut 96 = .ok (.istore_n 3, 1) := by decide +kernel
theorem dX6_workOut_97 : decode cX6_workOut 97 = .ok (.goto 17, 3) := by decide +kernel
theorem dX6_workOut_100 : decode cX6_workOut 100 = .ok (.aload_n 0, 1) := by decide +kernel
theorem dX6_workOut_101 : decode cX6_workOut 101 = .ok (.iload_n 1, 1) := by decide +kernel
theorem dX6_workOut_102 : decode cX6_workOut 102 = .ok (.iload 4, 2) := by decide +kernel
theorem dX6_workOut_104 : decode cX6_workOut 104 = .ok (.iload 5, 2) := by decide +kernel
theorem dX6_workOut_106 : decode cX6_workOut 106 = .ok (.invokevirtual 187, 3) := by decide +kernel
theorem dX6_workOut_109 : decode cX6_workOut 109 = .ok (.ifCond .ne 5, 3) := by decide +kernel
theorem dX6_workOut_112 : decode cX6_workOut 112 = .ok (.iconst 0, 1) := by decide +kernel
theorem dX6_workOut_113 : decode cX6_workOut 113 = .ok (.ireturn, 1) := by decide +kernel
theorem dX6_workOut_114 : decode cX6_workOut 114 = .ok (.goto (-107), 3) := by decide +kernel
theorem dX6_workOut_117 : decode cX6_workOut 117 = .ok (.aload_n 0, 1) := by decide +kernel
theorem dX6_workOut_118 : decode cX6_workOut 118 = .ok (.getfield 85, 3) := by decide +kernel
theorem dX6_workOut_121 : decode cX6_workOut 121 = .ok (.iload_n 2, 1) := by decide +kernel
theorem dX6_workOut_122 : decode cX6_workOut 122 = .ok (.aload_n 0, 1) := by decide +kernel
theorem dX6_workOut_123 : decode cX6_workOut 123 = .ok (.getfield 88, 3) := by decide +kernel
theorem dX6_workOut_126 : decode cX6_workOut 126 = .ok (.iconst 0, 1) := by decide +kernel
theorem dX6_workOut_127 : decode cX6_workOut 127 = .ok (.laload, 1) := by decide +kernel
theorem dX6_workOut_128 : decode cX6_workOut 128 = .ok (.lastore, 1) := by decide +kernel
theorem dX6_workOut_129 : decode cX6_workOut 129 = .ok (.iconst 1, 1) := by decide +kernel
theorem dX6_workOut_130 : decode cX6_workOut 130 = .ok (.ireturn, 1) := by decide +kernel
theorem dX6_operate_0 : decode cX6_operate 0 = .ok (.iload_n 2, 1) := by decide +kernel
theorem dX6_operate_1 : decode cX6_operate 1 = .ok (.iconst 2, 1) := by decide +kernel
theorem dX6_operate_2 : decode cX6_operate 2 = .ok (.if_icmp .gt 7, 3) := by decide +kernel
theorem dX6_operate_5 : decode cX6_operate 5 = .ok (.iconst 1, 1) := by decide +kernel
theorem dX6_operate_6 : decode cX6_operate 6 = .ok (.goto 4, 3) := by decide +kernel
theorem dX6_operate_9 : decode cX6_operate 9 = .ok (.iconst 0, 1) := by decide +kernel
theorem dX6_operate_10 : decode cX6_operate 10 = .ok (.istore 4, 2) := by decide +kernel
theorem dX6_operate_12 : decode cX6_operate 12 = .ok (.iload_n 2, 1) := by decide +kernel
theorem dX6_operate_13 : decode cX6_operate 13 = .ok (.iconst 5, 1) := by decide +kernel
theorem dX6_operate_14 : decode cX6_operate 14 = .ok (.if_icmp .eq 9, 3) := by decide +kernel
theorem dX6_operate_17 : decode cX6_operate 17 = .ok (.iload_n 2, 1) := by decide +kernel
theorem dX6_operate_18 : decode cX6_operate 18 = .ok (.bipush 6, 2) := by decide +kernel
theorem dX6_operate_20 : decode cX6_operate 20 = .ok (.if_icmp .ne 7, 3) := by decide +kernel
theorem dX6_operate_23 : decode cX6_operate 23 = .ok (.iconst 1, 1) := by decide +kernel
theorem dX6_operate_24 : decode cX6_operate 24 = .ok (.goto 4, 3) := by decide +kernel
theorem dX6_operate_27 : decode cX6_operate 27 = .ok (.iconst 0, 1) := by decide +kernel
theorem dX6_operate_28 : decode cX6_operate 28 = .ok (.istore 5, 2) := by decide +kernel
theorem dX6_operate_30 : decode cX6_operate 30 = .ok (.iload 4, 2) := by decide +kernel
theorem dX6_operate_32 : decode cX6_operate 32 = .ok (.ifCond .eq 7, 3) := by decide +kernel
theorem dX6_operate_35 : decode cX6_operate 35 = .ok (.lconst 0, 1) := by decide +kernel
theorem dX6_operate_36 : decode cX6_operate 36 = .ok (.goto 14, 3) := by decide +kernel
theorem dX6_operate_39 : decode cX6_operate 39 = .ok (.aload_n 0, 1) := by decide +kernel
theorem dX6_operate_40 : decode cX6_operate 40 = .ok (.getfield 88, 3) := by decide +kernel
theorem dX6_operate_43 : decode cX6_operate 43 = .ok (.aload_n 0, 1) := by decide +kernel
theorem dX6_operate_44 : decode cX6_operate 44 = .ok (.getfield 184, 3) := by decide +kernel
theorem dX6_operate_47 : decode cX6_operate 47 = .ok (.iconst 1, 1) := by decide +kernel
theorem dX6_operate_48 : decode cX6_operate 48 = .ok (.isub, 1) := by decide +kernel
theorem dX6_operate_49 : decode cX6_operate 49 = .ok (.laload, 1) := by decide +kernel
theorem dX6_operate_50 : decode cX6_operate 50 = .ok (.lstore 6, 2) := by decide +kernel
theorem dX6_operate_52 : decode cX6_operate 52 = .ok (.iload 4, 2) := by decide +kernel
theorem dX6_operate_54 : decode cX6_operate 54 = .ok (.ifCond .ne 8, 3) := by decide +kernel
theorem dX6_operate_57 : decode cX6_operate 57 = .ok (.iload 5, 2) := by decide +kernel
theorem dX6_operate_59 : decode cX6_operate 59 = .ok (.ifCond .eq 7, 3) := by decide +kernel
theorem dX6_operate_62 : decode cX6_operate 62 = .ok (.lconst 0, 1) := by decide +kernel
theorem dX6_operate_63 : decode cX6_operate 63 = .ok (.goto 14, 3) := by decide +kernel
theorem dX6_operate_66 : decode cX6_operate 66 = .ok (.aload_n 0, 1) := by decide +kernel
theorem dX6_operate_67 : decode cX6_operate 67 = .ok (.getfield 88, 3) := by decide +kernel
theorem dX6_operate_70 : decode cX6_operate 70 = .ok (.aload_n 0, 1) := by decide +kernel
theorem dX6_operate_71 : decode cX6_operate 71 = .ok (.getfield 184, 3) := by decide +kernel
theorem dX6_operate_74 : decode cX6_operate 74 = .ok (.iconst 2, 1) := by decide +kernel
theorem dX6_operate_75 : decode cX6_operate 75 = .ok (.isub, 1) := by decide +kernel
theorem dX6_operate_76 : decode cX6_operate 76 = .ok (.laload, 1) := by decide +kernel
theorem dX6_operate_77 : decode cX6_operate 77 = .ok (.lstore 8, 2) := by decide +kernel
theorem dX6_operate_79 : decode cX6_operate 79 = .ok (.aload_n 0, 1) := by decide +kernel
theorem dX6_operate_80 : decode cX6_operate 80 = .ok (.iload 4, 2) := by decide +kernel
theorem dX6_operate_82 : decode cX6_operate 82 = .ok (.ifCond .eq 12, 3) := by decide +kernel
theorem dX6_operate_85 : decode cX6_operate 85 = .ok (.aload_n 0, 1) := by decide +kernel
theorem dX6_operate_86 : decode cX6_operate 86 = .ok (.getfield 184, 3) := by decide +kernel
theorem dX6_operate_89 : decode cX6_operate 89 = .ok (.iconst 1, 1) := by decide +kernel
theorem dX6_operate_90 : decode cX6_operate 90 = .ok (.iadd, 1) := by decide +kernel
theorem dX6_operate_91 : decode cX6_operate 91 = .ok (.goto 21, 3) := by decide +kernel
theorem dX6_operate_94 : decode cX6_operate 94 = .ok (.iload 5, 2) := by decide +kernel
theorem dX6_operate_96 : decode cX6_operate 96 = .ok (.ifCond .eq 10, 3) := by decide +kernel
theorem dX6_operate_99 : decode cX6_operate 99 = .ok (.aload_n 0, 1) := by decide +kernel
theorem dX6_operate_100 : decode cX6_operate 100 = .ok (.getfield 184, 3) := by decide +kernel
theorem dX6_operate_103 : decode cX6_operate 103 = .ok (.goto 9, 3) := by decide +kernel
theorem dX6_operate_106 : decode cX6_operate 106 = .ok (.aload_n 0, 1) := by decide +kernel
theorem dX6_operate_107 : decode cX6_operate 107 = .ok (.getfield 184, 3) := by decide +kernel
theorem dX6_operate_110 : decode cX6_operate 110 = .ok (.iconst 1, 1) := by decide +kernel
theorem dX6_operate_111 : decode cX6_operate 111 = .ok (.isub, 1) := by decide +kernel
theorem dX6_operate_112 : decode cX6_operate 112 = .ok (.putfield 184, 3) := by decide +kernel
theorem dX6_operate_115 : decode cX6_operate 115 = .ok (.lconst 0, 1) := by decide +kernel
theorem dX6_operate_116 : decode cX6_operate 116 = .ok (.lstore 10, 2) := by decide +kernel
theorem dX6_operate_118 : decode cX6_operate 118 = .ok (.iload_n 2, 1) := by decide +kernel
theorem dX6_operate_119 : decode cX6_operate 119 = .ok (.tableswitch 189 0 9 #[53, 60, 71, 82, 102, 122, 134, 151, 161, 171], 53) := by decide +kernel
theorem dX6_operate_172 : decode cX6_operate 172 = .ok (.iload_n 3, 1) := by decide +kernel
theorem dX6_operate_173 : decode cX6_operate 173 = .ok (.i2l, 1) := by decide +kernel
theorem dX6_operate_174 : decode cX6_operate 174 = .ok (.lstore 10, 2) := by decide +kernel
theorem dX6_operate_176 : decode cX6_operate 176 = .ok (.goto 147, 3) := by decide +kernel
theorem dX6_operate_179 : decode cX6_operate 179 = .ok (.aload_n 0, 1) := by decide +kernel
theorem dX6_operate_180 : decode cX6_operate 180 = .ok (.getfield 85, 3) := by decide +kernel
theorem dX6_operate_183 : decode cX6_operate 183 = .ok (.iload_n 3, 1) := by decide +kernel
theorem dX6_operate_184 : decode cX6_operate 184 = .ok (.laload, 1) := by decide +kernel
theorem dX6_operate_185 : decode cX6_operate 185 = .ok (.lstore 10, 2) := by decide +kernel
theorem dX6_operate_187 : decode cX6_operate 187 = .ok (.goto 136, 3) := by decide +kernel
theorem dX6_operate_190 : decode cX6_operate 190 = .ok (.aload_n 0, 1) := by decide +kernel
theorem dX6_operate_191 : decode cX6_operate 191 = .ok (.iload_n 1, 1) := by decide +kernel
theorem dX6_operate_192 : decode cX6_operate 192 = .ok (.iload_n 3, 1) := by decide +kernel
theorem dX6_operate_193 : decode cX6_operate 193 = .ok (.invokevirtual 191, 3) := by decide +kernel
theorem dX6_operate_196 : decode cX6_operate 196 = .ok (.lstore 10, 2) := by decide +kernel
theorem dX6_operate_198 : decode cX6_operate 198 = .ok (.goto 125, 3) := by decide +kernel
theorem dX6_operate_201 : decode cX6_operate 201 = .ok (.lload 8, 2) := by decide +kernel
theorem dX6_operate_203 : decode cX6_operate 203 = .ok (.lload 6, 2) := by decide +kernel
theorem dX6_operate_205 : decode cX6_operate 205 = .ok (.lcmp, 1) := by decide +kernel
theorem dX6_operate_206 : decode cX6_operate 206 = .ok (.ifCond .ge 8, 3) := by decide +kernel
theorem dX6_operate_209 : decode cX6_operate 209 = .ok (.lload 8, 2) := by decide +kernel
theorem dX6_operate_211 : decode cX6_operate 211 = .ok (.goto 5, 3) := by decide +kernel
theorem dX6_operate_214 : decode cX6_operate 214 = .ok (.lload 6, 2) := by decide +kernel
theorem dX6_operate_216 : decode cX6_operate 216 = .ok (.lstore 10, 2) := by decide +kernel
theorem dX6_operate_218 : decode cX6_operate 218 = .ok (.goto 105, 3) := by decide +kernel
theorem dX6_operate_221 : decode cX6_operate 221 = .ok (.lload 8, 2) := by decide +kernel
theorem dX6_operate_223 : decode cX6_operate 223 = .ok (.lload 6, 2) := by decide +kernel
theorem dX6_operate_225 : decode cX6_operate 225 = .ok (.lcmp, 1) := by decide +kernel
theorem dX6_operate_226 : decode cX6_operate 226 = .ok (.ifCond .le 8, 3) := by decide +kernel
theorem dX6_operate_229 : decode cX6_operate 229 = .ok (.lload 8, 2) := by decide +kernel
theorem dX6_operate_231 : decode cX6_operate 231 = .ok (.goto 5, 3) := by decide +kernel
theorem dX6_operate_234 : decode cX6_operate 234 = .ok (.lload 6, 2) := by decide +kernel
theorem dX6_operate_236 : decode cX6_operate 236 = .ok (.lstore 10, 2) := by decide +kernel
theorem dX6_operate_238 : decode cX6_operate 238 = .ok (.goto 85, 3) := by decide +kernel
theorem dX6_operate_241 : decode cX6_operate 241 = .ok (.aload_n 0, 1) := by decide +kernel
theorem dX6_operate_242 : decode cX6_operate 242 = .ok (.iload_n 3, 1) := by decide +kernel
theorem dX6_operate_243 : decode cX6_operate 243 = .ok (.lload 6, 2) := by decide +kernel
theorem dX6_operate_245 : decode cX6_operate 245 = .ok (.invokevirtual 195, 3) := by decide +kernel
theorem dX6_operate_248 : decode cX6_operate 248 = .ok (.lstore 10, 2) := by decide +kernel
theorem dX6_operate_250 : decode cX6_operate 250 = .ok (.goto 73, 3) := by decide +kernel
theorem dX6_operate_253 : decode cX6_operate 253 = .ok (.lload 6, 2) := by decide +kernel
theorem dX6_operate_255 : decode cX6_operate 255 = .ok (.iload_n 3, 1) := by decide +kernel
theorem dX6_operate_256 : decode cX6_operate 256 = .ok (.i2l, 1) := by decide +kernel
theorem dX6_operate_257 : decode cX6_operate 257 = .ok (.lmul, 1) := by decide +kernel
theorem dX6_operate_258 : decode cX6_operate 258 = .ok (.ldc2_w 199, 3) := by decide +kernel
theorem dX6_operate_261 : decode cX6_operate 261 = .ok (.iconst 2, 1) := by decide +kernel
theorem dX6_operate_262 : decode cX6_operate 262 = .ok (.invokestatic 173, 3) := by decide +kernel
theorem dX6_operate_265 : decode cX6_operate 265 = .ok (.lstore 10, 2) := by decide +kernel
theorem dX6_operate_267 : decode cX6_operate 267 = .ok (.goto 56, 3) := by decide +kernel
theorem dX6_operate_270 : decode cX6_operate 270 = .ok (.lload 8, 2) := by decide +kernel
theorem dX6_operate_272 : decode cX6_operate 272 = .ok (.lload 6, 2) := by decide +kernel
theorem dX6_operate_274 : decode cX6_operate 274 = .ok (.ladd, 1) := by decide +kernel
theorem dX6_operate_275 : decode cX6_operate 275 = .ok (.lstore 10, 2) := by decide +kernel
theorem dX6_operate_277 : decode cX6_operate 277 = .ok (.goto 46, 3) := by decide +kernel
theorem dX6_operate_280 : decode cX6_operate 280 = .ok (.lload 8, 2) := by decide +kernel
theorem dX6_operate_282 : decode cX6_operate 282 = .ok (.lload 6, 2) := by decide +kernel
theorem dX6_operate_284 : decode cX6_operate 284 = .ok (.lsub, 1) := by decide +kernel
theorem dX6_operate_285 : decode cX6_operate 285 = .ok (.lstore 10, 2) := by decide +kernel
theorem dX6_operate_287 : decode cX6_operate 287 = .ok (.goto 36, 3) := by decide +kernel
theorem dX6_operate_290 : decode cX6_operate 290 = .ok (.lload 8, 2) := by decide +kernel
theorem dX6_operate_292 : decode cX6_operate 292 = .ok (.lload 6, 2) := by decide +kernel
theorem dX6_operate_294 : decode cX6_operate 294 = .ok (.lcmp, 1) := by decide +kernel
theorem dX6_operate_295 : decode cX6_operate 295 = .ok (.ifCond .ge 7, 3) := by decide +kernel
theorem dX6_operate_298 : decode cX6_operate 298 = .ok (.lconst 1, 1) := by decide +kernel
theorem dX6_operate_299 : decode cX6_operate 299 = .ok (.goto 4, 3) := by decide +kernel
theorem dX6_operate_302 : decode cX6_operate 302 = .ok (.lconst 0, 1) := by decide +kernel
theorem dX6_operate_303 : decode cX6_operate 303 = .ok (.lstore 10, 2) := by decide +kernel
theorem dX6_operate_305 : decode cX6_operate 305 = .ok (.goto 18, 3) := by decide +kernel
theorem dX6_operate_308 : decode cX6_operate 308 = .ok (.lload 8, 2) := by decide +kernel
theorem dX6_operate_310 : decode cX6_operate 310 = .ok (.lload 6, 2) := by decide +kernel
theorem dX6_operate_312 : decode cX6_operate 312 = .ok (.lcmp, 1) := by decide +kernel
theorem dX6_operate_313 : decode cX6_operate 313 = .ok (.ifCond .le 7, 3) := by decide +kernel
theorem dX6_operate_316 : decode cX6_operate 316 = .ok (.lconst 1, 1) := by decide +kernel
theorem dX6_operate_317 : decode cX6_operate 317 = .ok (.goto 4, 3) := by decide +kernel
theorem dX6_operate_320 : decode cX6_operate 320 = .ok (.lconst 0, 1) := by decide +kernel
theorem dX6_operate_321 : decode cX6_operate 321 = .ok (.lstore 10, 2) := by decide +kernel
theorem dX6_operate_323 : decode cX6_operate 323 = .ok (.aload_n 0, 1) := by decide +kernel
theorem dX6_operate_324 : decode cX6_operate 324 = .ok (.getfield 88, 3) := by decide +kernel
theorem dX6_operate_327 : decode cX6_operate 327 = .ok (.aload_n 0, 1) := by decide +kernel
theorem dX6_operate_328 : decode cX6_operate 328 = .ok (.getfield 184, 3) := by decide +kernel
theorem dX6_operate_331 : decode cX6_operate 331 = .ok (.iconst 1, 1) := by decide +kernel
theorem dX6_operate_332 : decode cX6_operate 332 = .ok (.isub, 1) := by decide +kernel
theorem dX6_operate_333 : decode cX6_operate 333 = .ok (.lload 10, 2) := by decide +kernel
theorem dX6_operate_335 : decode cX6_operate 335 = .ok (.lastore, 1) := by decide +kernel
theorem dX6_operate_336 : decode cX6_operate 336 = .ok (.lload 10, 2) := by decide +kernel
theorem dX6_operate_338 : decode cX6_operate 338 = .ok (.ldc2_w 201, 3) := by decide +kernel
theorem dX6_operate_341 : decode cX6_operate 341 = .ok (.ldc2_w 203, 3) := by decide +kernel
theorem dX6_operate_344 : decode cX6_operate 344 = .ok (.invokestatic 137, 3) := by decide +kernel
theorem dX6_operate_347 : decode cX6_operate 347 = .ok (.ireturn, 1) := by decide +kernel
theorem dX6_assess_0 : decode cX6_assess 0 = .ok (.aload_n 0, 1) := by decide +kernel
theorem dX6_assess_1 : decode cX6_assess 1 = .ok (.iconst 0, 1) := by decide +kernel
theorem dX6_assess_2 : decode cX6_assess 2 = .ok (.putfield 91, 3) := by decide +kernel
theorem dX6_assess_5 : decode cX6_assess 5 = .ok (.iload_n 1, 1) := by decide +kernel
theorem dX6_assess_6 : decode cX6_assess 6 = .ok (.i2l, 1) := by decide +kernel
theorem dX6_assess_7 : decode cX6_assess 7 = .ok (.lconst 0, 1) := by decide +kernel
theorem dX6_assess_8 : decode cX6_assess 8 = .ok (.ldc2_w 135, 3) := by decide +kernel
theorem dX6_assess_11 : decode cX6_assess 11 = .ok (.invokestatic 137, 3) := by decide +kernel
theorem dX6_assess_14 : decode cX6_assess 14 = .ok (.ifCond .eq 15, 3) := by decide +kernel
theorem dX6_assess_17 : decode cX6_assess 17 = .ok (.iload_n 2, 1) := by decide +kernel
theorem dX6_assess_18 : decode cX6_assess 18 = .ok (.i2l, 1) := by decide +kernel
theorem dX6_assess_19 : decode cX6_assess 19 = .ok (.lconst 0, 1) := by decide +kernel
theorem dX6_assess_20 : decode cX6_assess 20 = .ok (.ldc2_w 180, 3) := by decide +kernel
theorem dX6_assess_23 : decode cX6_assess 23 = .ok (.invokestatic 137, 3) := by decide +kernel
theorem dX6_assess_26 : decode cX6_assess 26 = .ok (.ifCond .ne 10, 3) := by decide +kernel
theorem dX6_assess_29 : decode cX6_assess 29 = .ok (.aload_n 0, 1) := by decide +kernel
theorem dX6_assess_30 : decode cX6_assess 30 = .ok (.iconst 1, 1) := by decide +kernel
theorem dX6_assess_31 : decode cX6_assess 31 = .ok (.invokevirtual 163, 3) := by decide +kernel
theorem dX6_assess_34 : decode cX6_assess 34 = .ok (.i2l, 1) := by decide +kernel
theorem dX6_assess_35 : decode cX6_assess 35 = .ok (.lreturn, 1) := by decide +kernel
theorem dX6_assess_36 : decode cX6_assess 36 = .ok (.aload_n 0, 1) := by decide +kernel
theorem dX6_assess_37 : decode cX6_assess 37 = .ok (.invokevirtual 177, 3) := by decide +kernel
theorem dX6_assess_40 : decode cX6_assess 40 = .ok (.bipush 12, 2) := by decide +kernel
theorem dX6_assess_42 : decode cX6_assess 42 = .ok (.if_icmp .lt 14, 3) := by decide +kernel
theorem dX6_assess_45 : decode cX6_assess 45 = .ok (.aload_n 0, 1) := by decide +kernel
theorem dX6_assess_46 : decode cX6_assess 46 = .ok (.getfield 58, 3) := by decide +kernel
theorem dX6_assess_49 : decode cX6_assess 49 = .ok (.iload_n 1, 1) := by decide +kernel
theorem dX6_assess_50 : decode cX6_assess 50 = .ok (.iaload, 1) := by decide +kernel
theorem dX6_assess_51 : decode cX6_assess 51 = .ok (.bipush 24, 2) := by decide +kernel
theorem dX6_assess_53 : decode cX6_assess 53 = .ok (.if_icmp .ne 10, 3) := by decide +kernel
theorem dX6_assess_56 : decode cX6_assess 56 = .ok (.aload_n 0, 1) := by decide +kernel
theorem dX6_assess_57 : decode cX6_assess 57 = .ok (.iconst 2, 1) := by decide +kernel
theorem dX6_assess_58 : decode cX6_assess 58 = .ok (.invokevirtual 163, 3) := by decide +kernel
theorem dX6_assess_61 : decode cX6_assess 61 = .ok (.i2l, 1) := by decide +kernel
theorem dX6_assess_62 : decode cX6_assess 62 = .ok (.lreturn, 1) := by decide +kernel
theorem dX6_assess_63 : decode cX6_assess 63 = .ok (.iconst 4, 1) := by decide +kernel
theorem dX6_assess_64 : decode cX6_assess 64 = .ok (.iload_n 1, 1) := by decide +kernel
theorem dX6_assess_65 : decode cX6_assess 65 = .ok (.imul, 1) := by decide +kernel
theorem dX6_assess_66 : decode cX6_assess 66 = .ok (.iload_n 2, 1) := by decide +kernel
theorem dX6_assess_67 : decode cX6_assess 67 = .ok (.iadd, 1) := by decide +kernel
theorem dX6_assess_68 : decode cX6_assess 68 = .ok (.istore_n 3, 1) := by decide +kernel
theorem dX6_assess_69 : decode cX6_assess 69 = .ok (.iconst 0, 1) := by decide +kernel
theorem dX6_assess_70 : decode cX6_assess 70 = .ok (.istore 4, 2) := by decide +kernel
theorem dX6_assess_72 : decode cX6_assess 72 = .ok (.iload 4, 2) := by decide +kernel
theorem dX6_assess_74 : decode cX6_assess 74 = .ok (.bipush 12, 2) := by decide +kernel
theorem dX6_assess_76 : decode cX6_assess 76 = .ok (.if_icmp .ge 68, 3) := by decide +kernel
theorem dX6_assess_79 : decode cX6_assess 79 = .ok (.aload_n 0, 1) := by decide +kernel
theorem dX6_assess_80 : decode cX6_assess 80 = .ok (.getfield 82, 3) := by decide +kernel
theorem dX6_assess_83 : decode cX6_assess 83 = .ok (.iload 4, 2) := by decide +kernel
theorem dX6_assess_85 : decode cX6_assess 85 = .ok (.iaload, 1) := by decide +kernel
theorem dX6_assess_86 : decode cX6_assess 86 = .ok (.istore 5, 2) := by decide +kernel
theorem dX6_assess_88 : decode cX6_assess 88 = .ok (.aload_n 0, 1) := by decide +kernel
theorem dX6_assess_89 : decode cX6_assess 89 = .ok (.getfield 13, 3) := by decide +kernel
theorem dX6_assess_92 : decode cX6_assess 92 = .ok (.iload 5, 2) := by decide +kernel
theorem dX6_assess_94 : decode cX6_assess 94 = .ok (.baload, 1) := by decide +kernel
theorem dX6_assess_95 : decode cX6_assess 95 = .ok (.ifCond .ne 26, 3) := by decide +kernel
theorem dX6_assess_98 : decode cX6_assess 98 = .ok (.aload_n 0, 1) := by decide +kernel
theorem dX6_assess_99 : decode cX6_assess 99 = .ok (.getfield 85, 3) := by decide +kernel
theorem dX6_assess_102 : decode cX6_assess 102 = .ok (.iload 5, 2) := by decide +kernel
theorem dX6_assess_104 : decode cX6_assess 104 = .ok (.aload_n 0, 1) := by decide +kernel
theorem dX6_assess_105 : decode cX6_assess 105 = .ok (.getfield 45, 3) := by decide +kernel
theorem dX6_assess_108 : decode cX6_assess 108 = .ok (.bipush 12, 2) := by decide +kernel
theorem dX6_assess_110 : decode cX6_assess 110 = .ok (.iload_n 3, 1) := by decide +kernel
theorem dX6_assess_111 : decode cX6_assess 111 = .ok (.imul, 1) := by decide +kernel
theorem dX6_assess_112 : decode cX6_assess 112 = .ok (.iload 5, 2) := by decide +kernel
theorem dX6_assess_114 : decode cX6_assess 114 = .ok (.iadd, 1) := by decide +kernel
theorem dX6_assess_115 : decode cX6_assess 115 = .ok (.iaload, 1) := by decide +kernel
theorem dX6_assess_116 : decode cX6_assess 116 = .ok (.i2l, 1) := by decide +kernel
theorem dX6_assess_117 : decode cX6_assess 117 = .ok (.lastore, 1) := by decide +kernel
theorem dX6_assess_118 : decode cX6_assess 118 = .ok (.goto 20, 3) := by decide +kernel
theorem dX6_assess_121 : decode cX6_assess 121 = .ok (.aload_n 0, 1) := by decide +kernel
theorem dX6_assess_122 : decode cX6_assess 122 = .ok (.iload_n 3, 1) := by decide +kernel
theorem dX6_assess_123 : decode cX6_assess 123 = .ok (.iload 5, 2) := by decide +kernel
theorem dX6_assess_125 : decode cX6_assess 125 = .ok (.invokevirtual 205, 3) := by decide +kernel
theorem dX6_assess_128 : decode cX6_assess 128 = .ok (.ifCond .ne 10, 3) := by decide +kernel
theorem dX6_assess_131 : decode cX6_assess 131 = .ok (.aload_n 0, 1) := by decide +kernel
theorem dX6_assess_132 : decode cX6_assess 132 = .ok (.iconst 3, 1) := by decide +kernel
theorem dX6_assess_133 : decode cX6_assess 133 = .ok (.invokevirtual 163, 3) := by decide +kernel
theorem dX6_assess_136 : decode cX6_assess 136 = .ok (.i2l, 1) := by decide +kernel
theorem dX6_assess_137 : decode cX6_assess 137 = .ok (.lreturn, 1) := by decide +kernel
theorem dX6_assess_138 : decode cX6_assess 138 = .ok (.iinc 4 1, 3) := by decide +kernel
theorem dX6_assess_141 : decode cX6_assess 141 = .ok (.goto (-69), 3) := by decide +kernel
theorem dX6_assess_144 : decode cX6_assess 144 = .ok (.aload_n 0, 1) := by decide +kernel
theorem dX6_assess_145 : decode cX6_assess 145 = .ok (.getfield 85, 3) := by decide +kernel
theorem dX6_assess_148 : decode cX6_assess 148 = .ok (.aload_n 0, 1) := by decide +kernel
theorem dX6_assess_149 : decode cX6_assess 149 = .ok (.getfield 29, 3) := by decide +kernel
theorem dX6_assess_152 : decode cX6_assess 152 = .ok (.laload, 1) := by decide +kernel
theorem dX6_assess_153 : decode cX6_assess 153 = .ok (.lstore 4, 2) := by decide +kernel
theorem dX6_assess_155 : decode cX6_assess 155 = .ok (.aload_n 0, 1) := by decide +kernel
theorem dX6_assess_156 : decode cX6_assess 156 = .ok (.iload_n 1, 1) := by decide +kernel
theorem dX6_assess_157 : decode cX6_assess 157 = .ok (.iconst 0, 1) := by decide +kernel
theorem dX6_assess_158 : decode cX6_assess 158 = .ok (.iload_n 2, 1) := by decide +kernel
theorem dX6_assess_159 : decode cX6_assess 159 = .ok (.lload 4, 2) := by decide +kernel
theorem dX6_assess_161 : decode cX6_assess 161 = .ok (.aload_n 0, 1) := by decide +kernel
theorem dX6_assess_162 : decode cX6_assess 162 = .ok (.getfield 48, 3) := by decide +kernel
theorem dX6_assess_165 : decode cX6_assess 165 = .ok (.iload_n 3, 1) := by decide +kernel
theorem dX6_assess_166 : decode cX6_assess 166 = .ok (.baload, 1) := by decide +kernel
theorem dX6_assess_167 : decode cX6_assess 167 = .ok (.ifCond .eq 12, 3) := by decide +kernel
theorem dX6_assess_170 : decode cX6_assess 170 = .ok (.aload_n 0, 1) := by decide +kernel
theorem dX6_assess_171 : decode cX6_assess 171 = .ok (.getfield 55, 3) := by decide +kernel
theorem dX6_assess_174 : decode cX6_assess 174 = .ok (.iload_n 3, 1) := by decide +kernel
theorem dX6_assess_175 : decode cX6_assess 175 = .ok (.laload, 1) := by decide +kernel
theorem dX6_assess_176 : decode cX6_assess 176 = .ok (.goto 4, 3) := by decide +kernel
theorem dX6_assess_179 : decode cX6_assess 179 = .ok (.lconst 0, 1) := by decide +kernel
theorem dX6_assess_180 : decode cX6_assess 180 = .ok (.lsub, 1) := by decide +kernel
theorem dX6_assess_181 : decode cX6_assess 181 = .ok (.invokevirtual 208, 3) := by decide +kernel
theorem dX6_assess_184 : decode cX6_assess 184 = .ok (.iconst 0, 1) := by decide +kernel
theorem dX6_assess_185 : decode cX6_assess 185 = .ok (.istore 6, 2) := by decide +kernel
theorem dX6_assess_187 : decode cX6_assess 187 = .ok (.iload 6, 2) := by decide +kernel
theorem dX6_assess_189 : decode cX6_assess 189 = .ok (.bipush 12, 2) := by decide +kernel
theorem dX6_assess_191 : decode cX6_assess 191 = .ok (.if_icmp .ge 28, 3) := by decide +kernel
theorem dX6_assess_194 : decode cX6_assess 194 = .ok (.aload_n 0, 1) := by decide +kernel
theorem dX6_assess_195 : decode cX6_assess 195 = .ok (.getfield 51, 3) := by decide +kernel
theorem dX6_assess_198 : decode cX6_assess 198 = .ok (.bipush 12, 2) := by decide +kernel
theorem dX6_assess_200 : decode cX6_assess 200 = .ok (.iload_n 3, 1) := by decide +kernel
theorem dX6_assess_201 : decode cX6_assess 201 = .ok (.imul, 1) := by decide +kernel
theorem dX6_assess_202 : decode cX6_assess 202 = .ok (.iload 6, 2) := by decide +kernel
theorem dX6_assess_204 : decode cX6_assess 204 = .ok (.iadd, 1) := by decide +kernel
theorem dX6_assess_205 : decode cX6_assess 205 = .ok (.aload_n 0, 1) := by decide +kernel
theorem dX6_assess_206 : decode cX6_assess 206 = .ok (.getfield 85, 3) := by decide +kernel
theorem dX6_assess_209 : decode cX6_assess 209 = .ok (.iload 6, 2) := by decide +kernel
theorem dX6_assess_211 : decode cX6_assess 211 = .ok (.laload, 1) := by decide +kernel
theorem dX6_assess_212 : decode cX6_assess 212 = .ok (.lastore, 1) := by decide +kernel
theorem dX6_assess_213 : decode cX6_assess 213 = .ok (.iinc 6 1, 3) := by decide +kernel
theorem dX6_assess_216 : decode cX6_assess 216 = .ok (.goto (-29), 3) := by decide +kernel
theorem dX6_assess_219 : decode cX6_assess 219 = .ok (.aload_n 0, 1) := by decide +kernel
theorem dX6_assess_220 : decode cX6_assess 220 = .ok (.getfield 48, 3) := by decide +kernel
theorem dX6_assess_223 : decode cX6_assess 223 = .ok (.iload_n 3, 1) := by decide +kernel
theorem dX6_assess_224 : decode cX6_assess 224 = .ok (.iconst 1, 1) := by decide +kernel
theorem dX6_assess_225 : decode cX6_assess 225 = .ok (.bastore, 1) := by decide +kernel
theorem dX6_assess_226 : decode cX6_assess 226 = .ok (.aload_n 0, 1) := by decide +kernel
theorem dX6_assess_227 : decode cX6_assess 227 = .ok (.getfield 55, 3) := by decide +kernel
theorem dX6_assess_230 : decode cX6_assess 230 = .ok (.iload_n 3, 1) := by decide +kernel
theorem dX6_assess_231 : decode cX6_assess 231 = .ok (.lload 4, 2) := by decide +kernel
theorem dX6_assess_233 : decode cX6_assess 233 = .ok (.lastore, 1) := by decide +kernel
theorem dX6_assess_234 : decode cX6_assess 234 = .ok (.lload 4, 2) := by decide +kernel
theorem dX6_assess_236 : decode cX6_assess 236 = .ok (.lreturn, 1) := by decide +kernel
theorem dX6_post_0 : decode cX6_post 0 = .ok (.bipush 24, 2) := by decide +kernel
theorem dX6_post_2 : decode cX6_post 2 = .ok (.iload_n 1, 1) := by decide +kernel
theorem dX6_post_3 : decode cX6_post 3 = .ok (.imul, 1) := by decide +kernel
theorem dX6_post_4 : decode cX6_post 4 = .ok (.aload_n 0, 1) := by decide +kernel
theorem dX6_post_5 : decode cX6_post 5 = .ok (.getfield 58, 3) := by decide +kernel
theorem dX6_post_8 : decode cX6_post 8 = .ok (.iload_n 1, 1) := by decide +kernel
theorem dX6_post_9 : decode cX6_post 9 = .ok (.iaload, 1) := by decide +kernel
theorem dX6_post_10 : decode cX6_post 10 = .ok (.iadd, 1) := by decide +kernel
theorem dX6_post_11 : decode cX6_post 11 = .ok (.istore 6, 2) := by decide +kernel
theorem dX6_post_13 : decode cX6_post 13 = .ok (.aload_n 0, 1) := by decide +kernel
theorem dX6_post_14 : decode cX6_post 14 = .ok (.getfield 61, 3) := by decide +kernel
theorem dX6_post_17 : decode cX6_post 17 = .ok (.iload 6, 2) := by decide +kernel
theorem dX6_post_19 : decode cX6_post 19 = .ok (.iload_n 2, 1) := by decide +kernel
theorem dX6_post_20 : decode cX6_post 20 = .ok (.iastore, 1) := by decide +kernel
theorem dX6_post_21 : decode cX6_post 21 = .ok (.aload_n 0, 1) := by decide +kernel
theorem dX6_post_22 : decode cX6_post 22 = .ok (.getfield 64, 3) := by decide +kernel
theorem dX6_post_25 : decode cX6_post 25 = .ok (.iload 6, 2) := by decide +kernel
theorem dX6_post_27 : decode cX6_post 27 = .ok (.iload_n 3, 1) := by decide +kernel
theorem dX6_post_28 : decode cX6_post 28 = .ok (.iastore, 1) := by decide +kernel
theorem dX6_post_29 : decode cX6_post 29 = .ok (.aload_n 0, 1) := by decide +kernel
theorem dX6_post_30 : decode cX6_post 30 = .ok (.getfield 67, 3) := by decide +kernel
theorem dX6_post_33 : decode cX6_post 33 = .ok (.iload 6, 2) := by decide +kernel
theorem dX6_post_35 : decode cX6_post 35 = .ok (.lload 4, 2) := by decide +kernel
theorem dX6_post_37 : decode cX6_post 37 = .ok (.lastore, 1) := by decide +kernel
theorem dX6_post_38 : decode cX6_post 38 = .ok (.aload_n 0, 1) := by decide +kernel
theorem dX6_post_39 : decode cX6_post 39 = .ok (.getfield 58, 3) := by decide +kernel
theorem dX6_post_42 : decode cX6_post 42 = .ok (.iload_n 1, 1) := by decide +kernel
theorem dX6_post_43 : decode cX6_post 43 = .ok (.dup2, 1) := by decide +kernel
theorem dX6_post_44 : decode cX6_post 44 = .ok (.iaload, 1) := by decide +kernel
theorem dX6_post_45 : decode cX6_post 45 = .ok (.iconst 1, 1) := by decide +kernel
theorem dX6_post_46 : decode cX6_post 46 = .ok (.iadd, 1) := by decide +kernel
theorem dX6_post_47 : decode cX6_post 47 = .ok (.iastore, 1) := by decide +kernel
theorem dX6_post_48 : decode cX6_post 48 = .ok (.return_, 1) := by decide +kernel
theorem dX6_there_0 : decode cX6_there 0 = .ok (.aload_n 0, 1) := by decide +kernel
theorem dX6_there_1 : decode cX6_there 1 = .ok (.iconst 0, 1) := by decide +kernel
theorem dX6_there_2 : decode cX6_there 2 = .ok (.putfield 91, 3) := by decide +kernel
theorem dX6_there_5 : decode cX6_there 5 = .ok (.iload_n 1, 1) := by decide +kernel
theorem dX6_there_6 : decode cX6_there 6 = .ok (.i2l, 1) := by decide +kernel
theorem dX6_there_7 : decode cX6_there 7 = .ok (.lconst 0, 1) := by decide +kernel
theorem dX6_there_8 : decode cX6_there 8 = .ok (.ldc2_w 135, 3) := by decide +kernel
theorem dX6_there_11 : decode cX6_there 11 = .ok (.invokestatic 137, 3) := by decide +kernel
theorem dX6_there_14 : decode cX6_there 14 = .ok (.ifCond .eq 27, 3) := by decide +kernel
theorem dX6_there_17 : decode cX6_there 17 = .ok (.iload_n 2, 1) := by decide +kernel
theorem dX6_there_18 : decode cX6_there 18 = .ok (.i2l, 1) := by decide +kernel
theorem dX6_there_19 : decode cX6_there 19 = .ok (.lconst 0, 1) := by decide +kernel
theorem dX6_there_20 : decode cX6_there 20 = .ok (.ldc2_w 180, 3) := by decide +kernel
theorem dX6_there_23 : decode cX6_there 23 = .ok (.invokestatic 137, 3) := by decide +kernel
theorem dX6_there_26 : decode cX6_there 26 = .ok (.ifCond .eq 15, 3) := by decide +kernel
theorem dX6_there_29 : decode cX6_there 29 = .ok (.iload_n 3, 1) := by decide +kernel
theorem dX6_there_30 : decode cX6_there 30 = .ok (.i2l, 1) := by decide +kernel
theorem dX6_there_31 : decode cX6_there 31 = .ok (.lconst 0, 1) := by decide +kernel
theorem dX6_there_32 : decode cX6_there 32 = .ok (.ldc2_w 161, 3) := by decide +kernel
theorem dX6_there_35 : decode cX6_there 35 = .ok (.invokestatic 137, 3) := by decide +kernel
theorem dX6_there_38 : decode cX6_there 38 = .ok (.ifCond .ne 11, 3) := by decide +kernel
theorem dX6_there_41 : decode cX6_there 41 = .ok (.aload_n 0, 1) := by decide +kernel
theorem dX6_there_42 : decode cX6_there 42 = .ok (.iconst 1, 1) := by decide +kernel
theorem dX6_there_43 : decode cX6_there 43 = .ok (.putfield 91, 3) := by decide +kernel
theorem dX6_there_46 : decode cX6_there 46 = .ok (.goto 21, 3) := by decide +kernel
theorem dX6_there_49 : decode cX6_there 49 = .ok (.aload_n 0, 1) := by decide +kernel
theorem dX6_there_50 : decode cX6_there 50 = .ok (.getfield 48, 3) := by decide +kernel
theorem dX6_there_53 : decode cX6_there 53 = .ok (.iconst 4, 1) := by decide +kernel
theorem dX6_there_54 : decode cX6_there 54 = .ok (.iload_n 1, 1) := by decide +kernel
theorem dX6_there_55 : decode cX6_there 55 = .ok (.imul, 1) := by decide +kernel
theorem dX6_there_56 : decode cX6_there 56 = .ok (.iload_n 2, 1) := by decide +kernel
theorem dX6_there_57 : decode cX6_there 57 = .ok (.iadd, 1) := by decide +kernel
theorem dX6_there_58 : decode cX6_there 58 = .ok (.baload, 1) := by decide +kernel
theorem dX6_there_59 : decode cX6_there 59 = .ok (.ifCond .ne 8, 3) := by decide +kernel
theorem dX6_there_62 : decode cX6_there 62 = .ok (.aload_n 0, 1) := by decide +kernel
theorem dX6_there_63 : decode cX6_there 63 = .ok (.iconst 2, 1) := by decide +kernel
theorem dX6_there_64 : decode cX6_there 64 = .ok (.putfield 91, 3) := by decide +kernel
theorem dX6_there_67 : decode cX6_there 67 = .ok (.aload_n 0, 1) := by decide +kernel
theorem dX6_there_68 : decode cX6_there 68 = .ok (.getfield 91, 3) := by decide +kernel
theorem dX6_there_71 : decode cX6_there 71 = .ok (.ifCond .ne 7, 3) := by decide +kernel
theorem dX6_there_74 : decode cX6_there 74 = .ok (.iconst 1, 1) := by decide +kernel
theorem dX6_there_75 : decode cX6_there 75 = .ok (.goto 4, 3) := by decide +kernel
theorem dX6_there_78 : decode cX6_there 78 = .ok (.iconst 0, 1) := by decide +kernel
theorem dX6_there_79 : decode cX6_there 79 = .ok (.ireturn, 1) := by decide +kernel
theorem dX6_value_0 : decode cX6_value 0 = .ok (.aload_n 0, 1) := by decide +kernel
theorem dX6_value_1 : decode cX6_value 1 = .ok (.iload_n 1, 1) := by decide +kernel
theorem dX6_value_2 : decode cX6_value 2 = .ok (.iload_n 2, 1) := by decide +kernel
theorem dX6_value_3 : decode cX6_value 3 = .ok (.iload_n 3, 1) := by decide +kernel
theorem dX6_value_4 : decode cX6_value 4 = .ok (.invokevirtual 212, 3) := by decide +kernel
theorem dX6_value_7 : decode cX6_value 7 = .ok (.ifCond .eq 21, 3) := by decide +kernel
theorem dX6_value_10 : decode cX6_value 10 = .ok (.aload_n 0, 1) := by decide +kernel
theorem dX6_value_11 : decode cX6_value 11 = .ok (.getfield 51, 3) := by decide +kernel
theorem dX6_value_14 : decode cX6_value 14 = .ok (.bipush 12, 2) := by decide +kernel
theorem dX6_value_16 : decode cX6_value 16 = .ok (.iconst 4, 1) := by decide +kernel
theorem dX6_value_17 : decode cX6_value 17 = .ok (.iload_n 1, 1) := by decide +kernel
theorem dX6_value_18 : decode cX6_value 18 = .ok (.imul, 1) := by decide +kernel
theorem dX6_value_19 : decode cX6_value 19 = .ok (.iload_n 2, 1) := by decide +kernel
theorem dX6_value_20 : decode cX6_value 20 = .ok (.iadd, 1) := by decide +kernel
theorem dX6_value_21 : decode cX6_value 21 = .ok (.imul, 1) := by decide +kernel
theorem dX6_value_22 : decode cX6_value 22 = .ok (.iload_n 3, 1) := by decide +kernel
theorem dX6_value_23 : decode cX6_value 23 = .ok (.iadd, 1) := by decide +kernel
theorem dX6_value_24 : decode cX6_value 24 = .ok (.laload, 1) := by decide +kernel
theorem dX6_value_25 : decode cX6_value 25 = .ok (.goto 4, 3) := by decide +kernel
theorem dX6_value_28 : decode cX6_value 28 = .ok (.lconst 0, 1) := by decide +kernel
theorem dX6_value_29 : decode cX6_value 29 = .ok (.lreturn, 1) := by decide +kernel
theorem dX6_share_0 : decode cX6_share 0 = .ok (.aload_n 0, 1) := by decide +kernel
theorem dX6_share_1 : decode cX6_share 1 = .ok (.iload_n 1, 1) := by decide +kernel
theorem dX6_share_2 : decode cX6_share 2 = .ok (.iload_n 2, 1) := by decide +kernel
theorem dX6_share_3 : decode cX6_share 3 = .ok (.iload_n 3, 1) := by decide +kernel
theorem dX6_share_4 : decode cX6_share 4 = .ok (.invokevirtual 212, 3) := by decide +kernel
theorem dX6_share_7 : decode cX6_share 7 = .ok (.ifCond .ne 5, 3) := by decide +kernel
theorem dX6_share_10 : decode cX6_share 10 = .ok (.dconst 0, 1) := by decide +kernel
theorem dX6_share_11 : decode cX6_share 11 = .ok (.dreturn, 1) := by decide +kernel
theorem dX6_share_12 : decode cX6_share 12 = .ok (.iconst 4, 1) := by decide +kernel
theorem dX6_share_13 : decode cX6_share 13 = .ok (.iload_n 1, 1) := by decide +kernel
theorem dX6_share_14 : decode cX6_share 14 = .ok (.imul, 1) := by decide +kernel
theorem dX6_share_15 : decode cX6_share 15 = .ok (.iload_n 2, 1) := by decide +kernel
theorem dX6_share_16 : decode cX6_share 16 = .ok (.iadd, 1) := by decide +kernel
theorem dX6_share_17 : decode cX6_share 17 = .ok (.istore 4, 2) := by decide +kernel
theorem dX6_share_19 : decode cX6_share 19 = .ok (.aload_n 0, 1) := by decide +kernel
theorem dX6_share_20 : decode cX6_share 20 = .ok (.getfield 55, 3) := by decide +kernel
theorem dX6_share_23 : decode cX6_share 23 = .ok (.iload 4, 2) := by decide +kernel
theorem dX6_share_25 : decode cX6_share 25 = .ok (.laload, 1) := by decide +kernel
theorem dX6_share_26 : decode cX6_share 26 = .ok (.lconst 0, 1) := by decide +kernel
theorem dX6_share_27 : decode cX6_share 27 = .ok (.lcmp, 1) := by decide +kernel
theorem dX6_share_28 : decode cX6_share 28 = .ok (.ifCond .ne 7, 3) := by decide +kernel
theorem dX6_share_31 : decode cX6_share 31 = .ok (.dconst 0, 1) := by decide +kernel
theorem dX6_share_32 : decode cX6_share 32 = .ok (.goto 25, 3) := by decide +kernel
theorem dX6_share_35 : decode cX6_share 35 = .ok (.aload_n 0, 1) := by decide +kernel
theorem dX6_share_36 : decode cX6_share 36 = .ok (.getfield 51, 3) := by decide +kernel
theorem dX6_share_39 : decode cX6_share 39 = .ok (.bipush 12, 2) := by decide +kernel
theorem dX6_share_41 : decode cX6_share 41 = .ok (.iload 4, 2) := by decide +kernel
theorem dX6_share_43 : decode cX6_share 43 = .ok (.imul, 1) := by decide +kernel
theorem dX6_share_44 : decode cX6_share 44 = .ok (.iload_n 3, 1) := by decide +kernel
theorem dX6_share_45 : decode cX6_share 45 = .ok (.iadd, 1) := by decide +kernel
theorem dX6_share_46 : decode cX6_share 46 = .ok (.laload, 1) := by decide +kernel
theorem dX6_share_47 : decode cX6_share 47 = .ok (.l2d, 1) := by decide +kernel
theorem dX6_share_48 : decode cX6_share 48 = .ok (.aload_n 0, 1) := by decide +kernel
theorem dX6_share_49 : decode cX6_share 49 = .ok (.getfield 55, 3) := by decide +kernel
theorem dX6_share_52 : decode cX6_share 52 = .ok (.iload 4, 2) := by decide +kernel
theorem dX6_share_54 : decode cX6_share 54 = .ok (.laload, 1) := by decide +kernel
theorem dX6_share_55 : decode cX6_share 55 = .ok (.l2d, 1) := by decide +kernel
theorem dX6_share_56 : decode cX6_share 56 = .ok (.ddiv, 1) := by decide +kernel
theorem dX6_share_57 : decode cX6_share 57 = .ok (.dreturn, 1) := by decide +kernel
theorem dX6_sum_0 : decode cX6_sum 0 = .ok (.lconst 0, 1) := by decide +kernel
theorem dX6_sum_1 : decode cX6_sum 1 = .ok (.lstore_n 2, 1) := by decide +kernel
theorem dX6_sum_2 : decode cX6_sum 2 = .ok (.iconst 0, 1) := by decide +kernel
theorem dX6_sum_3 : decode cX6_sum 3 = .ok (.istore 4, 2) := by decide +kernel
theorem dX6_sum_5 : decode cX6_sum 5 = .ok (.iload 4, 2) := by decide +kernel
theorem dX6_sum_7 : decode cX6_sum 7 = .ok (.aload_n 0, 1) := by decide +kernel
theorem dX6_sum_8 : decode cX6_sum 8 = .ok (.getfield 58, 3) := by decide +kernel
theorem dX6_sum_11 : decode cX6_sum 11 = .ok (.iload_n 1, 1) := by decide +kernel
theorem dX6_sum_12 : decode cX6_sum 12 = .ok (.iaload, 1) := by decide +kernel
theorem dX6_sum_13 : decode cX6_sum 13 = .ok (.if_icmp .ge 24, 3) := by decide +kernel
theorem dX6_sum_16 : decode cX6_sum 16 = .ok (.lload_n 2, 1) := by decide +kernel
theorem dX6_sum_17 : decode cX6_sum 17 = .ok (.aload_n 0, 1) := by decide +kernel
theorem dX6_sum_18 : decode cX6_sum 18 = .ok (.getfield 67, 3) := by decide +kernel
theorem dX6_sum_21 : decode cX6_sum 21 = .ok (.bipush 24, 2) := by decide +kernel
theorem dX6_sum_23 : decode cX6_sum 23 = .ok (.iload_n 1, 1) := by decide +kernel
theorem dX6_sum_24 : decode cX6_sum 24 = .ok (.imul, 1) := by decide +kernel
theorem dX6_sum_25 : decode cX6_sum 25 = .ok (.iload 4, 2) := by decide +kernel
theorem dX6_sum_27 : decode cX6_sum 27 = .ok (.iadd, 1) := by decide +kernel
theorem dX6_sum_28 : decode cX6_sum 28 = .ok (.laload, 1) := by decide +kernel
theorem dX6_sum_29 : decode cX6_sum 29 = .ok (.ladd, 1) := by decide +kernel
theorem dX6_sum_30 : decode cX6_sum 30 = .ok (.lstore_n 2, 1) := by decide +kernel
theorem dX6_sum_31 : decode cX6_sum 31 = .ok (.iinc 4 1, 3) := by decide +kernel
theorem dX6_sum_34 : decode cX6_sum 34 = .ok (.goto (-29), 3) := by decide +kernel
theorem dX6_sum_37 : decode cX6_sum 37 = .ok (.lload_n 2, 1) := by decide +kernel
theorem dX6_sum_38 : decode cX6_sum 38 = .ok (.lreturn, 1) := by decide +kernel
theorem dX6_pay_0 : decode cX6_pay 0 = .ok (.aload_n 0, 1) := by decide +kernel
theorem dX6_pay_1 : decode cX6_pay 1 = .ok (.iconst 0, 1) := by decide +kernel
theorem dX6_pay_2 : decode cX6_pay 2 = .ok (.putfield 91, 3) := by decide +kernel
theorem dX6_pay_5 : decode cX6_pay 5 = .ok (.iload_n 1, 1) := by decide +kernel
theorem dX6_pay_6 : decode cX6_pay 6 = .ok (.i2l, 1) := by decide +kernel
theorem dX6_pay_7 : decode cX6_pay 7 = .ok (.lconst 0, 1) := by decide +kernel
theorem dX6_pay_8 : decode cX6_pay 8 = .ok (.ldc2_w 135, 3) := by decide +kernel
theorem dX6_pay_11 : decode cX6_pay 11 = .ok (.invokestatic 137, 3) := by decide +kernel
theorem dX6_pay_14 : decode cX6_pay 14 = .ok (.ifCond .ne 10, 3) := by decide +kernel
theorem dX6_pay_17 : decode cX6_pay 17 = .ok (.aload_n 0, 1) := by decide +kernel
theorem dX6_pay_18 : decode cX6_pay 18 = .ok (.iconst 1, 1) := by decide +kernel
theorem dX6_pay_19 : decode cX6_pay 19 = .ok (.invokevirtual 163, 3) := by decide +kernel
theorem dX6_pay_22 : decode cX6_pay 22 = .ok (.i2l, 1) := by decide +kernel
theorem dX6_pay_23 : decode cX6_pay 23 = .ok (.lreturn, 1) := by decide +kernel
theorem dX6_pay_24 : decode cX6_pay 24 = .ok (.iload_n 2, 1) := by decide +kernel
theorem dX6_pay_25 : decode cX6_pay 25 = .ok (.i2l, 1) := by decide +kernel
theorem dX6_pay_26 : decode cX6_pay 26 = .ok (.lconst 1, 1) := by decide +kernel
theorem dX6_pay_27 : decode cX6_pay 27 = .ok (.ldc2_w 169, 3) := by decide +kernel
theorem dX6_pay_30 : decode cX6_pay 30 = .ok (.invokestatic 137, 3) := by decide +kernel
theorem dX6_pay_33 : decode cX6_pay 33 = .ok (.ifCond .ne 10, 3) := by decide +kernel
theorem dX6_pay_36 : decode cX6_pay 36 = .ok (.aload_n 0, 1) := by decide +kernel
theorem dX6_pay_37 : decode cX6_pay 37 = .ok (.iconst 2, 1) := by decide +kernel
theorem dX6_pay_38 : decode cX6_pay 38 = .ok (.invokevirtual 163, 3) := by decide +kernel
theorem dX6_pay_41 : decode cX6_pay 41 = .ok (.i2l, 1) := by decide +kernel
theorem dX6_pay_42 : decode cX6_pay 42 = .ok (.lreturn, 1) := by decide +kernel
theorem dX6_pay_43 : decode cX6_pay 43 = .ok (.aload_n 0, 1) := by decide +kernel
theorem dX6_pay_44 : decode cX6_pay 44 = .ok (.getfield 58, 3) := by decide +kernel
theorem dX6_pay_47 : decode cX6_pay 47 = .ok (.iload_n 1, 1) := by decide +kernel
theorem dX6_pay_48 : decode cX6_pay 48 = .ok (.iaload, 1) := by decide +kernel
theorem dX6_pay_49 : decode cX6_pay 49 = .ok (.bipush 24, 2) := by decide +kernel
theorem dX6_pay_51 : decode cX6_pay 51 = .ok (.if_icmp .ne 10, 3) := by decide +kernel
theorem dX6_pay_54 : decode cX6_pay 54 = .ok (.aload_n 0, 1) := by decide +kernel
theorem dX6_pay_55 : decode cX6_pay 55 = .ok (.iconst 3, 1) := by decide +kernel
theorem dX6_pay_56 : decode cX6_pay 56 = .ok (.invokevirtual 163, 3) := by decide +kernel
theorem dX6_pay_59 : decode cX6_pay 59 = .ok (.i2l, 1) := by decide +kernel
theorem dX6_pay_60 : decode cX6_pay 60 = .ok (.lreturn, 1) := by decide +kernel
theorem dX6_pay_61 : decode cX6_pay 61 = .ok (.aload_n 0, 1) := by decide +kernel
theorem dX6_pay_62 : decode cX6_pay 62 = .ok (.iload_n 1, 1) := by decide +kernel
theorem dX6_pay_63 : decode cX6_pay 63 = .ok (.iconst 1, 1) := by decide +kernel
theorem dX6_pay_64 : decode cX6_pay 64 = .ok (.iconst (-1), 1) := by decide +kernel
theorem dX6_pay_65 : decode cX6_pay 65 = .ok (.iload_n 2, 1) := by decide +kernel
theorem dX6_pay_66 : decode cX6_pay 66 = .ok (.i2l, 1) := by decide +kernel
theorem dX6_pay_67 : decode cX6_pay 67 = .ok (.lneg, 1) := by decide +kernel
theorem dX6_pay_68 : decode cX6_pay 68 = .ok (.invokevirtual 208, 3) := by decide +kernel
theorem dX6_pay_71 : decode cX6_pay 71 = .ok (.aload_n 0, 1) := by decide +kernel
theorem dX6_pay_72 : decode cX6_pay 72 = .ok (.iload_n 1, 1) := by decide +kernel
theorem dX6_pay_73 : decode cX6_pay 73 = .ok (.invokevirtual 215, 3) := by decide +kernel
theorem dX6_pay_76 : decode cX6_pay 76 = .ok (.lreturn, 1) := by decide +kernel
theorem dX6_interest_0 : decode cX6_interest 0 = .ok (.aload_n 0, 1) := by decide +kernel
theorem dX6_interest_1 : decode cX6_interest 1 = .ok (.iconst 0, 1) := by decide +kernel
theorem dX6_interest_2 : decode cX6_interest 2 = .ok (.putfield 91, 3) := by decide +kernel
theorem dX6_interest_5 : decode cX6_interest 5 = .ok (.iload_n 1, 1) := by decide +kernel
theorem dX6_interest_6 : decode cX6_interest 6 = .ok (.i2l, 1) := by decide +kernel
theorem dX6_interest_7 : decode cX6_interest 7 = .ok (.lconst 0, 1) := by decide +kernel
theorem dX6_interest_8 : decode cX6_interest 8 = .ok (.ldc2_w 219, 3) := by decide +kernel
theorem dX6_interest_11 : decode cX6_interest 11 = .ok (.invokestatic 137, 3) := by decide +kernel
theorem dX6_interest_14 : decode cX6_interest 14 = .ok (.ifCond .ne 9, 3) := by decide +kernel
theorem dX6_interest_17 : decode cX6_interest 17 = .ok (.aload_n 0, 1) := by decide +kernel
theorem dX6_interest_18 : decode cX6_interest 18 = .ok (.iconst 1, 1) := by decide +kernel
theorem dX6_interest_19 : decode cX6_interest 19 = .ok (.invokevirtual 163, 3) := by decide +kernel
theorem dX6_interest_22 : decode cX6_interest 22 = .ok (.ireturn, 1) := by decide +kernel
theorem dX6_interest_23 : decode cX6_interest 23 = .ok (.aload_n 0, 1) := by decide +kernel
theorem dX6_interest_24 : decode cX6_interest 24 = .ok (.getfield 221, 3) := by decide +kernel
theorem dX6_interest_27 : decode cX6_interest 27 = .ok (.istore_n 2, 1) := by decide +kernel
theorem dX6_interest_28 : decode cX6_interest 28 = .ok (.aload_n 0, 1) := by decide +kernel
theorem dX6_interest_29 : decode cX6_interest 29 = .ok (.iload_n 1, 1) := by decide +kernel
theorem dX6_interest_30 : decode cX6_interest 30 = .ok (.putfield 221, 3) := by decide +kernel
theorem dX6_interest_33 : decode cX6_interest 33 = .ok (.iload_n 2, 1) := by decide +kernel
theorem dX6_interest_34 : decode cX6_interest 34 = .ok (.ireturn, 1) := by decide +kernel
theorem dX6_charge_0 : decode cX6_charge 0 = .ok (.aload_n 0, 1) := by decide +kernel
theorem dX6_charge_1 : decode cX6_charge 1 = .ok (.iload_n 1, 1) := by decide +kernel
theorem dX6_charge_2 : decode cX6_charge 2 = .ok (.invokevirtual 215, 3) := by decide +kernel
theorem dX6_charge_5 : decode cX6_charge 5 = .ok (.lstore_n 3, 1) := by decide +kernel
theorem dX6_charge_6 : decode cX6_charge 6 = .ok (.aload_n 0, 1) := by decide +kernel
theorem dX6_charge_7 : decode cX6_charge 7 = .ok (.getfield 221, 3) := by decide +kernel
theorem dX6_charge_10 : decode cX6_charge 10 = .ok (.i2l, 1) := by decide +kernel
theorem dX6_charge_11 : decode cX6_charge 11 = .ok (.iload_n 2, 1) := by decide +kernel
theorem dX6_charge_12 : decode cX6_charge 12 = .ok (.i2l, 1) := by decide +kernel
theorem dX6_charge_13 : decode cX6_charge 13 = .ok (.lmul, 1) := by decide +kernel
theorem dX6_charge_14 : decode cX6_charge 14 = .ok (.lstore 5, 2) := by decide +kernel
theorem dX6_charge_16 : decode cX6_charge 16 = .ok (.lload_n 3, 1) := by decide +kernel
theorem dX6_charge_17 : decode cX6_charge 17 = .ok (.lconst 0, 1) := by decide +kernel
theorem dX6_charge_18 : decode cX6_charge 18 = .ok (.lcmp, 1) := by decide +kernel
theorem dX6_charge_19 : decode cX6_charge 19 = .ok (.ifCond .le 27, 3) := by decide +kernel
theorem dX6_charge_22 : decode cX6_charge 22 = .ok (.lload_n 3, 1) := by decide +kernel
theorem dX6_charge_23 : decode cX6_charge 23 = .ok (.ldc2_w 224, 3) := by decide +kernel
theorem dX6_charge_26 : decode cX6_charge 26 = .ok (.ldiv, 1) := by decide +kernel
theorem dX6_charge_27 : decode cX6_charge 27 = .ok (.lload 5, 2) := by decide +kernel
theorem dX6_charge_29 : decode cX6_charge 29 = .ok (.lmul, 1) := by decide +kernel
theorem dX6_charge_30 : decode cX6_charge 30 = .ok (.lload_n 3, 1) := by decide +kernel
theorem dX6_charge_31 : decode cX6_charge 31 = .ok (.ldc2_w 224, 3) := by decide +kernel
theorem dX6_charge_34 : decode cX6_charge 34 = .ok (.lrem, 1) := by decide +kernel
theorem dX6_charge_35 : decode cX6_charge 35 = .ok (.lload 5, 2) := by decide +kernel
theorem dX6_charge_37 : decode cX6_charge 37 = .ok (.lmul, 1) := by decide +kernel
theorem dX6_charge_38 : decode cX6_charge 38 = .ok (.ldc2_w 224, 3) := by decide +kernel
theorem dX6_charge_41 : decode cX6_charge 41 = .ok (.ldiv, 1) := by decide +kernel
theorem dX6_charge_42 : decode cX6_charge 42 = .ok (.ladd, 1) := by decide +kernel
theorem dX6_charge_43 : decode cX6_charge 43 = .ok (.goto 4, 3) := by decide +kernel
theorem dX6_charge_46 : decode cX6_charge 46 = .ok (.lconst 0, 1) := by decide +kernel
theorem dX6_charge_47 : decode cX6_charge 47 = .ok (.lreturn, 1) := by decide +kernel
theorem dX6_pass_0 : decode cX6_pass 0 = .ok (.aload_n 0, 1) := by decide +kernel
theorem dX6_pass_1 : decode cX6_pass 1 = .ok (.iconst 0, 1) := by decide +kernel
theorem dX6_pass_2 : decode cX6_pass 2 = .ok (.putfield 91, 3) := by decide +kernel
theorem dX6_pass_5 : decode cX6_pass 5 = .ok (.iload_n 1, 1) := by decide +kernel
theorem dX6_pass_6 : decode cX6_pass 6 = .ok (.i2l, 1) := by decide +kernel
theorem dX6_pass_7 : decode cX6_pass 7 = .ok (.lconst 1, 1) := by decide +kernel
theorem dX6_pass_8 : decode cX6_pass 8 = .ok (.ldc2_w 171, 3) := by decide +kernel
theorem dX6_pass_11 : decode cX6_pass 11 = .ok (.invokestatic 137, 3) := by decide +kernel
theorem dX6_pass_14 : decode cX6_pass 14 = .ok (.ifCond .ne 9, 3) := by decide +kernel
theorem dX6_pass_17 : decode cX6_pass 17 = .ok (.aload_n 0, 1) := by decide +kernel
theorem dX6_pass_18 : decode cX6_pass 18 = .ok (.iconst 1, 1) := by decide +kernel
theorem dX6_pass_19 : decode cX6_pass 19 = .ok (.invokevirtual 163, 3) := by decide +kernel
theorem dX6_pass_22 : decode cX6_pass 22 = .ok (.ireturn, 1) := by decide +kernel
theorem dX6_pass_23 : decode cX6_pass 23 = .ok (.iconst 0, 1) := by decide +kernel
theorem dX6_pass_24 : decode cX6_pass 24 = .ok (.istore_n 2, 1) := by decide +kernel
theorem dX6_pass_25 : decode cX6_pass 25 = .ok (.iload_n 2, 1) := by decide +kernel
theorem dX6_pass_26 : decode cX6_pass 26 = .ok (.iconst 3, 1) := by decide +kernel
theorem dX6_pass_27 : decode cX6_pass 27 = .ok (.if_icmp .ge 37, 3) := by decide +kernel
theorem dX6_pass_30 : decode cX6_pass 30 = .ok (.aload_n 0, 1) := by decide +kernel
theorem dX6_pass_31 : decode cX6_pass 31 = .ok (.iload_n 2, 1) := by decide +kernel
theorem dX6_pass_32 : decode cX6_pass 32 = .ok (.iload_n 1, 1) := by decide +kernel
theorem dX6_pass_33 : decode cX6_pass 33 = .ok (.invokevirtual 226, 3) := by decide +kernel
theorem dX6_pass_36 : decode cX6_pass 36 = .ok (.lconst 0, 1) := by decide +kernel
theorem dX6_pass_37 : decode cX6_pass 37 = .ok (.lcmp, 1) := by decide +kernel
theorem dX6_pass_38 : decode cX6_pass 38 = .ok (.ifCond .eq 20, 3) := by decide +kernel
theorem dX6_pass_41 : decode cX6_pass 41 = .ok (.aload_n 0, 1) := by decide +kernel
theorem dX6_pass_42 : decode cX6_pass 42 = .ok (.getfield 58, 3) := by decide +kernel
theorem dX6_pass_45 : decode cX6_pass 45 = .ok (.iload_n 2, 1) := by decide +kernel
theorem dX6_pass_46 : decode cX6_pass 46 = .ok (.iaload, 1) := by decide +kernel
theorem dX6_pass_47 : decode cX6_pass 47 = .ok (.bipush 24, 2) := by decide +kernel
theorem dX6_pass_49 : decode cX6_pass 49 = .ok (.if_icmp .ne 9, 3) := by decide +kernel
theorem dX6_pass_52 : decode cX6_pass 52 = .ok (.aload_n 0, 1) := by decide +kernel
theorem dX6_pass_53 : decode cX6_pass 53 = .ok (.iconst 2, 1) := by decide +kernel
theorem dX6_pass_54 : decode cX6_pass 54 = .ok (.invokevirtual 163, 3) := by decide +kernel
theorem dX6_pass_57 : decode cX6_pass 57 = .ok (.ireturn, 1) := by decide +kernel
theorem dX6_pass_58 : decode cX6_pass 58 = .ok (.iinc 2 1, 3) := by decide +kernel
end
section
theorem dX6_pass_61 : decode cX6_pass 61 = .ok (.goto (-36), 3) := by decide +kernel
theorem dX6_pass_64 : decode cX6_pass 64 = .ok (.iconst 0, 1) := by decide +kernel
theorem dX6_pass_65 : decode cX6_pass 65 = .ok (.istore_n 2, 1) := by decide +kernel
theorem dX6_pass_66 : decode cX6_pass 66 = .ok (.iconst 0, 1) := by decide +kernel
theorem dX6_pass_67 : decode cX6_pass 67 = .ok (.istore_n 3, 1) := by decide +kernel
theorem dX6_pass_68 : decode cX6_pass 68 = .ok (.iload_n 3, 1) := by decide +kernel
theorem dX6_pass_69 : decode cX6_pass 69 = .ok (.iconst 3, 1) := by decide +kernel
theorem dX6_pass_70 : decode cX6_pass 70 = .ok (.if_icmp .ge 36, 3) := by decide +kernel
theorem dX6_pass_73 : decode cX6_pass 73 = .ok (.aload_n 0, 1) := by decide +kernel
theorem dX6_pass_74 : decode cX6_pass 74 = .ok (.iload_n 3, 1) := by decide +kernel
theorem dX6_pass_75 : decode cX6_pass 75 = .ok (.iload_n 1, 1) := by decide +kernel
theorem dX6_pass_76 : decode cX6_pass 76 = .ok (.invokevirtual 226, 3) := by decide +kernel
theorem dX6_pass_79 : decode cX6_pass 79 = .ok (.lstore 4, 2) := by decide +kernel
theorem dX6_pass_81 : decode cX6_pass 81 = .ok (.lload 4, 2) := by decide +kernel
theorem dX6_pass_83 : decode cX6_pass 83 = .ok (.lconst 0, 1) := by decide +kernel
theorem dX6_pass_84 : decode cX6_pass 84 = .ok (.lcmp, 1) := by decide +kernel
theorem dX6_pass_85 : decode cX6_pass 85 = .ok (.ifCond .eq 15, 3) := by decide +kernel
theorem dX6_pass_88 : decode cX6_pass 88 = .ok (.aload_n 0, 1) := by decide +kernel
theorem dX6_pass_89 : decode cX6_pass 89 = .ok (.iload_n 3, 1) := by decide +kernel
theorem dX6_pass_90 : decode cX6_pass 90 = .ok (.iconst 2, 1) := by decide +kernel
theorem dX6_pass_91 : decode cX6_pass 91 = .ok (.iconst (-1), 1) := by decide +kernel
theorem dX6_pass_92 : decode cX6_pass 92 = .ok (.lload 4, 2) := by decide +kernel
theorem dX6_pass_94 : decode cX6_pass 94 = .ok (.invokevirtual 208, 3) := by decide +kernel
theorem dX6_pass_97 : decode cX6_pass 97 = .ok (.iinc 2 1, 3) := by decide +kernel
theorem dX6_pass_100 : decode cX6_pass 100 = .ok (.iinc 3 1, 3) := by decide +kernel
theorem dX6_pass_103 : decode cX6_pass 103 = .ok (.goto (-35), 3) := by decide +kernel
theorem dX6_pass_106 : decode cX6_pass 106 = .ok (.iload_n 2, 1) := by decide +kernel
theorem dX6_pass_107 : decode cX6_pass 107 = .ok (.ireturn, 1) := by decide +kernel
theorem dX6_balance_0 : decode cX6_balance 0 = .ok (.aload_n 0, 1) := by decide +kernel
theorem dX6_balance_1 : decode cX6_balance 1 = .ok (.iconst 0, 1) := by decide +kernel
theorem dX6_balance_2 : decode cX6_balance 2 = .ok (.putfield 91, 3) := by decide +kernel
theorem dX6_balance_5 : decode cX6_balance 5 = .ok (.iload_n 1, 1) := by decide +kernel
theorem dX6_balance_6 : decode cX6_balance 6 = .ok (.i2l, 1) := by decide +kernel
theorem dX6_balance_7 : decode cX6_balance 7 = .ok (.lconst 0, 1) := by decide +kernel
theorem dX6_balance_8 : decode cX6_balance 8 = .ok (.ldc2_w 135, 3) := by decide +kernel
theorem dX6_balance_11 : decode cX6_balance 11 = .ok (.invokestatic 137, 3) := by decide +kernel
theorem dX6_balance_14 : decode cX6_balance 14 = .ok (.ifCond .eq 11, 3) := by decide +kernel
theorem dX6_balance_17 : decode cX6_balance 17 = .ok (.aload_n 0, 1) := by decide +kernel
theorem dX6_balance_18 : decode cX6_balance 18 = .ok (.iload_n 1, 1) := by decide +kernel
theorem dX6_balance_19 : decode cX6_balance 19 = .ok (.invokevirtual 215, 3) := by decide +kernel
theorem dX6_balance_22 : decode cX6_balance 22 = .ok (.goto 9, 3) := by decide +kernel
theorem dX6_balance_25 : decode cX6_balance 25 = .ok (.aload_n 0, 1) := by decide +kernel
theorem dX6_balance_26 : decode cX6_balance 26 = .ok (.iconst 1, 1) := by decide +kernel
theorem dX6_balance_27 : decode cX6_balance 27 = .ok (.invokevirtual 163, 3) := by decide +kernel
theorem dX6_balance_30 : decode cX6_balance 30 = .ok (.i2l, 1) := by decide +kernel
theorem dX6_balance_31 : decode cX6_balance 31 = .ok (.lreturn, 1) := by decide +kernel
theorem dX6_posting_0 : decode cX6_posting 0 = .ok (.aload_n 0, 1) := by decide +kernel
theorem dX6_posting_1 : decode cX6_posting 1 = .ok (.iconst 0, 1) := by decide +kernel
theorem dX6_posting_2 : decode cX6_posting 2 = .ok (.putfield 91, 3) := by decide +kernel
theorem dX6_posting_5 : decode cX6_posting 5 = .ok (.iload_n 1, 1) := by decide +kernel
theorem dX6_posting_6 : decode cX6_posting 6 = .ok (.i2l, 1) := by decide +kernel
theorem dX6_posting_7 : decode cX6_posting 7 = .ok (.lconst 0, 1) := by decide +kernel
theorem dX6_posting_8 : decode cX6_posting 8 = .ok (.ldc2_w 135, 3) := by decide +kernel
theorem dX6_posting_11 : decode cX6_posting 11 = .ok (.invokestatic 137, 3) := by decide +kernel
theorem dX6_posting_14 : decode cX6_posting 14 = .ok (.ifCond .ne 10, 3) := by decide +kernel
theorem dX6_posting_17 : decode cX6_posting 17 = .ok (.aload_n 0, 1) := by decide +kernel
theorem dX6_posting_18 : decode cX6_posting 18 = .ok (.iconst 1, 1) := by decide +kernel
theorem dX6_posting_19 : decode cX6_posting 19 = .ok (.invokevirtual 163, 3) := by decide +kernel
theorem dX6_posting_22 : decode cX6_posting 22 = .ok (.i2l, 1) := by decide +kernel
theorem dX6_posting_23 : decode cX6_posting 23 = .ok (.lreturn, 1) := by decide +kernel
theorem dX6_posting_24 : decode cX6_posting 24 = .ok (.iload_n 2, 1) := by decide +kernel
theorem dX6_posting_25 : decode cX6_posting 25 = .ok (.i2l, 1) := by decide +kernel
theorem dX6_posting_26 : decode cX6_posting 26 = .ok (.lconst 0, 1) := by decide +kernel
theorem dX6_posting_27 : decode cX6_posting 27 = .ok (.aload_n 0, 1) := by decide +kernel
theorem dX6_posting_28 : decode cX6_posting 28 = .ok (.getfield 58, 3) := by decide +kernel
theorem dX6_posting_31 : decode cX6_posting 31 = .ok (.iload_n 1, 1) := by decide +kernel
theorem dX6_posting_32 : decode cX6_posting 32 = .ok (.iaload, 1) := by decide +kernel
theorem dX6_posting_33 : decode cX6_posting 33 = .ok (.iconst 1, 1) := by decide +kernel
theorem dX6_posting_34 : decode cX6_posting 34 = .ok (.isub, 1) := by decide +kernel
theorem dX6_posting_35 : decode cX6_posting 35 = .ok (.i2l, 1) := by decide +kernel
theorem dX6_posting_36 : decode cX6_posting 36 = .ok (.invokestatic 137, 3) := by decide +kernel
theorem dX6_posting_39 : decode cX6_posting 39 = .ok (.ifCond .eq 15, 3) := by decide +kernel
theorem dX6_posting_42 : decode cX6_posting 42 = .ok (.iload_n 3, 1) := by decide +kernel
theorem dX6_posting_43 : decode cX6_posting 43 = .ok (.i2l, 1) := by decide +kernel
theorem dX6_posting_44 : decode cX6_posting 44 = .ok (.lconst 0, 1) := by decide +kernel
theorem dX6_posting_45 : decode cX6_posting 45 = .ok (.ldc2_w 135, 3) := by decide +kernel
theorem dX6_posting_48 : decode cX6_posting 48 = .ok (.invokestatic 137, 3) := by decide +kernel
theorem dX6_posting_51 : decode cX6_posting 51 = .ok (.ifCond .ne 10, 3) := by decide +kernel
theorem dX6_posting_54 : decode cX6_posting 54 = .ok (.aload_n 0, 1) := by decide +kernel
theorem dX6_posting_55 : decode cX6_posting 55 = .ok (.iconst 2, 1) := by decide +kernel
theorem dX6_posting_56 : decode cX6_posting 56 = .ok (.invokevirtual 163, 3) := by decide +kernel
theorem dX6_posting_59 : decode cX6_posting 59 = .ok (.i2l, 1) := by decide +kernel
theorem dX6_posting_60 : decode cX6_posting 60 = .ok (.lreturn, 1) := by decide +kernel
theorem dX6_posting_61 : decode cX6_posting 61 = .ok (.bipush 24, 2) := by decide +kernel
theorem dX6_posting_63 : decode cX6_posting 63 = .ok (.iload_n 1, 1) := by decide +kernel
theorem dX6_posting_64 : decode cX6_posting 64 = .ok (.imul, 1) := by decide +kernel
theorem dX6_posting_65 : decode cX6_posting 65 = .ok (.iload_n 2, 1) := by decide +kernel
theorem dX6_posting_66 : decode cX6_posting 66 = .ok (.iadd, 1) := by decide +kernel
theorem dX6_posting_67 : decode cX6_posting 67 = .ok (.istore 4, 2) := by decide +kernel
theorem dX6_posting_69 : decode cX6_posting 69 = .ok (.iload_n 3, 1) := by decide +kernel
theorem dX6_posting_70 : decode cX6_posting 70 = .ok (.ifCond .ne 14, 3) := by decide +kernel
theorem dX6_posting_73 : decode cX6_posting 73 = .ok (.aload_n 0, 1) := by decide +kernel
theorem dX6_posting_74 : decode cX6_posting 74 = .ok (.getfield 61, 3) := by decide +kernel
theorem dX6_posting_77 : decode cX6_posting 77 = .ok (.iload 4, 2) := by decide +kernel
theorem dX6_posting_79 : decode cX6_posting 79 = .ok (.iaload, 1) := by decide +kernel
theorem dX6_posting_80 : decode cX6_posting 80 = .ok (.i2l, 1) := by decide +kernel
theorem dX6_posting_81 : decode cX6_posting 81 = .ok (.goto 26, 3) := by decide +kernel
theorem dX6_posting_84 : decode cX6_posting 84 = .ok (.iload_n 3, 1) := by decide +kernel
theorem dX6_posting_85 : decode cX6_posting 85 = .ok (.iconst 1, 1) := by decide +kernel
theorem dX6_posting_86 : decode cX6_posting 86 = .ok (.if_icmp .ne 14, 3) := by decide +kernel
theorem dX6_posting_89 : decode cX6_posting 89 = .ok (.aload_n 0, 1) := by decide +kernel
theorem dX6_posting_90 : decode cX6_posting 90 = .ok (.getfield 64, 3) := by decide +kernel
theorem dX6_posting_93 : decode cX6_posting 93 = .ok (.iload 4, 2) := by decide +kernel
theorem dX6_posting_95 : decode cX6_posting 95 = .ok (.iaload, 1) := by decide +kernel
theorem dX6_posting_96 : decode cX6_posting 96 = .ok (.i2l, 1) := by decide +kernel
theorem dX6_posting_97 : decode cX6_posting 97 = .ok (.goto 10, 3) := by decide +kernel
theorem dX6_posting_100 : decode cX6_posting 100 = .ok (.aload_n 0, 1) := by decide +kernel
theorem dX6_posting_101 : decode cX6_posting 101 = .ok (.getfield 67, 3) := by decide +kernel
theorem dX6_posting_104 : decode cX6_posting 104 = .ok (.iload 4, 2) := by decide +kernel
theorem dX6_posting_106 : decode cX6_posting 106 = .ok (.laload, 1) := by decide +kernel
theorem dX6_posting_107 : decode cX6_posting 107 = .ok (.lreturn, 1) := by decide +kernel
theorem dJ11_isValidCodePoint_9a6ad_0 : decode cJ11_isValidCodePoint_9a6ad 0 = .ok (.iload_n 0, 1) := by decide +kernel
theorem dJ11_isValidCodePoint_9a6ad_1 : decode cJ11_isValidCodePoint_9a6ad 1 = .ok (.bipush 16, 2) := by decide +kernel
theorem dJ11_isValidCodePoint_9a6ad_3 : decode cJ11_isValidCodePoint_9a6ad 3 = .ok (.iushr, 1) := by decide +kernel
theorem dJ11_isValidCodePoint_9a6ad_4 : decode cJ11_isValidCodePoint_9a6ad 4 = .ok (.istore_n 1, 1) := by decide +kernel
theorem dJ11_isValidCodePoint_9a6ad_5 : decode cJ11_isValidCodePoint_9a6ad 5 = .ok (.iload_n 1, 1) := by decide +kernel
theorem dJ11_isValidCodePoint_9a6ad_6 : decode cJ11_isValidCodePoint_9a6ad 6 = .ok (.bipush 17, 2) := by decide +kernel
theorem dJ11_isValidCodePoint_9a6ad_8 : decode cJ11_isValidCodePoint_9a6ad 8 = .ok (.if_icmp .ge 7, 3) := by decide +kernel
theorem dJ11_isValidCodePoint_9a6ad_11 : decode cJ11_isValidCodePoint_9a6ad 11 = .ok (.iconst 1, 1) := by decide +kernel
theorem dJ11_isValidCodePoint_9a6ad_12 : decode cJ11_isValidCodePoint_9a6ad 12 = .ok (.goto 4, 3) := by decide +kernel
theorem dJ11_isValidCodePoint_9a6ad_15 : decode cJ11_isValidCodePoint_9a6ad 15 = .ok (.iconst 0, 1) := by decide +kernel
theorem dJ11_isValidCodePoint_9a6ad_16 : decode cJ11_isValidCodePoint_9a6ad 16 = .ok (.ireturn, 1) := by decide +kernel
theorem dJ11_highSurrogate_5068e_0 : decode cJ11_highSurrogate_5068e 0 = .ok (.iload_n 0, 1) := by decide +kernel
theorem dJ11_highSurrogate_5068e_1 : decode cJ11_highSurrogate_5068e 1 = .ok (.bipush 10, 2) := by decide +kernel
theorem dJ11_highSurrogate_5068e_3 : decode cJ11_highSurrogate_5068e 3 = .ok (.iushr, 1) := by decide +kernel
theorem dJ11_highSurrogate_5068e_4 : decode cJ11_highSurrogate_5068e 4 = .ok (.ldc 110, 2) := by decide +kernel
theorem dJ11_highSurrogate_5068e_6 : decode cJ11_highSurrogate_5068e 6 = .ok (.iadd, 1) := by decide +kernel
theorem dJ11_highSurrogate_5068e_7 : decode cJ11_highSurrogate_5068e 7 = .ok (.i2c, 1) := by decide +kernel
theorem dJ11_highSurrogate_5068e_8 : decode cJ11_highSurrogate_5068e 8 = .ok (.ireturn, 1) := by decide +kernel
theorem dJ11_lowSurrogate_5068e_0 : decode cJ11_lowSurrogate_5068e 0 = .ok (.iload_n 0, 1) := by decide +kernel
theorem dJ11_lowSurrogate_5068e_1 : decode cJ11_lowSurrogate_5068e 1 = .ok (.sipush 1023, 3) := by decide +kernel
theorem dJ11_lowSurrogate_5068e_4 : decode cJ11_lowSurrogate_5068e 4 = .ok (.iand, 1) := by decide +kernel
theorem dJ11_lowSurrogate_5068e_5 : decode cJ11_lowSurrogate_5068e 5 = .ok (.ldc 76, 2) := by decide +kernel
theorem dJ11_lowSurrogate_5068e_7 : decode cJ11_lowSurrogate_5068e 7 = .ok (.iadd, 1) := by decide +kernel
theorem dJ11_lowSurrogate_5068e_8 : decode cJ11_lowSurrogate_5068e 8 = .ok (.i2c, 1) := by decide +kernel
theorem dJ11_lowSurrogate_5068e_9 : decode cJ11_lowSurrogate_5068e 9 = .ok (.ireturn, 1) := by decide +kernel
theorem dJ6_bitCount_0f7a4_0 : decode cJ6_bitCount_0f7a4 0 = .ok (.iload_n 0, 1) := by decide +kernel
theorem dJ6_bitCount_0f7a4_1 : decode cJ6_bitCount_0f7a4 1 = .ok (.iload_n 0, 1) := by decide +kernel
theorem dJ6_bitCount_0f7a4_2 : decode cJ6_bitCount_0f7a4 2 = .ok (.iconst 1, 1) := by decide +kernel
theorem dJ6_bitCount_0f7a4_3 : decode cJ6_bitCount_0f7a4 3 = .ok (.iushr, 1) := by decide +kernel
theorem dJ6_bitCount_0f7a4_4 : decode cJ6_bitCount_0f7a4 4 = .ok (.ldc_w 265, 3) := by decide +kernel
theorem dJ6_bitCount_0f7a4_7 : decode cJ6_bitCount_0f7a4 7 = .ok (.iand, 1) := by decide +kernel
theorem dJ6_bitCount_0f7a4_8 : decode cJ6_bitCount_0f7a4 8 = .ok (.isub, 1) := by decide +kernel
theorem dJ6_bitCount_0f7a4_9 : decode cJ6_bitCount_0f7a4 9 = .ok (.istore_n 0, 1) := by decide +kernel
theorem dJ6_bitCount_0f7a4_10 : decode cJ6_bitCount_0f7a4 10 = .ok (.iload_n 0, 1) := by decide +kernel
theorem dJ6_bitCount_0f7a4_11 : decode cJ6_bitCount_0f7a4 11 = .ok (.ldc_w 266, 3) := by decide +kernel
theorem dJ6_bitCount_0f7a4_14 : decode cJ6_bitCount_0f7a4 14 = .ok (.iand, 1) := by decide +kernel
theorem dJ6_bitCount_0f7a4_15 : decode cJ6_bitCount_0f7a4 15 = .ok (.iload_n 0, 1) := by decide +kernel
theorem dJ6_bitCount_0f7a4_16 : decode cJ6_bitCount_0f7a4 16 = .ok (.iconst 2, 1) := by decide +kernel
theorem dJ6_bitCount_0f7a4_17 : decode cJ6_bitCount_0f7a4 17 = .ok (.iushr, 1) := by decide +kernel
theorem dJ6_bitCount_0f7a4_18 : decode cJ6_bitCount_0f7a4 18 = .ok (.ldc_w 266, 3) := by decide +kernel
theorem dJ6_bitCount_0f7a4_21 : decode cJ6_bitCount_0f7a4 21 = .ok (.iand, 1) := by decide +kernel
theorem dJ6_bitCount_0f7a4_22 : decode cJ6_bitCount_0f7a4 22 = .ok (.iadd, 1) := by decide +kernel
theorem dJ6_bitCount_0f7a4_23 : decode cJ6_bitCount_0f7a4 23 = .ok (.istore_n 0, 1) := by decide +kernel
theorem dJ6_bitCount_0f7a4_24 : decode cJ6_bitCount_0f7a4 24 = .ok (.iload_n 0, 1) := by decide +kernel
theorem dJ6_bitCount_0f7a4_25 : decode cJ6_bitCount_0f7a4 25 = .ok (.iload_n 0, 1) := by decide +kernel
theorem dJ6_bitCount_0f7a4_26 : decode cJ6_bitCount_0f7a4 26 = .ok (.iconst 4, 1) := by decide +kernel
theorem dJ6_bitCount_0f7a4_27 : decode cJ6_bitCount_0f7a4 27 = .ok (.iushr, 1) := by decide +kernel
theorem dJ6_bitCount_0f7a4_28 : decode cJ6_bitCount_0f7a4 28 = .ok (.iadd, 1) := by decide +kernel
theorem dJ6_bitCount_0f7a4_29 : decode cJ6_bitCount_0f7a4 29 = .ok (.ldc_w 267, 3) := by decide +kernel
theorem dJ6_bitCount_0f7a4_32 : decode cJ6_bitCount_0f7a4 32 = .ok (.iand, 1) := by decide +kernel
theorem dJ6_bitCount_0f7a4_33 : decode cJ6_bitCount_0f7a4 33 = .ok (.istore_n 0, 1) := by decide +kernel
theorem dJ6_bitCount_0f7a4_34 : decode cJ6_bitCount_0f7a4 34 = .ok (.iload_n 0, 1) := by decide +kernel
theorem dJ6_bitCount_0f7a4_35 : decode cJ6_bitCount_0f7a4 35 = .ok (.iload_n 0, 1) := by decide +kernel
theorem dJ6_bitCount_0f7a4_36 : decode cJ6_bitCount_0f7a4 36 = .ok (.bipush 8, 2) := by decide +kernel
theorem dJ6_bitCount_0f7a4_38 : decode cJ6_bitCount_0f7a4 38 = .ok (.iushr, 1) := by decide +kernel
theorem dJ6_bitCount_0f7a4_39 : decode cJ6_bitCount_0f7a4 39 = .ok (.iadd, 1) := by decide +kernel
theorem dJ6_bitCount_0f7a4_40 : decode cJ6_bitCount_0f7a4 40 = .ok (.istore_n 0, 1) := by decide +kernel
theorem dJ6_bitCount_0f7a4_41 : decode cJ6_bitCount_0f7a4 41 = .ok (.iload_n 0, 1) := by decide +kernel
theorem dJ6_bitCount_0f7a4_42 : decode cJ6_bitCount_0f7a4 42 = .ok (.iload_n 0, 1) := by decide +kernel
theorem dJ6_bitCount_0f7a4_43 : decode cJ6_bitCount_0f7a4 43 = .ok (.bipush 16, 2) := by decide +kernel
theorem dJ6_bitCount_0f7a4_45 : decode cJ6_bitCount_0f7a4 45 = .ok (.iushr, 1) := by decide +kernel
theorem dJ6_bitCount_0f7a4_46 : decode cJ6_bitCount_0f7a4 46 = .ok (.iadd, 1) := by decide +kernel
theorem dJ6_bitCount_0f7a4_47 : decode cJ6_bitCount_0f7a4 47 = .ok (.istore_n 0, 1) := by decide +kernel
theorem dJ6_bitCount_0f7a4_48 : decode cJ6_bitCount_0f7a4 48 = .ok (.iload_n 0, 1) := by decide +kernel
theorem dJ6_bitCount_0f7a4_49 : decode cJ6_bitCount_0f7a4 49 = .ok (.bipush 63, 2) := by decide +kernel
theorem dJ6_bitCount_0f7a4_51 : decode cJ6_bitCount_0f7a4 51 = .ok (.iand, 1) := by decide +kernel
theorem dJ6_bitCount_0f7a4_52 : decode cJ6_bitCount_0f7a4 52 = .ok (.ireturn, 1) := by decide +kernel
theorem dJ9_floorDiv_f86c9_0 : decode cJ9_floorDiv_f86c9 0 = .ok (.lload_n 0, 1) := by decide +kernel
theorem dJ9_floorDiv_f86c9_1 : decode cJ9_floorDiv_f86c9 1 = .ok (.lload_n 2, 1) := by decide +kernel
theorem dJ9_floorDiv_f86c9_2 : decode cJ9_floorDiv_f86c9 2 = .ok (.ldiv, 1) := by decide +kernel
theorem dJ9_floorDiv_f86c9_3 : decode cJ9_floorDiv_f86c9 3 = .ok (.lstore 4, 2) := by decide +kernel
theorem dJ9_floorDiv_f86c9_5 : decode cJ9_floorDiv_f86c9 5 = .ok (.lload_n 0, 1) := by decide +kernel
theorem dJ9_floorDiv_f86c9_6 : decode cJ9_floorDiv_f86c9 6 = .ok (.lload_n 2, 1) := by decide +kernel
theorem dJ9_floorDiv_f86c9_7 : decode cJ9_floorDiv_f86c9 7 = .ok (.lxor, 1) := by decide +kernel
theorem dJ9_floorDiv_f86c9_8 : decode cJ9_floorDiv_f86c9 8 = .ok (.lconst 0, 1) := by decide +kernel
theorem dJ9_floorDiv_f86c9_9 : decode cJ9_floorDiv_f86c9 9 = .ok (.lcmp, 1) := by decide +kernel
theorem dJ9_floorDiv_f86c9_10 : decode cJ9_floorDiv_f86c9 10 = .ok (.ifCond .ge 17, 3) := by decide +kernel
theorem dJ9_floorDiv_f86c9_13 : decode cJ9_floorDiv_f86c9 13 = .ok (.lload 4, 2) := by decide +kernel
theorem dJ9_floorDiv_f86c9_15 : decode cJ9_floorDiv_f86c9 15 = .ok (.lload_n 2, 1) := by decide +kernel
theorem dJ9_floorDiv_f86c9_16 : decode cJ9_floorDiv_f86c9 16 = .ok (.lmul, 1) := by decide +kernel
theorem dJ9_floorDiv_f86c9_17 : decode cJ9_floorDiv_f86c9 17 = .ok (.lload_n 0, 1) := by decide +kernel
theorem dJ9_floorDiv_f86c9_18 : decode cJ9_floorDiv_f86c9 18 = .ok (.lcmp, 1) := by decide +kernel
theorem dJ9_floorDiv_f86c9_19 : decode cJ9_floorDiv_f86c9 19 = .ok (.ifCond .eq 8, 3) := by decide +kernel
theorem dJ9_floorDiv_f86c9_22 : decode cJ9_floorDiv_f86c9 22 = .ok (.lload 4, 2) := by decide +kernel
theorem dJ9_floorDiv_f86c9_24 : decode cJ9_floorDiv_f86c9 24 = .ok (.lconst 1, 1) := by decide +kernel
theorem dJ9_floorDiv_f86c9_25 : decode cJ9_floorDiv_f86c9 25 = .ok (.lsub, 1) := by decide +kernel
theorem dJ9_floorDiv_f86c9_26 : decode cJ9_floorDiv_f86c9 26 = .ok (.lreturn, 1) := by decide +kernel
theorem dJ9_floorDiv_f86c9_27 : decode cJ9_floorDiv_f86c9 27 = .ok (.lload 4, 2) := by decide +kernel
theorem dJ9_floorDiv_f86c9_29 : decode cJ9_floorDiv_f86c9 29 = .ok (.lreturn, 1) := by decide +kernel
theorem dJ9_floorMod_f86c9_0 : decode cJ9_floorMod_f86c9 0 = .ok (.lload_n 0, 1) := by decide +kernel
theorem dJ9_floorMod_f86c9_1 : decode cJ9_floorMod_f86c9 1 = .ok (.lload_n 2, 1) := by decide +kernel
theorem dJ9_floorMod_f86c9_2 : decode cJ9_floorMod_f86c9 2 = .ok (.lrem, 1) := by decide +kernel
theorem dJ9_floorMod_f86c9_3 : decode cJ9_floorMod_f86c9 3 = .ok (.lstore 4, 2) := by decide +kernel
theorem dJ9_floorMod_f86c9_5 : decode cJ9_floorMod_f86c9 5 = .ok (.lload_n 0, 1) := by decide +kernel
theorem dJ9_floorMod_f86c9_6 : decode cJ9_floorMod_f86c9 6 = .ok (.lload_n 2, 1) := by decide +kernel
theorem dJ9_floorMod_f86c9_7 : decode cJ9_floorMod_f86c9 7 = .ok (.lxor, 1) := by decide +kernel
theorem dJ9_floorMod_f86c9_8 : decode cJ9_floorMod_f86c9 8 = .ok (.lconst 0, 1) := by decide +kernel
theorem dJ9_floorMod_f86c9_9 : decode cJ9_floorMod_f86c9 9 = .ok (.lcmp, 1) := by decide +kernel
theorem dJ9_floorMod_f86c9_10 : decode cJ9_floorMod_f86c9 10 = .ok (.ifCond .ge 15, 3) := by decide +kernel
theorem dJ9_floorMod_f86c9_13 : decode cJ9_floorMod_f86c9 13 = .ok (.lload 4, 2) := by decide +kernel
theorem dJ9_floorMod_f86c9_15 : decode cJ9_floorMod_f86c9 15 = .ok (.lconst 0, 1) := by decide +kernel
theorem dJ9_floorMod_f86c9_16 : decode cJ9_floorMod_f86c9 16 = .ok (.lcmp, 1) := by decide +kernel
theorem dJ9_floorMod_f86c9_17 : decode cJ9_floorMod_f86c9 17 = .ok (.ifCond .eq 8, 3) := by decide +kernel
theorem dJ9_floorMod_f86c9_20 : decode cJ9_floorMod_f86c9 20 = .ok (.lload 4, 2) := by decide +kernel
theorem dJ9_floorMod_f86c9_22 : decode cJ9_floorMod_f86c9 22 = .ok (.lload_n 2, 1) := by decide +kernel
theorem dJ9_floorMod_f86c9_23 : decode cJ9_floorMod_f86c9 23 = .ok (.ladd, 1) := by decide +kernel
theorem dJ9_floorMod_f86c9_24 : decode cJ9_floorMod_f86c9 24 = .ok (.lreturn, 1) := by decide +kernel
theorem dJ9_floorMod_f86c9_25 : decode cJ9_floorMod_f86c9 25 = .ok (.lload 4, 2) := by decide +kernel
theorem dJ9_floorMod_f86c9_27 : decode cJ9_floorMod_f86c9 27 = .ok (.lreturn, 1) := by decide +kernel
theorem dJ9_max_7cf53_0 : decode cJ9_max_7cf53 0 = .ok (.iload_n 0, 1) := by decide +kernel
theorem dJ9_max_7cf53_1 : decode cJ9_max_7cf53 1 = .ok (.iload_n 1, 1) := by decide +kernel
theorem dJ9_max_7cf53_2 : decode cJ9_max_7cf53 2 = .ok (.if_icmp .lt 7, 3) := by decide +kernel
theorem dJ9_max_7cf53_5 : decode cJ9_max_7cf53 5 = .ok (.iload_n 0, 1) := by decide +kernel
theorem dJ9_max_7cf53_6 : decode cJ9_max_7cf53 6 = .ok (.goto 4, 3) := by decide +kernel
theorem dJ9_max_7cf53_9 : decode cJ9_max_7cf53 9 = .ok (.iload_n 1, 1) := by decide +kernel
theorem dJ9_max_7cf53_10 : decode cJ9_max_7cf53 10 = .ok (.ireturn, 1) := by decide +kernel
theorem dJ9_max_f86c9_0 : decode cJ9_max_f86c9 0 = .ok (.lload_n 0, 1) := by decide +kernel
theorem dJ9_max_f86c9_1 : decode cJ9_max_f86c9 1 = .ok (.lload_n 2, 1) := by decide +kernel
theorem dJ9_max_f86c9_2 : decode cJ9_max_f86c9 2 = .ok (.lcmp, 1) := by decide +kernel
theorem dJ9_max_f86c9_3 : decode cJ9_max_f86c9 3 = .ok (.ifCond .lt 7, 3) := by decide +kernel
theorem dJ9_max_f86c9_6 : decode cJ9_max_f86c9 6 = .ok (.lload_n 0, 1) := by decide +kernel
theorem dJ9_max_f86c9_7 : decode cJ9_max_f86c9 7 = .ok (.goto 4, 3) := by decide +kernel
theorem dJ9_max_f86c9_10 : decode cJ9_max_f86c9 10 = .ok (.lload_n 2, 1) := by decide +kernel
theorem dJ9_max_f86c9_11 : decode cJ9_max_f86c9 11 = .ok (.lreturn, 1) := by decide +kernel
theorem dJ9_min_7cf53_0 : decode cJ9_min_7cf53 0 = .ok (.iload_n 0, 1) := by decide +kernel
theorem dJ9_min_7cf53_1 : decode cJ9_min_7cf53 1 = .ok (.iload_n 1, 1) := by decide +kernel
theorem dJ9_min_7cf53_2 : decode cJ9_min_7cf53 2 = .ok (.if_icmp .gt 7, 3) := by decide +kernel
theorem dJ9_min_7cf53_5 : decode cJ9_min_7cf53 5 = .ok (.iload_n 0, 1) := by decide +kernel
theorem dJ9_min_7cf53_6 : decode cJ9_min_7cf53 6 = .ok (.goto 4, 3) := by decide +kernel
theorem dJ9_min_7cf53_9 : decode cJ9_min_7cf53 9 = .ok (.iload_n 1, 1) := by decide +kernel
theorem dJ9_min_7cf53_10 : decode cJ9_min_7cf53 10 = .ok (.ireturn, 1) := by decide +kernel
theorem dJ9_min_f86c9_0 : decode cJ9_min_f86c9 0 = .ok (.lload_n 0, 1) := by decide +kernel
theorem dJ9_min_f86c9_1 : decode cJ9_min_f86c9 1 = .ok (.lload_n 2, 1) := by decide +kernel
theorem dJ9_min_f86c9_2 : decode cJ9_min_f86c9 2 = .ok (.lcmp, 1) := by decide +kernel
theorem dJ9_min_f86c9_3 : decode cJ9_min_f86c9 3 = .ok (.ifCond .gt 7, 3) := by decide +kernel
theorem dJ9_min_f86c9_6 : decode cJ9_min_f86c9 6 = .ok (.lload_n 0, 1) := by decide +kernel
theorem dJ9_min_f86c9_7 : decode cJ9_min_f86c9 7 = .ok (.goto 4, 3) := by decide +kernel
theorem dJ9_min_f86c9_10 : decode cJ9_min_f86c9 10 = .ok (.lload_n 2, 1) := by decide +kernel
theorem dJ9_min_f86c9_11 : decode cJ9_min_f86c9 11 = .ok (.lreturn, 1) := by decide +kernel
theorem dJ0_length_8abf5_0 : decode cJ0_length_8abf5 0 = .ok (.aload_n 0, 1) := by decide +kernel
theorem dJ0_length_8abf5_1 : decode cJ0_length_8abf5 1 = .ok (.getfield 9, 3) := by decide +kernel
theorem dJ0_length_8abf5_4 : decode cJ0_length_8abf5 4 = .ok (.arraylength, 1) := by decide +kernel
theorem dJ0_length_8abf5_5 : decode cJ0_length_8abf5 5 = .ok (.aload_n 0, 1) := by decide +kernel
theorem dJ0_length_8abf5_6 : decode cJ0_length_8abf5 6 = .ok (.invokevirtual 335, 3) := by decide +kernel
theorem dJ0_length_8abf5_9 : decode cJ0_length_8abf5 9 = .ok (.ishr, 1) := by decide +kernel
theorem dJ0_length_8abf5_10 : decode cJ0_length_8abf5 10 = .ok (.ireturn, 1) := by decide +kernel
theorem dJ0_indexOf_0f7a4_0 : decode cJ0_indexOf_0f7a4 0 = .ok (.aload_n 0, 1) := by decide +kernel
theorem dJ0_indexOf_0f7a4_1 : decode cJ0_indexOf_0f7a4 1 = .ok (.iload_n 1, 1) := by decide +kernel
theorem dJ0_indexOf_0f7a4_2 : decode cJ0_indexOf_0f7a4 2 = .ok (.iconst 0, 1) := by decide +kernel
theorem dJ0_indexOf_0f7a4_3 : decode cJ0_indexOf_0f7a4 3 = .ok (.invokevirtual 633, 3) := by decide +kernel
theorem dJ0_indexOf_0f7a4_6 : decode cJ0_indexOf_0f7a4 6 = .ok (.ireturn, 1) := by decide +kernel
theorem dJ0_indexOf_7cf53_0 : decode cJ0_indexOf_7cf53 0 = .ok (.aload_n 0, 1) := by decide +kernel
theorem dJ0_indexOf_7cf53_1 : decode cJ0_indexOf_7cf53 1 = .ok (.invokevirtual 492, 3) := by decide +kernel
theorem dJ0_indexOf_7cf53_4 : decode cJ0_indexOf_7cf53 4 = .ok (.ifCond .eq 19, 3) := by decide +kernel
theorem dJ0_indexOf_7cf53_7 : decode cJ0_indexOf_7cf53 7 = .ok (.aload_n 0, 1) := by decide +kernel
theorem dJ0_indexOf_7cf53_8 : decode cJ0_indexOf_7cf53 8 = .ok (.getfield 9, 3) := by decide +kernel
theorem dJ0_indexOf_7cf53_11 : decode cJ0_indexOf_7cf53 11 = .ok (.iload_n 1, 1) := by decide +kernel
theorem dJ0_indexOf_7cf53_12 : decode cJ0_indexOf_7cf53 12 = .ok (.iload_n 2, 1) := by decide +kernel
theorem dJ0_indexOf_7cf53_13 : decode cJ0_indexOf_7cf53 13 = .ok (.aload_n 0, 1) := by decide +kernel
theorem dJ0_indexOf_7cf53_14 : decode cJ0_indexOf_7cf53 14 = .ok (.invokevirtual 505, 3) := by decide +kernel
theorem dJ0_indexOf_7cf53_17 : decode cJ0_indexOf_7cf53 17 = .ok (.invokestatic 637, 3) := by decide +kernel
theorem dJ0_indexOf_7cf53_20 : decode cJ0_indexOf_7cf53 20 = .ok (.goto 16, 3) := by decide +kernel
theorem dJ0_indexOf_7cf53_23 : decode cJ0_indexOf_7cf53 23 = .ok (.aload_n 0, 1) := by decide +kernel
theorem dJ0_indexOf_7cf53_24 : decode cJ0_indexOf_7cf53 24 = .ok (.getfield 9, 3) := by decide +kernel
theorem dJ0_indexOf_7cf53_27 : decode cJ0_indexOf_7cf53 27 = .ok (.iload_n 1, 1) := by decide +kernel
theorem dJ0_indexOf_7cf53_28 : decode cJ0_indexOf_7cf53 28 = .ok (.iload_n 2, 1) := by decide +kernel
theorem dJ0_indexOf_7cf53_29 : decode cJ0_indexOf_7cf53 29 = .ok (.aload_n 0, 1) := by decide +kernel
theorem dJ0_indexOf_7cf53_30 : decode cJ0_indexOf_7cf53 30 = .ok (.invokevirtual 505, 3) := by decide +kernel
theorem dJ0_indexOf_7cf53_33 : decode cJ0_indexOf_7cf53 33 = .ok (.invokestatic 640, 3) := by decide +kernel
theorem dJ0_indexOf_7cf53_36 : decode cJ0_indexOf_7cf53 36 = .ok (.ireturn, 1) := by decide +kernel
theorem dJ0_coder_7d493_0 : decode cJ0_coder_7d493 0 = .ok (.getstatic 38, 3) := by decide +kernel
theorem dJ0_coder_7d493_3 : decode cJ0_coder_7d493 3 = .ok (.ifCond .eq 10, 3) := by decide +kernel
theorem dJ0_coder_7d493_6 : decode cJ0_coder_7d493 6 = .ok (.aload_n 0, 1) := by decide +kernel
theorem dJ0_coder_7d493_7 : decode cJ0_coder_7d493 7 = .ok (.getfield 15, 3) := by decide +kernel
theorem dJ0_coder_7d493_10 : decode cJ0_coder_7d493 10 = .ok (.goto 4, 3) := by decide +kernel
theorem dJ0_coder_7d493_13 : decode cJ0_coder_7d493 13 = .ok (.iconst 1, 1) := by decide +kernel
theorem dJ0_coder_7d493_14 : decode cJ0_coder_7d493 14 = .ok (.ireturn, 1) := by decide +kernel
theorem dJ0_isLatin1_aae02_0 : decode cJ0_isLatin1_aae02 0 = .ok (.getstatic 38, 3) := by decide +kernel
theorem dJ0_isLatin1_aae02_3 : decode cJ0_isLatin1_aae02 3 = .ok (.ifCond .eq 14, 3) := by decide +kernel
theorem dJ0_isLatin1_aae02_6 : decode cJ0_isLatin1_aae02 6 = .ok (.aload_n 0, 1) := by decide +kernel
theorem dJ0_isLatin1_aae02_7 : decode cJ0_isLatin1_aae02 7 = .ok (.getfield 15, 3) := by decide +kernel
theorem dJ0_isLatin1_aae02_10 : decode cJ0_isLatin1_aae02 10 = .ok (.ifCond .ne 7, 3) := by decide +kernel
theorem dJ0_isLatin1_aae02_13 : decode cJ0_isLatin1_aae02 13 = .ok (.iconst 1, 1) := by decide +kernel
theorem dJ0_isLatin1_aae02_14 : decode cJ0_isLatin1_aae02 14 = .ok (.goto 4, 3) := by decide +kernel
theorem dJ0_isLatin1_aae02_17 : decode cJ0_isLatin1_aae02 17 = .ok (.iconst 0, 1) := by decide +kernel
theorem dJ0_isLatin1_aae02_18 : decode cJ0_isLatin1_aae02 18 = .ok (.ireturn, 1) := by decide +kernel
theorem dJ0_checkBoundsBeginEnd_23922_0 : decode cJ0_checkBoundsBeginEnd_23922 0 = .ok (.iload_n 0, 1) := by decide +kernel
theorem dJ0_checkBoundsBeginEnd_23922_1 : decode cJ0_checkBoundsBeginEnd_23922 1 = .ok (.iload_n 1, 1) := by decide +kernel
theorem dJ0_checkBoundsBeginEnd_23922_2 : decode cJ0_checkBoundsBeginEnd_23922 2 = .ok (.iload_n 2, 1) := by decide +kernel
theorem dJ0_checkBoundsBeginEnd_23922_3 : decode cJ0_checkBoundsBeginEnd_23922 3 = .ok (.getstatic 1053, 3) := by decide +kernel
theorem dJ0_checkBoundsBeginEnd_23922_6 : decode cJ0_checkBoundsBeginEnd_23922 6 = .ok (.invokestatic 1062, 3) := by decide +kernel
theorem dJ0_checkBoundsBeginEnd_23922_9 : decode cJ0_checkBoundsBeginEnd_23922 9 = .ok (.pop, 1) := by decide +kernel
theorem dJ0_checkBoundsBeginEnd_23922_10 : decode cJ0_checkBoundsBeginEnd_23922 10 = .ok (.return_, 1) := by decide +kernel
theorem dJ1_canEncode_9a6ad_0 : decode cJ1_canEncode_9a6ad 0 = .ok (.iload_n 0, 1) := by decide +kernel
theorem dJ1_canEncode_9a6ad_1 : decode cJ1_canEncode_9a6ad 1 = .ok (.ifCond .lt 14, 3) := by decide +kernel
theorem dJ1_canEncode_9a6ad_4 : decode cJ1_canEncode_9a6ad 4 = .ok (.iload_n 0, 1) := by decide +kernel
theorem dJ1_canEncode_9a6ad_5 : decode cJ1_canEncode_9a6ad 5 = .ok (.sipush 255, 3) := by decide +kernel
theorem dJ1_canEncode_9a6ad_8 : decode cJ1_canEncode_9a6ad 8 = .ok (.if_icmp .gt 7, 3) := by decide +kernel
theorem dJ1_canEncode_9a6ad_11 : decode cJ1_canEncode_9a6ad 11 = .ok (.iconst 1, 1) := by decide +kernel
theorem dJ1_canEncode_9a6ad_12 : decode cJ1_canEncode_9a6ad 12 = .ok (.goto 4, 3) := by decide +kernel
theorem dJ1_canEncode_9a6ad_15 : decode cJ1_canEncode_9a6ad 15 = .ok (.iconst 0, 1) := by decide +kernel
theorem dJ1_canEncode_9a6ad_16 : decode cJ1_canEncode_9a6ad 16 = .ok (.ireturn, 1) := by decide +kernel
theorem dJ1_indexOf_4cfef_0 : decode cJ1_indexOf_4cfef 0 = .ok (.iload_n 1, 1) := by decide +kernel
theorem dJ1_indexOf_4cfef_1 : decode cJ1_indexOf_4cfef 1 = .ok (.invokestatic 88, 3) := by decide +kernel
theorem dJ1_indexOf_4cfef_4 : decode cJ1_indexOf_4cfef 4 = .ok (.ifCond .ne 5, 3) := by decide +kernel
theorem dJ1_indexOf_4cfef_7 : decode cJ1_indexOf_4cfef 7 = .ok (.iconst (-1), 1) := by decide +kernel
theorem dJ1_indexOf_4cfef_8 : decode cJ1_indexOf_4cfef 8 = .ok (.ireturn, 1) := by decide +kernel
theorem dJ1_indexOf_4cfef_9 : decode cJ1_indexOf_4cfef 9 = .ok (.iload_n 2, 1) := by decide +kernel
theorem dJ1_indexOf_4cfef_10 : decode cJ1_indexOf_4cfef 10 = .ok (.iconst 0, 1) := by decide +kernel
theorem dJ1_indexOf_4cfef_11 : decode cJ1_indexOf_4cfef 11 = .ok (.invokestatic 92, 3) := by decide +kernel
theorem dJ1_indexOf_4cfef_14 : decode cJ1_indexOf_4cfef 14 = .ok (.istore_n 2, 1) := by decide +kernel
theorem dJ1_indexOf_4cfef_15 : decode cJ1_indexOf_4cfef 15 = .ok (.iload_n 3, 1) := by decide +kernel
theorem dJ1_indexOf_4cfef_16 : decode cJ1_indexOf_4cfef 16 = .ok (.aload_n 0, 1) := by decide +kernel
theorem dJ1_indexOf_4cfef_17 : decode cJ1_indexOf_4cfef 17 = .ok (.arraylength, 1) := by decide +kernel
theorem dJ1_indexOf_4cfef_18 : decode cJ1_indexOf_4cfef 18 = .ok (.invokestatic 38, 3) := by decide +kernel
theorem dJ1_indexOf_4cfef_21 : decode cJ1_indexOf_4cfef 21 = .ok (.istore_n 3, 1) := by decide +kernel
theorem dJ1_indexOf_4cfef_22 : decode cJ1_indexOf_4cfef 22 = .ok (.iload_n 2, 1) := by decide +kernel
theorem dJ1_indexOf_4cfef_23 : decode cJ1_indexOf_4cfef 23 = .ok (.iload_n 3, 1) := by decide +kernel
theorem dJ1_indexOf_4cfef_24 : decode cJ1_indexOf_4cfef 24 = .ok (.if_icmp .lt 5, 3) := by decide +kernel
theorem dJ1_indexOf_4cfef_27 : decode cJ1_indexOf_4cfef 27 = .ok (.iconst (-1), 1) := by decide +kernel
theorem dJ1_indexOf_4cfef_28 : decode cJ1_indexOf_4cfef 28 = .ok (.ireturn, 1) := by decide +kernel
theorem dJ1_indexOf_4cfef_29 : decode cJ1_indexOf_4cfef 29 = .ok (.aload_n 0, 1) := by decide +kernel
theorem dJ1_indexOf_4cfef_30 : decode cJ1_indexOf_4cfef 30 = .ok (.iload_n 1, 1) := by decide +kernel
theorem dJ1_indexOf_4cfef_31 : decode cJ1_indexOf_4cfef 31 = .ok (.iload_n 2, 1) := by decide +kernel
theorem dJ1_indexOf_4cfef_32 : decode cJ1_indexOf_4cfef 32 = .ok (.iload_n 3, 1) := by decide +kernel
theorem dJ1_indexOf_4cfef_33 : decode cJ1_indexOf_4cfef 33 = .ok (.invokestatic 95, 3) := by decide +kernel
theorem dJ1_indexOf_4cfef_36 : decode cJ1_indexOf_4cfef 36 = .ok (.ireturn, 1) := by decide +kernel
theorem dJ1_indexOfChar_4cfef_0 : decode cJ1_indexOfChar_4cfef 0 = .ok (.iload_n 1, 1) := by decide +kernel
theorem dJ1_indexOfChar_4cfef_1 : decode cJ1_indexOfChar_4cfef 1 = .ok (.i2b, 1) := by decide +kernel
theorem dJ1_indexOfChar_4cfef_2 : decode cJ1_indexOfChar_4cfef 2 = .ok (.istore 4, 2) := by decide +kernel
theorem dJ1_indexOfChar_4cfef_4 : decode cJ1_indexOfChar_4cfef 4 = .ok (.iload_n 2, 1) := by decide +kernel
theorem dJ1_indexOfChar_4cfef_5 : decode cJ1_indexOfChar_4cfef 5 = .ok (.istore 5, 2) := by decide +kernel
theorem dJ1_indexOfChar_4cfef_7 : decode cJ1_indexOfChar_4cfef 7 = .ok (.iload 5, 2) := by decide +kernel
theorem dJ1_indexOfChar_4cfef_9 : decode cJ1_indexOfChar_4cfef 9 = .ok (.iload_n 3, 1) := by decide +kernel
theorem dJ1_indexOfChar_4cfef_10 : decode cJ1_indexOfChar_4cfef 10 = .ok (.if_icmp .ge 21, 3) := by decide +kernel
theorem dJ1_indexOfChar_4cfef_13 : decode cJ1_indexOfChar_4cfef 13 = .ok (.aload_n 0, 1) := by decide +kernel
theorem dJ1_indexOfChar_4cfef_14 : decode cJ1_indexOfChar_4cfef 14 = .ok (.iload 5, 2) := by decide +kernel
theorem dJ1_indexOfChar_4cfef_16 : decode cJ1_indexOfChar_4cfef 16 = .ok (.baload, 1) := by decide +kernel
theorem dJ1_indexOfChar_4cfef_17 : decode cJ1_indexOfChar_4cfef 17 = .ok (.iload 4, 2) := by decide +kernel
theorem dJ1_indexOfChar_4cfef_19 : decode cJ1_indexOfChar_4cfef 19 = .ok (.if_icmp .ne 6, 3) := by decide +kernel
theorem dJ1_indexOfChar_4cfef_22 : decode cJ1_indexOfChar_4cfef 22 = .ok (.iload 5, 2) := by decide +kernel
theorem dJ1_indexOfChar_4cfef_24 : decode cJ1_indexOfChar_4cfef 24 = .ok (.ireturn, 1) := by decide +kernel
theorem dJ1_indexOfChar_4cfef_25 : decode cJ1_indexOfChar_4cfef 25 = .ok (.iinc 5 1, 3) := by decide +kernel
theorem dJ1_indexOfChar_4cfef_28 : decode cJ1_indexOfChar_4cfef 28 = .ok (.goto (-21), 3) := by decide +kernel
theorem dJ1_indexOfChar_4cfef_31 : decode cJ1_indexOfChar_4cfef 31 = .ok (.iconst (-1), 1) := by decide +kernel
theorem dJ1_indexOfChar_4cfef_32 : decode cJ1_indexOfChar_4cfef 32 = .ok (.ireturn, 1) := by decide +kernel
theorem dJ2_getChar_3b067_0 : decode cJ2_getChar_3b067 0 = .ok (.getstatic 44, 3) := by decide +kernel
theorem dJ2_getChar_3b067_3 : decode cJ2_getChar_3b067 3 = .ok (.ifCond .ne 25, 3) := by decide +kernel
theorem dJ2_getChar_3b067_6 : decode cJ2_getChar_3b067 6 = .ok (.iload_n 1, 1) := by decide +kernel
theorem dJ2_getChar_3b067_7 : decode cJ2_getChar_3b067 7 = .ok (.ifCond .lt 11, 3) := by decide +kernel
theorem dJ2_getChar_3b067_10 : decode cJ2_getChar_3b067 10 = .ok (.iload_n 1, 1) := by decide +kernel
theorem dJ2_getChar_3b067_11 : decode cJ2_getChar_3b067 11 = .ok (.aload_n 0, 1) := by decide +kernel
theorem dJ2_getChar_3b067_12 : decode cJ2_getChar_3b067 12 = .ok (.invokestatic 48, 3) := by decide +kernel
theorem dJ2_getChar_3b067_15 : decode cJ2_getChar_3b067 15 = .ok (.if_icmp .lt 13, 3) := by decide +kernel
theorem dJ2_getChar_3b067_18 : decode cJ2_getChar_3b067 18 = .ok (.new 52, 3) := by decide +kernel
theorem dJ2_getChar_3b067_21 : decode cJ2_getChar_3b067 21 = .ok (.dup, 1) := by decide +kernel
theorem dJ2_getChar_3b067_22 : decode cJ2_getChar_3b067 22 = .ok (.ldc 54, 2) := by decide +kernel
theorem dJ2_getChar_3b067_24 : decode cJ2_getChar_3b067 24 = .ok (.invokespecial 56, 3) := by decide +kernel
theorem dJ2_getChar_3b067_27 : decode cJ2_getChar_3b067 27 = .ok (.athrow, 1) := by decide +kernel
theorem dJ2_getChar_3b067_28 : decode cJ2_getChar_3b067 28 = .ok (.iload_n 1, 1) := by decide +kernel
theorem dJ2_getChar_3b067_29 : decode cJ2_getChar_3b067 29 = .ok (.iconst 1, 1) := by decide +kernel
theorem dJ2_getChar_3b067_30 : decode cJ2_getChar_3b067 30 = .ok (.ishl, 1) := by decide +kernel
theorem dJ2_getChar_3b067_31 : decode cJ2_getChar_3b067 31 = .ok (.istore_n 1, 1) := by decide +kernel
theorem dJ2_getChar_3b067_32 : decode cJ2_getChar_3b067 32 = .ok (.aload_n 0, 1) := by decide +kernel
theorem dJ2_getChar_3b067_33 : decode cJ2_getChar_3b067 33 = .ok (.iload_n 1, 1) := by decide +kernel
theorem dJ2_getChar_3b067_34 : decode cJ2_getChar_3b067 34 = .ok (.iinc 1 1, 3) := by decide +kernel
theorem dJ2_getChar_3b067_37 : decode cJ2_getChar_3b067 37 = .ok (.baload, 1) := by decide +kernel
theorem dJ2_getChar_3b067_38 : decode cJ2_getChar_3b067 38 = .ok (.sipush 255, 3) := by decide +kernel
theorem dJ2_getChar_3b067_41 : decode cJ2_getChar_3b067 41 = .ok (.iand, 1) := by decide +kernel
theorem dJ2_getChar_3b067_42 : decode cJ2_getChar_3b067 42 = .ok (.getstatic 59, 3) := by decide +kernel
theorem dJ2_getChar_3b067_45 : decode cJ2_getChar_3b067 45 = .ok (.ishl, 1) := by decide +kernel
theorem dJ2_getChar_3b067_46 : decode cJ2_getChar_3b067 46 = .ok (.aload_n 0, 1) := by decide +kernel
theorem dJ2_getChar_3b067_47 : decode cJ2_getChar_3b067 47 = .ok (.iload_n 1, 1) := by decide +kernel
theorem dJ2_getChar_3b067_48 : decode cJ2_getChar_3b067 48 = .ok (.baload, 1) := by decide +kernel
theorem dJ2_getChar_3b067_49 : decode cJ2_getChar_3b067 49 = .ok (.sipush 255, 3) := by decide +kernel
theorem dJ2_getChar_3b067_52 : decode cJ2_getChar_3b067 52 = .ok (.iand, 1) := by decide +kernel
theorem dJ2_getChar_3b067_53 : decode cJ2_getChar_3b067 53 = .ok (.getstatic 63, 3) := by decide +kernel
theorem dJ2_getChar_3b067_56 : decode cJ2_getChar_3b067 56 = .ok (.ishl, 1) := by decide +kernel
theorem dJ2_getChar_3b067_57 : decode cJ2_getChar_3b067 57 = .ok (.ior, 1) := by decide +kernel
theorem dJ2_getChar_3b067_58 : decode cJ2_getChar_3b067 58 = .ok (.i2c, 1) := by decide +kernel
theorem dJ2_getChar_3b067_59 : decode cJ2_getChar_3b067 59 = .ok (.ireturn, 1) := by decide +kernel
theorem dJ2_length_9d52b_0 : decode cJ2_length_9d52b 0 = .ok (.aload_n 0, 1) := by decide +kernel
theorem dJ2_length_9d52b_1 : decode cJ2_length_9d52b 1 = .ok (.arraylength, 1) := by decide +kernel
theorem dJ2_length_9d52b_2 : decode cJ2_length_9d52b 2 = .ok (.iconst 1, 1) := by decide +kernel
theorem dJ2_length_9d52b_3 : decode cJ2_length_9d52b 3 = .ok (.ishr, 1) := by decide +kernel
theorem dJ2_length_9d52b_4 : decode cJ2_length_9d52b 4 = .ok (.ireturn, 1) := by decide +kernel
theorem dJ2_indexOf_4cfef_0 : decode cJ2_indexOf_4cfef 0 = .ok (.iload_n 2, 1) := by decide +kernel
theorem dJ2_indexOf_4cfef_1 : decode cJ2_indexOf_4cfef 1 = .ok (.iconst 0, 1) := by decide +kernel
theorem dJ2_indexOf_4cfef_2 : decode cJ2_indexOf_4cfef 2 = .ok (.invokestatic 224, 3) := by decide +kernel
theorem dJ2_indexOf_4cfef_5 : decode cJ2_indexOf_4cfef 5 = .ok (.istore_n 2, 1) := by decide +kernel
theorem dJ2_indexOf_4cfef_6 : decode cJ2_indexOf_4cfef 6 = .ok (.iload_n 3, 1) := by decide +kernel
theorem dJ2_indexOf_4cfef_7 : decode cJ2_indexOf_4cfef 7 = .ok (.aload_n 0, 1) := by decide +kernel
theorem dJ2_indexOf_4cfef_8 : decode cJ2_indexOf_4cfef 8 = .ok (.arraylength, 1) := by decide +kernel
theorem dJ2_indexOf_4cfef_9 : decode cJ2_indexOf_4cfef 9 = .ok (.iconst 1, 1) := by decide +kernel
theorem dJ2_indexOf_4cfef_10 : decode cJ2_indexOf_4cfef 10 = .ok (.ishr, 1) := by decide +kernel
theorem dJ2_indexOf_4cfef_11 : decode cJ2_indexOf_4cfef 11 = .ok (.invokestatic 183, 3) := by decide +kernel
theorem dJ2_indexOf_4cfef_14 : decode cJ2_indexOf_4cfef 14 = .ok (.istore_n 3, 1) := by decide +kernel
theorem dJ2_indexOf_4cfef_15 : decode cJ2_indexOf_4cfef 15 = .ok (.iload_n 2, 1) := by decide +kernel
theorem dJ2_indexOf_4cfef_16 : decode cJ2_indexOf_4cfef 16 = .ok (.iload_n 3, 1) := by decide +kernel
theorem dJ2_indexOf_4cfef_17 : decode cJ2_indexOf_4cfef 17 = .ok (.if_icmp .lt 5, 3) := by decide +kernel
theorem dJ2_indexOf_4cfef_20 : decode cJ2_indexOf_4cfef 20 = .ok (.iconst (-1), 1) := by decide +kernel
theorem dJ2_indexOf_4cfef_21 : decode cJ2_indexOf_4cfef 21 = .ok (.ireturn, 1) := by decide +kernel
theorem dJ2_indexOf_4cfef_22 : decode cJ2_indexOf_4cfef 22 = .ok (.iload_n 1, 1) := by decide +kernel
theorem dJ2_indexOf_4cfef_23 : decode cJ2_indexOf_4cfef 23 = .ok (.ldc 227, 2) := by decide +kernel
theorem dJ2_indexOf_4cfef_25 : decode cJ2_indexOf_4cfef 25 = .ok (.if_icmp .ge 11, 3) := by decide +kernel
theorem dJ2_indexOf_4cfef_28 : decode cJ2_indexOf_4cfef 28 = .ok (.aload_n 0, 1) := by decide +kernel
theorem dJ2_indexOf_4cfef_29 : decode cJ2_indexOf_4cfef 29 = .ok (.iload_n 1, 1) := by decide +kernel
theorem dJ2_indexOf_4cfef_30 : decode cJ2_indexOf_4cfef 30 = .ok (.iload_n 2, 1) := by decide +kernel
theorem dJ2_indexOf_4cfef_31 : decode cJ2_indexOf_4cfef 31 = .ok (.iload_n 3, 1) := by decide +kernel
theorem dJ2_indexOf_4cfef_32 : decode cJ2_indexOf_4cfef 32 = .ok (.invokestatic 228, 3) := by decide +kernel
theorem dJ2_indexOf_4cfef_35 : decode cJ2_indexOf_4cfef 35 = .ok (.ireturn, 1) := by decide +kernel
theorem dJ2_indexOf_4cfef_36 : decode cJ2_indexOf_4cfef 36 = .ok (.aload_n 0, 1) := by decide +kernel
theorem dJ2_indexOf_4cfef_37 : decode cJ2_indexOf_4cfef 37 = .ok (.iload_n 1, 1) := by decide +kernel
theorem dJ2_indexOf_4cfef_38 : decode cJ2_indexOf_4cfef 38 = .ok (.iload_n 2, 1) := by decide +kernel
theorem dJ2_indexOf_4cfef_39 : decode cJ2_indexOf_4cfef 39 = .ok (.iload_n 3, 1) := by decide +kernel
theorem dJ2_indexOf_4cfef_40 : decode cJ2_indexOf_4cfef 40 = .ok (.invokestatic 232, 3) := by decide +kernel
theorem dJ2_indexOf_4cfef_43 : decode cJ2_indexOf_4cfef 43 = .ok (.ireturn, 1) := by decide +kernel
theorem dJ2_indexOfChar_4cfef_0 : decode cJ2_indexOfChar_4cfef 0 = .ok (.iload_n 2, 1) := by decide +kernel
theorem dJ2_indexOfChar_4cfef_1 : decode cJ2_indexOfChar_4cfef 1 = .ok (.iload_n 3, 1) := by decide +kernel
theorem dJ2_indexOfChar_4cfef_2 : decode cJ2_indexOfChar_4cfef 2 = .ok (.aload_n 0, 1) := by decide +kernel
theorem dJ2_indexOfChar_4cfef_3 : decode cJ2_indexOfChar_4cfef 3 = .ok (.invokestatic 96, 3) := by decide +kernel
theorem dJ2_indexOfChar_4cfef_6 : decode cJ2_indexOfChar_4cfef 6 = .ok (.aload_n 0, 1) := by decide +kernel
theorem dJ2_indexOfChar_4cfef_7 : decode cJ2_indexOfChar_4cfef 7 = .ok (.iload_n 1, 1) := by decide +kernel
theorem dJ2_indexOfChar_4cfef_8 : decode cJ2_indexOfChar_4cfef 8 = .ok (.iload_n 2, 1) := by decide +kernel
theorem dJ2_indexOfChar_4cfef_9 : decode cJ2_indexOfChar_4cfef 9 = .ok (.iload_n 3, 1) := by decide +kernel
theorem dJ2_indexOfChar_4cfef_10 : decode cJ2_indexOfChar_4cfef 10 = .ok (.invokestatic 244, 3) := by decide +kernel
theorem dJ2_indexOfChar_4cfef_13 : decode cJ2_indexOfChar_4cfef 13 = .ok (.ireturn, 1) := by decide +kernel
theorem dJ2_indexOfCharUnsafe_4cfef_0 : decode cJ2_indexOfCharUnsafe_4cfef 0 = .ok (.iload_n 2, 1) := by decide +kernel
theorem dJ2_indexOfCharUnsafe_4cfef_1 : decode cJ2_indexOfCharUnsafe_4cfef 1 = .ok (.istore 4, 2) := by decide +kernel
theorem dJ2_indexOfCharUnsafe_4cfef_3 : decode cJ2_indexOfCharUnsafe_4cfef 3 = .ok (.iload 4, 2) := by decide +kernel
theorem dJ2_indexOfCharUnsafe_4cfef_5 : decode cJ2_indexOfCharUnsafe_4cfef 5 = .ok (.iload_n 3, 1) := by decide +kernel
theorem dJ2_indexOfCharUnsafe_4cfef_6 : decode cJ2_indexOfCharUnsafe_4cfef 6 = .ok (.if_icmp .ge 22, 3) := by decide +kernel
theorem dJ2_indexOfCharUnsafe_4cfef_9 : decode cJ2_indexOfCharUnsafe_4cfef 9 = .ok (.aload_n 0, 1) := by decide +kernel
theorem dJ2_indexOfCharUnsafe_4cfef_10 : decode cJ2_indexOfCharUnsafe_4cfef 10 = .ok (.iload 4, 2) := by decide +kernel
theorem dJ2_indexOfCharUnsafe_4cfef_12 : decode cJ2_indexOfCharUnsafe_4cfef 12 = .ok (.invokestatic 71, 3) := by decide +kernel
theorem dJ2_indexOfCharUnsafe_4cfef_15 : decode cJ2_indexOfCharUnsafe_4cfef 15 = .ok (.iload_n 1, 1) := by decide +kernel
theorem dJ2_indexOfCharUnsafe_4cfef_16 : decode cJ2_indexOfCharUnsafe_4cfef 16 = .ok (.if_icmp .ne 6, 3) := by decide +kernel
theorem dJ2_indexOfCharUnsafe_4cfef_19 : decode cJ2_indexOfCharUnsafe_4cfef 19 = .ok (.iload 4, 2) := by decide +kernel
theorem dJ2_indexOfCharUnsafe_4cfef_21 : decode cJ2_indexOfCharUnsafe_4cfef 21 = .ok (.ireturn, 1) := by decide +kernel
theorem dJ2_indexOfCharUnsafe_4cfef_22 : decode cJ2_indexOfCharUnsafe_4cfef 22 = .ok (.iinc 4 1, 3) := by decide +kernel
theorem dJ2_indexOfCharUnsafe_4cfef_25 : decode cJ2_indexOfCharUnsafe_4cfef 25 = .ok (.goto (-22), 3) := by decide +kernel
theorem dJ2_indexOfCharUnsafe_4cfef_28 : decode cJ2_indexOfCharUnsafe_4cfef 28 = .ok (.iconst (-1), 1) := by decide +kernel
theorem dJ2_indexOfCharUnsafe_4cfef_29 : decode cJ2_indexOfCharUnsafe_4cfef 29 = .ok (.ireturn, 1) := by decide +kernel
theorem dJ2_indexOfSupplementary_4cfef_0 : decode cJ2_indexOfSupplementary_4cfef 0 = .ok (.iload_n 1, 1) := by decide +kernel
theorem dJ2_indexOfSupplementary_4cfef_1 : decode cJ2_indexOfSupplementary_4cfef 1 = .ok (.invokestatic 164, 3) := by decide +kernel
theorem dJ2_indexOfSupplementary_4cfef_4 : decode cJ2_indexOfSupplementary_4cfef 4 = .ok (.ifCond .eq 65, 3) := by decide +kernel
theorem dJ2_indexOfSupplementary_4cfef_7 : decode cJ2_indexOfSupplementary_4cfef 7 = .ok (.iload_n 1, 1) := by decide +kernel
theorem dJ2_indexOfSupplementary_4cfef_8 : decode cJ2_indexOfSupplementary_4cfef 8 = .ok (.invokestatic 157, 3) := by decide +kernel
theorem dJ2_indexOfSupplementary_4cfef_11 : decode cJ2_indexOfSupplementary_4cfef 11 = .ok (.istore 4, 2) := by decide +kernel
theorem dJ2_indexOfSupplementary_4cfef_13 : decode cJ2_indexOfSupplementary_4cfef 13 = .ok (.iload_n 1, 1) := by decide +kernel
theorem dJ2_indexOfSupplementary_4cfef_14 : decode cJ2_indexOfSupplementary_4cfef 14 = .ok (.invokestatic 161, 3) := by decide +kernel
theorem dJ2_indexOfSupplementary_4cfef_17 : decode cJ2_indexOfSupplementary_4cfef 17 = .ok (.istore 5, 2) := by decide +kernel
theorem dJ2_indexOfSupplementary_4cfef_19 : decode cJ2_indexOfSupplementary_4cfef 19 = .ok (.iload_n 2, 1) := by decide +kernel
theorem dJ2_indexOfSupplementary_4cfef_20 : decode cJ2_indexOfSupplementary_4cfef 20 = .ok (.iload_n 3, 1) := by decide +kernel
theorem dJ2_indexOfSupplementary_4cfef_21 : decode cJ2_indexOfSupplementary_4cfef 21 = .ok (.aload_n 0, 1) := by decide +kernel
theorem dJ2_indexOfSupplementary_4cfef_22 : decode cJ2_indexOfSupplementary_4cfef 22 = .ok (.invokestatic 96, 3) := by decide +kernel
theorem dJ2_indexOfSupplementary_4cfef_25 : decode cJ2_indexOfSupplementary_4cfef 25 = .ok (.iload_n 2, 1) := by decide +kernel
theorem dJ2_indexOfSupplementary_4cfef_26 : decode cJ2_indexOfSupplementary_4cfef 26 = .ok (.istore 6, 2) := by decide +kernel
theorem dJ2_indexOfSupplementary_4cfef_28 : decode cJ2_indexOfSupplementary_4cfef 28 = .ok (.iload 6, 2) := by decide +kernel
theorem dJ2_indexOfSupplementary_4cfef_30 : decode cJ2_indexOfSupplementary_4cfef 30 = .ok (.iload_n 3, 1) := by decide +kernel
theorem dJ2_indexOfSupplementary_4cfef_31 : decode cJ2_indexOfSupplementary_4cfef 31 = .ok (.iconst 1, 1) := by decide +kernel
theorem dJ2_indexOfSupplementary_4cfef_32 : decode cJ2_indexOfSupplementary_4cfef 32 = .ok (.isub, 1) := by decide +kernel
theorem dJ2_indexOfSupplementary_4cfef_33 : decode cJ2_indexOfSupplementary_4cfef 33 = .ok (.if_icmp .ge 36, 3) := by decide +kernel
theorem dJ2_indexOfSupplementary_4cfef_36 : decode cJ2_indexOfSupplementary_4cfef 36 = .ok (.aload_n 0, 1) := by decide +kernel
theorem dJ2_indexOfSupplementary_4cfef_37 : decode cJ2_indexOfSupplementary_4cfef 37 = .ok (.iload 6, 2) := by decide +kernel
theorem dJ2_indexOfSupplementary_4cfef_39 : decode cJ2_indexOfSupplementary_4cfef 39 = .ok (.invokestatic 71, 3) := by decide +kernel
theorem dJ2_indexOfSupplementary_4cfef_42 : decode cJ2_indexOfSupplementary_4cfef 42 = .ok (.iload 4, 2) := by decide +kernel
theorem dJ2_indexOfSupplementary_4cfef_44 : decode cJ2_indexOfSupplementary_4cfef 44 = .ok (.if_icmp .ne 19, 3) := by decide +kernel
theorem dJ2_indexOfSupplementary_4cfef_47 : decode cJ2_indexOfSupplementary_4cfef 47 = .ok (.aload_n 0, 1) := by decide +kernel
theorem dJ2_indexOfSupplementary_4cfef_48 : decode cJ2_indexOfSupplementary_4cfef 48 = .ok (.iload 6, 2) := by decide +kernel
theorem dJ2_indexOfSupplementary_4cfef_50 : decode cJ2_indexOfSupplementary_4cfef 50 = .ok (.iconst 1, 1) := by decide +kernel
theorem dJ2_indexOfSupplementary_4cfef_51 : decode cJ2_indexOfSupplementary_4cfef 51 = .ok (.iadd, 1) := by decide +kernel
theorem dJ2_indexOfSupplementary_4cfef_52 : decode cJ2_indexOfSupplementary_4cfef 52 = .ok (.invokestatic 71, 3) := by decide +kernel
theorem dJ2_indexOfSupplementary_4cfef_55 : decode cJ2_indexOfSupplementary_4cfef 55 = .ok (.iload 5, 2) := by decide +kernel
theorem dJ2_indexOfSupplementary_4cfef_57 : decode cJ2_indexOfSupplementary_4cfef 57 = .ok (.if_icmp .ne 6, 3) := by decide +kernel
theorem dJ2_indexOfSupplementary_4cfef_60 : decode cJ2_indexOfSupplementary_4cfef 60 = .ok (.iload 6, 2) := by decide +kernel
theorem dJ2_indexOfSupplementary_4cfef_62 : decode cJ2_indexOfSupplementary_4cfef 62 = .ok (.ireturn, 1) := by decide +kernel
theorem dJ2_indexOfSupplementary_4cfef_63 : decode cJ2_indexOfSupplementary_4cfef 63 = .ok (.iinc 6 1, 3) := by decide +kernel
theorem dJ2_indexOfSupplementary_4cfef_66 : decode cJ2_indexOfSupplementary_4cfef 66 = .ok (.goto (-38), 3) := by decide +kernel
theorem dJ2_indexOfSupplementary_4cfef_69 : decode cJ2_indexOfSupplementary_4cfef 69 = .ok (.iconst (-1), 1) := by decide +kernel
theorem dJ2_indexOfSupplementary_4cfef_70 : decode cJ2_indexOfSupplementary_4cfef 70 = .ok (.ireturn, 1) := by decide +kernel
theorem dJ2_checkBoundsBeginEnd_d044e_0 : decode cJ2_checkBoundsBeginEnd_d044e 0 = .ok (.iload_n 0, 1) := by decide +kernel
theorem dJ2_checkBoundsBeginEnd_d044e_1 : decode cJ2_checkBoundsBeginEnd_d044e 1 = .ok (.iload_n 1, 1) := by decide +kernel
theorem dJ2_checkBoundsBeginEnd_d044e_2 : decode cJ2_checkBoundsBeginEnd_d044e 2 = .ok (.aload_n 2, 1) := by decide +kernel
theorem dJ2_checkBoundsBeginEnd_d044e_3 : decode cJ2_checkBoundsBeginEnd_d044e 3 = .ok (.invokestatic 48, 3) := by decide +kernel
theorem dJ2_checkBoundsBeginEnd_d044e_6 : decode cJ2_checkBoundsBeginEnd_d044e 6 = .ok (.invokestatic 241, 3) := by decide +kernel
theorem dJ2_checkBoundsBeginEnd_d044e_9 : decode cJ2_checkBoundsBeginEnd_d044e 9 = .ok (.return_, 1) := by decide +kernel
theorem dJ3_checkFromToIndex_8c36e_0 : decode cJ3_checkFromToIndex_8c36e 0 = .ok (.iload_n 0, 1) := by decide +kernel
theorem dJ3_checkFromToIndex_8c36e_1 : decode cJ3_checkFromToIndex_8c36e 1 = .ok (.ifCond .lt 13, 3) := by decide +kernel
theorem dJ3_checkFromToIndex_8c36e_4 : decode cJ3_checkFromToIndex_8c36e 4 = .ok (.iload_n 0, 1) := by decide +kernel
theorem dJ3_checkFromToIndex_8c36e_5 : decode cJ3_checkFromToIndex_8c36e 5 = .ok (.iload_n 1, 1) := by decide +kernel
theorem dJ3_checkFromToIndex_8c36e_6 : decode cJ3_checkFromToIndex_8c36e 6 = .ok (.if_icmp .gt 8, 3) := by decide +kernel
theorem dJ3_checkFromToIndex_8c36e_9 : decode cJ3_checkFromToIndex_8c36e 9 = .ok (.iload_n 1, 1) := by decide +kernel
theorem dJ3_checkFromToIndex_8c36e_10 : decode cJ3_checkFromToIndex_8c36e 10 = .ok (.iload_n 2, 1) := by decide +kernel
theorem dJ3_checkFromToIndex_8c36e_11 : decode cJ3_checkFromToIndex_8c36e 11 = .ok (.if_icmp .le 11, 3) := by decide +kernel
theorem dJ3_checkFromToIndex_8c36e_14 : decode cJ3_checkFromToIndex_8c36e 14 = .ok (.aload_n 3, 1) := by decide +kernel
theorem dJ3_checkFromToIndex_8c36e_15 : decode cJ3_checkFromToIndex_8c36e 15 = .ok (.iload_n 0, 1) := by decide +kernel
theorem dJ3_checkFromToIndex_8c36e_16 : decode cJ3_checkFromToIndex_8c36e 16 = .ok (.iload_n 1, 1) := by decide +kernel
theorem dJ3_checkFromToIndex_8c36e_17 : decode cJ3_checkFromToIndex_8c36e 17 = .ok (.iload_n 2, 1) := by decide +kernel
theorem dJ3_checkFromToIndex_8c36e_18 : decode cJ3_checkFromToIndex_8c36e 18 = .ok (.invokestatic 99, 3) := by decide +kernel
theorem dJ3_checkFromToIndex_8c36e_21 : decode cJ3_checkFromToIndex_8c36e 21 = .ok (.athrow, 1) := by decide +kernel
theorem dJ3_checkFromToIndex_8c36e_22 : decode cJ3_checkFromToIndex_8c36e 22 = .ok (.iload_n 0, 1) := by decide +kernel
theorem dJ3_checkFromToIndex_8c36e_23 : decode cJ3_checkFromToIndex_8c36e 23 = .ok (.ireturn, 1) := by decide +kernel
theorem dL_define_0 : decode cL_define 0 = .ok (.aload_n 2, 1) := by decide +kernel
theorem dL_define_1 : decode cL_define 1 = .ok (.iconst 0, 1) := by decide +kernel
theorem dL_define_2 : decode cL_define 2 = .ok (.aload_n 0, 1) := by decide +kernel
theorem dL_define_3 : decode cL_define 3 = .ok (.iload_n 1, 1) := by decide +kernel
theorem dL_define_4 : decode cL_define 4 = .ok (.invokevirtual 7, 3) := by decide +kernel
theorem dL_define_7 : decode cL_define 7 = .ok (.i2l, 1) := by decide +kernel
theorem dL_define_8 : decode cL_define 8 = .ok (.lastore, 1) := by decide +kernel
theorem dL_define_9 : decode cL_define 9 = .ok (.goto 9, 3) := by decide +kernel
theorem dL_define_12 : decode cL_define 12 = .ok (.astore_n 3, 1) := by decide +kernel
theorem dL_define_13 : decode cL_define 13 = .ok (.iconst 1, 1) := by decide +kernel
theorem dL_define_14 : decode cL_define 14 = .ok (.ireturn, 1) := by decide +kernel
theorem dL_define_15 : decode cL_define 15 = .ok (.astore_n 3, 1) := by decide +kernel
theorem dL_define_16 : decode cL_define 16 = .ok (.iconst 2, 1) := by decide +kernel
theorem dL_define_17 : decode cL_define 17 = .ok (.ireturn, 1) := by decide +kernel
theorem dL_define_18 : decode cL_define 18 = .ok (.iconst 0, 1) := by decide +kernel
theorem dL_define_19 : decode cL_define 19 = .ok (.ireturn, 1) := by decide +kernel
theorem dL_input_0 : decode cL_input 0 = .ok (.aload_n 2, 1) := by decide +kernel
theorem dL_input_1 : decode cL_input 1 = .ok (.iconst 0, 1) := by decide +kernel
theorem dL_input_2 : decode cL_input 2 = .ok (.aload_n 0, 1) := by decide +kernel
theorem dL_input_3 : decode cL_input 3 = .ok (.iload_n 1, 1) := by decide +kernel
theorem dL_input_4 : decode cL_input 4 = .ok (.invokevirtual 17, 3) := by decide +kernel
theorem dL_input_7 : decode cL_input 7 = .ok (.ifCond .eq 7, 3) := by decide +kernel
theorem dL_input_10 : decode cL_input 10 = .ok (.lconst 1, 1) := by decide +kernel
theorem dL_input_11 : decode cL_input 11 = .ok (.goto 4, 3) := by decide +kernel
theorem dL_input_14 : decode cL_input 14 = .ok (.lconst 0, 1) := by decide +kernel
theorem dL_input_15 : decode cL_input 15 = .ok (.lastore, 1) := by decide +kernel
theorem dL_input_16 : decode cL_input 16 = .ok (.goto 6, 3) := by decide +kernel
theorem dL_input_19 : decode cL_input 19 = .ok (.astore_n 3, 1) := by decide +kernel
theorem dL_input_20 : decode cL_input 20 = .ok (.iconst 1, 1) := by decide +kernel
theorem dL_input_21 : decode cL_input 21 = .ok (.ireturn, 1) := by decide +kernel
theorem dL_input_22 : decode cL_input 22 = .ok (.iconst 0, 1) := by decide +kernel
theorem dL_input_23 : decode cL_input 23 = .ok (.ireturn, 1) := by decide +kernel
theorem dL_total_0 : decode cL_total 0 = .ok (.aload_n 2, 1) := by decide +kernel
theorem dL_total_1 : decode cL_total 1 = .ok (.iconst 0, 1) := by decide +kernel
theorem dL_total_2 : decode cL_total 2 = .ok (.aload_n 0, 1) := by decide +kernel
theorem dL_total_3 : decode cL_total 3 = .ok (.iload_n 1, 1) := by decide +kernel
theorem dL_total_4 : decode cL_total 4 = .ok (.invokevirtual 21, 3) := by decide +kernel
theorem dL_total_7 : decode cL_total 7 = .ok (.i2l, 1) := by decide +kernel
theorem dL_total_8 : decode cL_total 8 = .ok (.lastore, 1) := by decide +kernel
theorem dL_total_9 : decode cL_total 9 = .ok (.goto 6, 3) := by decide +kernel
theorem dL_total_12 : decode cL_total 12 = .ok (.astore_n 3, 1) := by decide +kernel
theorem dL_total_13 : decode cL_total 13 = .ok (.iconst 1, 1) := by decide +kernel
theorem dL_total_14 : decode cL_total 14 = .ok (.ireturn, 1) := by decide +kernel
theorem dL_total_15 : decode cL_total 15 = .ok (.iconst 0, 1) := by decide +kernel
theorem dL_total_16 : decode cL_total 16 = .ok (.ireturn, 1) := by decide +kernel
theorem dL_bracket_0 : decode cL_bracket 0 = .ok (.aload 4, 2) := by decide +kernel
theorem dL_bracket_2 : decode cL_bracket 2 = .ok (.iconst 0, 1) := by decide +kernel
theorem dL_bracket_3 : decode cL_bracket 3 = .ok (.aload_n 0, 1) := by decide +kernel
theorem dL_bracket_4 : decode cL_bracket 4 = .ok (.iload_n 1, 1) := by decide +kernel
theorem dL_bracket_5 : decode cL_bracket 5 = .ok (.iload_n 2, 1) := by decide +kernel
theorem dL_bracket_6 : decode cL_bracket 6 = .ok (.iload_n 3, 1) := by decide +kernel
theorem dL_bracket_7 : decode cL_bracket 7 = .ok (.invokevirtual 24, 3) := by decide +kernel
theorem dL_bracket_10 : decode cL_bracket 10 = .ok (.i2l, 1) := by decide +kernel
theorem dL_bracket_11 : decode cL_bracket 11 = .ok (.lastore, 1) := by decide +kernel
theorem dL_bracket_12 : decode cL_bracket 12 = .ok (.goto 15, 3) := by decide +kernel
theorem dL_bracket_15 : decode cL_bracket 15 = .ok (.astore 5, 2) := by decide +kernel
theorem dL_bracket_17 : decode cL_bracket 17 = .ok (.iconst 1, 1) := by decide +kernel
theorem dL_bracket_18 : decode cL_bracket 18 = .ok (.ireturn, 1) := by decide +kernel
theorem dL_bracket_19 : decode cL_bracket 19 = .ok (.astore 5, 2) := by decide +kernel
theorem dL_bracket_21 : decode cL_bracket 21 = .ok (.iconst 2, 1) := by decide +kernel
theorem dL_bracket_22 : decode cL_bracket 22 = .ok (.ireturn, 1) := by decide +kernel
theorem dL_bracket_23 : decode cL_bracket 23 = .ok (.astore 5, 2) := by decide +kernel
theorem dL_bracket_25 : decode cL_bracket 25 = .ok (.iconst 3, 1) := by decide +kernel
theorem dL_bracket_26 : decode cL_bracket 26 = .ok (.ireturn, 1) := by decide +kernel
theorem dL_bracket_27 : decode cL_bracket 27 = .ok (.iconst 0, 1) := by decide +kernel
theorem dL_bracket_28 : decode cL_bracket 28 = .ok (.ireturn, 1) := by decide +kernel
theorem dL_reset_0 : decode cL_reset 0 = .ok (.aload_n 3, 1) := by decide +kernel
theorem dL_reset_1 : decode cL_reset 1 = .ok (.iconst 0, 1) := by decide +kernel
theorem dL_reset_2 : decode cL_reset 2 = .ok (.aload_n 0, 1) := by decide +kernel
theorem dL_reset_3 : decode cL_reset 3 = .ok (.iload_n 1, 1) := by decide +kernel
theorem dL_reset_4 : decode cL_reset 4 = .ok (.iload_n 2, 1) := by decide +kernel
theorem dL_reset_5 : decode cL_reset 5 = .ok (.invokevirtual 30, 3) := by decide +kernel
theorem dL_reset_8 : decode cL_reset 8 = .ok (.i2l, 1) := by decide +kernel
theorem dL_reset_9 : decode cL_reset 9 = .ok (.lastore, 1) := by decide +kernel
theorem dL_reset_10 : decode cL_reset 10 = .ok (.goto 11, 3) := by decide +kernel
theorem dL_reset_13 : decode cL_reset 13 = .ok (.astore 4, 2) := by decide +kernel
theorem dL_reset_15 : decode cL_reset 15 = .ok (.iconst 1, 1) := by decide +kernel
theorem dL_reset_16 : decode cL_reset 16 = .ok (.ireturn, 1) := by decide +kernel
theorem dL_reset_17 : decode cL_reset 17 = .ok (.astore 4, 2) := by decide +kernel
theorem dL_reset_19 : decode cL_reset 19 = .ok (.iconst 2, 1) := by decide +kernel
theorem dL_reset_20 : decode cL_reset 20 = .ok (.ireturn, 1) := by decide +kernel
theorem dL_reset_21 : decode cL_reset 21 = .ok (.iconst 0, 1) := by decide +kernel
theorem dL_reset_22 : decode cL_reset 22 = .ok (.ireturn, 1) := by decide +kernel
theorem dL_order_0 : decode cL_order 0 = .ok (.aload_n 2, 1) := by decide +kernel
theorem dL_order_1 : decode cL_order 1 = .ok (.iconst 0, 1) := by decide +kernel
theorem dL_order_2 : decode cL_order 2 = .ok (.aload_n 0, 1) := by decide +kernel
theorem dL_order_3 : decode cL_order 3 = .ok (.iload_n 1, 1) := by decide +kernel
theorem dL_order_4 : decode cL_order 4 = .ok (.invokevirtual 34, 3) := by decide +kernel
theorem dL_order_7 : decode cL_order 7 = .ok (.i2l, 1) := by decide +kernel
theorem dL_order_8 : decode cL_order 8 = .ok (.lastore, 1) := by decide +kernel
theorem dL_order_9 : decode cL_order 9 = .ok (.goto 9, 3) := by decide +kernel
theorem dL_order_12 : decode cL_order 12 = .ok (.astore_n 3, 1) := by decide +kernel
theorem dL_order_13 : decode cL_order 13 = .ok (.iconst 1, 1) := by decide +kernel
theorem dL_order_14 : decode cL_order 14 = .ok (.ireturn, 1) := by decide +kernel
theorem dL_order_15 : decode cL_order 15 = .ok (.astore_n 3, 1) := by decide +kernel
theorem dL_order_16 : decode cL_order 16 = .ok (.iconst 2, 1) := by decide +kernel
theorem dL_order_17 : decode cL_order 17 = .ok (.ireturn, 1) := by decide +kernel
theorem dL_order_18 : decode cL_order 18 = .ok (.iconst 0, 1) := by decide +kernel
theorem dL_order_19 : decode cL_order 19 = .ok (.ireturn, 1) := by decide +kernel
theorem dL_file_0 : decode cL_file 0 = .ok (.aload 5, 2) := by decide +kernel
theorem dL_file_2 : decode cL_file 2 = .ok (.iconst 0, 1) := by decide +kernel
theorem dL_file_3 : decode cL_file 3 = .ok (.aload_n 0, 1) := by decide +kernel
theorem dL_file_4 : decode cL_file 4 = .ok (.iload_n 1, 1) := by decide +kernel
theorem dL_file_5 : decode cL_file 5 = .ok (.iload_n 2, 1) := by decide +kernel
theorem dL_file_6 : decode cL_file 6 = .ok (.iload_n 3, 1) := by decide +kernel
theorem dL_file_7 : decode cL_file 7 = .ok (.iload 4, 2) := by decide +kernel
theorem dL_file_9 : decode cL_file 9 = .ok (.invokevirtual 37, 3) := by decide +kernel
theorem dL_file_12 : decode cL_file 12 = .ok (.i2l, 1) := by decide +kernel
theorem dL_file_13 : decode cL_file 13 = .ok (.lastore, 1) := by decide +kernel
theorem dL_file_14 : decode cL_file 14 = .ok (.goto 11, 3) := by decide +kernel
theorem dL_file_17 : decode cL_file 17 = .ok (.astore 6, 2) := by decide +kernel
theorem dL_file_19 : decode cL_file 19 = .ok (.iconst 1, 1) := by decide +kernel
theorem dL_file_20 : decode cL_file 20 = .ok (.ireturn, 1) := by decide +kernel
theorem dL_file_21 : decode cL_file 21 = .ok (.astore 6, 2) := by decide +kernel
theorem dL_file_23 : decode cL_file 23 = .ok (.iconst 2, 1) := by decide +kernel
theorem dL_file_24 : decode cL_file 24 = .ok (.ireturn, 1) := by decide +kernel
theorem dL_file_25 : decode cL_file 25 = .ok (.iconst 0, 1) := by decide +kernel
theorem dL_file_26 : decode cL_file 26 = .ok (.ireturn, 1) := by decide +kernel
theorem dL_assess_0 : decode cL_assess 0 = .ok (.aload_n 3, 1) := by decide +kernel
theorem dL_assess_1 : decode cL_assess 1 = .ok (.iconst 0, 1) := by decide +kernel
theorem dL_assess_2 : decode cL_assess 2 = .ok (.aload_n 0, 1) := by decide +kernel
theorem dL_assess_3 : decode cL_assess 3 = .ok (.iload_n 1, 1) := by decide +kernel
theorem dL_assess_4 : decode cL_assess 4 = .ok (.iload_n 2, 1) := by decide +kernel
theorem dL_assess_5 : decode cL_assess 5 = .ok (.invokevirtual 41, 3) := by decide +kernel
theorem dL_assess_8 : decode cL_assess 8 = .ok (.lastore, 1) := by decide +kernel
theorem dL_assess_9 : decode cL_assess 9 = .ok (.goto 15, 3) := by decide +kernel
theorem dL_assess_12 : decode cL_assess 12 = .ok (.astore 4, 2) := by decide +kernel
theorem dL_assess_14 : decode cL_assess 14 = .ok (.iconst 1, 1) := by decide +kernel
theorem dL_assess_15 : decode cL_assess 15 = .ok (.ireturn, 1) := by decide +kernel
theorem dL_assess_16 : decode cL_assess 16 = .ok (.astore 4, 2) := by decide +kernel
theorem dL_assess_18 : decode cL_assess 18 = .ok (.iconst 2, 1) := by decide +kernel
theorem dL_assess_19 : decode cL_assess 19 = .ok (.ireturn, 1) := by decide +kernel
theorem dL_assess_20 : decode cL_assess 20 = .ok (.astore 4, 2) := by decide +kernel
theorem dL_assess_22 : decode cL_assess 22 = .ok (.iconst 3, 1) := by decide +kernel
theorem dL_assess_23 : decode cL_assess 23 = .ok (.ireturn, 1) := by decide +kernel
theorem dL_assess_24 : decode cL_assess 24 = .ok (.iconst 0, 1) := by decide +kernel
theorem dL_assess_25 : decode cL_assess 25 = .ok (.ireturn, 1) := by decide +kernel
theorem dL_value_0 : decode cL_value 0 = .ok (.aload 4, 2) := by decide +kernel
theorem dL_value_2 : decode cL_value 2 = .ok (.iconst 0, 1) := by decide +kernel
theorem dL_value_3 : decode cL_value 3 = .ok (.aload_n 0, 1) := by decide +kernel
theorem dL_value_4 : decode cL_value 4 = .ok (.iload_n 1, 1) := by decide +kernel
theorem dL_value_5 : decode cL_value 5 = .ok (.iload_n 2, 1) := by decide +kernel
theorem dL_value_6 : decode cL_value 6 = .ok (.iload_n 3, 1) := by decide +kernel
theorem dL_value_7 : decode cL_value 7 = .ok (.invokevirtual 47, 3) := by decide +kernel
theorem dL_value_10 : decode cL_value 10 = .ok (.lastore, 1) := by decide +kernel
theorem dL_value_11 : decode cL_value 11 = .ok (.goto 11, 3) := by decide +kernel
theorem dL_value_14 : decode cL_value 14 = .ok (.astore 5, 2) := by decide +kernel
theorem dL_value_16 : decode cL_value 16 = .ok (.iconst 1, 1) := by decide +kernel
theorem dL_value_17 : decode cL_value 17 = .ok (.ireturn, 1) := by decide +kernel
theorem dL_value_18 : decode cL_value 18 = .ok (.astore 5, 2) := by decide +kernel
theorem dL_value_20 : decode cL_value 20 = .ok (.iconst 2, 1) := by decide +kernel
theorem dL_value_21 : decode cL_value 21 = .ok (.ireturn, 1) := by decide +kernel
theorem dL_value_22 : decode cL_value 22 = .ok (.iconst 0, 1) := by decide +kernel
theorem dL_value_23 : decode cL_value 23 = .ok (.ireturn, 1) := by decide +kernel
theorem dL_share_0 : decode cL_share 0 = .ok (.aload 4, 2) := by decide +kernel
theorem dL_share_2 : decode cL_share 2 = .ok (.iconst 0, 1) := by decide +kernel
theorem dL_share_3 : decode cL_share 3 = .ok (.aload_n 0, 1) := by decide +kernel
theorem dL_share_4 : decode cL_share 4 = .ok (.iload_n 1, 1) := by decide +kernel
theorem dL_share_5 : decode cL_share 5 = .ok (.iload_n 2, 1) := by decide +kernel
theorem dL_share_6 : decode cL_share 6 = .ok (.iload_n 3, 1) := by decide +kernel
theorem dL_share_7 : decode cL_share 7 = .ok (.invokevirtual 51, 3) := by decide +kernel
theorem dL_share_10 : decode cL_share 10 = .ok (.dastore, 1) := by decide +kernel
theorem dL_share_11 : decode cL_share 11 = .ok (.goto 11, 3) := by decide +kernel
theorem dL_share_14 : decode cL_share 14 = .ok (.astore 5, 2) := by decide +kernel
theorem dL_share_16 : decode cL_share 16 = .ok (.iconst 1, 1) := by decide +kernel
theorem dL_share_17 : decode cL_share 17 = .ok (.ireturn, 1) := by decide +kernel
theorem dL_share_18 : decode cL_share 18 = .ok (.astore 5, 2) := by decide +kernel
theorem dL_share_20 : decode cL_share 20 = .ok (.iconst 2, 1) := by decide +kernel
theorem dL_share_21 : decode cL_share 21 = .ok (.ireturn, 1) := by decide +kernel
theorem dL_share_22 : decode cL_share 22 = .ok (.iconst 0, 1) := by decide +kernel
theorem dL_share_23 : decode cL_share 23 = .ok (.ireturn, 1) := by decide +kernel
theorem dL_pay_0 : decode cL_pay 0 = .ok (.aload_n 3, 1) := by decide +kernel
theorem dL_pay_1 : decode cL_pay 1 = .ok (.iconst 0, 1) := by decide +kernel
theorem dL_pay_2 : decode cL_pay 2 = .ok (.aload_n 0, 1) := by decide +kernel
theorem dL_pay_3 : decode cL_pay 3 = .ok (.iload_n 1, 1) := by decide +kernel
theorem dL_pay_4 : decode cL_pay 4 = .ok (.iload_n 2, 1) := by decide +kernel
theorem dL_pay_5 : decode cL_pay 5 = .ok (.invokevirtual 55, 3) := by decide +kernel
theorem dL_pay_8 : decode cL_pay 8 = .ok (.lastore, 1) := by decide +kernel
theorem dL_pay_9 : decode cL_pay 9 = .ok (.goto 15, 3) := by decide +kernel
theorem dL_pay_12 : decode cL_pay 12 = .ok (.astore 4, 2) := by decide +kernel
theorem dL_pay_14 : decode cL_pay 14 = .ok (.iconst 1, 1) := by decide +kernel
theorem dL_pay_15 : decode cL_pay 15 = .ok (.ireturn, 1) := by decide +kernel
theorem dL_pay_16 : decode cL_pay 16 = .ok (.astore 4, 2) := by decide +kernel
theorem dL_pay_18 : decode cL_pay 18 = .ok (.iconst 2, 1) := by decide +kernel
theorem dL_pay_19 : decode cL_pay 19 = .ok (.ireturn, 1) := by decide +kernel
theorem dL_pay_20 : decode cL_pay 20 = .ok (.astore 4, 2) := by decide +kernel
theorem dL_pay_22 : decode cL_pay 22 = .ok (.iconst 3, 1) := by decide +kernel
theorem dL_pay_23 : decode cL_pay 23 = .ok (.ireturn, 1) := by decide +kernel
theorem dL_pay_24 : decode cL_pay 24 = .ok (.iconst 0, 1) := by decide +kernel
theorem dL_pay_25 : decode cL_pay 25 = .ok (.ireturn, 1) := by decide +kernel
theorem dL_interest_0 : decode cL_interest 0 = .ok (.aload_n 2, 1) := by decide +kernel
theorem dL_interest_1 : decode cL_interest 1 = .ok (.iconst 0, 1) := by decide +kernel
theorem dL_interest_2 : decode cL_interest 2 = .ok (.aload_n 0, 1) := by decide +kernel
theorem dL_interest_3 : decode cL_interest 3 = .ok (.iload_n 1, 1) := by decide +kernel
theorem dL_interest_4 : decode cL_interest 4 = .ok (.invokevirtual 58, 3) := by decide +kernel
theorem dL_interest_7 : decode cL_interest 7 = .ok (.i2l, 1) := by decide +kernel
theorem dL_interest_8 : decode cL_interest 8 = .ok (.lastore, 1) := by decide +kernel
theorem dL_interest_9 : decode cL_interest 9 = .ok (.goto 6, 3) := by decide +kernel
theorem dL_interest_12 : decode cL_interest 12 = .ok (.astore_n 3, 1) := by decide +kernel
theorem dL_interest_13 : decode cL_interest 13 = .ok (.iconst 1, 1) := by decide +kernel
theorem dL_interest_14 : decode cL_interest 14 = .ok (.ireturn, 1) := by decide +kernel
theorem dL_interest_15 : decode cL_interest 15 = .ok (.iconst 0, 1) := by decide +kernel
theorem dL_interest_16 : decode cL_interest 16 = .ok (.ireturn, 1) := by decide +kernel
theorem dL_pass_0 : decode cL_pass 0 = .ok (.aload_n 2, 1) := by decide +kernel
theorem dL_pass_1 : decode cL_pass 1 = .ok (.iconst 0, 1) := by decide +kernel
theorem dL_pass_2 : decode cL_pass 2 = .ok (.aload_n 0, 1) := by decide +kernel
theorem dL_pass_3 : decode cL_pass 3 = .ok (.iload_n 1, 1) := by decide +kernel
theorem dL_pass_4 : decode cL_pass 4 = .ok (.invokevirtual 61, 3) := by decide +kernel
theorem dL_pass_7 : decode cL_pass 7 = .ok (.i2l, 1) := by decide +kernel
theorem dL_pass_8 : decode cL_pass 8 = .ok (.lastore, 1) := by decide +kernel
theorem dL_pass_9 : decode cL_pass 9 = .ok (.goto 9, 3) := by decide +kernel
theorem dL_pass_12 : decode cL_pass 12 = .ok (.astore_n 3, 1) := by decide +kernel
theorem dL_pass_13 : decode cL_pass 13 = .ok (.iconst 1, 1) := by decide +kernel
theorem dL_pass_14 : decode cL_pass 14 = .ok (.ireturn, 1) := by decide +kernel
theorem dL_pass_15 : decode cL_pass 15 = .ok (.astore_n 3, 1) := by decide +kernel
theorem dL_pass_16 : decode cL_pass 16 = .ok (.iconst 2, 1) := by decide +kernel
theorem dL_pass_17 : decode cL_pass 17 = .ok (.ireturn, 1) := by decide +kernel
theorem dL_pass_18 : decode cL_pass 18 = .ok (.iconst 0, 1) := by decide +kernel
theorem dL_pass_19 : decode cL_pass 19 = .ok (.ireturn, 1) := by decide +kernel
theorem dL_balance_0 : decode cL_balance 0 = .ok (.aload_n 2, 1) := by decide +kernel
theorem dL_balance_1 : decode cL_balance 1 = .ok (.iconst 0, 1) := by decide +kernel
theorem dL_balance_2 : decode cL_balance 2 = .ok (.aload_n 0, 1) := by decide +kernel
theorem dL_balance_3 : decode cL_balance 3 = .ok (.iload_n 1, 1) := by decide +kernel
theorem dL_balance_4 : decode cL_balance 4 = .ok (.invokevirtual 64, 3) := by decide +kernel
theorem dL_balance_7 : decode cL_balance 7 = .ok (.lastore, 1) := by decide +kernel
theorem dL_balance_8 : decode cL_balance 8 = .ok (.goto 6, 3) := by decide +kernel
theorem dL_balance_11 : decode cL_balance 11 = .ok (.astore_n 3, 1) := by decide +kernel
theorem dL_balance_12 : decode cL_balance 12 = .ok (.iconst 1, 1) := by decide +kernel
theorem dL_balance_13 : decode cL_balance 13 = .ok (.ireturn, 1) := by decide +kernel
theorem dL_balance_14 : decode cL_balance 14 = .ok (.iconst 0, 1) := by decide +kernel
theorem dL_balance_15 : decode cL_balance 15 = .ok (.ireturn, 1) := by decide +kernel
theorem dL_posting_0 : decode cL_posting 0 = .ok (.aload 4, 2) := by decide +kernel
theorem dL_posting_2 : decode cL_posting 2 = .ok (.iconst 0, 1) := by decide +kernel
theorem dL_posting_3 : decode cL_posting 3 = .ok (.aload_n 0, 1) := by decide +kernel
theorem dL_posting_4 : decode cL_posting 4 = .ok (.iload_n 1, 1) := by decide +kernel
theorem dL_posting_5 : decode cL_posting 5 = .ok (.iload_n 2, 1) := by decide +kernel
theorem dL_posting_6 : decode cL_posting 6 = .ok (.iload_n 3, 1) := by decide +kernel
theorem dL_posting_7 : decode cL_posting 7 = .ok (.invokevirtual 68, 3) := by decide +kernel
theorem dL_posting_10 : decode cL_posting 10 = .ok (.lastore, 1) := by decide +kernel
theorem dL_posting_11 : decode cL_posting 11 = .ok (.goto 11, 3) := by decide +kernel
theorem dL_posting_14 : decode cL_posting 14 = .ok (.astore 5, 2) := by decide +kernel
theorem dL_posting_16 : decode cL_posting 16 = .ok (.iconst 1, 1) := by decide +kernel
theorem dL_posting_17 : decode cL_posting 17 = .ok (.ireturn, 1) := by decide +kernel
theorem dL_posting_18 : decode cL_posting 18 = .ok (.astore 5, 2) := by decide +kernel
theorem dL_posting_20 : decode cL_posting 20 = .ok (.iconst 2, 1) := by decide +kernel
theorem dL_posting_21 : decode cL_posting 21 = .ok (.ireturn, 1) := by decide +kernel
theorem dL_posting_22 : decode cL_posting 22 = .ok (.iconst 0, 1) := by decide +kernel
theorem dL_posting_23 : decode cL_posting 23 = .ok (.ireturn, 1) := by decide +kernel
theorem dL_law_0 : decode cL_law 0 = .ok (.new 8, 3) := by decide +kernel
theorem dL_law_3 : decode cL_law 3 = .ok (.dup, 1) := by decide +kernel
theorem dL_law_4 : decode cL_law 4 = .ok (.invokespecial 71, 3) := by decide +kernel
theorem dL_law_7 : decode cL_law 7 = .ok (.astore_n 1, 1) := by decide +kernel
theorem dL_law_8 : decode cL_law 8 = .ok (.new 72, 3) := by decide +kernel
theorem dL_law_11 : decode cL_law 11 = .ok (.dup, 1) := by decide +kernel
theorem dL_law_12 : decode cL_law 12 = .ok (.invokespecial 74, 3) := by decide +kernel
theorem dL_law_15 : decode cL_law 15 = .ok (.astore_n 2, 1) := by decide +kernel
theorem dL_law_16 : decode cL_law 16 = .ok (.iconst 1, 1) := by decide +kernel
theorem dL_law_17 : decode cL_law 17 = .ok (.newarray .long, 2) := by decide +kernel
theorem dL_law_19 : decode cL_law 19 = .ok (.astore_n 3, 1) := by decide +kernel
theorem dL_law_20 : decode cL_law 20 = .ok (.iconst 1, 1) := by decide +kernel
theorem dL_law_21 : decode cL_law 21 = .ok (.newarray .double, 2) := by decide +kernel
theorem dL_law_23 : decode cL_law 23 = .ok (.astore 4, 2) := by decide +kernel
theorem dL_law_25 : decode cL_law 25 = .ok (.iconst 0, 1) := by decide +kernel
theorem dL_law_26 : decode cL_law 26 = .ok (.istore 5, 2) := by decide +kernel
theorem dL_law_28 : decode cL_law 28 = .ok (.iload 5, 2) := by decide +kernel
theorem dL_law_30 : decode cL_law 30 = .ok (.aload_n 0, 1) := by decide +kernel
theorem dL_law_31 : decode cL_law 31 = .ok (.arraylength, 1) := by decide +kernel
theorem dL_law_32 : decode cL_law 32 = .ok (.iconst 5, 1) := by decide +kernel
theorem dL_law_33 : decode cL_law 33 = .ok (.isub, 1) := by decide +kernel
theorem dL_law_34 : decode cL_law 34 = .ok (.if_icmp .gt 1171, 3) := by decide +kernel
theorem dL_law_37 : decode cL_law 37 = .ok (.aload_n 0, 1) := by decide +kernel
theorem dL_law_38 : decode cL_law 38 = .ok (.iload 5, 2) := by decide +kernel
theorem dL_law_40 : decode cL_law 40 = .ok (.iaload, 1) := by decide +kernel
theorem dL_law_41 : decode cL_law 41 = .ok (.bipush 31, 2) := by decide +kernel
theorem dL_law_43 : decode cL_law 43 = .ok (.iand, 1) := by decide +kernel
theorem dL_law_44 : decode cL_law 44 = .ok (.tableswitch 1155 0 16 #[84, 111, 124, 180, 243, 299, 379, 447, 503, 595, 662, 741, 842, 909, 965, 1021, 1076], 84) := by decide +kernel
theorem dL_law_128 : decode cL_law 128 = .ok (.aload_n 1, 1) := by decide +kernel
theorem dL_law_129 : decode cL_law 129 = .ok (.aload_n 0, 1) := by decide +kernel
theorem dL_law_130 : decode cL_law 130 = .ok (.iload 5, 2) := by decide +kernel
theorem dL_law_132 : decode cL_law 132 = .ok (.iconst 1, 1) := by decide +kernel
theorem dL_law_133 : decode cL_law 133 = .ok (.iadd, 1) := by decide +kernel
theorem dL_law_134 : decode cL_law 134 = .ok (.iaload, 1) := by decide +kernel
theorem dL_law_135 : decode cL_law 135 = .ok (.i2c, 1) := by decide +kernel
theorem dL_law_136 : decode cL_law 136 = .ok (.invokevirtual 75, 3) := by decide +kernel
theorem dL_law_139 : decode cL_law 139 = .ok (.aload_n 2, 1) := by decide +kernel
theorem dL_law_140 : decode cL_law 140 = .ok (.aload_n 0, 1) := by decide +kernel
theorem dL_law_141 : decode cL_law 141 = .ok (.iload 5, 2) := by decide +kernel
theorem dL_law_143 : decode cL_law 143 = .ok (.iconst 1, 1) := by decide +kernel
theorem dL_law_144 : decode cL_law 144 = .ok (.iadd, 1) := by decide +kernel
theorem dL_law_145 : decode cL_law 145 = .ok (.iaload, 1) := by decide +kernel
theorem dL_law_146 : decode cL_law 146 = .ok (.i2c, 1) := by decide +kernel
theorem dL_law_147 : decode cL_law 147 = .ok (.invokevirtual 79, 3) := by decide +kernel
theorem dL_law_150 : decode cL_law 150 = .ok (.if_icmp .eq 1049, 3) := by decide +kernel
theorem dL_law_153 : decode cL_law 153 = .ok (.iconst 0, 1) := by decide +kernel
theorem dL_law_154 : decode cL_law 154 = .ok (.ireturn, 1) := by decide +kernel
theorem dL_law_155 : decode cL_law 155 = .ok (.aload_n 1, 1) := by decide +kernel
theorem dL_law_156 : decode cL_law 156 = .ok (.invokevirtual 80, 3) := by decide +kernel
theorem dL_law_159 : decode cL_law 159 = .ok (.aload_n 2, 1) := by decide +kernel
theorem dL_law_160 : decode cL_law 160 = .ok (.invokevirtual 84, 3) := by decide +kernel
theorem dL_law_163 : decode cL_law 163 = .ok (.if_icmp .eq 1036, 3) := by decide +kernel
theorem dL_law_166 : decode cL_law 166 = .ok (.iconst 0, 1) := by decide +kernel
theorem dL_law_167 : decode cL_law 167 = .ok (.ireturn, 1) := by decide +kernel
theorem dL_law_168 : decode cL_law 168 = .ok (.aload_n 1, 1) := by decide +kernel
theorem dL_law_169 : decode cL_law 169 = .ok (.aload_n 0, 1) := by decide +kernel
theorem dL_law_170 : decode cL_law 170 = .ok (.iload 5, 2) := by decide +kernel
theorem dL_law_172 : decode cL_law 172 = .ok (.iconst 1, 1) := by decide +kernel
theorem dL_law_173 : decode cL_law 173 = .ok (.iadd, 1) := by decide +kernel
theorem dL_law_174 : decode cL_law 174 = .ok (.iaload, 1) := by decide +kernel
theorem dL_law_175 : decode cL_law 175 = .ok (.aload_n 3, 1) := by decide +kernel
theorem dL_law_176 : decode cL_law 176 = .ok (.invokestatic 85, 3) := by decide +kernel
theorem dL_law_179 : decode cL_law 179 = .ok (.istore 6, 2) := by decide +kernel
theorem dL_law_181 : decode cL_law 181 = .ok (.aload_n 2, 1) := by decide +kernel
theorem dL_law_182 : decode cL_law 182 = .ok (.aload_n 0, 1) := by decide +kernel
theorem dL_law_183 : decode cL_law 183 = .ok (.iload 5, 2) := by decide +kernel
theorem dL_law_185 : decode cL_law 185 = .ok (.iconst 1, 1) := by decide +kernel
theorem dL_law_186 : decode cL_law 186 = .ok (.iadd, 1) := by decide +kernel
theorem dL_law_187 : decode cL_law 187 = .ok (.iaload, 1) := by decide +kernel
theorem dL_law_188 : decode cL_law 188 = .ok (.invokevirtual 90, 3) := by decide +kernel
theorem dL_law_191 : decode cL_law 191 = .ok (.istore 7, 2) := by decide +kernel
theorem dL_law_193 : decode cL_law 193 = .ok (.aload_n 2, 1) := by decide +kernel
theorem dL_law_194 : decode cL_law 194 = .ok (.invokevirtual 91, 3) := by decide +kernel
theorem dL_law_197 : decode cL_law 197 = .ok (.iload 6, 2) := by decide +kernel
theorem dL_law_199 : decode cL_law 199 = .ok (.if_icmp .eq 5, 3) := by decide +kernel
theorem dL_law_202 : decode cL_law 202 = .ok (.iconst 0, 1) := by decide +kernel
theorem dL_law_203 : decode cL_law 203 = .ok (.ireturn, 1) := by decide +kernel
theorem dL_law_204 : decode cL_law 204 = .ok (.iload 6, 2) := by decide +kernel
theorem dL_law_206 : decode cL_law 206 = .ok (.ifCond .ne 15, 3) := by decide +kernel
theorem dL_law_209 : decode cL_law 209 = .ok (.aload_n 3, 1) := by decide +kernel
theorem dL_law_210 : decode cL_law 210 = .ok (.iconst 0, 1) := by decide +kernel
theorem dL_law_211 : decode cL_law 211 = .ok (.laload, 1) := by decide +kernel
theorem dL_law_212 : decode cL_law 212 = .ok (.iload 7, 2) := by decide +kernel
theorem dL_law_214 : decode cL_law 214 = .ok (.i2l, 1) := by decide +kernel
theorem dL_law_215 : decode cL_law 215 = .ok (.lcmp, 1) := by decide +kernel
theorem dL_law_216 : decode cL_law 216 = .ok (.ifCond .eq 5, 3) := by decide +kernel
theorem dL_law_219 : decode cL_law 219 = .ok (.iconst 0, 1) := by decide +kernel
theorem dL_law_220 : decode cL_law 220 = .ok (.ireturn, 1) := by decide +kernel
theorem dL_law_221 : decode cL_law 221 = .ok (.goto 978, 3) := by decide +kernel
theorem dL_law_224 : decode cL_law 224 = .ok (.aload_n 1, 1) := by decide +kernel
theorem dL_law_225 : decode cL_law 225 = .ok (.aload_n 0, 1) := by decide +kernel
theorem dL_law_226 : decode cL_law 226 = .ok (.iload 5, 2) := by decide +kernel
theorem dL_law_228 : decode cL_law 228 = .ok (.iconst 1, 1) := by decide +kernel
theorem dL_law_229 : decode cL_law 229 = .ok (.iadd, 1) := by decide +kernel
theorem dL_law_230 : decode cL_law 230 = .ok (.iaload, 1) := by decide +kernel
theorem dL_law_231 : decode cL_law 231 = .ok (.aload_n 3, 1) := by decide +kernel
theorem dL_law_232 : decode cL_law 232 = .ok (.invokestatic 94, 3) := by decide +kernel
theorem dL_law_235 : decode cL_law 235 = .ok (.istore 6, 2) := by decide +kernel
theorem dL_law_237 : decode cL_law 237 = .ok (.aload_n 2, 1) := by decide +kernel
theorem dL_law_238 : decode cL_law 238 = .ok (.aload_n 0, 1) := by decide +kernel
theorem dL_law_239 : decode cL_law 239 = .ok (.iload 5, 2) := by decide +kernel
theorem dL_law_241 : decode cL_law 241 = .ok (.iconst 1, 1) := by decide +kernel
theorem dL_law_242 : decode cL_law 242 = .ok (.iadd, 1) := by decide +kernel
theorem dL_law_243 : decode cL_law 243 = .ok (.iaload, 1) := by decide +kernel
theorem dL_law_244 : decode cL_law 244 = .ok (.invokevirtual 96, 3) := by decide +kernel
theorem dL_law_247 : decode cL_law 247 = .ok (.istore 7, 2) := by decide +kernel
theorem dL_law_249 : decode cL_law 249 = .ok (.aload_n 2, 1) := by decide +kernel
theorem dL_law_250 : decode cL_law 250 = .ok (.invokevirtual 91, 3) := by decide +kernel
theorem dL_law_253 : decode cL_law 253 = .ok (.iload 6, 2) := by decide +kernel
theorem dL_law_255 : decode cL_law 255 = .ok (.if_icmp .eq 5, 3) := by decide +kernel
theorem dL_law_258 : decode cL_law 258 = .ok (.iconst 0, 1) := by decide +kernel
theorem dL_law_259 : decode cL_law 259 = .ok (.ireturn, 1) := by decide +kernel
theorem dL_law_260 : decode cL_law 260 = .ok (.iload 6, 2) := by decide +kernel
theorem dL_law_262 : decode cL_law 262 = .ok (.ifCond .ne 22, 3) := by decide +kernel
theorem dL_law_265 : decode cL_law 265 = .ok (.aload_n 3, 1) := by decide +kernel
theorem dL_law_266 : decode cL_law 266 = .ok (.iconst 0, 1) := by decide +kernel
theorem dL_law_267 : decode cL_law 267 = .ok (.laload, 1) := by decide +kernel
theorem dL_law_268 : decode cL_law 268 = .ok (.iload 7, 2) := by decide +kernel
theorem dL_law_270 : decode cL_law 270 = .ok (.ifCond .eq 7, 3) := by decide +kernel
theorem dL_law_273 : decode cL_law 273 = .ok (.lconst 1, 1) := by decide +kernel
theorem dL_law_274 : decode cL_law 274 = .ok (.goto 4, 3) := by decide +kernel
theorem dL_law_277 : decode cL_law 277 = .ok (.lconst 0, 1) := by decide +kernel
theorem dL_law_278 : decode cL_law 278 = .ok (.lcmp, 1) := by decide +kernel
theorem dL_law_279 : decode cL_law 279 = .ok (.ifCond .eq 5, 3) := by decide +kernel
theorem dL_law_282 : decode cL_law 282 = .ok (.iconst 0, 1) := by decide +kernel
theorem dL_law_283 : decode cL_law 283 = .ok (.ireturn, 1) := by decide +kernel
theorem dL_law_284 : decode cL_law 284 = .ok (.goto 915, 3) := by decide +kernel
theorem dL_law_287 : decode cL_law 287 = .ok (.aload_n 1, 1) := by decide +kernel
theorem dL_law_288 : decode cL_law 288 = .ok (.aload_n 0, 1) := by decide +kernel
theorem dL_law_289 : decode cL_law 289 = .ok (.iload 5, 2) := by decide +kernel
theorem dL_law_291 : decode cL_law 291 = .ok (.iconst 1, 1) := by decide +kernel
theorem dL_law_292 : decode cL_law 292 = .ok (.iadd, 1) := by decide +kernel
theorem dL_law_293 : decode cL_law 293 = .ok (.iaload, 1) := by decide +kernel
theorem dL_law_294 : decode cL_law 294 = .ok (.aload_n 3, 1) := by decide +kernel
theorem dL_law_295 : decode cL_law 295 = .ok (.invokestatic 97, 3) := by decide +kernel
theorem dL_law_298 : decode cL_law 298 = .ok (.istore 6, 2) := by decide +kernel
theorem dL_law_300 : decode cL_law 300 = .ok (.aload_n 2, 1) := by decide +kernel
theorem dL_law_301 : decode cL_law 301 = .ok (.aload_n 0, 1) := by decide +kernel
theorem dL_law_302 : decode cL_law 302 = .ok (.iload 5, 2) := by decide +kernel
theorem dL_law_304 : decode cL_law 304 = .ok (.iconst 1, 1) := by decide +kernel
theorem dL_law_305 : decode cL_law 305 = .ok (.iadd, 1) := by decide +kernel
theorem dL_law_306 : decode cL_law 306 = .ok (.iaload, 1) := by decide +kernel
theorem dL_law_307 : decode cL_law 307 = .ok (.invokevirtual 99, 3) := by decide +kernel
theorem dL_law_310 : decode cL_law 310 = .ok (.istore 7, 2) := by decide +kernel
theorem dL_law_312 : decode cL_law 312 = .ok (.aload_n 2, 1) := by decide +kernel
theorem dL_law_313 : decode cL_law 313 = .ok (.invokevirtual 91, 3) := by decide +kernel
theorem dL_law_316 : decode cL_law 316 = .ok (.iload 6, 2) := by decide +kernel
theorem dL_law_318 : decode cL_law 318 = .ok (.if_icmp .eq 5, 3) := by decide +kernel
theorem dL_law_321 : decode cL_law 321 = .ok (.iconst 0, 1) := by decide +kernel
theorem dL_law_322 : decode cL_law 322 = .ok (.ireturn, 1) := by decide +kernel
theorem dL_law_323 : decode cL_law 323 = .ok (.iload 6, 2) := by decide +kernel
theorem dL_law_325 : decode cL_law 325 = .ok (.ifCond .ne 15, 3) := by decide +kernel
theorem dL_law_328 : decode cL_law 328 = .ok (.aload_n 3, 1) := by decide +kernel
theorem dL_law_329 : decode cL_law 329 = .ok (.iconst 0, 1) := by decide +kernel
theorem dL_law_330 : decode cL_law 330 = .ok (.laload, 1) := by decide +kernel
theorem dL_law_331 : decode cL_law 331 = .ok (.iload 7, 2) := by decide +kernel
theorem dL_law_333 : decode cL_law 333 = .ok (.i2l, 1) := by decide +kernel
theorem dL_law_334 : decode cL_law 334 = .ok (.lcmp, 1) := by decide +kernel
theorem dL_law_335 : decode cL_law 335 = .ok (.ifCond .eq 5, 3) := by decide +kernel
theorem dL_law_338 : decode cL_law 338 = .ok (.iconst 0, 1) := by decide +kernel
theorem dL_law_339 : decode cL_law 339 = .ok (.ireturn, 1) := by decide +kernel
theorem dL_law_340 : decode cL_law 340 = .ok (.goto 859, 3) := by decide +kernel
theorem dL_law_343 : decode cL_law 343 = .ok (.aload_n 1, 1) := by decide +kernel
theorem dL_law_344 : decode cL_law 344 = .ok (.aload_n 0, 1) := by decide +kernel
theorem dL_law_345 : decode cL_law 345 = .ok (.iload 5, 2) := by decide +kernel
theorem dL_law_347 : decode cL_law 347 = .ok (.iconst 1, 1) := by decide +kernel
theorem dL_law_348 : decode cL_law 348 = .ok (.iadd, 1) := by decide +kernel
theorem dL_law_349 : decode cL_law 349 = .ok (.iaload, 1) := by decide +kernel
theorem dL_law_350 : decode cL_law 350 = .ok (.aload_n 0, 1) := by decide +kernel
theorem dL_law_351 : decode cL_law 351 = .ok (.iload 5, 2) := by decide +kernel
theorem dL_law_353 : decode cL_law 353 = .ok (.iconst 2, 1) := by decide +kernel
theorem dL_law_354 : decode cL_law 354 = .ok (.iadd, 1) := by decide +kernel
theorem dL_law_355 : decode cL_law 355 = .ok (.iaload, 1) := by decide +kernel
theorem dL_law_356 : decode cL_law 356 = .ok (.aload_n 0, 1) := by decide +kernel
theorem dL_law_357 : decode cL_law 357 = .ok (.iload 5, 2) := by decide +kernel
theorem dL_law_359 : decode cL_law 359 = .ok (.iconst 3, 1) := by decide +kernel
theorem dL_law_360 : decode cL_law 360 = .ok (.iadd, 1) := by decide +kernel
theorem dL_law_361 : decode cL_law 361 = .ok (.iaload, 1) := by decide +kernel
theorem dL_law_362 : decode cL_law 362 = .ok (.aload_n 3, 1) := by decide +kernel
theorem dL_law_363 : decode cL_law 363 = .ok (.invokestatic 100, 3) := by decide +kernel
theorem dL_law_366 : decode cL_law 366 = .ok (.istore 6, 2) := by decide +kernel
theorem dL_law_368 : decode cL_law 368 = .ok (.aload_n 2, 1) := by decide +kernel
theorem dL_law_369 : decode cL_law 369 = .ok (.aload_n 0, 1) := by decide +kernel
theorem dL_law_370 : decode cL_law 370 = .ok (.iload 5, 2) := by decide +kernel
theorem dL_law_372 : decode cL_law 372 = .ok (.iconst 1, 1) := by decide +kernel
theorem dL_law_373 : decode cL_law 373 = .ok (.iadd, 1) := by decide +kernel
theorem dL_law_374 : decode cL_law 374 = .ok (.iaload, 1) := by decide +kernel
theorem dL_law_375 : decode cL_law 375 = .ok (.aload_n 0, 1) := by decide +kernel
theorem dL_law_376 : decode cL_law 376 = .ok (.iload 5, 2) := by decide +kernel
theorem dL_law_378 : decode cL_law 378 = .ok (.iconst 2, 1) := by decide +kernel
theorem dL_law_379 : decode cL_law 379 = .ok (.iadd, 1) := by decide +kernel
theorem dL_law_380 : decode cL_law 380 = .ok (.iaload, 1) := by decide +kernel
theorem dL_law_381 : decode cL_law 381 = .ok (.aload_n 0, 1) := by decide +kernel
theorem dL_law_382 : decode cL_law 382 = .ok (.iload 5, 2) := by decide +kernel
theorem dL_law_384 : decode cL_law 384 = .ok (.iconst 3, 1) := by decide +kernel
theorem dL_law_385 : decode cL_law 385 = .ok (.iadd, 1) := by decide +kernel
theorem dL_law_386 : decode cL_law 386 = .ok (.iaload, 1) := by decide +kernel
theorem dL_law_387 : decode cL_law 387 = .ok (.invokevirtual 103, 3) := by decide +kernel
theorem dL_law_390 : decode cL_law 390 = .ok (.istore 7, 2) := by decide +kernel
theorem dL_law_392 : decode cL_law 392 = .ok (.aload_n 2, 1) := by decide +kernel
theorem dL_law_393 : decode cL_law 393 = .ok (.invokevirtual 91, 3) := by decide +kernel
theorem dL_law_396 : decode cL_law 396 = .ok (.iload 6, 2) := by decide +kernel
theorem dL_law_398 : decode cL_law 398 = .ok (.if_icmp .eq 5, 3) := by decide +kernel
theorem dL_law_401 : decode cL_law 401 = .ok (.iconst 0, 1) := by decide +kernel
theorem dL_law_402 : decode cL_law 402 = .ok (.ireturn, 1) := by decide +kernel
theorem dL_law_403 : decode cL_law 403 = .ok (.iload 6, 2) := by decide +kernel
theorem dL_law_405 : decode cL_law 405 = .ok (.ifCond .ne 15, 3) := by decide +kernel
theorem dL_law_408 : decode cL_law 408 = .ok (.aload_n 3, 1) := by decide +kernel
theorem dL_law_409 : decode cL_law 409 = .ok (.iconst 0, 1) := by decide +kernel
theorem dL_law_410 : decode cL_law 410 = .ok (.laload, 1) := by decide +kernel
theorem dL_law_411 : decode cL_law 411 = .ok (.iload 7, 2) := by decide +kernel
theorem dL_law_413 : decode cL_law 413 = .ok (.i2l, 1) := by decide +kernel
theorem dL_law_414 : decode cL_law 414 = .ok (.lcmp, 1) := by decide +kernel
theorem dL_law_415 : decode cL_law 415 = .ok (.ifCond .eq 5, 3) := by decide +kernel
theorem dL_law_418 : decode cL_law 418 = .ok (.iconst 0, 1) := by decide +kernel
theorem dL_law_419 : decode cL_law 419 = .ok (.ireturn, 1) := by decide +kernel
theorem dL_law_420 : decode cL_law 420 = .ok (.goto 779, 3) := by decide +kernel
theorem dL_law_423 : decode cL_law 423 = .ok (.aload_n 1, 1) := by decide +kernel
theorem dL_law_424 : decode cL_law 424 = .ok (.aload_n 0, 1) := by decide +kernel
theorem dL_law_425 : decode cL_law 425 = .ok (.iload 5, 2) := by decide +kernel
theorem dL_law_427 : decode cL_law 427 = .ok (.iconst 1, 1) := by decide +kernel
theorem dL_law_428 : decode cL_law 428 = .ok (.iadd, 1) := by decide +kernel
theorem dL_law_429 : decode cL_law 429 = .ok (.iaload, 1) := by decide +kernel
theorem dL_law_430 : decode cL_law 430 = .ok (.aload_n 0, 1) := by decide +kernel
theorem dL_law_431 : decode cL_law 431 = .ok (.iload 5, 2) := by decide +kernel
theorem dL_law_433 : decode cL_law 433 = .ok (.iconst 2, 1) := by decide +kernel
theorem dL_law_434 : decode cL_law 434 = .ok (.iadd, 1) := by decide +kernel
theorem dL_law_435 : decode cL_law 435 = .ok (.iaload, 1) := by decide +kernel
theorem dL_law_436 : decode cL_law 436 = .ok (.aload_n 3, 1) := by decide +kernel
theorem dL_law_437 : decode cL_law 437 = .ok (.invokestatic 104, 3) := by decide +kernel
theorem dL_law_440 : decode cL_law 440 = .ok (.istore 6, 2) := by decide +kernel
theorem dL_law_442 : decode cL_law 442 = .ok (.aload_n 2, 1) := by decide +kernel
theorem dL_law_443 : decode cL_law 443 = .ok (.aload_n 0, 1) := by decide +kernel
theorem dL_law_444 : decode cL_law 444 = .ok (.iload 5, 2) := by decide +kernel
theorem dL_law_446 : decode cL_law 446 = .ok (.iconst 1, 1) := by decide +kernel
theorem dL_law_447 : decode cL_law 447 = .ok (.iadd, 1) := by decide +kernel
theorem dL_law_448 : decode cL_law 448 = .ok (.iaload, 1) := by decide +kernel
theorem dL_law_449 : decode cL_law 449 = .ok (.aload_n 0, 1) := by decide +kernel
theorem dL_law_450 : decode cL_law 450 = .ok (.iload 5, 2) := by decide +kernel
theorem dL_law_452 : decode cL_law 452 = .ok (.iconst 2, 1) := by decide +kernel
theorem dL_law_453 : decode cL_law 453 = .ok (.iadd, 1) := by decide +kernel
theorem dL_law_454 : decode cL_law 454 = .ok (.iaload, 1) := by decide +kernel
theorem dL_law_455 : decode cL_law 455 = .ok (.invokevirtual 107, 3) := by decide +kernel
theorem dL_law_458 : decode cL_law 458 = .ok (.istore 7, 2) := by decide +kernel
theorem dL_law_460 : decode cL_law 460 = .ok (.aload_n 2, 1) := by decide +kernel
theorem dL_law_461 : decode cL_law 461 = .ok (.invokevirtual 91, 3) := by decide +kernel
theorem dL_law_464 : decode cL_law 464 = .ok (.iload 6, 2) := by decide +kernel
theorem dL_law_466 : decode cL_law 466 = .ok (.if_icmp .eq 5, 3) := by decide +kernel
theorem dL_law_469 : decode cL_law 469 = .ok (.iconst 0, 1) := by decide +kernel
theorem dL_law_470 : decode cL_law 470 = .ok (.ireturn, 1) := by decide +kernel
theorem dL_law_471 : decode cL_law 471 = .ok (.iload 6, 2) := by decide +kernel
theorem dL_law_473 : decode cL_law 473 = .ok (.ifCond .ne 15, 3) := by decide +kernel
theorem dL_law_476 : decode cL_law 476 = .ok (.aload_n 3, 1) := by decide +kernel
theorem dL_law_477 : decode cL_law 477 = .ok (.iconst 0, 1) := by decide +kernel
theorem dL_law_478 : decode cL_law 478 = .ok (.laload, 1) := by decide +kernel
theorem dL_law_479 : decode cL_law 479 = .ok (.iload 7, 2) := by decide +kernel
theorem dL_law_481 : decode cL_law 481 = .ok (.i2l, 1) := by decide +kernel
theorem dL_law_482 : decode cL_law 482 = .ok (.lcmp, 1) := by decide +kernel
theorem dL_law_483 : decode cL_law 483 = .ok (.ifCond .eq 5, 3) := by decide +kernel
theorem dL_law_486 : decode cL_law 486 = .ok (.iconst 0, 1) := by decide +kernel
theorem dL_law_487 : decode cL_law 487 = .ok (.ireturn, 1) := by decide +kernel
theorem dL_law_488 : decode cL_law 488 = .ok (.goto 711, 3) := by decide +kernel
theorem dL_law_491 : decode cL_law 491 = .ok (.aload_n 1, 1) := by decide +kernel
theorem dL_law_492 : decode cL_law 492 = .ok (.aload_n 0, 1) := by decide +kernel
theorem dL_law_493 : decode cL_law 493 = .ok (.iload 5, 2) := by decide +kernel
theorem dL_law_495 : decode cL_law 495 = .ok (.iconst 1, 1) := by decide +kernel
theorem dL_law_496 : decode cL_law 496 = .ok (.iadd, 1) := by decide +kernel
theorem dL_law_497 : decode cL_law 497 = .ok (.iaload, 1) := by decide +kernel
theorem dL_law_498 : decode cL_law 498 = .ok (.aload_n 3, 1) := by decide +kernel
theorem dL_law_499 : decode cL_law 499 = .ok (.invokestatic 108, 3) := by decide +kernel
theorem dL_law_502 : decode cL_law 502 = .ok (.istore 6, 2) := by decide +kernel
theorem dL_law_504 : decode cL_law 504 = .ok (.aload_n 2, 1) := by decide +kernel
theorem dL_law_505 : decode cL_law 505 = .ok (.aload_n 0, 1) := by decide +kernel
theorem dL_law_506 : decode cL_law 506 = .ok (.iload 5, 2) := by decide +kernel
theorem dL_law_508 : decode cL_law 508 = .ok (.iconst 1, 1) := by decide +kernel
theorem dL_law_509 : decode cL_law 509 = .ok (.iadd, 1) := by decide +kernel
theorem dL_law_510 : decode cL_law 510 = .ok (.iaload, 1) := by decide +kernel
theorem dL_law_511 : decode cL_law 511 = .ok (.invokevirtual 110, 3) := by decide +kernel
theorem dL_law_514 : decode cL_law 514 = .ok (.istore 7, 2) := by decide +kernel
theorem dL_law_516 : decode cL_law 516 = .ok (.aload_n 2, 1) := by decide +kernel
theorem dL_law_517 : decode cL_law 517 = .ok (.invokevirtual 91, 3) := by decide +kernel
theorem dL_law_520 : decode cL_law 520 = .ok (.iload 6, 2) := by decide +kernel
theorem dL_law_522 : decode cL_law 522 = .ok (.if_icmp .eq 5, 3) := by decide +kernel
theorem dL_law_525 : decode cL_law 525 = .ok (.iconst 0, 1) := by decide +kernel
theorem dL_law_526 : decode cL_law 526 = .ok (.ireturn, 1) := by decide +kernel
theorem dL_law_527 : decode cL_law 527 = .ok (.iload 6, 2) := by decide +kernel
theorem dL_law_529 : decode cL_law 529 = .ok (.ifCond .ne 15, 3) := by decide +kernel
theorem dL_law_532 : decode cL_law 532 = .ok (.aload_n 3, 1) := by decide +kernel
theorem dL_law_533 : decode cL_law 533 = .ok (.iconst 0, 1) := by decide +kernel
theorem dL_law_534 : decode cL_law 534 = .ok (.laload, 1) := by decide +kernel
theorem dL_law_535 : decode cL_law 535 = .ok (.iload 7, 2) := by decide +kernel
theorem dL_law_537 : decode cL_law 537 = .ok (.i2l, 1) := by decide +kernel
theorem dL_law_538 : decode cL_law 538 = .ok (.lcmp, 1) := by decide +kernel
theorem dL_law_539 : decode cL_law 539 = .ok (.ifCond .eq 5, 3) := by decide +kernel
theorem dL_law_542 : decode cL_law 542 = .ok (.iconst 0, 1) := by decide +kernel
theorem dL_law_543 : decode cL_law 543 = .ok (.ireturn, 1) := by decide +kernel
theorem dL_law_544 : decode cL_law 544 = .ok (.goto 655, 3) := by decide +kernel
theorem dL_law_547 : decode cL_law 547 = .ok (.aload_n 1, 1) := by decide +kernel
theorem dL_law_548 : decode cL_law 548 = .ok (.aload_n 0, 1) := by decide +kernel
theorem dL_law_549 : decode cL_law 549 = .ok (.iload 5, 2) := by decide +kernel
theorem dL_law_551 : decode cL_law 551 = .ok (.iconst 1, 1) := by decide +kernel
theorem dL_law_552 : decode cL_law 552 = .ok (.iadd, 1) := by decide +kernel
theorem dL_law_553 : decode cL_law 553 = .ok (.iaload, 1) := by decide +kernel
theorem dL_law_554 : decode cL_law 554 = .ok (.aload_n 0, 1) := by decide +kernel
theorem dL_law_555 : decode cL_law 555 = .ok (.iload 5, 2) := by decide +kernel
theorem dL_law_557 : decode cL_law 557 = .ok (.iconst 2, 1) := by decide +kernel
theorem dL_law_558 : decode cL_law 558 = .ok (.iadd, 1) := by decide +kernel
theorem dL_law_559 : decode cL_law 559 = .ok (.iaload, 1) := by decide +kernel
theorem dL_law_560 : decode cL_law 560 = .ok (.aload_n 0, 1) := by decide +kernel
theorem dL_law_561 : decode cL_law 561 = .ok (.iload 5, 2) := by decide +kernel
theorem dL_law_563 : decode cL_law 563 = .ok (.iconst 3, 1) := by decide +kernel
theorem dL_law_564 : decode cL_law 564 = .ok (.iadd, 1) := by decide +kernel
theorem dL_law_565 : decode cL_law 565 = .ok (.iaload, 1) := by decide +kernel
theorem dL_law_566 : decode cL_law 566 = .ok (.aload_n 0, 1) := by decide +kernel
theorem dL_law_567 : decode cL_law 567 = .ok (.iload 5, 2) := by decide +kernel
theorem dL_law_569 : decode cL_law 569 = .ok (.iconst 4, 1) := by decide +kernel
theorem dL_law_570 : decode cL_law 570 = .ok (.iadd, 1) := by decide +kernel
theorem dL_law_571 : decode cL_law 571 = .ok (.iaload, 1) := by decide +kernel
theorem dL_law_572 : decode cL_law 572 = .ok (.aload_n 3, 1) := by decide +kernel
theorem dL_law_573 : decode cL_law 573 = .ok (.invokestatic 111, 3) := by decide +kernel
theorem dL_law_576 : decode cL_law 576 = .ok (.istore 6, 2) := by decide +kernel
theorem dL_law_578 : decode cL_law 578 = .ok (.aload_n 2, 1) := by decide +kernel
theorem dL_law_579 : decode cL_law 579 = .ok (.aload_n 0, 1) := by decide +kernel
theorem dL_law_580 : decode cL_law 580 = .ok (.iload 5, 2) := by decide +kernel
theorem dL_law_582 : decode cL_law 582 = .ok (.iconst 1, 1) := by decide +kernel
theorem dL_law_583 : decode cL_law 583 = .ok (.iadd, 1) := by decide +kernel
theorem dL_law_584 : decode cL_law 584 = .ok (.iaload, 1) := by decide +kernel
theorem dL_law_585 : decode cL_law 585 = .ok (.aload_n 0, 1) := by decide +kernel
theorem dL_law_586 : decode cL_law 586 = .ok (.iload 5, 2) := by decide +kernel
theorem dL_law_588 : decode cL_law 588 = .ok (.iconst 2, 1) := by decide +kernel
theorem dL_law_589 : decode cL_law 589 = .ok (.iadd, 1) := by decide +kernel
theorem dL_law_590 : decode cL_law 590 = .ok (.iaload, 1) := by decide +kernel
theorem dL_law_591 : decode cL_law 591 = .ok (.aload_n 0, 1) := by decide +kernel
theorem dL_law_592 : decode cL_law 592 = .ok (.iload 5, 2) := by decide +kernel
theorem dL_law_594 : decode cL_law 594 = .ok (.iconst 3, 1) := by decide +kernel
theorem dL_law_595 : decode cL_law 595 = .ok (.iadd, 1) := by decide +kernel
theorem dL_law_596 : decode cL_law 596 = .ok (.iaload, 1) := by decide +kernel
theorem dL_law_597 : decode cL_law 597 = .ok (.aload_n 0, 1) := by decide +kernel
theorem dL_law_598 : decode cL_law 598 = .ok (.iload 5, 2) := by decide +kernel
theorem dL_law_600 : decode cL_law 600 = .ok (.iconst 4, 1) := by decide +kernel
theorem dL_law_601 : decode cL_law 601 = .ok (.iadd, 1) := by decide +kernel
theorem dL_law_602 : decode cL_law 602 = .ok (.iaload, 1) := by decide +kernel
theorem dL_law_603 : decode cL_law 603 = .ok (.invokevirtual 114, 3) := by decide +kernel
theorem dL_law_606 : decode cL_law 606 = .ok (.istore 7, 2) := by decide +kernel
theorem dL_law_608 : decode cL_law 608 = .ok (.aload_n 2, 1) := by decide +kernel
theorem dL_law_609 : decode cL_law 609 = .ok (.invokevirtual 91, 3) := by decide +kernel
theorem dL_law_612 : decode cL_law 612 = .ok (.iload 6, 2) := by decide +kernel
theorem dL_law_614 : decode cL_law 614 = .ok (.if_icmp .eq 5, 3) := by decide +kernel
theorem dL_law_617 : decode cL_law 617 = .ok (.iconst 0, 1) := by decide +kernel
theorem dL_law_618 : decode cL_law 618 = .ok (.ireturn, 1) := by decide +kernel
theorem dL_law_619 : decode cL_law 619 = .ok (.iload 6, 2) := by decide +kernel
theorem dL_law_621 : decode cL_law 621 = .ok (.ifCond .ne 15, 3) := by decide +kernel
theorem dL_law_624 : decode cL_law 624 = .ok (.aload_n 3, 1) := by decide +kernel
theorem dL_law_625 : decode cL_law 625 = .ok (.iconst 0, 1) := by decide +kernel
theorem dL_law_626 : decode cL_law 626 = .ok (.laload, 1) := by decide +kernel
theorem dL_law_627 : decode cL_law 627 = .ok (.iload 7, 2) := by decide +kernel
theorem dL_law_629 : decode cL_law 629 = .ok (.i2l, 1) := by decide +kernel
theorem dL_law_630 : decode cL_law 630 = .ok (.lcmp, 1) := by decide +kernel
theorem dL_law_631 : decode cL_law 631 = .ok (.ifCond .eq 5, 3) := by decide +kernel
theorem dL_law_634 : decode cL_law 634 = .ok (.iconst 0, 1) := by decide +kernel
theorem dL_law_635 : decode cL_law 635 = .ok (.ireturn, 1) := by decide +kernel
theorem dL_law_636 : decode cL_law 636 = .ok (.goto 563, 3) := by decide +kernel
theorem dL_law_639 : decode cL_law 639 = .ok (.aload_n 1, 1) := by decide +kernel
theorem dL_law_640 : decode cL_law 640 = .ok (.aload_n 0, 1) := by decide +kernel
theorem dL_law_641 : decode cL_law 641 = .ok (.iload 5, 2) := by decide +kernel
theorem dL_law_643 : decode cL_law 643 = .ok (.iconst 1, 1) := by decide +kernel
theorem dL_law_644 : decode cL_law 644 = .ok (.iadd, 1) := by decide +kernel
theorem dL_law_645 : decode cL_law 645 = .ok (.iaload, 1) := by decide +kernel
theorem dL_law_646 : decode cL_law 646 = .ok (.aload_n 0, 1) := by decide +kernel
theorem dL_law_647 : decode cL_law 647 = .ok (.iload 5, 2) := by decide +kernel
theorem dL_law_649 : decode cL_law 649 = .ok (.iconst 2, 1) := by decide +kernel
theorem dL_law_650 : decode cL_law 650 = .ok (.iadd, 1) := by decide +kernel
theorem dL_law_651 : decode cL_law 651 = .ok (.iaload, 1) := by decide +kernel
theorem dL_law_652 : decode cL_law 652 = .ok (.aload_n 3, 1) := by decide +kernel
theorem dL_law_653 : decode cL_law 653 = .ok (.invokestatic 115, 3) := by decide +kernel
theorem dL_law_656 : decode cL_law 656 = .ok (.istore 6, 2) := by decide +kernel
theorem dL_law_658 : decode cL_law 658 = .ok (.aload_n 2, 1) := by decide +kernel
theorem dL_law_659 : decode cL_law 659 = .ok (.aload_n 0, 1) := by decide +kernel
theorem dL_law_660 : decode cL_law 660 = .ok (.iload 5, 2) := by decide +kernel
theorem dL_law_662 : decode cL_law 662 = .ok (.iconst 1, 1) := by decide +kernel
theorem dL_law_663 : decode cL_law 663 = .ok (.iadd, 1) := by decide +kernel
theorem dL_law_664 : decode cL_law 664 = .ok (.iaload, 1) := by decide +kernel
theorem dL_law_665 : decode cL_law 665 = .ok (.aload_n 0, 1) := by decide +kernel
theorem dL_law_666 : decode cL_law 666 = .ok (.iload 5, 2) := by decide +kernel
theorem dL_law_668 : decode cL_law 668 = .ok (.iconst 2, 1) := by decide +kernel
theorem dL_law_669 : decode cL_law 669 = .ok (.iadd, 1) := by decide +kernel
theorem dL_law_670 : decode cL_law 670 = .ok (.iaload, 1) := by decide +kernel
theorem dL_law_671 : decode cL_law 671 = .ok (.invokevirtual 117, 3) := by decide +kernel
theorem dL_law_674 : decode cL_law 674 = .ok (.lstore 7, 2) := by decide +kernel
theorem dL_law_676 : decode cL_law 676 = .ok (.aload_n 2, 1) := by decide +kernel
theorem dL_law_677 : decode cL_law 677 = .ok (.invokevirtual 91, 3) := by decide +kernel
theorem dL_law_680 : decode cL_law 680 = .ok (.iload 6, 2) := by decide +kernel
theorem dL_law_682 : decode cL_law 682 = .ok (.if_icmp .eq 5, 3) := by decide +kernel
theorem dL_law_685 : decode cL_law 685 = .ok (.iconst 0, 1) := by decide +kernel
theorem dL_law_686 : decode cL_law 686 = .ok (.ireturn, 1) := by decide +kernel
theorem dL_law_687 : decode cL_law 687 = .ok (.iload 6, 2) := by decide +kernel
theorem dL_law_689 : decode cL_law 689 = .ok (.ifCond .ne 14, 3) := by decide +kernel
theorem dL_law_692 : decode cL_law 692 = .ok (.aload_n 3, 1) := by decide +kernel
theorem dL_law_693 : decode cL_law 693 = .ok (.iconst 0, 1) := by decide +kernel
theorem dL_law_694 : decode cL_law 694 = .ok (.laload, 1) := by decide +kernel
theorem dL_law_695 : decode cL_law 695 = .ok (.lload 7, 2) := by decide +kernel
theorem dL_law_697 : decode cL_law 697 = .ok (.lcmp, 1) := by decide +kernel
theorem dL_law_698 : decode cL_law 698 = .ok (.ifCond .eq 5, 3) := by decide +kernel
theorem dL_law_701 : decode cL_law 701 = .ok (.iconst 0, 1) := by decide +kernel
theorem dL_law_702 : decode cL_law 702 = .ok (.ireturn, 1) := by decide +kernel
theorem dL_law_703 : decode cL_law 703 = .ok (.goto 496, 3) := by decide +kernel
theorem dL_law_706 : decode cL_law 706 = .ok (.aload_n 1, 1) := by decide +kernel
theorem dL_law_707 : decode cL_law 707 = .ok (.aload_n 0, 1) := by decide +kernel
theorem dL_law_708 : decode cL_law 708 = .ok (.iload 5, 2) := by decide +kernel
theorem dL_law_710 : decode cL_law 710 = .ok (.iconst 1, 1) := by decide +kernel
theorem dL_law_711 : decode cL_law 711 = .ok (.iadd, 1) := by decide +kernel
theorem dL_law_712 : decode cL_law 712 = .ok (.iaload, 1) := by decide +kernel
theorem dL_law_713 : decode cL_law 713 = .ok (.aload_n 0, 1) := by decide +kernel
theorem dL_law_714 : decode cL_law 714 = .ok (.iload 5, 2) := by decide +kernel
theorem dL_law_716 : decode cL_law 716 = .ok (.iconst 2, 1) := by decide +kernel
theorem dL_law_717 : decode cL_law 717 = .ok (.iadd, 1) := by decide +kernel
theorem dL_law_718 : decode cL_law 718 = .ok (.iaload, 1) := by decide +kernel
theorem dL_law_719 : decode cL_law 719 = .ok (.aload_n 0, 1) := by decide +kernel
theorem dL_law_720 : decode cL_law 720 = .ok (.iload 5, 2) := by decide +kernel
theorem dL_law_722 : decode cL_law 722 = .ok (.iconst 3, 1) := by decide +kernel
theorem dL_law_723 : decode cL_law 723 = .ok (.iadd, 1) := by decide +kernel
theorem dL_law_724 : decode cL_law 724 = .ok (.iaload, 1) := by decide +kernel
theorem dL_law_725 : decode cL_law 725 = .ok (.aload_n 3, 1) := by decide +kernel
theorem dL_law_726 : decode cL_law 726 = .ok (.invokestatic 118, 3) := by decide +kernel
theorem dL_law_729 : decode cL_law 729 = .ok (.istore 6, 2) := by decide +kernel
theorem dL_law_731 : decode cL_law 731 = .ok (.aload_n 2, 1) := by decide +kernel
theorem dL_law_732 : decode cL_law 732 = .ok (.aload_n 0, 1) := by decide +kernel
theorem dL_law_733 : decode cL_law 733 = .ok (.iload 5, 2) := by decide +kernel
theorem dL_law_735 : decode cL_law 735 = .ok (.iconst 1, 1) := by decide +kernel
theorem dL_law_736 : decode cL_law 736 = .ok (.iadd, 1) := by decide +kernel
theorem dL_law_737 : decode cL_law 737 = .ok (.iaload, 1) := by decide +kernel
theorem dL_law_738 : decode cL_law 738 = .ok (.aload_n 0, 1) := by decide +kernel
theorem dL_law_739 : decode cL_law 739 = .ok (.iload 5, 2) := by decide +kernel
theorem dL_law_741 : decode cL_law 741 = .ok (.iconst 2, 1) := by decide +kernel
theorem dL_law_742 : decode cL_law 742 = .ok (.iadd, 1) := by decide +kernel
theorem dL_law_743 : decode cL_law 743 = .ok (.iaload, 1) := by decide +kernel
theorem dL_law_744 : decode cL_law 744 = .ok (.aload_n 0, 1) := by decide +kernel
theorem dL_law_745 : decode cL_law 745 = .ok (.iload 5, 2) := by decide +kernel
theorem dL_law_747 : decode cL_law 747 = .ok (.iconst 3, 1) := by decide +kernel
theorem dL_law_748 : decode cL_law 748 = .ok (.iadd, 1) := by decide +kernel
theorem dL_law_749 : decode cL_law 749 = .ok (.iaload, 1) := by decide +kernel
theorem dL_law_750 : decode cL_law 750 = .ok (.invokevirtual 120, 3) := by decide +kernel
theorem dL_law_753 : decode cL_law 753 = .ok (.lstore 7, 2) := by decide +kernel
theorem dL_law_755 : decode cL_law 755 = .ok (.aload_n 2, 1) := by decide +kernel
theorem dL_law_756 : decode cL_law 756 = .ok (.invokevirtual 91, 3) := by decide +kernel
theorem dL_law_759 : decode cL_law 759 = .ok (.iload 6, 2) := by decide +kernel
theorem dL_law_761 : decode cL_law 761 = .ok (.if_icmp .eq 5, 3) := by decide +kernel
theorem dL_law_764 : decode cL_law 764 = .ok (.iconst 0, 1) := by decide +kernel
theorem dL_law_765 : decode cL_law 765 = .ok (.ireturn, 1) := by decide +kernel
theorem dL_law_766 : decode cL_law 766 = .ok (.iload 6, 2) := by decide +kernel
theorem dL_law_768 : decode cL_law 768 = .ok (.ifCond .ne 14, 3) := by decide +kernel
theorem dL_law_771 : decode cL_law 771 = .ok (.aload_n 3, 1) := by decide +kernel
theorem dL_law_772 : decode cL_law 772 = .ok (.iconst 0, 1) := by decide +kernel
theorem dL_law_773 : decode cL_law 773 = .ok (.laload, 1) := by decide +kernel
theorem dL_law_774 : decode cL_law 774 = .ok (.lload 7, 2) := by decide +kernel
theorem dL_law_776 : decode cL_law 776 = .ok (.lcmp, 1) := by decide +kernel
theorem dL_law_777 : decode cL_law 777 = .ok (.ifCond .eq 5, 3) := by decide +kernel
theorem dL_law_780 : decode cL_law 780 = .ok (.iconst 0, 1) := by decide +kernel
theorem dL_law_781 : decode cL_law 781 = .ok (.ireturn, 1) := by decide +kernel
theorem dL_law_782 : decode cL_law 782 = .ok (.goto 417, 3) := by decide +kernel
theorem dL_law_785 : decode cL_law 785 = .ok (.aload_n 1, 1) := by decide +kernel
theorem dL_law_786 : decode cL_law 786 = .ok (.aload_n 0, 1) := by decide +kernel
theorem dL_law_787 : decode cL_law 787 = .ok (.iload 5, 2) := by decide +kernel
theorem dL_law_789 : decode cL_law 789 = .ok (.iconst 1, 1) := by decide +kernel
theorem dL_law_790 : decode cL_law 790 = .ok (.iadd, 1) := by decide +kernel
theorem dL_law_791 : decode cL_law 791 = .ok (.iaload, 1) := by decide +kernel
theorem dL_law_792 : decode cL_law 792 = .ok (.aload_n 0, 1) := by decide +kernel
theorem dL_law_793 : decode cL_law 793 = .ok (.iload 5, 2) := by decide +kernel
theorem dL_law_795 : decode cL_law 795 = .ok (.iconst 2, 1) := by decide +kernel
theorem dL_law_796 : decode cL_law 796 = .ok (.iadd, 1) := by decide +kernel
theorem dL_law_797 : decode cL_law 797 = .ok (.iaload, 1) := by decide +kernel
theorem dL_law_798 : decode cL_law 798 = .ok (.aload_n 0, 1) := by decide +kernel
theorem dL_law_799 : decode cL_law 799 = .ok (.iload 5, 2) := by decide +kernel
theorem dL_law_801 : decode cL_law 801 = .ok (.iconst 3, 1) := by decide +kernel
theorem dL_law_802 : decode cL_law 802 = .ok (.iadd, 1) := by decide +kernel
theorem dL_law_803 : decode cL_law 803 = .ok (.iaload, 1) := by decide +kernel
theorem dL_law_804 : decode cL_law 804 = .ok (.aload 4, 2) := by decide +kernel
theorem dL_law_806 : decode cL_law 806 = .ok (.invokestatic 121, 3) := by decide +kernel
theorem dL_law_809 : decode cL_law 809 = .ok (.istore 6, 2) := by decide +kernel
theorem dL_law_811 : decode cL_law 811 = .ok (.aload_n 2, 1) := by decide +kernel
theorem dL_law_812 : decode cL_law 812 = .ok (.aload_n 0, 1) := by decide +kernel
theorem dL_law_813 : decode cL_law 813 = .ok (.iload 5, 2) := by decide +kernel
theorem dL_law_815 : decode cL_law 815 = .ok (.iconst 1, 1) := by decide +kernel
theorem dL_law_816 : decode cL_law 816 = .ok (.iadd, 1) := by decide +kernel
theorem dL_law_817 : decode cL_law 817 = .ok (.iaload, 1) := by decide +kernel
theorem dL_law_818 : decode cL_law 818 = .ok (.aload_n 0, 1) := by decide +kernel
theorem dL_law_819 : decode cL_law 819 = .ok (.iload 5, 2) := by decide +kernel
theorem dL_law_821 : decode cL_law 821 = .ok (.iconst 2, 1) := by decide +kernel
theorem dL_law_822 : decode cL_law 822 = .ok (.iadd, 1) := by decide +kernel
theorem dL_law_823 : decode cL_law 823 = .ok (.iaload, 1) := by decide +kernel
theorem dL_law_824 : decode cL_law 824 = .ok (.aload_n 0, 1) := by decide +kernel
theorem dL_law_825 : decode cL_law 825 = .ok (.iload 5, 2) := by decide +kernel
theorem dL_law_827 : decode cL_law 827 = .ok (.iconst 3, 1) := by decide +kernel
theorem dL_law_828 : decode cL_law 828 = .ok (.iadd, 1) := by decide +kernel
theorem dL_law_829 : decode cL_law 829 = .ok (.iaload, 1) := by decide +kernel
theorem dL_law_830 : decode cL_law 830 = .ok (.invokevirtual 124, 3) := by decide +kernel
theorem dL_law_833 : decode cL_law 833 = .ok (.dstore 7, 2) := by decide +kernel
theorem dL_law_835 : decode cL_law 835 = .ok (.aload_n 2, 1) := by decide +kernel
theorem dL_law_836 : decode cL_law 836 = .ok (.invokevirtual 91, 3) := by decide +kernel
theorem dL_law_839 : decode cL_law 839 = .ok (.iload 6, 2) := by decide +kernel
theorem dL_law_841 : decode cL_law 841 = .ok (.if_icmp .eq 5, 3) := by decide +kernel
theorem dL_law_844 : decode cL_law 844 = .ok (.iconst 0, 1) := by decide +kernel
theorem dL_law_845 : decode cL_law 845 = .ok (.ireturn, 1) := by decide +kernel
theorem dL_law_846 : decode cL_law 846 = .ok (.iload 6, 2) := by decide +kernel
theorem dL_law_848 : decode cL_law 848 = .ok (.ifCond .ne 35, 3) := by decide +kernel
theorem dL_law_851 : decode cL_law 851 = .ok (.aload 4, 2) := by decide +kernel
theorem dL_law_853 : decode cL_law 853 = .ok (.iconst 0, 1) := by decide +kernel
theorem dL_law_854 : decode cL_law 854 = .ok (.daload, 1) := by decide +kernel
theorem dL_law_855 : decode cL_law 855 = .ok (.dload 7, 2) := by decide +kernel
theorem dL_law_857 : decode cL_law 857 = .ok (.dcmp .l, 1) := by decide +kernel
theorem dL_law_858 : decode cL_law 858 = .ok (.ifCond .eq 25, 3) := by decide +kernel
theorem dL_law_861 : decode cL_law 861 = .ok (.aload 4, 2) := by decide +kernel
theorem dL_law_863 : decode cL_law 863 = .ok (.iconst 0, 1) := by decide +kernel
theorem dL_law_864 : decode cL_law 864 = .ok (.daload, 1) := by decide +kernel
theorem dL_law_865 : decode cL_law 865 = .ok (.aload 4, 2) := by decide +kernel
theorem dL_law_867 : decode cL_law 867 = .ok (.iconst 0, 1) := by decide +kernel
theorem dL_law_868 : decode cL_law 868 = .ok (.daload, 1) := by decide +kernel
theorem dL_law_869 : decode cL_law 869 = .ok (.dcmp .l, 1) := by decide +kernel
theorem dL_law_870 : decode cL_law 870 = .ok (.ifCond .eq 11, 3) := by decide +kernel
theorem dL_law_873 : decode cL_law 873 = .ok (.dload 7, 2) := by decide +kernel
theorem dL_law_875 : decode cL_law 875 = .ok (.dload 7, 2) := by decide +kernel
theorem dL_law_877 : decode cL_law 877 = .ok (.dcmp .l, 1) := by decide +kernel
theorem dL_law_878 : decode cL_law 878 = .ok (.ifCond .ne 5, 3) := by decide +kernel
theorem dL_law_881 : decode cL_law 881 = .ok (.iconst 0, 1) := by decide +kernel
theorem dL_law_882 : decode cL_law 882 = .ok (.ireturn, 1) := by decide +kernel
theorem dL_law_883 : decode cL_law 883 = .ok (.goto 316, 3) := by decide +kernel
theorem dL_law_886 : decode cL_law 886 = .ok (.aload_n 1, 1) := by decide +kernel
theorem dL_law_887 : decode cL_law 887 = .ok (.aload_n 0, 1) := by decide +kernel
theorem dL_law_888 : decode cL_law 888 = .ok (.iload 5, 2) := by decide +kernel
theorem dL_law_890 : decode cL_law 890 = .ok (.iconst 1, 1) := by decide +kernel
theorem dL_law_891 : decode cL_law 891 = .ok (.iadd, 1) := by decide +kernel
theorem dL_law_892 : decode cL_law 892 = .ok (.iaload, 1) := by decide +kernel
theorem dL_law_893 : decode cL_law 893 = .ok (.aload_n 0, 1) := by decide +kernel
theorem dL_law_894 : decode cL_law 894 = .ok (.iload 5, 2) := by decide +kernel
theorem dL_law_896 : decode cL_law 896 = .ok (.iconst 2, 1) := by decide +kernel
theorem dL_law_897 : decode cL_law 897 = .ok (.iadd, 1) := by decide +kernel
theorem dL_law_898 : decode cL_law 898 = .ok (.iaload, 1) := by decide +kernel
theorem dL_law_899 : decode cL_law 899 = .ok (.aload_n 3, 1) := by decide +kernel
end
section
theorem dL_law_900 : decode cL_law 900 = .ok (.invokestatic 125, 3) := by decide +kernel
theorem dL_law_903 : decode cL_law 903 = .ok (.istore 6, 2) := by decide +kernel
theorem dL_law_905 : decode cL_law 905 = .ok (.aload_n 2, 1) := by decide +kernel
theorem dL_law_906 : decode cL_law 906 = .ok (.aload_n 0, 1) := by decide +kernel
theorem dL_law_907 : decode cL_law 907 = .ok (.iload 5, 2) := by decide +kernel
theorem dL_law_909 : decode cL_law 909 = .ok (.iconst 1, 1) := by decide +kernel
theorem dL_law_910 : decode cL_law 910 = .ok (.iadd, 1) := by decide +kernel
theorem dL_law_911 : decode cL_law 911 = .ok (.iaload, 1) := by decide +kernel
theorem dL_law_912 : decode cL_law 912 = .ok (.aload_n 0, 1) := by decide +kernel
theorem dL_law_913 : decode cL_law 913 = .ok (.iload 5, 2) := by decide +kernel
theorem dL_law_915 : decode cL_law 915 = .ok (.iconst 2, 1) := by decide +kernel
theorem dL_law_916 : decode cL_law 916 = .ok (.iadd, 1) := by decide +kernel
theorem dL_law_917 : decode cL_law 917 = .ok (.iaload, 1) := by decide +kernel
theorem dL_law_918 : decode cL_law 918 = .ok (.invokevirtual 127, 3) := by decide +kernel
theorem dL_law_921 : decode cL_law 921 = .ok (.lstore 7, 2) := by decide +kernel
theorem dL_law_923 : decode cL_law 923 = .ok (.aload_n 2, 1) := by decide +kernel
theorem dL_law_924 : decode cL_law 924 = .ok (.invokevirtual 91, 3) := by decide +kernel
theorem dL_law_927 : decode cL_law 927 = .ok (.iload 6, 2) := by decide +kernel
theorem dL_law_929 : decode cL_law 929 = .ok (.if_icmp .eq 5, 3) := by decide +kernel
theorem dL_law_932 : decode cL_law 932 = .ok (.iconst 0, 1) := by decide +kernel
theorem dL_law_933 : decode cL_law 933 = .ok (.ireturn, 1) := by decide +kernel
theorem dL_law_934 : decode cL_law 934 = .ok (.iload 6, 2) := by decide +kernel
theorem dL_law_936 : decode cL_law 936 = .ok (.ifCond .ne 14, 3) := by decide +kernel
theorem dL_law_939 : decode cL_law 939 = .ok (.aload_n 3, 1) := by decide +kernel
theorem dL_law_940 : decode cL_law 940 = .ok (.iconst 0, 1) := by decide +kernel
theorem dL_law_941 : decode cL_law 941 = .ok (.laload, 1) := by decide +kernel
theorem dL_law_942 : decode cL_law 942 = .ok (.lload 7, 2) := by decide +kernel
theorem dL_law_944 : decode cL_law 944 = .ok (.lcmp, 1) := by decide +kernel
theorem dL_law_945 : decode cL_law 945 = .ok (.ifCond .eq 5, 3) := by decide +kernel
theorem dL_law_948 : decode cL_law 948 = .ok (.iconst 0, 1) := by decide +kernel
theorem dL_law_949 : decode cL_law 949 = .ok (.ireturn, 1) := by decide +kernel
theorem dL_law_950 : decode cL_law 950 = .ok (.goto 249, 3) := by decide +kernel
theorem dL_law_953 : decode cL_law 953 = .ok (.aload_n 1, 1) := by decide +kernel
theorem dL_law_954 : decode cL_law 954 = .ok (.aload_n 0, 1) := by decide +kernel
theorem dL_law_955 : decode cL_law 955 = .ok (.iload 5, 2) := by decide +kernel
theorem dL_law_957 : decode cL_law 957 = .ok (.iconst 1, 1) := by decide +kernel
theorem dL_law_958 : decode cL_law 958 = .ok (.iadd, 1) := by decide +kernel
theorem dL_law_959 : decode cL_law 959 = .ok (.iaload, 1) := by decide +kernel
theorem dL_law_960 : decode cL_law 960 = .ok (.aload_n 3, 1) := by decide +kernel
theorem dL_law_961 : decode cL_law 961 = .ok (.invokestatic 128, 3) := by decide +kernel
theorem dL_law_964 : decode cL_law 964 = .ok (.istore 6, 2) := by decide +kernel
theorem dL_law_966 : decode cL_law 966 = .ok (.aload_n 2, 1) := by decide +kernel
theorem dL_law_967 : decode cL_law 967 = .ok (.aload_n 0, 1) := by decide +kernel
theorem dL_law_968 : decode cL_law 968 = .ok (.iload 5, 2) := by decide +kernel
theorem dL_law_970 : decode cL_law 970 = .ok (.iconst 1, 1) := by decide +kernel
theorem dL_law_971 : decode cL_law 971 = .ok (.iadd, 1) := by decide +kernel
theorem dL_law_972 : decode cL_law 972 = .ok (.iaload, 1) := by decide +kernel
theorem dL_law_973 : decode cL_law 973 = .ok (.invokevirtual 130, 3) := by decide +kernel
theorem dL_law_976 : decode cL_law 976 = .ok (.istore 7, 2) := by decide +kernel
theorem dL_law_978 : decode cL_law 978 = .ok (.aload_n 2, 1) := by decide +kernel
theorem dL_law_979 : decode cL_law 979 = .ok (.invokevirtual 91, 3) := by decide +kernel
theorem dL_law_982 : decode cL_law 982 = .ok (.iload 6, 2) := by decide +kernel
theorem dL_law_984 : decode cL_law 984 = .ok (.if_icmp .eq 5, 3) := by decide +kernel
theorem dL_law_987 : decode cL_law 987 = .ok (.iconst 0, 1) := by decide +kernel
theorem dL_law_988 : decode cL_law 988 = .ok (.ireturn, 1) := by decide +kernel
theorem dL_law_989 : decode cL_law 989 = .ok (.iload 6, 2) := by decide +kernel
theorem dL_law_991 : decode cL_law 991 = .ok (.ifCond .ne 15, 3) := by decide +kernel
theorem dL_law_994 : decode cL_law 994 = .ok (.aload_n 3, 1) := by decide +kernel
theorem dL_law_995 : decode cL_law 995 = .ok (.iconst 0, 1) := by decide +kernel
theorem dL_law_996 : decode cL_law 996 = .ok (.laload, 1) := by decide +kernel
theorem dL_law_997 : decode cL_law 997 = .ok (.iload 7, 2) := by decide +kernel
theorem dL_law_999 : decode cL_law 999 = .ok (.i2l, 1) := by decide +kernel
theorem dL_law_1000 : decode cL_law 1000 = .ok (.lcmp, 1) := by decide +kernel
theorem dL_law_1001 : decode cL_law 1001 = .ok (.ifCond .eq 5, 3) := by decide +kernel
theorem dL_law_1004 : decode cL_law 1004 = .ok (.iconst 0, 1) := by decide +kernel
theorem dL_law_1005 : decode cL_law 1005 = .ok (.ireturn, 1) := by decide +kernel
theorem dL_law_1006 : decode cL_law 1006 = .ok (.goto 193, 3) := by decide +kernel
theorem dL_law_1009 : decode cL_law 1009 = .ok (.aload_n 1, 1) := by decide +kernel
theorem dL_law_1010 : decode cL_law 1010 = .ok (.aload_n 0, 1) := by decide +kernel
theorem dL_law_1011 : decode cL_law 1011 = .ok (.iload 5, 2) := by decide +kernel
theorem dL_law_1013 : decode cL_law 1013 = .ok (.iconst 1, 1) := by decide +kernel
theorem dL_law_1014 : decode cL_law 1014 = .ok (.iadd, 1) := by decide +kernel
theorem dL_law_1015 : decode cL_law 1015 = .ok (.iaload, 1) := by decide +kernel
theorem dL_law_1016 : decode cL_law 1016 = .ok (.aload_n 3, 1) := by decide +kernel
theorem dL_law_1017 : decode cL_law 1017 = .ok (.invokestatic 131, 3) := by decide +kernel
theorem dL_law_1020 : decode cL_law 1020 = .ok (.istore 6, 2) := by decide +kernel
theorem dL_law_1022 : decode cL_law 1022 = .ok (.aload_n 2, 1) := by decide +kernel
theorem dL_law_1023 : decode cL_law 1023 = .ok (.aload_n 0, 1) := by decide +kernel
theorem dL_law_1024 : decode cL_law 1024 = .ok (.iload 5, 2) := by decide +kernel
theorem dL_law_1026 : decode cL_law 1026 = .ok (.iconst 1, 1) := by decide +kernel
theorem dL_law_1027 : decode cL_law 1027 = .ok (.iadd, 1) := by decide +kernel
theorem dL_law_1028 : decode cL_law 1028 = .ok (.iaload, 1) := by decide +kernel
theorem dL_law_1029 : decode cL_law 1029 = .ok (.invokevirtual 133, 3) := by decide +kernel
theorem dL_law_1032 : decode cL_law 1032 = .ok (.istore 7, 2) := by decide +kernel
theorem dL_law_1034 : decode cL_law 1034 = .ok (.aload_n 2, 1) := by decide +kernel
theorem dL_law_1035 : decode cL_law 1035 = .ok (.invokevirtual 91, 3) := by decide +kernel
theorem dL_law_1038 : decode cL_law 1038 = .ok (.iload 6, 2) := by decide +kernel
theorem dL_law_1040 : decode cL_law 1040 = .ok (.if_icmp .eq 5, 3) := by decide +kernel
theorem dL_law_1043 : decode cL_law 1043 = .ok (.iconst 0, 1) := by decide +kernel
theorem dL_law_1044 : decode cL_law 1044 = .ok (.ireturn, 1) := by decide +kernel
theorem dL_law_1045 : decode cL_law 1045 = .ok (.iload 6, 2) := by decide +kernel
theorem dL_law_1047 : decode cL_law 1047 = .ok (.ifCond .ne 15, 3) := by decide +kernel
theorem dL_law_1050 : decode cL_law 1050 = .ok (.aload_n 3, 1) := by decide +kernel
theorem dL_law_1051 : decode cL_law 1051 = .ok (.iconst 0, 1) := by decide +kernel
theorem dL_law_1052 : decode cL_law 1052 = .ok (.laload, 1) := by decide +kernel
theorem dL_law_1053 : decode cL_law 1053 = .ok (.iload 7, 2) := by decide +kernel
theorem dL_law_1055 : decode cL_law 1055 = .ok (.i2l, 1) := by decide +kernel
theorem dL_law_1056 : decode cL_law 1056 = .ok (.lcmp, 1) := by decide +kernel
theorem dL_law_1057 : decode cL_law 1057 = .ok (.ifCond .eq 5, 3) := by decide +kernel
theorem dL_law_1060 : decode cL_law 1060 = .ok (.iconst 0, 1) := by decide +kernel
theorem dL_law_1061 : decode cL_law 1061 = .ok (.ireturn, 1) := by decide +kernel
theorem dL_law_1062 : decode cL_law 1062 = .ok (.goto 137, 3) := by decide +kernel
theorem dL_law_1065 : decode cL_law 1065 = .ok (.aload_n 1, 1) := by decide +kernel
theorem dL_law_1066 : decode cL_law 1066 = .ok (.aload_n 0, 1) := by decide +kernel
theorem dL_law_1067 : decode cL_law 1067 = .ok (.iload 5, 2) := by decide +kernel
theorem dL_law_1069 : decode cL_law 1069 = .ok (.iconst 1, 1) := by decide +kernel
theorem dL_law_1070 : decode cL_law 1070 = .ok (.iadd, 1) := by decide +kernel
theorem dL_law_1071 : decode cL_law 1071 = .ok (.iaload, 1) := by decide +kernel
theorem dL_law_1072 : decode cL_law 1072 = .ok (.aload_n 3, 1) := by decide +kernel
theorem dL_law_1073 : decode cL_law 1073 = .ok (.invokestatic 134, 3) := by decide +kernel
theorem dL_law_1076 : decode cL_law 1076 = .ok (.istore 6, 2) := by decide +kernel
theorem dL_law_1078 : decode cL_law 1078 = .ok (.aload_n 2, 1) := by decide +kernel
theorem dL_law_1079 : decode cL_law 1079 = .ok (.aload_n 0, 1) := by decide +kernel
theorem dL_law_1080 : decode cL_law 1080 = .ok (.iload 5, 2) := by decide +kernel
theorem dL_law_1082 : decode cL_law 1082 = .ok (.iconst 1, 1) := by decide +kernel
theorem dL_law_1083 : decode cL_law 1083 = .ok (.iadd, 1) := by decide +kernel
theorem dL_law_1084 : decode cL_law 1084 = .ok (.iaload, 1) := by decide +kernel
theorem dL_law_1085 : decode cL_law 1085 = .ok (.invokevirtual 136, 3) := by decide +kernel
theorem dL_law_1088 : decode cL_law 1088 = .ok (.lstore 7, 2) := by decide +kernel
theorem dL_law_1090 : decode cL_law 1090 = .ok (.aload_n 2, 1) := by decide +kernel
theorem dL_law_1091 : decode cL_law 1091 = .ok (.invokevirtual 91, 3) := by decide +kernel
theorem dL_law_1094 : decode cL_law 1094 = .ok (.iload 6, 2) := by decide +kernel
theorem dL_law_1096 : decode cL_law 1096 = .ok (.if_icmp .eq 5, 3) := by decide +kernel
theorem dL_law_1099 : decode cL_law 1099 = .ok (.iconst 0, 1) := by decide +kernel
theorem dL_law_1100 : decode cL_law 1100 = .ok (.ireturn, 1) := by decide +kernel
theorem dL_law_1101 : decode cL_law 1101 = .ok (.iload 6, 2) := by decide +kernel
theorem dL_law_1103 : decode cL_law 1103 = .ok (.ifCond .ne 14, 3) := by decide +kernel
theorem dL_law_1106 : decode cL_law 1106 = .ok (.aload_n 3, 1) := by decide +kernel
theorem dL_law_1107 : decode cL_law 1107 = .ok (.iconst 0, 1) := by decide +kernel
theorem dL_law_1108 : decode cL_law 1108 = .ok (.laload, 1) := by decide +kernel
theorem dL_law_1109 : decode cL_law 1109 = .ok (.lload 7, 2) := by decide +kernel
theorem dL_law_1111 : decode cL_law 1111 = .ok (.lcmp, 1) := by decide +kernel
theorem dL_law_1112 : decode cL_law 1112 = .ok (.ifCond .eq 5, 3) := by decide +kernel
theorem dL_law_1115 : decode cL_law 1115 = .ok (.iconst 0, 1) := by decide +kernel
theorem dL_law_1116 : decode cL_law 1116 = .ok (.ireturn, 1) := by decide +kernel
theorem dL_law_1117 : decode cL_law 1117 = .ok (.goto 82, 3) := by decide +kernel
theorem dL_law_1120 : decode cL_law 1120 = .ok (.aload_n 1, 1) := by decide +kernel
theorem dL_law_1121 : decode cL_law 1121 = .ok (.aload_n 0, 1) := by decide +kernel
theorem dL_law_1122 : decode cL_law 1122 = .ok (.iload 5, 2) := by decide +kernel
theorem dL_law_1124 : decode cL_law 1124 = .ok (.iconst 1, 1) := by decide +kernel
theorem dL_law_1125 : decode cL_law 1125 = .ok (.iadd, 1) := by decide +kernel
theorem dL_law_1126 : decode cL_law 1126 = .ok (.iaload, 1) := by decide +kernel
theorem dL_law_1127 : decode cL_law 1127 = .ok (.aload_n 0, 1) := by decide +kernel
theorem dL_law_1128 : decode cL_law 1128 = .ok (.iload 5, 2) := by decide +kernel
theorem dL_law_1130 : decode cL_law 1130 = .ok (.iconst 2, 1) := by decide +kernel
theorem dL_law_1131 : decode cL_law 1131 = .ok (.iadd, 1) := by decide +kernel
theorem dL_law_1132 : decode cL_law 1132 = .ok (.iaload, 1) := by decide +kernel
theorem dL_law_1133 : decode cL_law 1133 = .ok (.aload_n 0, 1) := by decide +kernel
theorem dL_law_1134 : decode cL_law 1134 = .ok (.iload 5, 2) := by decide +kernel
theorem dL_law_1136 : decode cL_law 1136 = .ok (.iconst 3, 1) := by decide +kernel
theorem dL_law_1137 : decode cL_law 1137 = .ok (.iadd, 1) := by decide +kernel
theorem dL_law_1138 : decode cL_law 1138 = .ok (.iaload, 1) := by decide +kernel
theorem dL_law_1139 : decode cL_law 1139 = .ok (.aload_n 3, 1) := by decide +kernel
theorem dL_law_1140 : decode cL_law 1140 = .ok (.invokestatic 137, 3) := by decide +kernel
theorem dL_law_1143 : decode cL_law 1143 = .ok (.istore 6, 2) := by decide +kernel
theorem dL_law_1145 : decode cL_law 1145 = .ok (.aload_n 2, 1) := by decide +kernel
theorem dL_law_1146 : decode cL_law 1146 = .ok (.aload_n 0, 1) := by decide +kernel
theorem dL_law_1147 : decode cL_law 1147 = .ok (.iload 5, 2) := by decide +kernel
theorem dL_law_1149 : decode cL_law 1149 = .ok (.iconst 1, 1) := by decide +kernel
theorem dL_law_1150 : decode cL_law 1150 = .ok (.iadd, 1) := by decide +kernel
theorem dL_law_1151 : decode cL_law 1151 = .ok (.iaload, 1) := by decide +kernel
theorem dL_law_1152 : decode cL_law 1152 = .ok (.aload_n 0, 1) := by decide +kernel
theorem dL_law_1153 : decode cL_law 1153 = .ok (.iload 5, 2) := by decide +kernel
theorem dL_law_1155 : decode cL_law 1155 = .ok (.iconst 2, 1) := by decide +kernel
theorem dL_law_1156 : decode cL_law 1156 = .ok (.iadd, 1) := by decide +kernel
theorem dL_law_1157 : decode cL_law 1157 = .ok (.iaload, 1) := by decide +kernel
theorem dL_law_1158 : decode cL_law 1158 = .ok (.aload_n 0, 1) := by decide +kernel
theorem dL_law_1159 : decode cL_law 1159 = .ok (.iload 5, 2) := by decide +kernel
theorem dL_law_1161 : decode cL_law 1161 = .ok (.iconst 3, 1) := by decide +kernel
theorem dL_law_1162 : decode cL_law 1162 = .ok (.iadd, 1) := by decide +kernel
theorem dL_law_1163 : decode cL_law 1163 = .ok (.iaload, 1) := by decide +kernel
theorem dL_law_1164 : decode cL_law 1164 = .ok (.invokevirtual 139, 3) := by decide +kernel
theorem dL_law_1167 : decode cL_law 1167 = .ok (.lstore 7, 2) := by decide +kernel
theorem dL_law_1169 : decode cL_law 1169 = .ok (.aload_n 2, 1) := by decide +kernel
theorem dL_law_1170 : decode cL_law 1170 = .ok (.invokevirtual 91, 3) := by decide +kernel
theorem dL_law_1173 : decode cL_law 1173 = .ok (.iload 6, 2) := by decide +kernel
theorem dL_law_1175 : decode cL_law 1175 = .ok (.if_icmp .eq 5, 3) := by decide +kernel
theorem dL_law_1178 : decode cL_law 1178 = .ok (.iconst 0, 1) := by decide +kernel
theorem dL_law_1179 : decode cL_law 1179 = .ok (.ireturn, 1) := by decide +kernel
theorem dL_law_1180 : decode cL_law 1180 = .ok (.iload 6, 2) := by decide +kernel
theorem dL_law_1182 : decode cL_law 1182 = .ok (.ifCond .ne 14, 3) := by decide +kernel
theorem dL_law_1185 : decode cL_law 1185 = .ok (.aload_n 3, 1) := by decide +kernel
theorem dL_law_1186 : decode cL_law 1186 = .ok (.iconst 0, 1) := by decide +kernel
theorem dL_law_1187 : decode cL_law 1187 = .ok (.laload, 1) := by decide +kernel
theorem dL_law_1188 : decode cL_law 1188 = .ok (.lload 7, 2) := by decide +kernel
theorem dL_law_1190 : decode cL_law 1190 = .ok (.lcmp, 1) := by decide +kernel
theorem dL_law_1191 : decode cL_law 1191 = .ok (.ifCond .eq 5, 3) := by decide +kernel
theorem dL_law_1194 : decode cL_law 1194 = .ok (.iconst 0, 1) := by decide +kernel
theorem dL_law_1195 : decode cL_law 1195 = .ok (.ireturn, 1) := by decide +kernel
theorem dL_law_1196 : decode cL_law 1196 = .ok (.goto 3, 3) := by decide +kernel
theorem dL_law_1199 : decode cL_law 1199 = .ok (.iinc 5 5, 3) := by decide +kernel
theorem dL_law_1202 : decode cL_law 1202 = .ok (.goto (-1174), 3) := by decide +kernel
theorem dL_law_1205 : decode cL_law 1205 = .ok (.iconst 1, 1) := by decide +kernel
theorem dL_law_1206 : decode cL_law 1206 = .ok (.ireturn, 1) := by decide +kernel
end
section
/-! THE PURE MACHINE'S WORLD: memory by numbers (ids) of objects, a fixed shape, an address for each id -/
/-- ints by object and place, longs, doubles, the calculator's three references, how many objects stand, which references are set -/
abbrev Mem : Type := (Nat → Nat → Int32) × (Nat → Nat → Int64) × (Nat → Nat → UInt64) × (Nat → Nat) × Nat × (Nat → Nat → Bool)
def mI (M : Mem) : Nat → Nat → Int32 := M.1
def mJ (M : Mem) : Nat → Nat → Int64 := M.2.1
def mD (M : Mem) : Nat → Nat → UInt64 := M.2.2.1
def mF (M : Mem) : Nat → Nat := M.2.2.2.1
def mN (M : Mem) : Nat := M.2.2.2.2.1
def mZ (M : Mem) : Nat → Nat → Bool := M.2.2.2.2.2
def up2 {α : Type} (f : Nat → Nat → α) (a k : Nat) (v : α) : Nat → Nat → α := fun b j => if b = a ∧ j = k then v else f b j
theorem up2_s {α : Type} (f : Nat → Nat → α) (a k : Nat) (v : α) : up2 f a k v a k = v := if_pos ⟨rfl, rfl⟩
theorem up2_n {α : Type} (f : Nat → Nat → α) {a k b j : Nat} (v : α) (h : ¬ (b = a ∧ j = k)) : up2 f a k v b j = f b j := if_neg h
theorem up2_row {α : Type} (f : Nat → Nat → α) {a k b : Nat} (v : α) (h : b ≠ a) : up2 f a k v b = f b := funext fun _ => if_neg (fun q => h q.1)
def sI (M : Mem) (a k : Nat) (v : Int32) : Mem := (up2 M.1 a k v, M.2)
def sJ (M : Mem) (a k : Nat) (v : Int64) : Mem := (M.1, up2 M.2.1 a k v, M.2.2)
def sD (M : Mem) (a k : Nat) (v : UInt64) : Mem := (M.1, M.2.1, up2 M.2.2.1 a k v, M.2.2.2)
def sF (M : Mem) (k : Nat) (v : Nat) : Mem := (M.1, M.2.1, M.2.2.1, va_up M.2.2.2.1 k v, M.2.2.2.2)
def NN : Nat := 124
def Full (M : Mem) : Prop := mN M = NN ∧ mZ M = fun _ _ => true
def tv (adr : Nat → Nat) : Value → Value
  | .ref i => .ref (adr i)
  | .int x => .int x
  | .long x => .long x
  | .float x => .float x
  | .double x => .double x
  | .null => .null
  | .retAddr x => .retAddr x
theorem tv_cat (adr : Nat → Nat) (v : Value) : (tv adr v).category = v.category := by cases v <;> rfl
/-- the shape: .inl (type, length) an array, .inr a class. Types: 0 char, 1 int, 2 long, 3 boolean, 4 double, 5 Account, 6 Return, 7 Table, 8 Text -/
def shA (a : Nat) : (Nat × Nat) ⊕ Nat := match a with
  | 0 => .inr 5
  | 1 => .inr 4
  | 2 => .inl (0, 40)
  | 3 => .inl (8, 12)
  | 4 => .inl (1, 12)
  | 5 => .inl (6, 12)
  | 6 => .inl (5, 3)
  | 7 => .inr 1
  | 8 => .inl (7, 3)
  | 9 => .inl (2, 12)
  | 10 => .inr 4
  | 11 => .inl (0, 40)
  | 12 => .inr 3
  | 13 => .inl (1, 4)
  | 14 => .inl (1, 4)
  | 15 => .inr 3
  | 16 => .inl (1, 4)
  | 17 => .inl (1, 4)
  | 18 => .inr 3
  | 19 => .inl (1, 4)
  | 20 => .inl (1, 4)
  | 21 => .inl (1, 12)
  | _ => .inl (2, 12)
def shB (a : Nat) : (Nat × Nat) ⊕ Nat := match a with
  | 96 => .inr 6
  | 97 => .inl (1, 40)
  | 98 => .inl (3, 12)
  | 99 => .inl (1, 12)
  | 100 => .inl (1, 12)
  | 101 => .inl (1, 576)
  | 102 => .inl (1, 576)
  | 103 => .inl (1, 3)
  | 104 => .inl (1, 12)
  | 105 => .inl (1, 12)
  | 106 => .inl (1, 3)
  | 107 => .inl (1, 144)
  | 108 => .inl (3, 12)
  | 109 => .inl (2, 144)
  | 110 => .inl (2, 12)
  | 111 => .inl (1, 3)
  | 112 => .inl (1, 72)
  | 113 => .inl (1, 72)
  | 114 => .inl (2, 72)
  | 115 => .inl (1, 48)
  | 116 => .inl (1, 48)
  | 117 => .inl (1, 48)
  | 118 => .inl (1, 48)
  | 119 => .inl (1, 12)
  | 120 => .inl (2, 12)
  | 121 => .inl (2, 48)
  | 122 => .inl (2, 1)
  | _ => .inl (4, 1)
def sh (a : Nat) : (Nat × Nat) ⊕ Nat :=
  if a < 24 then shA a
  else if a < 48 then (if a % 2 = 0 then .inr 4 else .inl (0, 40))
  else if a < 84 then (if a % 3 = 0 then .inr 2 else if a % 3 = 1 then .inl (1, 12) else .inl (2, 12))
  else if a < 96 then (if a % 4 = 0 then .inr 0 else if a % 4 = 3 then .inl (2, 24) else .inl (1, 24))
  else shB a
/-- kinds of fields: 0 int, 1 long, 2 a reference that stays, 3 a reference that changes -/
def ksOf (ci : Nat) : List Nat := match ci with
  | 0 => [2, 2, 2, 0, 1]
  | 1 => [2, 2, 3, 0, 0, 3, 3, 0, 0]
  | 2 => [2, 2, 1, 0]
  | 3 => [2, 2, 0, 0]
  | 4 => [2, 0]
  | 5 => [2, 2, 2, 2, 2, 2, 2, 2, 2, 0, 0]
  | _ => [0, 2, 0, 2, 2, 2, 2, 2, 0, 2, 2, 2, 2, 2, 2, 2, 2, 0, 2, 2, 2, 2, 0, 0, 2, 2, 0, 0, 2, 2, 2, 2, 0, 2]
def rfO (k : Nat) : Nat := match k with
  | 0 => 1
  | 1 => 3
  | 2 => 4
  | 3 => 5
  | 4 => 6
  | 5 => 7
  | 6 => 21
  | 7 => 22
  | _ => 23
def rfM (k : Nat) : Nat := match k with
  | 1 => 97
  | 3 => 98
  | 4 => 99
  | 5 => 100
  | 6 => 101
  | 7 => 102
  | 9 => 103
  | 10 => 104
  | 11 => 105
  | 12 => 106
  | 13 => 107
  | 14 => 108
  | 15 => 109
  | 16 => 110
  | 18 => 111
  | 19 => 112
  | 20 => 113
  | 21 => 114
  | 24 => 115
  | 25 => 116
  | 28 => 117
  | 29 => 118
  | 30 => 119
  | 31 => 120
  | _ => 121
def rf (a k : Nat) : Nat := if a = 0 then rfO k else if a = 3 then 24 + 2 * k else if a = 5 then 48 + 3 * k else if a = 6 then 84 + 4 * k else if a = 8 then 12 + 3 * k else if a = 7 then 8 + k else if a = 96 then rfM k else a + 1 + k
def fv (adr : Nat → Nat) (M : Mem) (a k : Nat) : Nat → Value
  | 0 => .int (mI M a k)
  | 1 => .long (mJ M a k)
  | 2 => bif mZ M a k then .ref (adr (rf a k)) else .null
  | _ => bif mZ M a k then .ref (adr (mF M k)) else .null
def flds (adr : Nat → Nat) (M : Mem) (a : Nat) : List Nat → Nat → List Value
  | [], _ => []
  | q :: r, k => fv adr M a k q :: flds adr M a r (k + 1)
def arow (adr : Nat → Nat) (M : Mem) (a t : Nat) : (Nat → Int32) ⊕ (Nat → Int64) ⊕ (Nat → UInt32) ⊕ (Nat → UInt64) ⊕ (Nat → Option Nat) :=
  if t = 2 then .inr (.inl (mJ M a)) else if t = 4 then .inr (.inr (.inr (.inl (mD M a)))) else if t < 4 then .inl (mI M a) else .inr (.inr (.inr (.inr (fun k => bif mZ M a k then some (adr (rf a k)) else none))))
def ce (cy : Nat → ClassId) (adr : Nat → Nat) (M : Mem) (a : Nat) : va_E := match sh a with
  | .inl q => .inl (cy q.1, q.2, arow adr M a q.1)
  | .inr ci => .inr (ci, flds adr M a (ksOf ci) 0)
def Wd (cy : Nat → ClassId) (adr : Nat → Nat) (M : Mem) : va_W := (List.range (mN M)).map (fun a => (adr a, ce cy adr M a))
theorem Wd_at {cy : Nat → ClassId} {adr : Nat → Nat} {M : Mem} {a : Nat} (h : a < mN M) : (Wd cy adr M)[a]? = some (adr a, ce cy adr M a) := by
  simp [Wd, h]
theorem Wd_set {cy : Nat → ClassId} {adr : Nat → Nat} {M M' : Mem} {a : Nat} (hn : mN M' = mN M) (h : ∀ b, b ≠ a → ce cy adr M' b = ce cy adr M b) {e : va_E} (he : ce cy adr M' a = e) : (Wd cy adr M).set a (adr a, e) = Wd cy adr M' := by
  apply List.ext_getElem?
  intro k
  by_cases hk : k < mN M
  · by_cases hka : k = a
    · subst hka
      rw [List.getElem?_set_self (by simp [Wd, hk]), Wd_at (by rw [hn]; exact hk), he]
    · rw [List.getElem?_set_ne (Ne.symm hka), Wd_at hk, Wd_at (by rw [hn]; exact hk), h k hka]
  · have h1 : (Wd cy adr M').length ≤ k := by simp [Wd, hn]; omega
    have h2 : ((Wd cy adr M).set a (adr a, e)).length ≤ k := by simp [Wd]; omega
    rw [List.getElem?_eq_none h1, List.getElem?_eq_none h2]
theorem flds_at (adr : Nat → Nat) (M : Mem) (a : Nat) : ∀ (ks : List Nat) (k0 k q : Nat), ks[k]? = some q → (flds adr M a ks k0)[k]? = some (fv adr M a (k0 + k) q)
  | [], _, _, _, h => by simp at h
  | x :: r, k0, 0, q, h => by
    simp only [List.getElem?_cons_zero, Option.some.injEq] at h
    subst h
    rfl
  | x :: r, k0, k + 1, q, h => by
    have h1 := flds_at adr M a r (k0 + 1) k q (by simpa using h)
    simp only [flds, List.getElem?_cons_succ]
    rw [h1, show k0 + 1 + k = k0 + (k + 1) by omega]
theorem flds_len (adr : Nat → Nat) (M : Mem) (a : Nat) : ∀ (ks : List Nat) (k0 : Nat), (flds adr M a ks k0).length = ks.length
  | [], _ => rfl
  | _ :: r, k0 => by simp [flds, flds_len adr M a r (k0 + 1)]
/-- one field changes: the list of fields is set there -/
theorem flds_set {adr : Nat → Nat} {M M' : Mem} {a k : Nat} {ks : List Nat} {q : Nat} {v : Value} (hk : ks[k]? = some q) (hv : fv adr M' a k q = v) (ho : ∀ j q', j ≠ k → ks[j]? = some q' → fv adr M' a j q' = fv adr M a j q') : (flds adr M a ks 0).set k v = flds adr M' a ks 0 := by
  apply List.ext_getElem?
  intro j
  by_cases hj : j < ks.length
  · obtain ⟨q', hq'⟩ : ∃ q', ks[j]? = some q' := ⟨_, List.getElem?_eq_getElem hj⟩
    by_cases hjk : j = k
    · subst hjk
      rw [List.getElem?_set_self (by rw [flds_len]; exact hj), flds_at adr M' a ks 0 j q hk, Nat.zero_add, hv]
    · rw [List.getElem?_set_ne (Ne.symm hjk), flds_at adr M a ks 0 j q' hq', flds_at adr M' a ks 0 j q' hq', Nat.zero_add, ho j q' hjk hq']
  · have h1 : (flds adr M' a ks 0).length ≤ j := by rw [flds_len]; omega
    have h2 : ((flds adr M a ks 0).set k v).length ≤ j := by rw [List.length_set, flds_len]; omega
    rw [List.getElem?_eq_none h1, List.getElem?_eq_none h2]
theorem ce_o {cy : Nat → ClassId} {adr : Nat → Nat} {M : Mem} {a ci : Nat} (h : sh a = .inr ci) : ce cy adr M a = .inr (ci, flds adr M a (ksOf ci) 0) := by
  simp only [ce, h]
theorem ce_a {cy : Nat → ClassId} {adr : Nat → Nat} {M : Mem} {a t n : Nat} (h : sh a = .inl (t, n)) : ce cy adr M a = .inl (cy t, n, arow adr M a t) := by
  simp only [ce, h]
theorem flds_congr {adr : Nat → Nat} {M M' : Mem} {a : Nat} (h : ∀ k q, fv adr M' a k q = fv adr M a k q) : ∀ (ks : List Nat) (k0 : Nat), flds adr M' a ks k0 = flds adr M a ks k0
  | [], _ => rfl
  | x :: r, k0 => by simp only [flds]; rw [h, flds_congr h r (k0 + 1)]
/-- an object whose rows are the same looks the same -/
theorem ce_same {cy : Nat → ClassId} {adr : Nat → Nat} {M M' : Mem} {b : Nat} (h1 : mI M' b = mI M b) (h2 : mJ M' b = mJ M b) (h3 : mD M' b = mD M b) (h4 : mZ M' b = mZ M b) (h5 : sh b = .inr 1 → mF M' = mF M) : ce cy adr M' b = ce cy adr M b := by
  unfold ce
  cases hs : sh b with
  | inl q => simp only [arow, h1, h2, h3, h4]
  | inr ci =>
    by_cases hc : ci = 1
    · subst hc
      have h5 := h5 hs
      simp only
      rw [flds_congr (M := M) (M' := M') (fun k q => by
        match q with
        | 0 => simp only [fv, h1]
        | 1 => simp only [fv, h2]
        | 2 => simp only [fv, h4]
        | (q + 3) => simp only [fv, h4, h5])]
    · have hk : ∀ (k q : Nat), (ksOf ci)[k]? = some q → q < 3 := by
        intro k q hq
        have hall : ∀ q ∈ ksOf ci, q < 3 := by
          match ci, hc with
          | 0, _ => decide
          | 2, _ => decide
          | 3, _ => decide
          | 4, _ => decide
          | 5, _ => decide
          | (n + 6), _ => simp only [ksOf]; decide
        exact hall q (List.mem_of_getElem? hq)
      simp only
      congr 2
      apply List.ext_getElem?
      intro j
      by_cases hj : j < (ksOf ci).length
      · obtain ⟨q', hq'⟩ : ∃ q', (ksOf ci)[j]? = some q' := ⟨_, List.getElem?_eq_getElem hj⟩
        rw [flds_at adr M' b _ 0 j q' hq', flds_at adr M b _ 0 j q' hq']
        have hlt := hk j q' hq'
        match q', hlt with
        | 0, _ => simp only [fv, h1]
        | 1, _ => simp only [fv, h2]
        | 2, _ => simp only [fv, h4]
      · rw [List.getElem?_eq_none (by rw [flds_len]; omega), List.getElem?_eq_none (by rw [flds_len]; omega)]
end
section
/-! THE WORDS, THE FRAME'S CONTEXT, THE JUDGEMENT PW -/
def WW : List Cond := lw_tbl.filter goodWord
theorem WW_good {w : Cond} (h : w ∈ WW) : (w.onTables && w.keeps) = true ∨ ∃ ty, w = .arrayClass ty := good_of_word (List.mem_filter.mp h).2
theorem WW_at {args a' : Array Value} {s U : State} (hW : s.WarmedH U.vm) (h : ∀ w ∈ WW, w.before args s = true) : ∀ w ∈ WW, w.before a' U = true := fun w hw => word_at hW (WW_good hw) (h w hw)
def tysOf (cy : Nat → ClassId) : List (ClassId × FieldType) := [(cy 0, .char), (cy 1, .int), (cy 2, .long), (cy 3, .boolean), (cy 4, .double), (cy 5, .object "FormOffice$Account"), (cy 6, .object "FormOffice$Return"), (cy 7, .object "FormOffice$Table"), (cy 8, .object "FormOffice$Text")]
/-- where a method may write: the objects of its world, and what comes from sz on -/
def AA (adr : Nat → Nat) (n sz : Nat) : Nat → Prop := fun q => (∃ i, i < n ∧ q = adr i) ∨ sz ≤ q
/-- the texts that are thrown: entry, text -/
def strs : List (Nat × String) := [(229, "no such line"), (91, "the text is no formula"), (232, "no such table"), (124, "no such beginning or rate"), (129, "the table is full"), (138, "no such rounding"), (143, "no such place"), (149, "the order does not go so far"), (234, "no such taxpayer"), (236, "no such year"), (156, "the line has a formula, or the number is too large"), (166, "the form is a ring, or the account is full"), (177, "overflow"), (242, "the return was not assessed"), (198, "no such amount"), (200, "the account is full"), (205, "no such rate"), (207, "no such number of days"), (213, "an account is full"), (216, "no such posting or what")]
/-- links across the nest: class, entry, method -/
def nests : List (String × Nat × MethodName) := [(RX5, 9, yX4_init), (RX1, 23, yX4_init), (RX1, 48, yX3_init), (RX5, 60, yX2_init), (RX5, 61, yX0_init), (RX3, 38, yX5_carriesToEven), (RX1, 102, yX5_carriesToEven)]
/-- the text of all signs that stand in formulas -/
def signTx : String := "ABCDEFGHIJKL0123456789'+-*%<>?:(),mxt"
def signBy : List Int32 := [65, 66, 67, 68, 69, 70, 71, 72, 73, 74, 75, 76, 48, 49, 50, 51, 52, 53, 54, 55, 56, 57, 39, 43, 45, 42, 37, 60, 62, 63, 58, 40, 41, 44, 109, 120, 116]
/-- words that no step takes away, though the kit's test doesn't know it -/
def decls : List MethodName := [Bundle.initS "java/lang/RuntimeException", Bundle.initS "java/lang/Exception", Bundle.initS Bundle.tN]
def casts : List String := ["java/util/NoSuchElementException", "java/lang/IllegalArgumentException", "java/lang/IllegalStateException", "java/lang/ArithmeticException"]
/-- what stands outside: two statics of Throwable, the texts, the links across the nest, the signs -/
def Base (A : Nat → Prop) (U : State) : Prop := vx_Zq Bundle.tN "UNASSIGNED_STACK" Bundle.steD A U U.heap ∧ vx_Zq Bundle.tN "SUPPRESSED_SENTINEL" Bundle.listD A U U.heap ∧
  (∀ q ∈ strs, ∃ a, vk_R RX5 q.1 q.2 a U) ∧ (∀ q ∈ nests, va_Nw (.methodLinkNest q.1 q.2.1 q.2.2 RX5) U) ∧ (∀ x ∈ decls, va_Nw (.declares x) U) ∧ (∀ C ∈ casts, va_Nw (.castable C C) U) ∧
  ∃ (ak av : Nat), vk_R RX5 62 signTx ak U ∧ vk_S 1 [37] [signBy] (fun _ => ak) (fun _ => av) A U U.heap
theorem Base.to {A B : Nat → Prop} {s U : State} {H : Heap} {locs : List Loc} (h : Base A s) (hS : va_S A s.heap H locs) (hU : U.heap = H) (hW : s.WarmedH U.vm) (hBA : ∀ q, B q → A q) : Base B U := by
  obtain ⟨h1, h2, h3, h4, h7, h8, ak, av, h5, h6⟩ := h
  have hq : ∀ a : Nat, a < s.heap.size → ¬ A a → U.heap[a]? = s.heap[a]? := fun a ha hA => by rw [hU]; exact hS.2.1 a ha hA
  exact ⟨((h1.kept hq).moved hW.alike).narrow hBA, ((h2.kept hq).moved hW.alike).narrow hBA, fun q hq => by obtain ⟨a, ha⟩ := h3 q hq; exact ⟨a, ha.warm hW⟩, fun q hq => (h4 q hq).warmM hW, fun q hq => (h7 q hq).warmD hW, fun q hq => (h8 q hq).warmC hW, ak, av, h5.warm hW, ((h6.kept hq).moved hW.alike).narrow hBA⟩
/-- a frame's context: the machine's things; classes, array classes, addresses; which address maps may end; where may be written; the depth -/
abbrev Cx : Type := (Program × Launch × Env × Room × State × MethodId × Array Value × List Frame × Method × Code) × (va_G × (Nat → ClassId) × (Nat → Nat) × ((Nat → Nat) → Prop) × (Nat → Prop) × Nat × List (Nat × Nat × Nat × Nat))
def gp (G : Cx) : Program := G.1.1
def gl (G : Cx) : Launch := G.1.2.1
def ge (G : Cx) : Env := G.1.2.2.1
def gR (G : Cx) : Room := G.1.2.2.2.1
def gs (G : Cx) : State := G.1.2.2.2.2.1
def gm (G : Cx) : MethodId := G.1.2.2.2.2.2.1
def ga (G : Cx) : Array Value := G.1.2.2.2.2.2.2.1
def gb (G : Cx) : List Frame := G.1.2.2.2.2.2.2.2.1
def gh (G : Cx) : Method := G.1.2.2.2.2.2.2.2.2.1
def gc (G : Cx) : Code := G.1.2.2.2.2.2.2.2.2.2
def gD (G : Cx) : va_G := G.2.1
def gy (G : Cx) : Nat → ClassId := G.2.2.1
def gr (G : Cx) : Nat → Nat := G.2.2.2.1
def gE (G : Cx) : (Nat → Nat) → Prop := G.2.2.2.2.1
def gA (G : Cx) : Nat → Prop := G.2.2.2.2.2.1
def gd (G : Cx) : Nat := G.2.2.2.2.2.2.1
def gt (G : Cx) : List (Nat × Nat × Nat × Nat) := G.2.2.2.2.2.2.2
/-- the room at depth d with n throws -/
def rmm (d n : Nat) : Room := { frames := d, cells := n, slots := 6 * n, locals := 64 * d }
abbrev Wg (G : Cx) (H : Heap) (locs : List Loc) (cells slots : Nat) (Q : State → Prop) (g : JFrame) : Prop := W (gp G) (gl G) (ge G) (gR G) (gs G) (gm G) (ga G) (gb G) (gh G) (gc G) H locs cells slots Q g
def Ok (G : Cx) (own : String) (cc : ByteArray) (nL : Nat) (rt : Option FieldType) (n0 : Nat) : Prop :=
  (gp G).tables.exec = Jvm.exec ∧ (gc G).code = cc ∧ (gc G).maxLocals = nL ∧ (gh G).sig.returnType = rt ∧ (gs G).vm.findClass own = some (gm G).cls ∧ (∀ w ∈ WW, w.before (ga G) (gs G) = true) ∧ (gh G).locks = false ∧
  va_K (gD G) vwCl (tysOf (gy G)) (gs G) ∧ Base (gA G) (gs G) ∧ (gl G).stackTraces = false ∧ gR G = rmm (gd G) n0 ∧ gE G (gr G) ∧ (∀ q : Nat, (gs G).heap.size ≤ q → gA G q) ∧ (gc G).exceptionTable.toList = tableOf (gt G)
/-- how a method ends: returned -/
def Qn (D : va_G) (cy : Nat → ClassId) (E : (Nat → Nat) → Prop) (A : Nat → Prop) (Post : Option Value → Mem → Prop) : Array Value → State → Outcome → State → Prop := fun _ st o t =>
  (∃ (adr : Nat → Nat) (r : Option Value) (M : Mem), E adr ∧ o = .returned (r.map (tv adr)) ∧ Post r M ∧ va_P D vwCl (Wd cy adr M) t.heap ∧ va_D A (Wd cy adr M)) ∧ va_F A st t
/-- .. or thrown -/
def Xn (D : va_G) (cy : Nat → ClassId) (E : (Nat → Nat) → Prop) (A : Nat → Prop) (PostX : String → Mem → Prop) : String → State → State → Prop := fun C st t =>
  (∃ (adr : Nat → Nat) (M : Mem), E adr ∧ PostX C M ∧ va_P D vwCl (Wd cy adr M) t.heap ∧ va_D A (Wd cy adr M)) ∧ va_F A st t
def Zn (G : Cx) (Post : Option Value → Mem → Prop) (PostX : String → Mem → Prop) (n0 : Nat) : State → Prop := vx_MQ (gb G) (Qn (gD G) (gy G) (gE G) (gA G) Post) (Xn (gD G) (gy G) (gE G) (gA G) PostX) (ga G) (gs G) n0 (6 * n0) (gA G)
def lt (adr : Nat → Nat) (ls : List (Nat × Value)) : List (Nat × Value) := ls.map (fun q => (q.1, tv adr q.2))
/-- the pure judgement: from any heap that holds M, with these locals and this stack, the method comes to its end; n throws are left -/
def PW (G : Cx) (own : String) (cc : ByteArray) (nL : Nat) (rt : Option FieldType) (Post : Option Value → Mem → Prop) (PostX : String → Mem → Prop) (n pc : Nat) (ls : List (Nat × Value)) (st : List Value) (M : Mem) : Prop :=
  ∀ (n0 : Nat) (H : Heap) (locs : List Loc) (lsA : Array Slot) (cells slots : Nat), Ok G own cc nL rt n0 → cells + n ≤ n0 → slots + 6 * n ≤ 6 * n0 → va_P (gD G) vwCl (Wd (gy G) (gr G) M) H → va_D (gA G) (Wd (gy G) (gr G) M) → va_S (gA G) (gs G).heap H locs → lv_has lsA nL (lt (gr G) ls) →
    Wg G H locs cells slots (Zn G Post PostX n0) (F0 (gm G) pc lsA (st.map (tv (gr G))))
def lk : List (Nat × Value) → Nat → Option Value
  | [], _ => none
  | q :: r, i => bif Nat.beq q.1 i then some q.2 else lk r i
theorem lk_mem : ∀ (ls : List (Nat × Value)) (i : Nat) (v : Value), lk ls i = some v → (i, v) ∈ ls
  | [], _, _, h => by cases h
  | q :: r, i, v, h => by
    unfold lk at h
    by_cases hq : Nat.beq q.1 i = true
    · rw [hq] at h
      simp only [cond_true, Option.some.injEq] at h
      have h1 := Nat.eq_of_beq_eq_true hq
      subst h1; subst h
      exact List.mem_cons_self
    · have hq' : Nat.beq q.1 i = false := by cases hb : Nat.beq q.1 i <;> simp_all
      rw [hq'] at h
      exact List.mem_cons_of_mem _ (lk_mem r i v h)
theorem lk_at {adr : Nat → Nat} {lsA : Array Slot} {nL : Nat} {ls : List (Nat × Value)} {i : Nat} {v : Value} (hl : lv_has lsA nL (lt adr ls)) (h : lk ls i = some v) : lsA[i]? = some (.val (tv adr v)) :=
  hl.2.2 _ (List.mem_map.mpr ⟨(i, v), lk_mem ls i v h, rfl⟩)
def cat2 (v : Value) : Bool := match v with
  | .long _ => true
  | .double _ => true
  | _ => false
/-- locals but for those that a store at i takes away -/
def dl1 (i : Nat) : List (Nat × Value) → List (Nat × Value)
  | [] => []
  | q :: r => bif Nat.beq q.1 i || (Nat.beq (q.1 + 1) i && cat2 q.2) then dl1 i r else q :: dl1 i r
def dl2 (i : Nat) : List (Nat × Value) → List (Nat × Value)
  | [] => []
  | q :: r => bif Nat.beq q.1 i || (Nat.beq q.1 (i + 1) || (Nat.beq (q.1 + 1) i && cat2 q.2)) then dl2 i r else q :: dl2 i r
theorem cat2_eq (adr : Nat → Nat) (v : Value) : ((tv adr v).category == 2) = cat2 v := by cases v <;> rfl
theorem beq_b (a b : Nat) : (a == b) = Nat.beq a b := by cases h : Nat.beq a b <;> simp_all [Nat.beq_eq, BEq.beq] <;> first | (intro q; subst q; simp at h) | (exact Nat.eq_of_beq_eq_true h) | skip
theorem dl1_eq (adr : Nat → Nat) (i : Nat) : ∀ ls : List (Nat × Value), (lt adr ls).filter (fun q => !(q.1 == i) && !(q.1 + 1 == i && q.2.category == 2)) = lt adr (dl1 i ls)
  | [] => rfl
  | q :: r => by
    have ih := dl1_eq adr i r
    simp only [lt, List.map_cons, List.filter_cons, dl1] at ih ⊢
    rw [cat2_eq, beq_b, beq_b]
    cases h1 : Nat.beq q.1 i <;> cases h2 : Nat.beq (q.1 + 1) i <;> cases h3 : cat2 q.2 <;> simp_all
theorem dl2_eq (adr : Nat → Nat) (i : Nat) : ∀ ls : List (Nat × Value), (lt adr ls).filter (fun q => !(q.1 == i) && (!(q.1 == i + 1) && !(q.1 + 1 == i && q.2.category == 2))) = lt adr (dl2 i ls)
  | [] => rfl
  | q :: r => by
    have ih := dl2_eq adr i r
    simp only [lt, List.map_cons, List.filter_cons, dl2] at ih ⊢
    rw [cat2_eq, beq_b, beq_b, beq_b]
    cases h1 : Nat.beq q.1 i <;> cases h2 : Nat.beq (q.1 + 1) i <;> cases h3 : cat2 q.2 <;> cases h4 : Nat.beq q.1 (i + 1) <;> simp_all
end
section
/-! RULES OF PW: an instruction each (no heap) -/
section
variable {G : Cx} {own : String} {cc : ByteArray} {nL : Nat} {rt : Option FieldType} {Post : Option Value → Mem → Prop} {PostX : String → Mem → Prop} {n pc : Nat} {ls : List (Nat × Value)} {st : List Value} {M : Mem}

theorem w_iadd {x y : Int32} (d : decode cc pc = .ok (.iadd, 1)) (k : PW G own cc nL rt Post PostX n (pc + 1) ls (.int (x + y) :: st) M) : PW G own cc nL rt Post PostX n pc ls (.int y :: .int x :: st) M := fun n0 H locs lsA cells slots ok h1 h2 hP hD hS hl => lv_iadd ok.1 ok.2.1 d (k n0 H locs lsA cells slots ok h1 h2 hP hD hS hl)
theorem w_isub {x y : Int32} (d : decode cc pc = .ok (.isub, 1)) (k : PW G own cc nL rt Post PostX n (pc + 1) ls (.int (x - y) :: st) M) : PW G own cc nL rt Post PostX n pc ls (.int y :: .int x :: st) M := fun n0 H locs lsA cells slots ok h1 h2 hP hD hS hl => lv_isub ok.1 ok.2.1 d (k n0 H locs lsA cells slots ok h1 h2 hP hD hS hl)
theorem w_imul {x y : Int32} (d : decode cc pc = .ok (.imul, 1)) (k : PW G own cc nL rt Post PostX n (pc + 1) ls (.int (x * y) :: st) M) : PW G own cc nL rt Post PostX n pc ls (.int y :: .int x :: st) M := fun n0 H locs lsA cells slots ok h1 h2 hP hD hS hl => lv_imul ok.1 ok.2.1 d (k n0 H locs lsA cells slots ok h1 h2 hP hD hS hl)
theorem w_iand {x y : Int32} (d : decode cc pc = .ok (.iand, 1)) (k : PW G own cc nL rt Post PostX n (pc + 1) ls (.int (x &&& y) :: st) M) : PW G own cc nL rt Post PostX n pc ls (.int y :: .int x :: st) M := fun n0 H locs lsA cells slots ok h1 h2 hP hD hS hl => lv_iand ok.1 ok.2.1 d (k n0 H locs lsA cells slots ok h1 h2 hP hD hS hl)
theorem w_ior {x y : Int32} (d : decode cc pc = .ok (.ior, 1)) (k : PW G own cc nL rt Post PostX n (pc + 1) ls (.int (x ||| y) :: st) M) : PW G own cc nL rt Post PostX n pc ls (.int y :: .int x :: st) M := fun n0 H locs lsA cells slots ok h1 h2 hP hD hS hl => lv_ior ok.1 ok.2.1 d (k n0 H locs lsA cells slots ok h1 h2 hP hD hS hl)
theorem w_ixor {x y : Int32} (d : decode cc pc = .ok (.ixor, 1)) (k : PW G own cc nL rt Post PostX n (pc + 1) ls (.int (x ^^^ y) :: st) M) : PW G own cc nL rt Post PostX n pc ls (.int y :: .int x :: st) M := fun n0 H locs lsA cells slots ok h1 h2 hP hD hS hl => lv_ixor ok.1 ok.2.1 d (k n0 H locs lsA cells slots ok h1 h2 hP hD hS hl)
theorem w_ishl {x y : Int32} (d : decode cc pc = .ok (.ishl, 1)) (k : PW G own cc nL rt Post PostX n (pc + 1) ls (.int (x <<< (y &&& 31)) :: st) M) : PW G own cc nL rt Post PostX n pc ls (.int y :: .int x :: st) M := fun n0 H locs lsA cells slots ok h1 h2 hP hD hS hl => lv_ishl ok.1 ok.2.1 d (k n0 H locs lsA cells slots ok h1 h2 hP hD hS hl)
theorem w_ishr {x y : Int32} (d : decode cc pc = .ok (.ishr, 1)) (k : PW G own cc nL rt Post PostX n (pc + 1) ls (.int (x >>> (y &&& 31)) :: st) M) : PW G own cc nL rt Post PostX n pc ls (.int y :: .int x :: st) M := fun n0 H locs lsA cells slots ok h1 h2 hP hD hS hl => lv_ishr ok.1 ok.2.1 d (k n0 H locs lsA cells slots ok h1 h2 hP hD hS hl)
theorem w_ladd {x y : Int64} (d : decode cc pc = .ok (.ladd, 1)) (k : PW G own cc nL rt Post PostX n (pc + 1) ls (.long (x + y) :: st) M) : PW G own cc nL rt Post PostX n pc ls (.long y :: .long x :: st) M := fun n0 H locs lsA cells slots ok h1 h2 hP hD hS hl => lv_ladd ok.1 ok.2.1 d (k n0 H locs lsA cells slots ok h1 h2 hP hD hS hl)
theorem w_lsub {x y : Int64} (d : decode cc pc = .ok (.lsub, 1)) (k : PW G own cc nL rt Post PostX n (pc + 1) ls (.long (x - y) :: st) M) : PW G own cc nL rt Post PostX n pc ls (.long y :: .long x :: st) M := fun n0 H locs lsA cells slots ok h1 h2 hP hD hS hl => lv_lsub ok.1 ok.2.1 d (k n0 H locs lsA cells slots ok h1 h2 hP hD hS hl)
theorem w_lmul {x y : Int64} (d : decode cc pc = .ok (.lmul, 1)) (k : PW G own cc nL rt Post PostX n (pc + 1) ls (.long (x * y) :: st) M) : PW G own cc nL rt Post PostX n pc ls (.long y :: .long x :: st) M := fun n0 H locs lsA cells slots ok h1 h2 hP hD hS hl => lv_lmul ok.1 ok.2.1 d (k n0 H locs lsA cells slots ok h1 h2 hP hD hS hl)
theorem w_land {x y : Int64} (d : decode cc pc = .ok (.land, 1)) (k : PW G own cc nL rt Post PostX n (pc + 1) ls (.long (x &&& y) :: st) M) : PW G own cc nL rt Post PostX n pc ls (.long y :: .long x :: st) M := fun n0 H locs lsA cells slots ok h1 h2 hP hD hS hl => lv_land ok.1 ok.2.1 d (k n0 H locs lsA cells slots ok h1 h2 hP hD hS hl)
theorem w_lxor {x y : Int64} (d : decode cc pc = .ok (.lxor, 1)) (k : PW G own cc nL rt Post PostX n (pc + 1) ls (.long (x ^^^ y) :: st) M) : PW G own cc nL rt Post PostX n pc ls (.long y :: .long x :: st) M := fun n0 H locs lsA cells slots ok h1 h2 hP hD hS hl => lv_lxor ok.1 ok.2.1 d (k n0 H locs lsA cells slots ok h1 h2 hP hD hS hl)
theorem w_iushr {x y : Int32} (d : decode cc pc = .ok (.iushr, 1)) (k : PW G own cc nL rt Post PostX n (pc + 1) ls (.int ((x.toUInt32 >>> (y.toUInt32 &&& Int32.toUInt32 31)).toInt32) :: st) M) : PW G own cc nL rt Post PostX n pc ls (.int y :: .int x :: st) M := fun n0 H locs lsA cells slots ok h1 h2 hP hD hS hl => lv_iushr ok.1 ok.2.1 d rfl (k n0 H locs lsA cells slots ok h1 h2 hP hD hS hl)
theorem w_ldiv {x y : Int64} (d : decode cc pc = .ok (.ldiv, 1)) (hne : ¬ y = 0) (k : PW G own cc nL rt Post PostX n (pc + 1) ls (.long (x / y) :: st) M) : PW G own cc nL rt Post PostX n pc ls (.long y :: .long x :: st) M := fun n0 H locs lsA cells slots ok h1 h2 hP hD hS hl => lv_ldiv ok.1 ok.2.1 d hne (k n0 H locs lsA cells slots ok h1 h2 hP hD hS hl)
theorem w_lrem {x y : Int64} (d : decode cc pc = .ok (.lrem, 1)) (hne : ¬ y = 0) (k : PW G own cc nL rt Post PostX n (pc + 1) ls (.long (x - x / y * y) :: st) M) : PW G own cc nL rt Post PostX n pc ls (.long y :: .long x :: st) M := fun n0 H locs lsA cells slots ok h1 h2 hP hD hS hl => lv_lrem ok.1 ok.2.1 d hne (k n0 H locs lsA cells slots ok h1 h2 hP hD hS hl)
theorem w_irem {x y : Int32} (d : decode cc pc = .ok (.irem, 1)) (hne : ¬ y = 0) (k : PW G own cc nL rt Post PostX n (pc + 1) ls (.int (x - x / y * y) :: st) M) : PW G own cc nL rt Post PostX n pc ls (.int y :: .int x :: st) M := fun n0 H locs lsA cells slots ok h1 h2 hP hD hS hl => lv_irem ok.1 ok.2.1 d hne (k n0 H locs lsA cells slots ok h1 h2 hP hD hS hl)
theorem w_ineg {x : Int32} (d : decode cc pc = .ok (.ineg, 1)) (k : PW G own cc nL rt Post PostX n (pc + 1) ls (.int (-x) :: st) M) : PW G own cc nL rt Post PostX n pc ls (.int x :: st) M := fun n0 H locs lsA cells slots ok h1 h2 hP hD hS hl => lv_ineg ok.1 ok.2.1 d (k n0 H locs lsA cells slots ok h1 h2 hP hD hS hl)
theorem w_lneg {x : Int64} (d : decode cc pc = .ok (.lneg, 1)) (k : PW G own cc nL rt Post PostX n (pc + 1) ls (.long (-x) :: st) M) : PW G own cc nL rt Post PostX n pc ls (.long x :: st) M := fun n0 H locs lsA cells slots ok h1 h2 hP hD hS hl => lv_lneg ok.1 ok.2.1 d (k n0 H locs lsA cells slots ok h1 h2 hP hD hS hl)
theorem w_i2l {x : Int32} (d : decode cc pc = .ok (.i2l, 1)) (k : PW G own cc nL rt Post PostX n (pc + 1) ls (.long x.toInt64 :: st) M) : PW G own cc nL rt Post PostX n pc ls (.int x :: st) M := fun n0 H locs lsA cells slots ok h1 h2 hP hD hS hl => lv_i2l ok.1 ok.2.1 d rfl (k n0 H locs lsA cells slots ok h1 h2 hP hD hS hl)
theorem w_i2c {x : Int32} (d : decode cc pc = .ok (.i2c, 1)) (k : PW G own cc nL rt Post PostX n (pc + 1) ls (.int ((x.toUInt32 % 65536).toInt32) :: st) M) : PW G own cc nL rt Post PostX n pc ls (.int x :: st) M := fun n0 H locs lsA cells slots ok h1 h2 hP hD hS hl => lv_i2c ok.1 ok.2.1 d rfl (k n0 H locs lsA cells slots ok h1 h2 hP hD hS hl)
theorem w_i2b {x : Int32} (d : decode cc pc = .ok (.i2b, 1)) (k : PW G own cc nL rt Post PostX n (pc + 1) ls (.int (x.toInt8.toInt32) :: st) M) : PW G own cc nL rt Post PostX n pc ls (.int x :: st) M := fun n0 H locs lsA cells slots ok h1 h2 hP hD hS hl => lv_i2b ok.1 ok.2.1 d rfl (k n0 H locs lsA cells slots ok h1 h2 hP hD hS hl)
theorem w_l2d {x : Int64} (d : decode cc pc = .ok (.l2d, 1)) (k : PW G own cc nL rt Post PostX n (pc + 1) ls (.double (FP.l2d x) :: st) M) : PW G own cc nL rt Post PostX n pc ls (.long x :: st) M := fun n0 H locs lsA cells slots ok h1 h2 hP hD hS hl => lv_l2d ok.1 ok.2.1 d (k n0 H locs lsA cells slots ok h1 h2 hP hD hS hl)
theorem w_ddiv {x y : UInt64} (d : decode cc pc = .ok (.ddiv, 1)) (hne : vf_n64 (FP.ddiv x y)) (k : PW G own cc nL rt Post PostX n (pc + 1) ls (.double (FP.ddiv x y) :: st) M) : PW G own cc nL rt Post PostX n pc ls (.double y :: .double x :: st) M := fun n0 H locs lsA cells slots ok h1 h2 hP hD hS hl => lv_ddiv ok.1 ok.2.1 d hne (k n0 H locs lsA cells slots ok h1 h2 hP hD hS hl)
theorem w_dcmp {x y : UInt64} {op : CmpOp} (d : decode cc pc = .ok (.dcmp op, 1)) (k : PW G own cc nL rt Post PostX n (pc + 1) ls (.int (Op.cmpValue (FP.dcmp x y) op) :: st) M) : PW G own cc nL rt Post PostX n pc ls (.double y :: .double x :: st) M := fun n0 H locs lsA cells slots ok h1 h2 hP hD hS hl => lv_dcmp ok.1 ok.2.1 d (k n0 H locs lsA cells slots ok h1 h2 hP hD hS hl)
theorem w_lcmp {x y : Int64} (d : decode cc pc = .ok (.lcmp, 1)) (k : PW G own cc nL rt Post PostX n (pc + 1) ls (.int (lg_cmp x y) :: st) M) : PW G own cc nL rt Post PostX n pc ls (.long y :: .long x :: st) M := fun n0 H locs lsA cells slots ok h1 h2 hP hD hS hl => W.lcmp ok.1 ok.2.1 d (k n0 H locs lsA cells slots ok h1 h2 hP hD hS hl)
theorem w_iconst {i : Int} {v : Int32} (d : decode cc pc = .ok (.iconst i, 1)) (hv : Int32.ofInt i = v) (k : PW G own cc nL rt Post PostX n (pc + 1) ls (.int v :: st) M) : PW G own cc nL rt Post PostX n pc ls (st) M := fun n0 H locs lsA cells slots ok h1 h2 hP hD hS hl => lv_iconst ok.1 ok.2.1 d hv (k n0 H locs lsA cells slots ok h1 h2 hP hD hS hl)
theorem w_bipush {i : Int} {v : Int32} (d : decode cc pc = .ok (.bipush i, 2)) (hv : (Int8.ofInt i).toInt32 = v) (k : PW G own cc nL rt Post PostX n (pc + 2) ls (.int v :: st) M) : PW G own cc nL rt Post PostX n pc ls (st) M := fun n0 H locs lsA cells slots ok h1 h2 hP hD hS hl => lv_bipush ok.1 ok.2.1 d hv (k n0 H locs lsA cells slots ok h1 h2 hP hD hS hl)
theorem w_sipush {i : Int} {v : Int32} (d : decode cc pc = .ok (.sipush i, 3)) (hv : (Int16.ofInt i).toInt32 = v) (k : PW G own cc nL rt Post PostX n (pc + 3) ls (.int v :: st) M) : PW G own cc nL rt Post PostX n pc ls (st) M := fun n0 H locs lsA cells slots ok h1 h2 hP hD hS hl => lv_sipush ok.1 ok.2.1 d hv (k n0 H locs lsA cells slots ok h1 h2 hP hD hS hl)
theorem w_lconst {i : Fin 2} {v : Int64} (d : decode cc pc = .ok (.lconst i, 1)) (hv : Int64.ofNat (i : Nat) = v) (k : PW G own cc nL rt Post PostX n (pc + 1) ls (.long v :: st) M) : PW G own cc nL rt Post PostX n pc ls (st) M := fun n0 H locs lsA cells slots ok h1 h2 hP hD hS hl => lv_lconst ok.1 ok.2.1 d hv (k n0 H locs lsA cells slots ok h1 h2 hP hD hS hl)
theorem w_dconst0  (d : decode cc pc = .ok (.dconst 0, 1)) (k : PW G own cc nL rt Post PostX n (pc + 1) ls (.double FP.dconst0 :: st) M) : PW G own cc nL rt Post PostX n pc ls (st) M := fun n0 H locs lsA cells slots ok h1 h2 hP hD hS hl => lv_dconst0 ok.1 ok.2.1 d (k n0 H locs lsA cells slots ok h1 h2 hP hD hS hl)
theorem w_pop {v : Value} (d : decode cc pc = .ok (.pop, 1)) (hv : v.category = 1) (k : PW G own cc nL rt Post PostX n (pc + 1) ls (st) M) : PW G own cc nL rt Post PostX n pc ls (v :: st) M := fun n0 H locs lsA cells slots ok h1 h2 hP hD hS hl => lv_pop ok.1 ok.2.1 d (by rw [tv_cat]; exact hv) (k n0 H locs lsA cells slots ok h1 h2 hP hD hS hl)
theorem w_dup {v : Value} (d : decode cc pc = .ok (.dup, 1)) (hv : v.category = 1) (k : PW G own cc nL rt Post PostX n (pc + 1) ls (v :: v :: st) M) : PW G own cc nL rt Post PostX n pc ls (v :: st) M := fun n0 H locs lsA cells slots ok h1 h2 hP hD hS hl => lv_dup ok.1 ok.2.1 d (by rw [tv_cat]; exact hv) (k n0 H locs lsA cells slots ok h1 h2 hP hD hS hl)
theorem w_dup2_11 {v w : Value} (d : decode cc pc = .ok (.dup2, 1)) (hv : v.category = 1) (hw : w.category = 1) (k : PW G own cc nL rt Post PostX n (pc + 1) ls (v :: w :: v :: w :: st) M) : PW G own cc nL rt Post PostX n pc ls (v :: w :: st) M := fun n0 H locs lsA cells slots ok h1 h2 hP hD hS hl => lv_dup2_11 ok.1 ok.2.1 d (by rw [tv_cat]; exact hv) (by rw [tv_cat]; exact hw) (k n0 H locs lsA cells slots ok h1 h2 hP hD hS hl)
theorem w_dup2_2 {v : Value} (d : decode cc pc = .ok (.dup2, 1)) (hv : v.category = 2) (k : PW G own cc nL rt Post PostX n (pc + 1) ls (v :: v :: st) M) : PW G own cc nL rt Post PostX n pc ls (v :: st) M := fun n0 H locs lsA cells slots ok h1 h2 hP hD hS hl => lv_dup2_2 ok.1 ok.2.1 d (by rw [tv_cat]; exact hv) (k n0 H locs lsA cells slots ok h1 h2 hP hD hS hl)
theorem w_pop2_2 {v : Value} (d : decode cc pc = .ok (.pop2, 1)) (hv : v.category = 2) (k : PW G own cc nL rt Post PostX n (pc + 1) ls (st) M) : PW G own cc nL rt Post PostX n pc ls (v :: st) M := fun n0 H locs lsA cells slots ok h1 h2 hP hD hS hl => lv_pop2_2 ok.1 ok.2.1 d (by rw [tv_cat]; exact hv) (k n0 H locs lsA cells slots ok h1 h2 hP hD hS hl)
theorem w_ldc2 {i : Nat} {v : Int64} (hw : Cond.constantLong own i v ∈ WW) (d : decode cc pc = .ok (.ldc2_w i, 3)) (k : PW G own cc nL rt Post PostX n (pc + 3) ls (.long v :: st) M) : PW G own cc nL rt Post PostX n pc ls st M := fun n0 H locs lsA cells slots ok h1 h2 hP hD hS hl => lv_ldc2 ok.1 ok.2.1 ok.2.2.2.2.1 (ok.2.2.2.2.2.1 _ hw) d (k n0 H locs lsA cells slots ok h1 h2 hP hD hS hl)
theorem w_ldc {i : Nat} {v : Int32} (hw : Cond.constant own i v ∈ WW) (d : decode cc pc = .ok (.ldc i, 2)) (k : PW G own cc nL rt Post PostX n (pc + 2) ls (.int v :: st) M) : PW G own cc nL rt Post PostX n pc ls st M := fun n0 H locs lsA cells slots ok h1 h2 hP hD hS hl => lv_ldc ok.1 ok.2.1 ok.2.2.2.2.1 (ok.2.2.2.2.2.1 _ hw) d (k n0 H locs lsA cells slots ok h1 h2 hP hD hS hl)
theorem w_iload_n {i : Fin 4} {x : Int32} (d : decode cc pc = .ok (.iload_n i, 1)) (h : lk ls (i : Nat) = some (.int x)) (k : PW G own cc nL rt Post PostX n (pc + 1) ls (.int x :: st) M) : PW G own cc nL rt Post PostX n pc ls st M := fun n0 H locs lsA cells slots ok h1 h2 hP hD hS hl => lv_iload_n ok.1 ok.2.1 d rfl (lk_at hl h) (k n0 H locs lsA cells slots ok h1 h2 hP hD hS hl)
theorem w_iload {i : Nat} {x : Int32} (d : decode cc pc = .ok (.iload i, 2)) (h : lk ls i = some (.int x)) (k : PW G own cc nL rt Post PostX n (pc + 2) ls (.int x :: st) M) : PW G own cc nL rt Post PostX n pc ls st M := fun n0 H locs lsA cells slots ok h1 h2 hP hD hS hl => lv_iload ok.1 ok.2.1 d (lk_at hl h) (k n0 H locs lsA cells slots ok h1 h2 hP hD hS hl)
theorem w_istore_n {i4 : Fin 4} {x : Int32} (i : Nat) (hi : (i4 : Nat) = i) (d : decode cc pc = .ok (.istore_n i4, 1)) (hn : i < nL) (k : PW G own cc nL rt Post PostX n (pc + 1) ((i, .int x) :: dl1 i ls) st M) : PW G own cc nL rt Post PostX n pc ls (.int x :: st) M := fun n0 H locs lsA cells slots ok h1 h2 hP hD hS hl => lv_istore_n ok.1 ok.2.1 d hi hl hn (congrArg _ (dl1_eq _ i ls)) (fun ls' hl' => k n0 H locs ls' cells slots ok h1 h2 hP hD hS hl')
theorem w_istore (i : Nat) {x : Int32} (d : decode cc pc = .ok (.istore i, 2)) (hn : i < nL) (k : PW G own cc nL rt Post PostX n (pc + 2) ((i, .int x) :: dl1 i ls) st M) : PW G own cc nL rt Post PostX n pc ls (.int x :: st) M := fun n0 H locs lsA cells slots ok h1 h2 hP hD hS hl => lv_istore ok.1 ok.2.1 d hl hn (congrArg _ (dl1_eq _ i ls)) (fun ls' hl' => k n0 H locs ls' cells slots ok h1 h2 hP hD hS hl')
theorem w_lload_n {i : Fin 4} {x : Int64} (d : decode cc pc = .ok (.lload_n i, 1)) (h : lk ls (i : Nat) = some (.long x)) (k : PW G own cc nL rt Post PostX n (pc + 1) ls (.long x :: st) M) : PW G own cc nL rt Post PostX n pc ls st M := fun n0 H locs lsA cells slots ok h1 h2 hP hD hS hl => lv_lload_n ok.1 ok.2.1 d rfl (lk_at hl h) (k n0 H locs lsA cells slots ok h1 h2 hP hD hS hl)
theorem w_lload {i : Nat} {x : Int64} (d : decode cc pc = .ok (.lload i, 2)) (h : lk ls i = some (.long x)) (k : PW G own cc nL rt Post PostX n (pc + 2) ls (.long x :: st) M) : PW G own cc nL rt Post PostX n pc ls st M := fun n0 H locs lsA cells slots ok h1 h2 hP hD hS hl => lv_lload ok.1 ok.2.1 d (lk_at hl h) (k n0 H locs lsA cells slots ok h1 h2 hP hD hS hl)
theorem w_lstore_n {i4 : Fin 4} {x : Int64} (i : Nat) (hi : (i4 : Nat) = i) (d : decode cc pc = .ok (.lstore_n i4, 1)) (hn : i + 1 < nL) (k : PW G own cc nL rt Post PostX n (pc + 1) ((i, .long x) :: dl2 i ls) st M) : PW G own cc nL rt Post PostX n pc ls (.long x :: st) M := fun n0 H locs lsA cells slots ok h1 h2 hP hD hS hl => lv_lstore_n ok.1 ok.2.1 d hi hl hn (congrArg _ (dl2_eq _ i ls)) (fun ls' hl' => k n0 H locs ls' cells slots ok h1 h2 hP hD hS hl')
theorem w_lstore (i : Nat) {x : Int64} (d : decode cc pc = .ok (.lstore i, 2)) (hn : i + 1 < nL) (k : PW G own cc nL rt Post PostX n (pc + 2) ((i, .long x) :: dl2 i ls) st M) : PW G own cc nL rt Post PostX n pc ls (.long x :: st) M := fun n0 H locs lsA cells slots ok h1 h2 hP hD hS hl => lv_lstore ok.1 ok.2.1 d hl hn (congrArg _ (dl2_eq _ i ls)) (fun ls' hl' => k n0 H locs ls' cells slots ok h1 h2 hP hD hS hl')
theorem w_aload_n {i : Fin 4} {x : Nat} (d : decode cc pc = .ok (.aload_n i, 1)) (h : lk ls (i : Nat) = some (.ref x)) (k : PW G own cc nL rt Post PostX n (pc + 1) ls (.ref x :: st) M) : PW G own cc nL rt Post PostX n pc ls st M := fun n0 H locs lsA cells slots ok h1 h2 hP hD hS hl => lv_aload_n ok.1 ok.2.1 d rfl (lk_at hl h) (k n0 H locs lsA cells slots ok h1 h2 hP hD hS hl)
theorem w_aload {i : Nat} {x : Nat} (d : decode cc pc = .ok (.aload i, 2)) (h : lk ls i = some (.ref x)) (k : PW G own cc nL rt Post PostX n (pc + 2) ls (.ref x :: st) M) : PW G own cc nL rt Post PostX n pc ls st M := fun n0 H locs lsA cells slots ok h1 h2 hP hD hS hl => lv_aload ok.1 ok.2.1 d (lk_at hl h) (k n0 H locs lsA cells slots ok h1 h2 hP hD hS hl)
theorem w_astore_n {i4 : Fin 4} {x : Nat} (i : Nat) (hi : (i4 : Nat) = i) (d : decode cc pc = .ok (.astore_n i4, 1)) (hn : i < nL) (k : PW G own cc nL rt Post PostX n (pc + 1) ((i, .ref x) :: dl1 i ls) st M) : PW G own cc nL rt Post PostX n pc ls (.ref x :: st) M := fun n0 H locs lsA cells slots ok h1 h2 hP hD hS hl => lv_astore_n ok.1 ok.2.1 d hi hl hn (congrArg _ (dl1_eq _ i ls)) (fun ls' hl' => k n0 H locs ls' cells slots ok h1 h2 hP hD hS hl')
theorem w_astore (i : Nat) {x : Nat} (d : decode cc pc = .ok (.astore i, 2)) (hn : i < nL) (k : PW G own cc nL rt Post PostX n (pc + 2) ((i, .ref x) :: dl1 i ls) st M) : PW G own cc nL rt Post PostX n pc ls (.ref x :: st) M := fun n0 H locs lsA cells slots ok h1 h2 hP hD hS hl => lv_astore ok.1 ok.2.1 d hl hn (congrArg _ (dl1_eq _ i ls)) (fun ls' hl' => k n0 H locs ls' cells slots ok h1 h2 hP hD hS hl')
theorem w_dload {i : Nat} {x : UInt64} (d : decode cc pc = .ok (.dload i, 2)) (h : lk ls i = some (.double x)) (k : PW G own cc nL rt Post PostX n (pc + 2) ls (.double x :: st) M) : PW G own cc nL rt Post PostX n pc ls st M := fun n0 H locs lsA cells slots ok h1 h2 hP hD hS hl => lv_dload ok.1 ok.2.1 d (lk_at hl h) (k n0 H locs lsA cells slots ok h1 h2 hP hD hS hl)
theorem w_dstore (i : Nat) {x : UInt64} (d : decode cc pc = .ok (.dstore i, 2)) (hn : i + 1 < nL) (k : PW G own cc nL rt Post PostX n (pc + 2) ((i, .double x) :: dl2 i ls) st M) : PW G own cc nL rt Post PostX n pc ls (.double x :: st) M := fun n0 H locs lsA cells slots ok h1 h2 hP hD hS hl => lv_dstore ok.1 ok.2.1 d hl hn (congrArg _ (dl2_eq _ i ls)) (fun ls' hl' => k n0 H locs ls' cells slots ok h1 h2 hP hD hS hl')
theorem w_iinc {i : Nat} {m : Int} {x v : Int32} (d : decode cc pc = .ok (.iinc i m, 3)) (h : lk ls i = some (.int x)) (hv : x + Int32.ofInt m = v) (hn : i < nL) (k : PW G own cc nL rt Post PostX n (pc + 3) ((i, .int v) :: dl1 i ls) st M) : PW G own cc nL rt Post PostX n pc ls st M := fun n0 H locs lsA cells slots ok h1 h2 hP hD hS hl => by
  obtain ⟨j, hj⟩ := List.mem_iff_getElem?.mp (List.mem_map.mpr ⟨(i, .int x), lk_mem ls i _ h, rfl⟩ : (i, tv (gr G) (.int x)) ∈ lt (gr G) ls)
  exact lv_iinc ok.1 ok.2.1 d hl hj hv hn (congrArg _ (dl1_eq _ i ls)) (fun ls' hl' => k n0 H locs ls' cells slots ok h1 h2 hP hD hS hl')
theorem w_if_eq {x : Int32} {off : Int} (tgt : Nat) (d : decode cc pc = .ok (.ifCond .eq off, 3)) (ht : (pc : Int) + off = (tgt : Int)) (kt : x = 0 → PW G own cc nL rt Post PostX n tgt ls st M) (kf : ¬ x = 0 → PW G own cc nL rt Post PostX n (pc + 3) ls st M) : PW G own cc nL rt Post PostX n pc ls (.int x :: st) M := fun n0 H locs lsA cells slots ok h1 h2 hP hD hS hl => lv_if_eq ok.1 ok.2.1 d ht (fun q => kt q n0 H locs lsA cells slots ok h1 h2 hP hD hS hl) (fun q => kf q n0 H locs lsA cells slots ok h1 h2 hP hD hS hl)
theorem w_icmp_eq {x y : Int32} {off : Int} (tgt : Nat) (d : decode cc pc = .ok (.if_icmp .eq off, 3)) (ht : (pc : Int) + off = (tgt : Int)) (kt : x = y → PW G own cc nL rt Post PostX n tgt ls st M) (kf : ¬ x = y → PW G own cc nL rt Post PostX n (pc + 3) ls st M) : PW G own cc nL rt Post PostX n pc ls (.int y :: .int x :: st) M := fun n0 H locs lsA cells slots ok h1 h2 hP hD hS hl => lv_icmp_eq ok.1 ok.2.1 d ht (fun q => kt q n0 H locs lsA cells slots ok h1 h2 hP hD hS hl) (fun q => kf q n0 H locs lsA cells slots ok h1 h2 hP hD hS hl)
theorem w_if_ne {x : Int32} {off : Int} (tgt : Nat) (d : decode cc pc = .ok (.ifCond .ne off, 3)) (ht : (pc : Int) + off = (tgt : Int)) (kt : ¬ x = 0 → PW G own cc nL rt Post PostX n tgt ls st M) (kf : x = 0 → PW G own cc nL rt Post PostX n (pc + 3) ls st M) : PW G own cc nL rt Post PostX n pc ls (.int x :: st) M := fun n0 H locs lsA cells slots ok h1 h2 hP hD hS hl => lv_if_ne ok.1 ok.2.1 d ht (fun q => kt q n0 H locs lsA cells slots ok h1 h2 hP hD hS hl) (fun q => kf q n0 H locs lsA cells slots ok h1 h2 hP hD hS hl)
theorem w_icmp_ne {x y : Int32} {off : Int} (tgt : Nat) (d : decode cc pc = .ok (.if_icmp .ne off, 3)) (ht : (pc : Int) + off = (tgt : Int)) (kt : ¬ x = y → PW G own cc nL rt Post PostX n tgt ls st M) (kf : x = y → PW G own cc nL rt Post PostX n (pc + 3) ls st M) : PW G own cc nL rt Post PostX n pc ls (.int y :: .int x :: st) M := fun n0 H locs lsA cells slots ok h1 h2 hP hD hS hl => lv_icmp_ne ok.1 ok.2.1 d ht (fun q => kt q n0 H locs lsA cells slots ok h1 h2 hP hD hS hl) (fun q => kf q n0 H locs lsA cells slots ok h1 h2 hP hD hS hl)
theorem w_if_lt {x : Int32} {off : Int} (tgt : Nat) (d : decode cc pc = .ok (.ifCond .lt off, 3)) (ht : (pc : Int) + off = (tgt : Int)) (kt : x < 0 → PW G own cc nL rt Post PostX n tgt ls st M) (kf : ¬ x < 0 → PW G own cc nL rt Post PostX n (pc + 3) ls st M) : PW G own cc nL rt Post PostX n pc ls (.int x :: st) M := fun n0 H locs lsA cells slots ok h1 h2 hP hD hS hl => lv_if_lt ok.1 ok.2.1 d ht (fun q => kt q n0 H locs lsA cells slots ok h1 h2 hP hD hS hl) (fun q => kf q n0 H locs lsA cells slots ok h1 h2 hP hD hS hl)
theorem w_icmp_lt {x y : Int32} {off : Int} (tgt : Nat) (d : decode cc pc = .ok (.if_icmp .lt off, 3)) (ht : (pc : Int) + off = (tgt : Int)) (kt : x < y → PW G own cc nL rt Post PostX n tgt ls st M) (kf : ¬ x < y → PW G own cc nL rt Post PostX n (pc + 3) ls st M) : PW G own cc nL rt Post PostX n pc ls (.int y :: .int x :: st) M := fun n0 H locs lsA cells slots ok h1 h2 hP hD hS hl => lv_icmp_lt ok.1 ok.2.1 d ht (fun q => kt q n0 H locs lsA cells slots ok h1 h2 hP hD hS hl) (fun q => kf q n0 H locs lsA cells slots ok h1 h2 hP hD hS hl)
theorem w_if_ge {x : Int32} {off : Int} (tgt : Nat) (d : decode cc pc = .ok (.ifCond .ge off, 3)) (ht : (pc : Int) + off = (tgt : Int)) (kt : 0 ≤ x → PW G own cc nL rt Post PostX n tgt ls st M) (kf : ¬ 0 ≤ x → PW G own cc nL rt Post PostX n (pc + 3) ls st M) : PW G own cc nL rt Post PostX n pc ls (.int x :: st) M := fun n0 H locs lsA cells slots ok h1 h2 hP hD hS hl => lv_if_ge ok.1 ok.2.1 d ht (fun q => kt q n0 H locs lsA cells slots ok h1 h2 hP hD hS hl) (fun q => kf q n0 H locs lsA cells slots ok h1 h2 hP hD hS hl)
theorem w_icmp_ge {x y : Int32} {off : Int} (tgt : Nat) (d : decode cc pc = .ok (.if_icmp .ge off, 3)) (ht : (pc : Int) + off = (tgt : Int)) (kt : y ≤ x → PW G own cc nL rt Post PostX n tgt ls st M) (kf : ¬ y ≤ x → PW G own cc nL rt Post PostX n (pc + 3) ls st M) : PW G own cc nL rt Post PostX n pc ls (.int y :: .int x :: st) M := fun n0 H locs lsA cells slots ok h1 h2 hP hD hS hl => lv_icmp_ge ok.1 ok.2.1 d ht (fun q => kt q n0 H locs lsA cells slots ok h1 h2 hP hD hS hl) (fun q => kf q n0 H locs lsA cells slots ok h1 h2 hP hD hS hl)
theorem w_if_gt {x : Int32} {off : Int} (tgt : Nat) (d : decode cc pc = .ok (.ifCond .gt off, 3)) (ht : (pc : Int) + off = (tgt : Int)) (kt : 0 < x → PW G own cc nL rt Post PostX n tgt ls st M) (kf : ¬ 0 < x → PW G own cc nL rt Post PostX n (pc + 3) ls st M) : PW G own cc nL rt Post PostX n pc ls (.int x :: st) M := fun n0 H locs lsA cells slots ok h1 h2 hP hD hS hl => lv_if_gt ok.1 ok.2.1 d ht (fun q => kt q n0 H locs lsA cells slots ok h1 h2 hP hD hS hl) (fun q => kf q n0 H locs lsA cells slots ok h1 h2 hP hD hS hl)
theorem w_icmp_gt {x y : Int32} {off : Int} (tgt : Nat) (d : decode cc pc = .ok (.if_icmp .gt off, 3)) (ht : (pc : Int) + off = (tgt : Int)) (kt : y < x → PW G own cc nL rt Post PostX n tgt ls st M) (kf : ¬ y < x → PW G own cc nL rt Post PostX n (pc + 3) ls st M) : PW G own cc nL rt Post PostX n pc ls (.int y :: .int x :: st) M := fun n0 H locs lsA cells slots ok h1 h2 hP hD hS hl => lv_icmp_gt ok.1 ok.2.1 d ht (fun q => kt q n0 H locs lsA cells slots ok h1 h2 hP hD hS hl) (fun q => kf q n0 H locs lsA cells slots ok h1 h2 hP hD hS hl)
theorem w_if_le {x : Int32} {off : Int} (tgt : Nat) (d : decode cc pc = .ok (.ifCond .le off, 3)) (ht : (pc : Int) + off = (tgt : Int)) (kt : x ≤ 0 → PW G own cc nL rt Post PostX n tgt ls st M) (kf : ¬ x ≤ 0 → PW G own cc nL rt Post PostX n (pc + 3) ls st M) : PW G own cc nL rt Post PostX n pc ls (.int x :: st) M := fun n0 H locs lsA cells slots ok h1 h2 hP hD hS hl => lv_if_le ok.1 ok.2.1 d ht (fun q => kt q n0 H locs lsA cells slots ok h1 h2 hP hD hS hl) (fun q => kf q n0 H locs lsA cells slots ok h1 h2 hP hD hS hl)
theorem w_icmp_le {x y : Int32} {off : Int} (tgt : Nat) (d : decode cc pc = .ok (.if_icmp .le off, 3)) (ht : (pc : Int) + off = (tgt : Int)) (kt : x ≤ y → PW G own cc nL rt Post PostX n tgt ls st M) (kf : ¬ x ≤ y → PW G own cc nL rt Post PostX n (pc + 3) ls st M) : PW G own cc nL rt Post PostX n pc ls (.int y :: .int x :: st) M := fun n0 H locs lsA cells slots ok h1 h2 hP hD hS hl => lv_icmp_le ok.1 ok.2.1 d ht (fun q => kt q n0 H locs lsA cells slots ok h1 h2 hP hD hS hl) (fun q => kf q n0 H locs lsA cells slots ok h1 h2 hP hD hS hl)
theorem w_goto {off : Int} (tgt : Nat) (d : decode cc pc = .ok (.goto off, 3)) (ht : (pc : Int) + off = (tgt : Int)) (k : PW G own cc nL rt Post PostX n tgt ls st M) : PW G own cc nL rt Post PostX n pc ls st M := fun n0 H locs lsA cells slots ok h1 h2 hP hD hS hl => lv_goto ok.1 ok.2.1 d ht (k n0 H locs lsA cells slots ok h1 h2 hP hD hS hl)
theorem w_tableOut {dflt lo hi : Int} {offs : Array Int} {len : Nat} {x : Int32} (tgt : Nat) (d : decode cc pc = .ok (.tableswitch dflt lo hi offs, len)) (h : x.toInt < lo ∨ hi < x.toInt) (ht : (pc : Int) + dflt = (tgt : Int)) (k : PW G own cc nL rt Post PostX n tgt ls st M) : PW G own cc nL rt Post PostX n pc ls (.int x :: st) M := fun n0 H locs lsA cells slots ok h1 h2 hP hD hS hl => lv_tableOut ok.1 ok.2.1 d h ht (k n0 H locs lsA cells slots ok h1 h2 hP hD hS hl)
theorem w_tableIn {dflt lo hi : Int} {offs : Array Int} {len : Nat} {x : Int32} {off : Int} (tgt : Nat) (d : decode cc pc = .ok (.tableswitch dflt lo hi offs, len)) (q1 : ¬ x.toInt < lo) (q2 : ¬ hi < x.toInt) (ho : offs[(x.toInt - lo).toNat]? = some off) (ht : (pc : Int) + off = (tgt : Int)) (k : PW G own cc nL rt Post PostX n tgt ls st M) : PW G own cc nL rt Post PostX n pc ls (.int x :: st) M := fun n0 H locs lsA cells slots ok h1 h2 hP hD hS hl => lv_tableIn ok.1 ok.2.1 d q1 q2 ho ht (k n0 H locs lsA cells slots ok h1 h2 hP hD hS hl)
theorem w_lcmp_eq {x y : Int64} {off : Int} (tgt : Nat) (d : decode cc pc = .ok (.lcmp, 1)) (d1 : decode cc (pc + 1) = .ok (.ifCond .eq off, 3)) (ht : ((pc + 1 : Nat) : Int) + off = (tgt : Int)) (kt : x = y → PW G own cc nL rt Post PostX n tgt ls st M) (kf : ¬ x = y → PW G own cc nL rt Post PostX n (pc + 4) ls st M) : PW G own cc nL rt Post PostX n pc ls (.long y :: .long x :: st) M := w_lcmp d (w_if_eq tgt d1 ht (fun q => kt ((lg_cmp_eq x y).mp q)) (fun q => kf (fun z => q ((lg_cmp_eq x y).mpr z))))
theorem w_lcmp_ne {x y : Int64} {off : Int} (tgt : Nat) (d : decode cc pc = .ok (.lcmp, 1)) (d1 : decode cc (pc + 1) = .ok (.ifCond .ne off, 3)) (ht : ((pc + 1 : Nat) : Int) + off = (tgt : Int)) (kt : ¬ x = y → PW G own cc nL rt Post PostX n tgt ls st M) (kf : x = y → PW G own cc nL rt Post PostX n (pc + 4) ls st M) : PW G own cc nL rt Post PostX n pc ls (.long y :: .long x :: st) M := w_lcmp d (w_if_ne tgt d1 ht (fun q => kt (fun z => q ((lg_cmp_eq x y).mpr z))) (fun q => kf ((lg_cmp_eq x y).mp q)))
theorem w_lcmp_lt {x y : Int64} {off : Int} (tgt : Nat) (d : decode cc pc = .ok (.lcmp, 1)) (d1 : decode cc (pc + 1) = .ok (.ifCond .lt off, 3)) (ht : ((pc + 1 : Nat) : Int) + off = (tgt : Int)) (kt : x < y → PW G own cc nL rt Post PostX n tgt ls st M) (kf : ¬ x < y → PW G own cc nL rt Post PostX n (pc + 4) ls st M) : PW G own cc nL rt Post PostX n pc ls (.long y :: .long x :: st) M := w_lcmp d (w_if_lt tgt d1 ht (fun q => kt ((lg_cmp_lt x y).mp q)) (fun q => kf (fun z => q ((lg_cmp_lt x y).mpr z))))
theorem w_lcmp_ge {x y : Int64} {off : Int} (tgt : Nat) (d : decode cc pc = .ok (.lcmp, 1)) (d1 : decode cc (pc + 1) = .ok (.ifCond .ge off, 3)) (ht : ((pc + 1 : Nat) : Int) + off = (tgt : Int)) (kt : y ≤ x → PW G own cc nL rt Post PostX n tgt ls st M) (kf : ¬ y ≤ x → PW G own cc nL rt Post PostX n (pc + 4) ls st M) : PW G own cc nL rt Post PostX n pc ls (.long y :: .long x :: st) M := w_lcmp d (w_if_ge tgt d1 ht (fun q => kt ((lg_cmp_ge x y).mp q)) (fun q => kf (fun z => q ((lg_cmp_ge x y).mpr z))))
theorem w_lcmp_gt {x y : Int64} {off : Int} (tgt : Nat) (d : decode cc pc = .ok (.lcmp, 1)) (d1 : decode cc (pc + 1) = .ok (.ifCond .gt off, 3)) (ht : ((pc + 1 : Nat) : Int) + off = (tgt : Int)) (kt : y < x → PW G own cc nL rt Post PostX n tgt ls st M) (kf : ¬ y < x → PW G own cc nL rt Post PostX n (pc + 4) ls st M) : PW G own cc nL rt Post PostX n pc ls (.long y :: .long x :: st) M := w_lcmp d (w_if_gt tgt d1 ht (fun q => kt ((lg_cmp_gt x y).mp q)) (fun q => kf (fun z => q ((lg_cmp_gt x y).mpr z))))
theorem w_lcmp_le {x y : Int64} {off : Int} (tgt : Nat) (d : decode cc pc = .ok (.lcmp, 1)) (d1 : decode cc (pc + 1) = .ok (.ifCond .le off, 3)) (ht : ((pc + 1 : Nat) : Int) + off = (tgt : Int)) (kt : x ≤ y → PW G own cc nL rt Post PostX n tgt ls st M) (kf : ¬ x ≤ y → PW G own cc nL rt Post PostX n (pc + 4) ls st M) : PW G own cc nL rt Post PostX n pc ls (.long y :: .long x :: st) M := w_lcmp d (w_if_le tgt d1 ht (fun q => kt ((lg_cmp_le x y).mp q)) (fun q => kf (fun z => q ((lg_cmp_le x y).mpr z))))
end
end
section
/-! RULES OF PW: fields, arrays, returns -/
theorem Ok.hx {G : Cx} {own : String} {cc : ByteArray} {nL n0 : Nat} {rt : Option FieldType} (h : Ok G own cc nL rt n0) : (gp G).tables.exec = Jvm.exec := h.1
theorem Ok.hb {G : Cx} {own : String} {cc : ByteArray} {nL n0 : Nat} {rt : Option FieldType} (h : Ok G own cc nL rt n0) : (gc G).code = cc := h.2.1
theorem Ok.hml {G : Cx} {own : String} {cc : ByteArray} {nL n0 : Nat} {rt : Option FieldType} (h : Ok G own cc nL rt n0) : (gc G).maxLocals = nL := h.2.2.1
theorem Ok.hr {G : Cx} {own : String} {cc : ByteArray} {nL n0 : Nat} {rt : Option FieldType} (h : Ok G own cc nL rt n0) : (gh G).sig.returnType = rt := h.2.2.2.1
theorem Ok.hown {G : Cx} {own : String} {cc : ByteArray} {nL n0 : Nat} {rt : Option FieldType} (h : Ok G own cc nL rt n0) : (gs G).vm.findClass own = some (gm G).cls := h.2.2.2.2.1
theorem Ok.hts {G : Cx} {own : String} {cc : ByteArray} {nL n0 : Nat} {rt : Option FieldType} (h : Ok G own cc nL rt n0) : ∀ w ∈ WW, w.before (ga G) (gs G) = true := h.2.2.2.2.2.1
theorem Ok.hlk {G : Cx} {own : String} {cc : ByteArray} {nL n0 : Nat} {rt : Option FieldType} (h : Ok G own cc nL rt n0) : (gh G).locks = false := h.2.2.2.2.2.2.1
theorem Ok.hK {G : Cx} {own : String} {cc : ByteArray} {nL n0 : Nat} {rt : Option FieldType} (h : Ok G own cc nL rt n0) : va_K (gD G) vwCl (tysOf (gy G)) (gs G) := h.2.2.2.2.2.2.2.1
theorem Ok.base {G : Cx} {own : String} {cc : ByteArray} {nL n0 : Nat} {rt : Option FieldType} (h : Ok G own cc nL rt n0) : Base (gA G) (gs G) := h.2.2.2.2.2.2.2.2.1
theorem Ok.tr {G : Cx} {own : String} {cc : ByteArray} {nL n0 : Nat} {rt : Option FieldType} (h : Ok G own cc nL rt n0) : (gl G).stackTraces = false := h.2.2.2.2.2.2.2.2.2.1
theorem Ok.room {G : Cx} {own : String} {cc : ByteArray} {nL n0 : Nat} {rt : Option FieldType} (h : Ok G own cc nL rt n0) : gR G = rmm (gd G) n0 := h.2.2.2.2.2.2.2.2.2.2.1
theorem Ok.ext {G : Cx} {own : String} {cc : ByteArray} {nL n0 : Nat} {rt : Option FieldType} (h : Ok G own cc nL rt n0) : gE G (gr G) := h.2.2.2.2.2.2.2.2.2.2.2.1
theorem Ok.hA {G : Cx} {own : String} {cc : ByteArray} {nL n0 : Nat} {rt : Option FieldType} (h : Ok G own cc nL rt n0) : ∀ q : Nat, (gs G).heap.size ≤ q → gA G q := h.2.2.2.2.2.2.2.2.2.2.2.2.1
theorem Ok.tab {G : Cx} {own : String} {cc : ByteArray} {nL n0 : Nat} {rt : Option FieldType} (h : Ok G own cc nL rt n0) : (gc G).exceptionTable.toList = tableOf (gt G) := h.2.2.2.2.2.2.2.2.2.2.2.2.2
/-- the entry idx of own's pool is the field k of class ci -/
def FL (own : String) (idx ci k : Nat) : Prop := ∃ r : vw_C, vwCl[ci]? = some r ∧ k < r.2.2 ∧ Cond.fieldLink own idx (r.2.1 k).1 (r.2.1 k).2.1 (r.2.1 k).2.2.1 ∈ WW ∧ ∀ w ∈ u_ws r.1 r.2.1 r.2.2, w ∈ WW
/-- .. and it may be written, being of type ty -/
def FP (own : String) (idx ci k : Nat) (ty : FieldType) : Prop := ∃ r : vw_C, vwCl[ci]? = some r ∧ k < r.2.2 ∧ Cond.fieldLink own idx (r.2.1 k).1 (r.2.1 k).2.1 (r.2.1 k).2.2.1 ∈ WW ∧ (∀ w ∈ u_ws r.1 r.2.1 r.2.2, w ∈ WW) ∧
  (r.2.1 k).2.2.2 = false ∧ parseFieldDescriptor (r.2.1 k).2.2.1 = some ty ∧ (∃ ty0 : Nat → FieldType, ∀ k, k < r.2.2 → parseFieldDescriptor (r.2.1 k).2.2.1 = some (ty0 k)) ∧ ∀ a, a < r.2.2 → ∀ b, b < r.2.2 → a ≠ b → (r.2.1 a).2.1 ≠ (r.2.1 b).2.1
def OB (ci a : Nat) : Prop := a < NN ∧ sh a = .inr ci
def AR (t n a : Nat) : Prop := a < NN ∧ sh a = .inl (t, n)
section
variable {G : Cx} {own : String} {cc : ByteArray} {nL : Nat} {rt : Option FieldType} {Post : Option Value → Mem → Prop} {PostX : String → Mem → Prop} {n pc : Nat} {ls : List (Nat × Value)} {st : List Value} {M : Mem}
theorem w_get {idx ci k a q : Nat} {v : Value} (fl : FL own idx ci k) (ha : a < mN M) (hs : sh a = .inr ci) (hk : (ksOf ci)[k]? = some q) (hv : fv (gr G) M a k q = tv (gr G) v) (d : decode cc pc = .ok (.getfield idx, 3)) (kk : PW G own cc nL rt Post PostX n (pc + 3) ls (v :: st) M) : PW G own cc nL rt Post PostX n pc ls (.ref a :: st) M := by
  intro n0 H locs lsA cells slots ok h1 h2 hP hD hS hl
  obtain ⟨⟨C, T, N⟩, hr, hkr, hw, hu⟩ := fl
  exact va_get (D := gD G) (ci := ci) (v := tv (gr G) v) (C := C) (T := T) (N := N) ok.hx ok.hb ok.hts hu ok.hown ok.hK hP a (fs := flds (gr G) M a (ksOf ci) 0) (by rw [Wd_at ha, ce_o hs]) hr k hkr (ok.hts _ hw) (fun _ h => h) (by rw [flds_at _ _ _ _ 0 k q hk, Nat.zero_add, hv]) d (kk n0 H locs lsA cells slots ok h1 h2 hP hD hS hl)
theorem w_getI {idx ci k a : Nat} (fl : FL own idx ci k) (hF : Full M) (ho : OB ci a) (hk : (ksOf ci)[k]? = some 0) (d : decode cc pc = .ok (.getfield idx, 3)) (kk : PW G own cc nL rt Post PostX n (pc + 3) ls (.int (mI M a k) :: st) M) : PW G own cc nL rt Post PostX n pc ls (.ref a :: st) M :=
  w_get fl (by rw [hF.1]; exact ho.1) ho.2 hk rfl d kk
theorem w_getJ {idx ci k a : Nat} (fl : FL own idx ci k) (hF : Full M) (ho : OB ci a) (hk : (ksOf ci)[k]? = some 1) (d : decode cc pc = .ok (.getfield idx, 3)) (kk : PW G own cc nL rt Post PostX n (pc + 3) ls (.long (mJ M a k) :: st) M) : PW G own cc nL rt Post PostX n pc ls (.ref a :: st) M :=
  w_get fl (by rw [hF.1]; exact ho.1) ho.2 hk rfl d kk
theorem w_getR {idx ci k a : Nat} (fl : FL own idx ci k) (hF : Full M) (ho : OB ci a) (hk : (ksOf ci)[k]? = some 2) {b : Nat} (hb : rf a k = b) (d : decode cc pc = .ok (.getfield idx, 3)) (kk : PW G own cc nL rt Post PostX n (pc + 3) ls (.ref b :: st) M) : PW G own cc nL rt Post PostX n pc ls (.ref a :: st) M :=
  w_get (v := .ref b) fl (by rw [hF.1]; exact ho.1) ho.2 hk (by rw [← hb]; simp only [fv, hF.2, cond_true, tv]) d kk
theorem w_getF {idx ci k a : Nat} (fl : FL own idx ci k) (hF : Full M) (ho : OB ci a) (hk : (ksOf ci)[k]? = some 3) (d : decode cc pc = .ok (.getfield idx, 3)) (kk : PW G own cc nL rt Post PostX n (pc + 3) ls (.ref (mF M k) :: st) M) : PW G own cc nL rt Post PostX n pc ls (.ref a :: st) M :=
  w_get (v := .ref (mF M k)) fl (by rw [hF.1]; exact ho.1) ho.2 hk (by simp only [fv, hF.2, cond_true, tv]) d kk
theorem w_put {idx ci k a q : Nat} {v : Value} {M' : Mem} {ty : FieldType} (fp : FP own idx ci k ty) (ha : a < mN M) (hs : sh a = .inr ci) (hk : (ksOf ci)[k]? = some q) (hN : mN M' = mN M) (hv : fv (gr G) M' a k q = tv (gr G) v) (ho : ∀ j q', j ≠ k → (ksOf ci)[j]? = some q' → fv (gr G) M' a j q' = fv (gr G) M a j q') (hc : ∀ b, b ≠ a → ce (gy G) (gr G) M' b = ce (gy G) (gr G) M b)
    (hn : narrow ty (tv (gr G) v) = tv (gr G) v) (hf : fits ty (tv (gr G) v) = true) (d : decode cc pc = .ok (.putfield idx, 3)) (kk : PW G own cc nL rt Post PostX n (pc + 3) ls st M') : PW G own cc nL rt Post PostX n pc ls (v :: .ref a :: st) M := by
  intro n0 H locs lsA cells slots ok h1 h2 hP hD hS hl
  obtain ⟨⟨C, T, N⟩, hr, hkr, hw, hu, hfin, hpd, ⟨ty0, hty⟩, hnm⟩ := fp
  have hlen : k < (flds (gr G) M a (ksOf ci) 0).length := by rw [flds_len]; exact (List.getElem?_eq_some_iff.mp hk).1
  refine va_put (D := gD G) (ci := ci) (v := tv (gr G) v) (ty := ty) (C := C) (T := T) (N := N) ok.hx ok.hb ok.hts hu ty0 hty hnm ok.hown ok.hK hP hD hS a (fs := flds (gr G) M a (ksOf ci) 0) (by rw [Wd_at ha, ce_o hs]) hr k hkr (ok.hts _ hw) (fun _ h => h) hfin hpd hn hf hlen d (fun H1 locs1 hP1 hD1 hS1 => ?_)
  have e : (Wd (gy G) (gr G) M).set a (gr G a, .inr (ci, (flds (gr G) M a (ksOf ci) 0).set k (tv (gr G) v))) = Wd (gy G) (gr G) M' := Wd_set hN hc (by rw [ce_o hs, flds_set hk hv ho])
  rw [e] at hP1 hD1
  exact kk n0 H1 locs1 lsA cells slots ok h1 h2 hP1 hD1 hS1 hl
theorem sI_ce {cy : Nat → ClassId} {adr : Nat → Nat} {M : Mem} {a k : Nat} {x : Int32} : ∀ b, b ≠ a → ce cy adr (sI M a k x) b = ce cy adr M b := fun b hb => ce_same (up2_row _ _ hb) rfl rfl rfl (fun _ => rfl)
theorem sJ_ce {cy : Nat → ClassId} {adr : Nat → Nat} {M : Mem} {a k : Nat} {x : Int64} : ∀ b, b ≠ a → ce cy adr (sJ M a k x) b = ce cy adr M b := fun b hb => ce_same rfl (up2_row _ _ hb) rfl rfl (fun _ => rfl)
theorem sD_ce {cy : Nat → ClassId} {adr : Nat → Nat} {M : Mem} {a k : Nat} {x : UInt64} : ∀ b, b ≠ a → ce cy adr (sD M a k x) b = ce cy adr M b := fun b hb => ce_same rfl rfl (up2_row _ _ hb) rfl (fun _ => rfl)
theorem sI_fv {adr : Nat → Nat} {M : Mem} {a k : Nat} {x : Int32} : ∀ j q', j ≠ k → fv adr (sI M a k x) a j q' = fv adr M a j q' := fun j q' hj => by
  match q' with
  | 0 => show Value.int (up2 M.1 a k x a j) = Value.int (M.1 a j); rw [up2_n _ _ (fun q => hj q.2)]
  | 1 => rfl
  | 2 => rfl
  | (q + 3) => rfl
theorem sJ_fv {adr : Nat → Nat} {M : Mem} {a k : Nat} {x : Int64} : ∀ j q', j ≠ k → fv adr (sJ M a k x) a j q' = fv adr M a j q' := fun j q' hj => by
  match q' with
  | 0 => rfl
  | 1 => show Value.long (up2 M.2.1 a k x a j) = Value.long (M.2.1 a j); rw [up2_n _ _ (fun q => hj q.2)]
  | 2 => rfl
  | (q + 3) => rfl
theorem w_putI {idx ci k a : Nat} {x : Int32} (fp : FP own idx ci k .int) (hF : Full M) (ho : OB ci a) (hk : (ksOf ci)[k]? = some 0) (d : decode cc pc = .ok (.putfield idx, 3)) (kk : PW G own cc nL rt Post PostX n (pc + 3) ls st (sI M a k x)) : PW G own cc nL rt Post PostX n pc ls (.int x :: .ref a :: st) M :=
  w_put (v := .int x) (M' := sI M a k x) fp (by rw [hF.1]; exact ho.1) ho.2 hk rfl (by show Value.int (up2 M.1 a k x a k) = _; rw [up2_s]; rfl) (fun j q' hj _ => sI_fv j q' hj) sI_ce rfl rfl d kk
theorem w_putZ {idx ci k a : Nat} {x : Int32} (fp : FP own idx ci k .boolean) (hF : Full M) (ho : OB ci a) (hk : (ksOf ci)[k]? = some 0) (hx : x = 0 ∨ x = 1) (d : decode cc pc = .ok (.putfield idx, 3)) (kk : PW G own cc nL rt Post PostX n (pc + 3) ls st (sI M a k x)) : PW G own cc nL rt Post PostX n pc ls (.int x :: .ref a :: st) M :=
  w_put (v := .int x) (M' := sI M a k x) fp (by rw [hF.1]; exact ho.1) ho.2 hk rfl (by show Value.int (up2 M.1 a k x a k) = _; rw [up2_s]; rfl) (fun j q' hj _ => sI_fv j q' hj) sI_ce (by rcases hx with rfl | rfl <;> rfl) (by rcases hx with rfl | rfl <;> rfl) d kk
theorem w_putJ {idx ci k a : Nat} {x : Int64} (fp : FP own idx ci k .long) (hF : Full M) (ho : OB ci a) (hk : (ksOf ci)[k]? = some 1) (d : decode cc pc = .ok (.putfield idx, 3)) (kk : PW G own cc nL rt Post PostX n (pc + 3) ls st (sJ M a k x)) : PW G own cc nL rt Post PostX n pc ls (.long x :: .ref a :: st) M :=
  w_put (v := .long x) (M' := sJ M a k x) fp (by rw [hF.1]; exact ho.1) ho.2 hk rfl (by show Value.long (up2 M.2.1 a k x a k) = _; rw [up2_s]; rfl) (fun j q' hj _ => sJ_fv j q' hj) sJ_ce rfl rfl d kk
theorem sh_calc {b : Nat} (h : sh b = .inr 1) : b = 7 := by
  unfold sh at h
  split at h
  · rename_i h1
    rcases Nat.lt_or_ge b 22 with h2 | h2
    · have : ∀ b, b < 22 → shA b = .inr 1 → b = 7 := by decide
      exact this b h2 h
    · have : b = 22 ∨ b = 23 := by omega
      rcases this with rfl | rfl <;> cases h
  · split at h
    · split at h <;> cases h
    · split at h
      · split at h
        · cases h
        · split at h <;> cases h
      · split at h
        · split at h
          · cases h
          · split at h <;> cases h
        · exfalso
          unfold shB at h
          split at h <;> cases h
theorem w_putF {idx k b : Nat} {ty : FieldType} (fp : FP own idx 1 k ty) (hF : Full M) (hk : (ksOf 1)[k]? = some 3) (hn : narrow ty (.ref (gr G b)) = .ref (gr G b)) (hf : fits ty (.ref (gr G b)) = true) (d : decode cc pc = .ok (.putfield idx, 3)) (kk : PW G own cc nL rt Post PostX n (pc + 3) ls st (sF M k b)) : PW G own cc nL rt Post PostX n pc ls (.ref b :: .ref 7 :: st) M :=
  w_put (v := .ref b) (M' := sF M k b) fp (by rw [hF.1]; decide) rfl hk rfl (by show (bif mZ M 7 k then Value.ref (gr G (va_up M.2.2.2.1 k b k)) else .null) = _; rw [hF.2, va_up_self]; rfl)
    (fun j q' hj hq => by
      match q' with
      | 0 => rfl
      | 1 => rfl
      | 2 => rfl
      | (q + 3) => show (bif mZ M 7 j then Value.ref (gr G (va_up M.2.2.2.1 k b j)) else .null) = _; rw [va_up_ne _ _ hj]; rfl)
    (fun c hc => ce_same rfl rfl rfl rfl (fun h => absurd (sh_calc h) hc)) hn hf d kk
/-! arrays -/
theorem w_iald {a m : Nat} {i : Int32} (hF : Full M) (ha : AR 1 m a) (hin : vp_in i m) (d : decode cc pc = .ok (.iaload, 1)) (kk : PW G own cc nL rt Post PostX n (pc + 1) ls (.int (mI M a i.toNatClampNeg) :: st) M) : PW G own cc nL rt Post PostX n pc ls (.int i :: .ref a :: st) M := by
  intro n0 H locs lsA cells slots ok h1 h2 hP hD hS hl
  exact va_iald ok.hx ok.hb ok.hK hP a 1 (cA := gy G 1) (n := m) (f := mI M a) (by rw [Wd_at (by rw [hF.1]; exact ha.1), ce_a ha.2]; rfl) rfl hin d (kk n0 H locs lsA cells slots ok h1 h2 hP hD hS hl)
theorem w_zald {a m : Nat} {i : Int32} (hF : Full M) (ha : AR 3 m a) (hin : vp_in i m) (d : decode cc pc = .ok (.baload, 1)) (kk : PW G own cc nL rt Post PostX n (pc + 1) ls (.int (mI M a i.toNatClampNeg) :: st) M) : PW G own cc nL rt Post PostX n pc ls (.int i :: .ref a :: st) M := by
  intro n0 H locs lsA cells slots ok h1 h2 hP hD hS hl
  exact va_zald ok.hx ok.hb ok.hK hP a 3 (cA := gy G 3) (n := m) (f := mI M a) (by rw [Wd_at (by rw [hF.1]; exact ha.1), ce_a ha.2]; rfl) rfl hin d (kk n0 H locs lsA cells slots ok h1 h2 hP hD hS hl)
theorem w_cald {a m : Nat} {i : Int32} (hF : Full M) (ha : AR 0 m a) (hin : vp_in i m) (d : decode cc pc = .ok (.caload, 1)) (kk : PW G own cc nL rt Post PostX n (pc + 1) ls (.int (mI M a i.toNatClampNeg) :: st) M) : PW G own cc nL rt Post PostX n pc ls (.int i :: .ref a :: st) M := by
  intro n0 H locs lsA cells slots ok h1 h2 hP hD hS hl
  exact va_cald ok.hx ok.hb ok.hK hP a 0 (cA := gy G 0) (n := m) (f := mI M a) (by rw [Wd_at (by rw [hF.1]; exact ha.1), ce_a ha.2]; rfl) rfl hin d (kk n0 H locs lsA cells slots ok h1 h2 hP hD hS hl)
theorem w_lald {a m : Nat} {i : Int32} (hF : Full M) (ha : AR 2 m a) (hin : vp_in i m) (d : decode cc pc = .ok (.laload, 1)) (kk : PW G own cc nL rt Post PostX n (pc + 1) ls (.long (mJ M a i.toNatClampNeg) :: st) M) : PW G own cc nL rt Post PostX n pc ls (.int i :: .ref a :: st) M := by
  intro n0 H locs lsA cells slots ok h1 h2 hP hD hS hl
  exact va_lald ok.hx ok.hb ok.hK hP a 2 (cA := gy G 2) (n := m) (f := mJ M a) (by rw [Wd_at (by rw [hF.1]; exact ha.1), ce_a ha.2]; rfl) rfl hin d (kk n0 H locs lsA cells slots ok h1 h2 hP hD hS hl)
theorem w_dald {a m : Nat} {i : Int32} (hF : Full M) (ha : AR 4 m a) (hin : vp_in i m) (d : decode cc pc = .ok (.daload, 1)) (kk : PW G own cc nL rt Post PostX n (pc + 1) ls (.double (mD M a i.toNatClampNeg) :: st) M) : PW G own cc nL rt Post PostX n pc ls (.int i :: .ref a :: st) M := by
  intro n0 H locs lsA cells slots ok h1 h2 hP hD hS hl
  exact va_dald ok.hx ok.hb ok.hK hP a 4 (cA := gy G 4) (n := m) (f := mD M a) (by rw [Wd_at (by rw [hF.1]; exact ha.1), ce_a ha.2]; rfl) rfl hin d (kk n0 H locs lsA cells slots ok h1 h2 hP hD hS hl)
theorem w_aald {a m t : Nat} {i : Int32} {b : Nat} (ht : t = 5 ∨ t = 6 ∨ t = 7 ∨ t = 8) (hF : Full M) (ha : AR t m a) (hin : vp_in i m) (hb : rf a i.toNatClampNeg = b) (d : decode cc pc = .ok (.aaload, 1)) (kk : PW G own cc nL rt Post PostX n (pc + 1) ls (.ref b :: st) M) : PW G own cc nL rt Post PostX n pc ls (.int i :: .ref a :: st) M := by
  intro n0 H locs lsA cells slots ok h1 h2 hP hD hS hl
  have hb' : ∀ f : Nat → Option Nat, f = (fun k => bif mZ M a k then some (gr G (rf a k)) else none) → va_rf (f i.toNatClampNeg) = Value.ref (gr G b) := fun f hf => by
    subst hf
    rw [← hb]
    simp only [hF.2, cond_true, va_rf]
  have hk := kk n0 H locs lsA cells slots ok h1 h2 hP hD hS hl
  have key : ∀ (C : String), (tysOf (gy G))[t]? = some (gy G t, .object C) → arow (gr G) M a t = .inr (.inr (.inr (.inr (fun k => bif mZ M a k then some (gr G (rf a k)) else none)))) → Wg G H locs cells slots (Zn G Post PostX n0) (F0 (gm G) pc lsA ((Value.int i :: .ref a :: st).map (tv (gr G)))) := fun C hC hrow =>
    va_aldq ok.hx ok.hb ok.hK hP a t (cA := gy G t) (C := C) (n := m) (f := fun k => bif mZ M a k then some (gr G (rf a k)) else none) (by rw [Wd_at (by rw [hF.1]; exact ha.1), ce_a ha.2, hrow]) hC hin d (by rw [hb' _ rfl]; exact hk)
  rcases ht with rfl | rfl | rfl | rfl <;> exact key _ rfl rfl
theorem up2_upd (f : Nat → Nat → Int32) (a k : Nat) (v : Int32) : up2 f a k v a = upd (f a) k v := by
  funext j
  simp only [up2, upd, true_and]
theorem up2_updL (f : Nat → Nat → Int64) (a k : Nat) (v : Int64) : up2 f a k v a = vp_updL (f a) k v := by
  funext j
  simp only [up2, vp_updL, true_and]
theorem up2_updD (f : Nat → Nat → UInt64) (a k : Nat) (v : UInt64) : up2 f a k v a = vf_upd (f a) k v := by
  funext j
  simp only [up2, vf_upd, true_and]
theorem w_iast {a m : Nat} {i x : Int32} (hF : Full M) (ha : AR 1 m a) (hin : vp_in i m) (d : decode cc pc = .ok (.iastore, 1)) (kk : PW G own cc nL rt Post PostX n (pc + 1) ls st (sI M a i.toNatClampNeg x)) : PW G own cc nL rt Post PostX n pc ls (.int x :: .int i :: .ref a :: st) M := by
  intro n0 H locs lsA cells slots ok h1 h2 hP hD hS hl
  refine va_iast ok.hx ok.hb ok.hK hP hD hS a 1 (cA := gy G 1) (n := m) (f := mI M a) (by rw [Wd_at (by rw [hF.1]; exact ha.1), ce_a ha.2]; rfl) rfl hin d (fun H1 locs1 hP1 hD1 hS1 => ?_)
  have e : (Wd (gy G) (gr G) M).set a (gr G a, .inl (gy G 1, m, .inl (upd (mI M a) i.toNatClampNeg x))) = Wd (gy G) (gr G) (sI M a i.toNatClampNeg x) := Wd_set (M := M) (M' := sI M a i.toNatClampNeg x) (cy := gy G) (adr := gr G) rfl sI_ce (by rw [ce_a ha.2, ← up2_upd]; rfl)
  rw [e] at hP1 hD1
  exact kk n0 H1 locs1 lsA cells slots ok h1 h2 hP1 hD1 hS1 hl
theorem w_zast {a m : Nat} {i x : Int32} (hF : Full M) (ha : AR 3 m a) (hin : vp_in i m) (hx : x = 0 ∨ x = 1) (d : decode cc pc = .ok (.bastore, 1)) (kk : PW G own cc nL rt Post PostX n (pc + 1) ls st (sI M a i.toNatClampNeg x)) : PW G own cc nL rt Post PostX n pc ls (.int x :: .int i :: .ref a :: st) M := by
  intro n0 H locs lsA cells slots ok h1 h2 hP hD hS hl
  refine va_zast ok.hx ok.hb ok.hK hP hD hS a 3 (cA := gy G 3) (n := m) (f := mI M a) (by rw [Wd_at (by rw [hF.1]; exact ha.1), ce_a ha.2]; rfl) rfl hin d (fun H1 locs1 hP1 hD1 hS1 => ?_)
  have hx' : vp_nar .boolean x = x := by rcases hx with rfl | rfl <;> rfl
  have e : (Wd (gy G) (gr G) M).set a (gr G a, .inl (gy G 3, m, .inl (upd (mI M a) i.toNatClampNeg x))) = Wd (gy G) (gr G) (sI M a i.toNatClampNeg x) := Wd_set (M := M) (M' := sI M a i.toNatClampNeg x) (cy := gy G) (adr := gr G) rfl sI_ce (by rw [ce_a ha.2, ← up2_upd]; rfl)
  rw [hx', e] at hP1 hD1
  exact kk n0 H1 locs1 lsA cells slots ok h1 h2 hP1 hD1 hS1 hl
theorem w_cast {a m : Nat} {i x : Int32} (hF : Full M) (ha : AR 0 m a) (hin : vp_in i m) (hx : vp_nar .char x = x) (d : decode cc pc = .ok (.castore, 1)) (kk : PW G own cc nL rt Post PostX n (pc + 1) ls st (sI M a i.toNatClampNeg x)) : PW G own cc nL rt Post PostX n pc ls (.int x :: .int i :: .ref a :: st) M := by
  intro n0 H locs lsA cells slots ok h1 h2 hP hD hS hl
  refine va_cast ok.hx ok.hb ok.hK hP hD hS a 0 (cA := gy G 0) (n := m) (f := mI M a) (by rw [Wd_at (by rw [hF.1]; exact ha.1), ce_a ha.2]; rfl) rfl hin d (fun H1 locs1 hP1 hD1 hS1 => ?_)
  have e : (Wd (gy G) (gr G) M).set a (gr G a, .inl (gy G 0, m, .inl (upd (mI M a) i.toNatClampNeg x))) = Wd (gy G) (gr G) (sI M a i.toNatClampNeg x) := Wd_set (M := M) (M' := sI M a i.toNatClampNeg x) (cy := gy G) (adr := gr G) rfl sI_ce (by rw [ce_a ha.2, ← up2_upd]; rfl)
  rw [hx, e] at hP1 hD1
  exact kk n0 H1 locs1 lsA cells slots ok h1 h2 hP1 hD1 hS1 hl
theorem w_last {a m : Nat} {i : Int32} {x : Int64} (hF : Full M) (ha : AR 2 m a) (hin : vp_in i m) (d : decode cc pc = .ok (.lastore, 1)) (kk : PW G own cc nL rt Post PostX n (pc + 1) ls st (sJ M a i.toNatClampNeg x)) : PW G own cc nL rt Post PostX n pc ls (.long x :: .int i :: .ref a :: st) M := by
  intro n0 H locs lsA cells slots ok h1 h2 hP hD hS hl
  refine va_last ok.hx ok.hb ok.hK hP hD hS a 2 (cA := gy G 2) (n := m) (f := mJ M a) (by rw [Wd_at (by rw [hF.1]; exact ha.1), ce_a ha.2]; rfl) rfl hin d (fun H1 locs1 hP1 hD1 hS1 => ?_)
  have e : (Wd (gy G) (gr G) M).set a (gr G a, .inl (gy G 2, m, .inr (.inl (vp_updL (mJ M a) i.toNatClampNeg x)))) = Wd (gy G) (gr G) (sJ M a i.toNatClampNeg x) := Wd_set (M := M) (M' := sJ M a i.toNatClampNeg x) (cy := gy G) (adr := gr G) rfl sJ_ce (by rw [ce_a ha.2, ← up2_updL]; rfl)
  rw [e] at hP1 hD1
  exact kk n0 H1 locs1 lsA cells slots ok h1 h2 hP1 hD1 hS1 hl
theorem w_dast {a m : Nat} {i : Int32} {x : UInt64} (hF : Full M) (ha : AR 4 m a) (hin : vp_in i m) (d : decode cc pc = .ok (.dastore, 1)) (kk : PW G own cc nL rt Post PostX n (pc + 1) ls st (sD M a i.toNatClampNeg x)) : PW G own cc nL rt Post PostX n pc ls (.double x :: .int i :: .ref a :: st) M := by
  intro n0 H locs lsA cells slots ok h1 h2 hP hD hS hl
  refine va_dast ok.hx ok.hb ok.hK hP hD hS a 4 (cA := gy G 4) (n := m) (f := mD M a) (by rw [Wd_at (by rw [hF.1]; exact ha.1), ce_a ha.2]; rfl) rfl hin d (fun H1 locs1 hP1 hD1 hS1 => ?_)
  have e : (Wd (gy G) (gr G) M).set a (gr G a, .inl (gy G 4, m, .inr (.inr (.inr (.inl (vf_upd (mD M a) i.toNatClampNeg x)))))) = Wd (gy G) (gr G) (sD M a i.toNatClampNeg x) := Wd_set (M := M) (M' := sD M a i.toNatClampNeg x) (cy := gy G) (adr := gr G) rfl sD_ce (by rw [ce_a ha.2, ← up2_updD]; rfl)
  rw [e] at hP1 hD1
  exact kk n0 H1 locs1 lsA cells slots ok h1 h2 hP1 hD1 hS1 hl
theorem w_alen {a m t : Nat} {v : Int32} (hF : Full M) (ha : AR t m a) (ht : t < 9) (hv : Int32.ofNat m = v) (d : decode cc pc = .ok (.arraylength, 1)) (kk : PW G own cc nL rt Post PostX n (pc + 1) ls (.int v :: st) M) : PW G own cc nL rt Post PostX n pc ls (.ref a :: st) M := by
  intro n0 H locs lsA cells slots ok h1 h2 hP hD hS hl
  obtain ⟨ty, hty⟩ : ∃ ty, (tysOf (gy G))[t]? = some (gy G t, ty) := by
    rcases (show t = 0 ∨ t = 1 ∨ t = 2 ∨ t = 3 ∨ t = 4 ∨ t = 5 ∨ t = 6 ∨ t = 7 ∨ t = 8 by omega) with rfl | rfl | rfl | rfl | rfl | rfl | rfl | rfl | rfl <;> exact ⟨_, rfl⟩
  exact va_alen ok.hx ok.hb ok.hK hP a t (cA := gy G t) (x := (m, arow (gr G) M a t)) (by rw [Wd_at (by rw [hF.1]; exact ha.1), ce_a ha.2]) hty hv d (kk n0 H locs lsA cells slots ok h1 h2 hP hD hS hl)
/-! returns -/
theorem w_ireturn {ty : FieldType} {v : Int32} (d : decode cc pc = .ok (.ireturn, 1)) (hn : narrow ty (.int v) = .int v) (h : Post (some (.int v)) M) : PW G own cc nL (some ty) Post PostX n pc ls [.int v] M := by
  intro n0 H locs lsA cells slots ok h1 h2 hP hD hS hl
  refine W.widen (k := n0) (n := 6 * n0) (by omega) (by omega) (vx_ret (W.zret ok.hx ok.hb ok.hr hn (fun t ht hW => ⟨⟨gr G, some (.int v), M, ok.ext, rfl, h, by rw [ht]; exact hP, hD⟩, hS.F ht⟩) hS.2.2 d ok.hlk))
theorem w_lreturn {v : Int64} (d : decode cc pc = .ok (.lreturn, 1)) (h : Post (some (.long v)) M) : PW G own cc nL (some .long) Post PostX n pc ls [.long v] M := by
  intro n0 H locs lsA cells slots ok h1 h2 hP hD hS hl
  refine W.widen (k := n0) (n := 6 * n0) (by omega) (by omega) (vx_ret (W.lret ok.hx ok.hb ok.hr (fun t ht hW => ⟨⟨gr G, some (.long v), M, ok.ext, rfl, h, by rw [ht]; exact hP, hD⟩, hS.F ht⟩) hS.2.2 d ok.hlk))
theorem w_dreturn {v : UInt64} (d : decode cc pc = .ok (.dreturn, 1)) (h : Post (some (.double v)) M) : PW G own cc nL (some .double) Post PostX n pc ls [.double v] M := by
  intro n0 H locs lsA cells slots ok h1 h2 hP hD hS hl
  refine W.widen (k := n0) (n := 6 * n0) (by omega) (by omega) (vx_ret (W.dret ok.hx ok.hb ok.hr (fun t ht hW => ⟨⟨gr G, some (.double v), M, ok.ext, rfl, h, by rw [ht]; exact hP, hD⟩, hS.F ht⟩) hS.2.2 d ok.hlk))
theorem w_areturn {v : Nat} {C : String} (d : decode cc pc = .ok (.areturn, 1)) (h : Post (some (.ref v)) M) : PW G own cc nL (some (.object C)) Post PostX n pc ls [.ref v] M := by
  intro n0 H locs lsA cells slots ok h1 h2 hP hD hS hl
  refine W.widen (k := n0) (n := 6 * n0) (by omega) (by omega) (vx_ret (W.aret ok.hx ok.hb ok.hr (Or.inl ⟨C, rfl⟩) (Or.inr ⟨gr G v, rfl⟩) (fun t ht hW => ⟨⟨gr G, some (.ref v), M, ok.ext, rfl, h, by rw [ht]; exact hP, hD⟩, hS.F ht⟩) hS.2.2 d ok.hlk))
theorem w_return (d : decode cc pc = .ok (.return_, 1)) (h : Post none M) : PW G own cc nL none Post PostX n pc ls [] M := by
  intro n0 H locs lsA cells slots ok h1 h2 hP hD hS hl
  refine W.widen (k := n0) (n := 6 * n0) (by omega) (by omega) (vx_ret (W.vret ok.hx ok.hb ok.hr (fun t ht hW => ⟨⟨gr G, none, M, ok.ext, rfl, h, by rw [ht]; exact hP, hD⟩, hS.F ht⟩) hS.2.2 d ok.hlk))
end
end
section
/-! CONTRACTS AND CALLS -/
/-- a method by what it makes of any wish for its end: arguments, memory, the wish for a return, the wish for a throw -/
abbrev PT : Type := List Value → Mem → (Option Value → Mem → Prop) → (String → Mem → Prop) → Prop
def Pre (D : va_G) (cy : Nat → ClassId) (adr : Nat → Nat) (M : Mem) (sz : Nat) (U : State) : Prop :=
  U.heap.size = sz ∧ va_P D vwCl (Wd cy adr M) U.heap ∧ va_K D vwCl (tysOf cy) U ∧ va_D (AA adr (mN M) sz) (Wd cy adr M) ∧ Base (AA adr (mN M) sz) U
def ConM (l : Launch) (y : MethodName) (cw : Cond) (k d : Nat) (D : va_G) (cy : Nat → ClassId) (adr : Nat → Nat) (M : Mem) (as : List Value) (Q : Option Value → Mem → Prop) (X : String → Mem → Prop) (sz : Nat) : Prop :=
  vx_Met l y (cw :: WW) (rmm d k) (va_Pc (as.map (tv adr)) (Pre D cy adr M sz)) (Qn D cy (fun a => a = adr) (AA adr (mN M) sz) Q) (Xn D cy (fun a => a = adr) (AA adr (mN M) sz) X) k (6 * k) (AA adr (mN M) sz)
/-- the contract: k throws at most, d frames deep -/
def Con (l : Launch) (y : MethodName) (cw : Cond) (k d : Nat) (pt : PT) : Prop :=
  ∀ (D : va_G) (cy : Nat → ClassId) (adr : Nat → Nat) (M : Mem) (as : List Value) (Q : Option Value → Mem → Prop) (X : String → Mem → Prop) (sz : Nat), pt as M Q X → ConM l y cw k d D cy adr M as Q X sz
theorem Base.same {A : Nat → Prop} {U V : State} (h : Base A U) (hh : V.heap = U.heap) (hv : V.vm = U.vm) : Base A V := by
  obtain ⟨h1, h2, h3, h4, h7, h8, ak, av, h5, h6⟩ := h
  have ha : U.vm.Alike V.vm := by rw [hv]; exact Vm.Alike.refl _
  have hq : ∀ a : Nat, a < U.heap.size → ¬ A a → V.heap[a]? = U.heap[a]? := fun a _ _ => by rw [hh]
  exact ⟨(h1.kept hq).moved ha, (h2.kept hq).moved ha, fun q hq => by obtain ⟨a, ha⟩ := h3 q hq; exact ⟨a, ha.same hv⟩, fun q hq => va_Nw.same rfl hv.symm (h4 q hq), fun q hq => va_Nw.same rfl hv.symm (h7 q hq), fun q hq => va_Nw.same rfl hv.symm (h8 q hq), ak, av, h5.same hv, (h6.kept hq).moved ha⟩
theorem Pre.blind {D : va_G} {cy : Nat → ClassId} {adr : Nat → Nat} {M : Mem} {sz : Nat} {av : List Value} : FrameBlind (va_Pc av (Pre D cy adr M sz)) := by
  intro a U g mk h
  obtain ⟨h0, h1, h2, h3, h4, h5⟩ := h
  exact ⟨h0, h1, h2, va_K.moved (u := U) (U := U.calling g mk a) (Vm.Alike.refl U.vm) h3, h4, h5.same rfl rfl⟩
theorem AA_in {G : Cx} {M : Mem} {H : Heap} {locs : List Loc} (hA : ∀ q : Nat, (gs G).heap.size ≤ q → gA G q) (hD : va_D (gA G) (Wd (gy G) (gr G) M)) (hS : va_S (gA G) (gs G).heap H locs) : ∀ q, AA (gr G) (mN M) H.size q → gA G q := by
  intro q h
  rcases h with ⟨i, hi, rfl⟩ | h
  · exact hD.2 i _ (Wd_at hi)
  · exact hA q (Nat.le_trans hS.1 h)
theorem Wd_self {cy : Nat → ClassId} {adr : Nat → Nat} {M : Mem} {A : Nat → Prop} {sz : Nat} (h : va_D A (Wd cy adr M)) : va_D (AA adr (mN M) sz) (Wd cy adr M) := by
  refine ⟨h.1, fun k q hk => ?_⟩
  have hk' : k < mN M := by
    have := (List.getElem?_eq_some_iff.mp hk).1
    simpa [Wd] using this
  rw [Wd_at hk'] at hk
  cases hk
  exact Or.inl ⟨k, hk', rfl⟩
theorem Pre.of {G : Cx} {own : String} {cc : ByteArray} {nL n0 : Nat} {rt : Option FieldType} {M : Mem} {H : Heap} {locs : List Loc} (ok : Ok G own cc nL rt n0) (hP : va_P (gD G) vwCl (Wd (gy G) (gr G) M) H) (hD : va_D (gA G) (Wd (gy G) (gr G) M)) (hS : va_S (gA G) (gs G).heap H locs) {U : State} (hU : U.heap = H) (hW : (gs G).WarmedH U.vm) : Pre (gD G) (gy G) (gr G) M H.size U := by
  refine ⟨by rw [hU], by rw [hU]; exact hP, va_K.moved hW.alike ok.hK, Wd_self hD, ?_⟩
  exact ok.base.to hS hU hW (AA_in ok.hA hD hS)
section
variable {G : Cx} {own : String} {cc : ByteArray} {nL : Nat} {rt : Option FieldType} {Post : Option Value → Mem → Prop} {PostX : String → Mem → Prop} {n pc : Nat} {ls : List (Nat × Value)} {st : List Value} {M : Mem}
/-- behind a call: what came back goes on, what was thrown goes out -/
theorem run_to {k n' n0 : Nat} {Q : Option Value → Mem → Prop} {X : String → Mem → Prop} {H : Heap} {locs : List Loc} {lsA : Array Slot} {cells slots : Nat} {stk : List Value} {a0 : Array Value} (ok : Ok G own cc nL rt n0)
    (hrun : vx_Run (gp G) (gl G) (ge G) (gR G) (gs G) (gm G) (ga G) (gb G) (gh G) (gc G) H locs cells slots k (6 * k) (F0 (gm G) pc lsA stk) (st.map (tv (gr G))) (Qn (gD G) (gy G) (fun a => a = gr G) (AA (gr G) (mN M) H.size) Q a0) (Xn (gD G) (gy G) (fun a => a = gr G) (AA (gr G) (mN M) H.size) X) (AA (gr G) (mN M) H.size))
    (hD : va_D (gA G) (Wd (gy G) (gr G) M)) (hS : va_S (gA G) (gs G).heap H locs) (hl : lv_has lsA nL (lt (gr G) ls)) (h1 : cells + n ≤ n0) (h2 : slots + 6 * n ≤ 6 * n0) (hn : n' + k ≤ n) (ht : gt G = [])
    (hQ : ∀ r M', Q r M' → PW G own cc nL rt Post PostX n' (pc + 3) ls (r.toList ++ st) M') (hX : ∀ E M', X E M' → PostX E M') : Wg G H locs cells slots (Zn G Post PostX n0) (F0 (gm G) pc lsA stk) := by
  intro T hT Xs
  have hA := AA_in ok.hA hD hS
  rcases hrun T hT Xs with ⟨v, st0, t, T', L, e0, X', hL, e1, e2, hq, go⟩ | ⟨q, st0, t, T', L, E, cec, e0, X', hL, e1, e2, hxc, hcell, hvn, hcl, steps⟩
  · obtain ⟨⟨adr', r, M', rfl, hr, hpost, hP', hD'⟩, hF⟩ := hq
    obtain ⟨hsz, hkeep, hS'⟩ := vx_keep e0 e1 hS (fun q _ h => hA q h) hA hL hF
    have hv : v = r.map (tv (gr G)) := Outcome.returned.inj hr
    subst hv
    obtain ⟨tt, stt, hz⟩ := hQ r M' hpost n0 T'.heap (locs ++ L) lsA (cells + k) (slots + 6 * k) ok (by omega) (by omega) (by rw [e1]; exact hP') (hD'.weaken (fun _ _ _ h => hA _ h)) hS' hl T' rfl X'
    refine ⟨tt, go _ ?_, hz⟩
    have e : (r.map (tv (gr G))).toList ++ st.map (tv (gr G)) = (r.toList ++ st).map (tv (gr G)) := by cases r <;> rfl
    have e2 : ({ F0 (gm G) pc lsA stk with pc := (F0 (gm G) pc lsA stk).pc + 3, stack := (r.map (tv (gr G))).toList ++ st.map (tv (gr G)) } : JFrame) = F0 (gm G) (pc + 3) lsA ((r.toList ++ st).map (tv (gr G))) := by rw [e]
    rw [e2]
    exact stt
  · obtain ⟨⟨adr', M', rfl, hpost, hP', hD'⟩, hF⟩ := hxc
    obtain ⟨hsz, hkeep, hS'⟩ := vx_keep e0 e1 hS (fun q _ h => hA q h) hA hL hF
    have ho := vx_out (p := gp G) (l := gl G) (e := ge G) (R := gR G) (s := gs G) (m := gm G) (args := ga G) (below := gb G) (meth := gh G) (c := gc G) (H := T'.heap) (locs := locs ++ L) (cells := cells + k) (slots := slots + 6 * k) (pc := pc) (E := E) (ce := cec) (q := q) (mc := n0) (ms := 6 * n0) (free := gA G) (ls := lsA) (rest := st.map (tv (gr G)))
      (Qc := Qn (gD G) (gy G) (gE G) (gA G) Post) (XC := Xn (gD G) (gy G) (gE G) (gA G) PostX) (fun x hx => by rw [ok.tab, ht] at hx; cases hx) ok.hlk (by rw [e1]; exact hcell) hvn hcl
      (fun t' ht' _ => ⟨⟨gr G, M', ok.ext, hX E M' hpost, by rw [ht', e1]; exact hP', hD'.weaken (fun _ _ _ h => hA _ h)⟩, hS'.F ht'⟩) hS'.2.2 (by omega) (by omega)
    obtain ⟨tt, stt, hz⟩ := ho T' rfl X'
    exact ⟨tt, steps.trans stt, hz⟩
/-- the entry idx of own's pool is the method y of class ci, with n parameters -/
def CV (own : String) (idx ci : Nat) (y : MethodName) (cw : Cond) (n : Nat) : Prop := ∃ (bytes : ByteArray) (maxL : Nat) (ret : Option FieldType) (r : vw_C), cw = Cond.code y bytes maxL ret ∧ maxL ≤ 40 ∧ vwCl[ci]? = some r ∧ y.cls = r.1 ∧ (y.cls ≠ "java/lang/invoke/MethodHandle" ∧ y.cls ≠ "java/lang/invoke/VarHandle" ∧ (parseMethodDescriptor y.desc).map (fun d => d.parameters.length) = some n) ∧
  Cond.methodLink own idx y ∈ WW ∧ Cond.instanceMethod y ∈ WW ∧ Cond.selects r.1 y y ∈ WW ∧ Cond.initialized r.1 ∈ WW ∧ cw ∈ WW
def CS (own : String) (idx : Nat) (y : MethodName) (cw : Cond) (n : Nat) : Prop := ∃ (bytes : ByteArray) (maxL : Nat) (ret : Option FieldType), cw = Cond.code y bytes maxL ret ∧ maxL ≤ 40 ∧ (y.cls ≠ "java/lang/invoke/MethodHandle" ∧ y.cls ≠ "java/lang/invoke/VarHandle" ∧ (parseMethodDescriptor y.desc).map (fun d => d.parameters.length) = some n) ∧
  Cond.methodLink own idx y ∈ WW ∧ Cond.static y ∈ WW ∧ Cond.initialized y.cls ∈ WW ∧ cw ∈ WW
/-- .. a static method of a nest mate -/
def CN (own : String) (idx : Nat) (y : MethodName) (cw : Cond) (n : Nat) : Prop := ∃ (bytes : ByteArray) (maxL : Nat) (ret : Option FieldType), cw = Cond.code y bytes maxL ret ∧ maxL ≤ 40 ∧ (y.cls ≠ "java/lang/invoke/MethodHandle" ∧ y.cls ≠ "java/lang/invoke/VarHandle" ∧ (parseMethodDescriptor y.desc).map (fun d => d.parameters.length) = some n) ∧
  (own, idx, y) ∈ nests ∧ Cond.static y ∈ WW ∧ Cond.initialized y.cls ∈ WW ∧ cw ∈ WW
theorem cats (adr : Nat → Nat) (st : List Value) : ((st.map (tv adr)).map fun v => v.category) = st.map fun v => v.category := by
  rw [List.map_map]
  exact List.map_congr_left fun v _ => tv_cat adr v
theorem good_c {cw : Cond} (h : cw ∈ WW) (a : List Cond) (ha : ∀ w ∈ a, w ∈ WW) : GoodIn WW (a ++ (cw :: WW)) := by
  intro w hw
  have hm : w ∈ WW := by
    rcases List.mem_append.mp hw with q | q
    · exact ha w q
    · rcases List.mem_cons.mp q with rfl | q
      · exact h
      · exact q
  exact ⟨hm, WW_good hm⟩
theorem w_callV {y : MethodName} {cw : Cond} {k d0 idx ci m n' b : Nat} {pt : PT} {As stk : List Value} (hC : Con (gl G) y cw k d0 pt) (cv : CV own idx ci y cw m) (ho : OB ci b) (hF : Full M) (ht : gt G = []) (hd : d0 + 1 ≤ gd G) (hm : As.length = m) (hn : n' + k ≤ n) (hst : stk = As.reverse ++ .ref b :: st) (h8 : (st.map fun v => v.category).sum ≤ 8) (d : decode cc pc = .ok (.invokevirtual idx, 3))
    (hpt : pt (.ref b :: As) M (fun r M' => PW G own cc nL rt Post PostX n' (pc + 3) ls (r.toList ++ st) M') PostX) : PW G own cc nL rt Post PostX n pc ls stk M := by
  intro n0 H locs lsA cells slots ok h1 h2 hP hD hS hl
  obtain ⟨bytes, maxL, ret, ⟨C, T, N⟩, rfl, hmax, hr, hyc, hy, w1, w2, w3, w4, w5⟩ := cv
  have hM := hC (gD G) (gy G) (gr G) M (.ref b :: As) _ _ H.size hpt
  have hR := ok.room
  have hbN : b < mN M := by rw [hF.1]; exact ho.1
  have cwf : CallW (gR G) (gs G) (ga G) own C idx y bytes maxL ret (Cond.code y bytes maxL ret :: WW) (rmm d0 k) k (6 * k) m :=
    cwV m ok.hts (good_c w5 [.methodLink own idx y, .instanceMethod y, .selects C y y, .initialized C] (by simp only [List.mem_cons, List.not_mem_nil, or_false]; rintro w (rfl | rfl | rfl | rfl) <;> assumption)) rfl rfl rfl ⟨hyc, hy⟩ (by rw [hR]; simp only [rmm]; constructor <;> omega)
  have hp : PreV (gs G) H C (gr G b) (va_Pc ((Value.ref b :: As).map (tv (gr G))) (Pre (gD G) (gy G) (gr G) M H.size)) (As.map (tv (gr G))) :=
    ⟨Pre.blind, va_recv ok.hK hP (ci := ci) (q0 := b) hr (by rw [Wd_at hbN, ce_o ho.2]), fun U hU hW => ⟨rfl, Pre.of ok hP hD hS hU hW⟩⟩
  have hrun := vx_runV (p := gp G) (e := ge G) (below := gb G) (meth := gh G) (locs := locs) (cells := cells) (slots := slots) (g := F0 (gm G) pc lsA (stk.map (tv (gr G)))) (rest := st.map (tv (gr G))) ⟨ok.hx, ok.hb, ok.hml, ok.hown, ok.hts⟩ hM cwf hp rfl (by rw [List.length_map]; exact hm) hl.1 (by rw [hst]; simp [tv]) (lv_room (by rw [cats]; exact h8)) d (by rw [hR]; simp only [rmm]; constructor <;> omega)
  exact run_to ok hrun hD hS hl h1 h2 hn ht (fun _ _ h => h) (fun _ _ h => h)
theorem w_callS {y : MethodName} {cw : Cond} {k d0 idx m n' : Nat} {pt : PT} {As stk : List Value} (hC : Con (gl G) y cw k d0 pt) (cs : CS own idx y cw m) (ht : gt G = []) (hd : d0 + 1 ≤ gd G) (hm : As.length = m) (hn : n' + k ≤ n) (hst : stk = As.reverse ++ st) (h8 : (st.map fun v => v.category).sum ≤ 8) (d : decode cc pc = .ok (.invokestatic idx, 3))
    (hpt : pt As M (fun r M' => PW G own cc nL rt Post PostX n' (pc + 3) ls (r.toList ++ st) M') PostX) : PW G own cc nL rt Post PostX n pc ls stk M := by
  intro n0 H locs lsA cells slots ok h1 h2 hP hD hS hl
  obtain ⟨bytes, maxL, ret, rfl, hmax, hy, w1, w2, w4, w5⟩ := cs
  have hM := hC (gD G) (gy G) (gr G) M As _ _ H.size hpt
  have hR := ok.room
  have cwf : CallB (gR G) (gs G) (ga G) own idx y bytes maxL ret (Cond.code y bytes maxL ret :: WW) (rmm d0 k) k (6 * k) m ∧ (Cond.static y).before (ga G) (gs G) = true :=
    va_cwS m ok.hts (good_c w5 [.methodLink own idx y, .static y, .initialized y.cls] (by simp only [List.mem_cons, List.not_mem_nil, or_false]; rintro w (rfl | rfl | rfl) <;> assumption)) rfl rfl rfl hy (by rw [hR]; simp only [rmm]; constructor <;> omega)
  have hp : PreS (gs G) H (va_Pc (As.map (tv (gr G))) (Pre (gD G) (gy G) (gr G) M H.size)) (As.map (tv (gr G))) :=
    ⟨Pre.blind, fun U hU hW => ⟨rfl, Pre.of ok hP hD hS hU hW⟩⟩
  have hrun := vx_runS (p := gp G) (e := ge G) (below := gb G) (meth := gh G) (locs := locs) (cells := cells) (slots := slots) (g := F0 (gm G) pc lsA (stk.map (tv (gr G)))) (rest := st.map (tv (gr G))) ⟨ok.hx, ok.hb, ok.hml, ok.hown, ok.hts⟩ hM cwf hp rfl (by rw [List.length_map]; exact hm) hl.1 (by rw [hst]; simp) (lv_room (by rw [cats]; exact h8)) d (by rw [hR]; simp only [rmm]; constructor <;> omega)
  exact run_to ok hrun hD hS hl h1 h2 hn ht (fun _ _ h => h) (fun _ _ h => h)
/-- no throw: the plain contract -/
theorem ConM.met {l : Launch} {y : MethodName} {cw : Cond} {k d : Nat} {D : va_G} {cy : Nat → ClassId} {adr : Nat → Nat} {M : Mem} {as : List Value} {Q : Option Value → Mem → Prop} {sz : Nat} (h : ConM l y cw k d D cy adr M as Q (fun _ _ => False) sz) :
    Met l y (cw :: WW) (rmm d k) (va_Pc (as.map (tv adr)) (Pre D cy adr M sz)) (Qn D cy (fun a => a = adr) (AA adr (mN M) sz) Q) k (6 * k) (AA adr (mN M) sz) := by
  intro p e ha hc hk s m args below hf happ hP hK
  obtain ⟨kk, o, h1, h2, h3, hq⟩ := h p e ha hc hk s m args below hf happ hP hK
  refine ⟨kk, o, h1, h2, h3, ?_⟩
  rcases hq with hq | ⟨q, -, E, ce, L, hx, -⟩
  · exact hq
  · obtain ⟨⟨_, _, _, hx, _⟩, _⟩ := hx
    exact hx.elim
theorem w_callN {y : MethodName} {cw : Cond} {d0 idx m : Nat} {pt : PT} {As stk : List Value} (hC : Con (gl G) y cw 0 d0 pt) (cs : CN own idx y cw m) (ht : gt G = []) (hd : d0 + 1 ≤ gd G) (hm : As.length = m) (hst : stk = As.reverse ++ st) (h8 : (st.map fun v => v.category).sum ≤ 8) (d : decode cc pc = .ok (.invokestatic idx, 3))
    (hpt : pt As M (fun r M' => PW G own cc nL rt Post PostX n (pc + 3) ls (r.toList ++ st) M') (fun _ _ => False)) : PW G own cc nL rt Post PostX n pc ls stk M := by
  intro n0 H locs lsA cells slots ok h1 h2 hP hD hS hl
  obtain ⟨bytes, maxL, ret, rfl, hmax, hy, w1, w2, w4, w5⟩ := cs
  have hM := (hC (gD G) (gy G) (gr G) M As _ _ H.size hpt).met
  have hR := ok.room
  have hp : PreS (gs G) H (va_Pc (As.map (tv (gr G))) (Pre (gD G) (gy G) (gr G) M H.size)) (As.map (tv (gr G))) :=
    ⟨Pre.blind, fun U hU hW => ⟨rfl, Pre.of ok hP hD hS hU hW⟩⟩
  have hb : va_CN (gR G) (gs G) (ga G) own idx y RX5 bytes maxL ret (Cond.code y bytes maxL ret :: WW) (rmm d0 0) 0 (6 * 0) m := va_cnB m ok.hts (good_c w5 [] (fun _ h => by cases h)) rfl rfl rfl (ok.base.2.2.2.1 _ w1) (ok.hts _ w4) hy (by rw [hR]; simp only [rmm]; constructor <;> omega)
  have hrun := va_runSN (p := gp G) (e := ge G) (below := gb G) (meth := gh G) (locs := locs) (cells := cells) (slots := slots) (g := F0 (gm G) pc lsA (stk.map (tv (gr G)))) (rest := st.map (tv (gr G))) ⟨ok.hx, ok.hb, ok.hml, ok.hown, ok.hts⟩ hM ⟨hb, ok.hts _ w2, trivial⟩ hp rfl (by rw [List.length_map]; exact hm) hl.1 (by rw [hst]; simp) (lv_room (by rw [cats]; exact h8)) d (by rw [hR]; simp only [rmm]; constructor <;> omega)
  refine run_to (k := 0) (n' := n) (X := fun _ _ => False) ok (fun T hT Xs => Or.inl (hrun T hT Xs)) hD hS hl h1 h2 (Nat.le_refl _) ht (fun _ _ h => h) (fun _ _ h => h.elim)
end
/-- a contract out of a walk of the body -/
theorem con_of {l : Launch} {y : MethodName} {cc : ByteArray} {maxL k d : Nat} {ret : Option FieldType} {pt : PT} (hl : l.stackTraces = false) (hy : plainName y.cls = true) (hlen : ∀ as M Q X, pt as M Q X → (lg_sl as).length ≤ maxL)
    (h : ∀ (G : Cx) (as : List Value) (M : Mem) (Q : Option Value → Mem → Prop) (X : String → Mem → Prop), gl G = l → gt G = [] → gd G = d → pt as M Q X → PW G y.cls cc maxL ret Q X k 0 (lv_args 0 as) [] M) : Con l y (Cond.code y cc maxL ret) k d pt := by
  intro D cy adr M as Q X sz hpt
  refine vx_ofW (cc := cc) (maxL := maxL) (ret := ret) hy rfl ?_
  intro p e s m args below meth c s₁ B hml htab hv
  obtain ⟨rfl, hsz, hP, hK, hD, hB⟩ := hv
  subst hsz
  have hts := atoms_spec (ws := Cond.code y cc maxL ret :: WW) B.pre
  have hlen' := hlen as M Q X hpt
  have hsl : ∀ vs : List Value, (lg_sl (vs.map (tv adr))).length = (lg_sl vs).length := by
    intro vs
    induction vs with
    | nil => rfl
    | cons v vs ih =>
      simp only [lg_sl, List.map_cons, List.flatMap_cons, List.length_append] at ih ⊢
      rw [ih, tv_cat]
      split <;> rfl
  have hargs : ∀ (vs : List Value) (i : Nat), lv_args i (vs.map (tv adr)) = lt adr (lv_args i vs) := by
    intro vs
    induction vs with
    | nil => intro i; rfl
    | cons v vs ih =>
      intro i
      simp only [List.map_cons, lv_args, lt, tv_cat] at ih ⊢
      rw [ih]
  have hl2 := lv_entry (as.map (tv adr)) (n := maxL) (by rw [hsl]; exact hlen')
  rw [lg_entry_eq]
  generalize (lg_sl (as.map (tv adr)) ++ List.replicate (maxL - (lg_sl (as.map (tv adr))).length) Slot.unset).toArray = lsA at hl2 ⊢
  rw [hargs] at hl2
  let G : Cx := ((p, l, e, rmm d k, s, m, (as.map (tv adr)).toArray, below, meth, c), (D, cy, adr, (fun a => a = adr), AA adr (mN M) s.heap.size, d, []))
  have tab0 : c.exceptionTable.toList = [] := by
    cases hq : c.exceptionTable.toList with
    | nil => rfl
    | cons a b => exact (htab a (by rw [hq]; exact List.mem_cons_self)).elim
  have ok : Ok G y.cls cc maxL ret k := ⟨B.exec, B.bytes, hml, B.returns, findClass_of_methodNamed B.named, fun w hw => hts w (List.mem_cons_of_mem _ hw), B.notSynchronized, hK, hB, hl, rfl, rfl, fun q hq => Or.inr hq, tab0⟩
  exact h G as M Q X rfl rfl rfl hpt k s.heap [] lsA 0 0 ok (by omega) (by omega) hP hD va_S.rf hl2
end
section
/-! THROWS. The kit's vx_throwS knows constructors whose super call is entry 7; that of NoSuchElementException(String) is another entry (here by chainSX): st_ctorX and st_throwX follow the library's ctorThrowS and the kit's vx_throwS, saying less of the thrown cell. -/
set_option maxHeartbeats 1000000 in
theorem st_ctorX {p : Program} {l : Launch} {e : Env} {R : Room} {s : State} {m₀ : MethodId} {args : Array Value} {below : List Frame} {meth : Method} {c : Code} {W : State} {locs : List Loc} {cells slots : Nat} (X : Stand p l e R s m₀ args below meth c W locs cells slots) (hexec : p.tables.exec = Jvm.exec) (htr : e.platform.stackTraces = false) {own cls : String} {names : List String} {ic ix : Nat} {rx : ByteArray}
    (x0 : decode rx 0 = .ok (.aload_n 0, 1)) (x1 : decode rx 1 = .ok (.aload_n 1, 1)) (x2 : decode rx 2 = .ok (.invokespecial ix, 3)) (x5 : decode rx 5 = .ok (.return_, 1))
    (hown : s.vm.findClass own = some m₀.cls) (hcls : Bundle.fit cls = true) (hnames : ∀ n ∈ names, Bundle.fit n = true) (h : ∀ a ∈ Bundle.ownAtomsX own ic cls ix rx names, a.before args s = true)
    (hlocs : ∀ x ∈ locs, ∀ cell, s.heap[x.base]? = some cell → cell.vm.isStatics = false)
    {a : Addr} {cX : ClassId} {kX : Class} (hfoundX : s.vm.findClass cls = some cX) (hkX : s.vm.classes[cX]? = some kX) (hcell : W.heap[a]? = some (freshCell cX kX)) (hnew : s.heap.size ≤ a) {msg : Value} (hmsg : msg.isRef = true)
    {g : JFrame} (hg : g.method = m₀) (hsize : g.locals.size = c.maxLocals) (hlocked : g.locked = none) (hentered : g.entered = []) {rest : List Value} (hstack : g.stack = msg :: .ref a :: .ref a :: rest)
    (hd6 : decode c.code g.pc = .ok (.invokespecial ic, 3)) (hd9 : decode c.code (g.pc + 3) = .ok (.athrow, 1)) (hout : ∀ x ∈ c.exceptionTable.toList, covers x (g.pc + 3) = false)
    (hRframes : names.length + 3 < R.frames) (hRlocals : 2 * g.monitorRoom + ((Value.ref a :: rest).map fun v => v.category).sum + (13 * (names.length + 1) + 42) ≤ R.locals) (hlocks : meth.locks = false) :
    ∃ U : State, Steps p.tables e below (W.setTop g) U ∧ U.status = .running ∧ Ended U below (.threw a) ∧ s.WarmedH U.vm ∧ s.sameButNew ({ U with vm := s.vm } : State) locs cells slots ∧ ∃ ce, U.heap[a]? = some ce ∧ s.vm.findClass cls = some ce.cls ∧ ce.vm = .none := by
  have howns : e.platform.frameOwnsMonitors = true := by rw [X.admits.platform]
  have hfin : e.platform.finalization = false := by rw [X.admits.platform]
  have hpl : e.platform.magicAccessors = ({} : Platform).magicAccessors := by rw [X.admits.platform]
  have a' : ∀ x, x ∈ Bundle.ownAtomsX own ic cls ix rx names → x.holds args s none s [] = true := fun x hx => h x hx
  obtain ⟨T, Z0, L, -, Y⟩ := ThrowableC.of_atoms (args := args) howns hfin hpl (fun x hx => h x (by simp [Bundle.ownAtomsX, hx]))
  obtain ⟨Z, M, LZ, LM, hnZ⟩ := Init0T.ofS_atoms (args := args) hpl L Y (fun x hx => h x (by simp [Bundle.ownAtomsX, hx]))
  obtain ⟨P1, Ps, hlen, L1, hL, hP1m, hlink1, hlink⟩ := Bundle.chainSX (args := args) hpl hnZ x0 x1 x2 x5 names cls hcls hnames (fun x hx => h x (by simp [Bundle.ownAtomsX, hx]))
  have hfound : s.vm.findClass cls = some P1.m.cls := findClass_of_methodNamed hP1m
  cases Option.some.inj (hfoundX.symm.trans hfound)
  obtain ⟨c1, kX', hc1, hk, hord, -, -, hn6⟩ := Cond.instantiable_spec (a' (.instantiable cls 6) (by simp [Bundle.ownAtomsX]))
  cases Option.some.inj (hc1.symm.trans hfound)
  cases Option.some.inj (hkX.symm.trans hk)
  have hsel0 : selectMethod e.platform s.vm P1.m.cls T.fill0 = .method T.fill0 := by
    obtain ⟨c2, r2, m2, q1, q2, q3, q4, -⟩ := Cond.selects_spec (a' (.selects cls Bundle.tFill0 Bundle.tFill0) (by simp [Bundle.ownAtomsX]))
    cases Option.some.inj (q1.symm.trans hfound)
    cases Option.some.inj (q2.symm.trans (State.methodFound?_of_named Y.fill0 (by decide)))
    cases Option.some.inj (q3.symm.trans Y.fill0)
    rw [Launch.admits_selectMethod X.admits]; exact q4
  have hselF : selectMethod e.platform s.vm P1.m.cls T.fill = .method T.fill := by
    obtain ⟨c2, r2, m2, q1, q2, q3, q4, -⟩ := Cond.selects_spec (a' (.selects cls Bundle.tFill Bundle.tFill) (by simp [Bundle.ownAtomsX]))
    cases Option.some.inj (q1.symm.trans hfound)
    cases Option.some.inj (q2.symm.trans (State.methodFound?_of_named Y.fill (by decide)))
    cases Option.some.inj (q3.symm.trans Y.fill)
    rw [Launch.admits_selectMethod X.admits]; exact q4
  obtain ⟨cellS0, hcS0, hiss⟩ := Y.statics
  obtain ⟨u0, hu0⟩ := Cond.staticRefV Y.unassigned L.unassignedStatic L.statics hcS0 hiss (a' (.isRef (.static Bundle.tN "UNASSIGNED_STACK" Bundle.steD)) (by simp [Bundle.ownAtomsX]))
  obtain ⟨sen, hsen⟩ := Cond.staticRefV Y.sentinel L.sentinelStatic L.statics hcS0 hiss (a' (.isRef (.static Bundle.tN "SUPPRESSED_SENTINEL" Bundle.listD)) (by simp [Bundle.ownAtomsX]))
  obtain ⟨ci198, i198, fB, hk198, hg198, ha198, hsB, -, hnB, htB, hffB⟩ := Cond.ownField (t := .object "java/lang/Object") Y.found L.cls (by decide +kernel) (a' (.fieldLink Bundle.tN 198 Bundle.tN "backtrace" "Ljava/lang/Object;") (by simp [Bundle.ownAtomsX])) (a' (.lays Bundle.tN Bundle.tN "backtrace" "Ljava/lang/Object;") (by simp [Bundle.ownAtomsX])) e.platform hpl
  obtain ⟨cellS, hcS', heS, -, hkeep⟩ := X.same.2.2.2.2.2 T.aS cellS0 hcS0
  have hcellS : W.heap[T.aS]? = some cellS := hcS'
  have hout' : ∀ i, (⟨T.aS, i⟩ : Loc) ∉ locs := fun i hmem => by
    have := hlocs _ hmem cellS0 hcS0
    rw [hiss] at this; cases this
  have hknownS : cellS.vm ≠ .unknown := by
    rw [heS]; intro hu
    rw [show cellS0.vm = .unknown from hu] at hiss
    cases hiss
  have hneS : T.aS ≠ a := Nat.ne_of_lt (Nat.lt_of_lt_of_le (Array.getElem?_eq_some_iff.mp hcS0).1 hnew)
  obtain ⟨iM, hffM⟩ := Y.msg
  obtain ⟨tyC, dC, hdC, hdnC⟩ := Cond.laysAt hfound hk Y.cause (a' (.lays cls Bundle.tN "cause" "Ljava/lang/Throwable;") (by simp [Bundle.ownAtomsX]))
  obtain ⟨tyS, dS, hdS, hdnS⟩ := Cond.laysAt hfound hk Y.stack (a' (.lays cls Bundle.tN "stackTrace" Bundle.steD) (by simp [Bundle.ownAtomsX]))
  obtain ⟨tyP, dP, hdP, hdnP⟩ := Cond.laysAt hfound hk Y.supp (a' (.lays cls Bundle.tN "suppressedExceptions" Bundle.listD) (by simp [Bundle.ownAtomsX]))
  obtain ⟨tyM, dM, hdM, hdnM⟩ := Cond.laysAt hfound hk hffM (a' (.lays cls Bundle.tN "detailMessage" "Ljava/lang/String;") (by simp [Bundle.ownAtomsX]))
  obtain ⟨tyB, dB, hdB, hdnB⟩ := Cond.laysAt hfound hk hffB (a' (.lays cls Bundle.tN "backtrace" "Ljava/lang/Object;") (by simp [Bundle.ownAtomsX]))
  have bC := Cond.laysApart hdB hdC hdnB hdnC (by rw [hnB, Y.causeName]; decide)
  have bS := Cond.laysApart hdB hdS hdnB hdnS (by rw [hnB, Y.stackName]; decide)
  have bP := Cond.laysApart hdB hdP hdnB hdnP (by rw [hnB, Y.suppName]; decide)
  have hskip : SkipFacts T e.platform s (fun u => u) u0 ((preparedCellV T.toThrowableT (freshCell P1.m.cls kX) a u0 sen).withEntry W.cur) :=
    ⟨{ ci198 := ci198, i198 := i198, fBack := fB }, ⟨hk198, hg198, ha198, hsB⟩, by
      have := fresh_default (c := P1.m.cls) tyB
      rw [htB] at this
      simpa [preparedCellV, Cell.setSlot, Cell.withEntry, Array.getElem?_setIfInBounds, bC, bS, bP, bC.symm, bS.symm, bP.symm, defaultValue] using this, fun _ _ => rfl⟩
  obtain ⟨tm, methC, cdC, kC, vm₁, hnC, -, -, -, -, -, -, -, hW₁, st1⟩ := Steps.initColdS (tb := p.tables) (e := e) (below := below) (s := s) (U := W) X.here hexec X.warmed hpl hown (t := Bundle.initS cls) rfl rfl (Bundle.fit_spec hcls).2
    (a' (.methodLink own ic (Bundle.initS cls)) (by simp [Bundle.ownAtomsX])) (h (.instanceMethod (Bundle.initS cls)) (by cases names <;> simp [Bundle.ownAtomsX, Bundle.chainSAtomsX, Bundle.passSAtoms])) (bytes := rx) (maxL := 2) (h (.code (Bundle.initS cls) rx 2 none) (by cases names <;> simp [Bundle.ownAtomsX, Bundle.chainSAtomsX, Bundle.passSAtoms]))
    (f := g) hg (a := a) (msg := msg) (rest := .ref a :: rest) hstack hd6
  cases Option.some.inj (hnC.symm.trans hP1m)
  have X₁ := X.noted hW₁
  obtain ⟨vm₂, X₂, st2⟩ := X₁.ctorMessageOffV hexec (g := { g with stack := .ref a :: rest }) hg hsize T L Z LZ M LM (P1 :: Ps)
    (fun P hP => by rcases List.mem_cons.mp hP with rfl | hP; exact L1; exact hL P hP) ⟨hlink1, hlink⟩ (u0 := u0) (sen := sen) (self := a) hmsg (cell := freshCell P1.m.cls kX) (cellS := cellS)
    hcell (fun _ => by simp) (by simp) rfl rfl hsel0 hselF hcellS hneS hknownS (by rw [hkeep _ (hout' _)]; exact hu0) (by rw [hkeep _ (hout' _)]; exact hsen)
    (Takes.of_laid hk hord tyC (by rw [Y.causeType]; rfl)) (Takes.of_laid hk hord tyS (by rw [Y.stackType]; exact fits_refV_array _ u0)) (Takes.of_laid hk hord tyP (by rw [Y.suppType]; exact fits_refV_object _ sen))
    (Takes.of_laid hk hord tyM (by rw [Y.msgType]; exact fits_refV_object _ ⟨msg, hmsg⟩)) Y.objLocals hskip htr [] hd6
    (by simp only [List.length_cons, hlen]; omega) (by simp only [List.length_cons, hlen]; exact hRlocals)
  obtain ⟨hwalk, hrun, hended, hWU, hsame⟩ := X₂.athrowLeaves hexec (g := { g with stack := .ref a :: rest, pc := g.pc + 3 }) hg hlocked hentered hout (a := a) (rest := rest) rfl hd9
  have hlt : a < ((W.setVm vm₁).setVm vm₂).heap.size := (Array.getElem?_eq_some_iff.mp hcell).1
  have hU := heapAt_setCell_self (s := (W.setVm vm₁).setVm vm₂) (plainBareV T.toThrowableT (freshCell P1.m.cls kX) a u0 sen msg) hlt
  refine ⟨_, st1 _ (fun acts => ?_), hrun, hended, hWU, hsame.weaken (fun y hy hlt' => ?_) (Nat.le_refl _) (Nat.le_refl _), _, hU, hfound, rfl⟩
  · rw [doInvoke_state]
    exact st2 _ hwalk
  · rcases List.mem_append.mp hy with h1 | h1
    · exact h1
    · exfalso
      have hb : y.base = a := by
        simp only [List.mem_cons, List.not_mem_nil, or_false] at h1
        rcases h1 with rfl | rfl | rfl | rfl | rfl <;> rfl
      rw [hb] at hlt'
      exact Nat.not_lt.mpr hnew hlt'
def vx_atX (own : String) (ic : Nat) (X : String) (ix : Nat) (rx : ByteArray) (names : List String) : List Cond := (Bundle.ownAtomsX own ic X ix rx names).filter vx_no
theorem st_throwX {p : Program} {l : Launch} {e : Env} {R : Room} {s : State} {m : MethodId} {args : Array Value} {below : List Frame} {meth : Method} {c : Code} {H : Heap} {locs : List Loc} {cells slots : Nat} {free : Addr → Prop} {ls : Array Slot} {rest : List Value} {Qc : Array Value → State → Outcome → State → Prop} {XC : String → State → State → Prop} {cc : ByteArray} {pc : Nat} (hexec : p.tables.exec = Jvm.exec) (hb : c.code = cc) (hl : l.stackTraces = false) {own cls text : String} {names : List String} {ik is ic mc ms sa ix : Nat} {rx : ByteArray} {A : Nat → Prop}
    (x0 : decode rx 0 = .ok (.aload_n 0, 1)) (x1 : decode rx 1 = .ok (.aload_n 1, 1)) (x2 : decode rx 2 = .ok (.invokespecial ix, 3)) (x5 : decode rx 5 = .ok (.return_, 1))
    (hown : s.vm.findClass own = some m.cls) (hcls : Bundle.fit cls = true) (hnames : ∀ n ∈ names, Bundle.fit n = true)
    (hk : (Cond.classLink own ik cls).before args s = true) (hini : (Cond.initialized cls).before args s = true) (hstr : vk_R own is text sa s) (hat : ∀ w ∈ vx_atX own ic cls ix rx names, w.before args s = true)
    (hgood : ∀ w ∈ Cond.classLink own ik cls :: Cond.initialized cls :: vx_atX own ic cls ix rx names, vx_ot w = true)
    (hU : vx_Zq Bundle.tN "UNASSIGNED_STACK" Bundle.steD A s s.heap) (hN : vx_Zq Bundle.tN "SUPPRESSED_SENTINEL" Bundle.listD A s s.heap) (hS : va_S A s.heap H locs) (hsize : ls.size = c.maxLocals)
    (d0 : decode cc pc = .ok (.new ik, 3)) (d3 : decode cc (pc + 3) = .ok (.dup, 1)) (d4 : decode cc (pc + 4) = .ok (.ldc is, 2)) (d6 : decode cc (pc + 6) = .ok (.invokespecial ic, 3)) (d9 : decode cc (pc + 9) = .ok (.athrow, 1))
    (hout : ∀ x ∈ c.exceptionTable.toList, covers x (pc + 9) = false)
    (hRframes : names.length + 3 < R.frames) (hRlocals : (rest.map fun v => v.category).sum + (13 * (names.length + 1) + 43) ≤ R.locals) (hRcells : cells + 1 ≤ R.cells) (hRslots : slots + 6 ≤ R.slots) (hlocks : meth.locks = false)
    (hx : ∀ t : State, s.vm.Alike t.vm → H.size ≤ t.heap.size → (∀ q : Nat, q < H.size → t.heap[q]? = H[q]?) → XC cls s t)
    (hf : ∀ z ∈ locs, free z.base) (hc : cells + 1 ≤ mc) (hs : slots + 6 ≤ ms) :
    W p l e R s m args below meth c H locs cells slots (vx_MQ below Qc XC args s mc ms free) (F0 m pc ls rest) := by
  intro T hT X
  have htr : e.platform.stackTraces = false := (show e.platform.stackTraces = l.stackTraces by rw [X.admits.platform]).trans hl
  have Y := vx_rebase X (R' := { frames := R.frames, locals := R.locals, cells := 1, slots := 6 }) (Nat.le_refl _) (Nat.le_refl _) hRcells hRslots
  obtain ⟨s', hA⟩ : ∃ z, z = (T.setVm s.vm).setFrames (.invoking m args :: below) := ⟨_, rfl⟩
  rw [← hA] at Y
  have hvm : s'.vm = s.vm := by rw [hA]; rfl
  have hhp : s'.heap = H := by rw [hA]; exact hT
  have hW0 : s.WarmedH s'.vm := by rw [hvm]; exact State.WarmedH.refl s
  have hat' : ∀ w ∈ vx_atX own ic cls ix rx names, w.before args s' = true := fun w hw => vx_ot_at hW0 hvm.symm (hgood w (List.mem_cons_of_mem _ (List.mem_cons_of_mem _ hw))) (hat w hw)
  have hk' : (Cond.classLink own ik cls).before args s' = true := vx_ot_at hW0 hvm.symm (hgood _ List.mem_cons_self) hk
  have hini' : (Cond.initialized cls).before args s' = true := vx_ot_at hW0 hvm.symm (hgood _ (List.mem_cons_of_mem _ List.mem_cons_self)) hini
  have hU' : vx_Zq Bundle.tN "UNASSIGNED_STACK" Bundle.steD A s' s'.heap := by rw [hhp]; exact vx_Zq.moved hW0.alike (hU.kept hS.2.1)
  have hN' : vx_Zq Bundle.tN "SUPPRESSED_SENTINEL" Bundle.listD A s' s'.heap := by rw [hhp]; exact vx_Zq.moved hW0.alike (hN.kept hS.2.1)
  have h : ∀ w ∈ Bundle.ownAtomsX own ic cls ix rx names, w.before args s' = true := vx_own hat' (vx_isRefq hU'.1) (vx_isRefq hN'.1) hU'.2.word hN'.2.word
  have hown' : s'.vm.findClass own = some m.cls := by rw [hvm]; exact hown
  have hins : (Cond.instantiable cls 6).before args s' = true := h _ (by simp [Bundle.ownAtomsX])
  obtain ⟨vm₁, cX, kX, hfX, hkX, -, -, X₁, st1⟩ := Y.newCold hexec (own := own) (C := cls) (index := ik) (n := 6) hown' hk' hins hini'
    (g := F0 m pc ls rest) rfl (by rw [hb]; exact d0) (Nat.le_refl _) (Nat.le_refl _)
  generalize hT1 : (T.setVm vm₁).pushCell { cls := cX, slots := kX.instanceTypes.map defaultValue, vm := .none } = T1 at X₁ st1
  have hcat : (Value.ref T.heap.size).category = 1 := rfl
  have hcellA : T1.heap[T.heap.size]? = some (freshCell cX kX) := by rw [← hT1]; exact State.heap_pushCell_size _ _
  have d3' : decode c.code (pc + 3) = .ok (.dup, 1) := by rw [hb]; exact d3
  have d4' : decode c.code (pc + 4) = .ok (.ldc is, 2) := by rw [hb]; exact d4
  have hstr' : vk_R own is text sa s' := vk_R.warm hW0 hstr
  obtain ⟨U, hsteps, hrun, hend, hW, hsame, ce, hce, hcl0, hcv⟩ := st_ctorX X₁ hexec htr (own := own) (cls := cls) (names := names) (ic := ic) x0 x1 x2 x5 hown' hcls hnames h (fun x hx => nomatch hx) hfX hkX hcellA (by rw [hhp, hT]; exact Nat.le_refl _) (msg := .ref sa) rfl
    (g := { method := m, pc := pc + 6, locals := ls, stack := .ref sa :: .ref T.heap.size :: .ref T.heap.size :: rest, locked := none }) rfl hsize rfl rfl (rest := rest) rfl
    (by rw [hb]; exact d6) (by rw [hb]; exact d9) hout hRframes (by simp only [List.map_cons, List.sum_cons, hcat]; omega) hlocks
  obtain ⟨f1, f2⟩ := vx_frame hsame
  rw [hhp] at f1 f2
  have hWs : s.WarmedH U.vm := State.WarmedH.trans hW0 hW
  have hcl : s.vm.findClass cls = some ce.cls := by
    rw [hvm] at hcl0
    exact hcl0
  have hall : s.sameButNew ({ U with vm := s.vm } : State) locs mc ms := by
    subst hA
    obtain ⟨e1, e2⟩ := hsame
    rw [State.setFrames_setFrames] at e1
    have h2 : (T.setVm s.vm).sameButNew ({ U with vm := s.vm } : State) [] (0 + 1) (0 + 6) := ⟨e1, e2⟩
    have h3 := X.same.trans h2
    rw [List.append_nil] at h3
    exact h3.mono hc hs
  refine ⟨U, ?_, .threw T.heap.size, hrun, hend, Or.inr ⟨T.heap.size, rfl, cls, ce, locs, hx U hWs.alike f1 (fun q hq => f2 q hq (fun z hz => nomatch hz)), hce, hcv, hcl, hWs, hall, hf⟩⟩
  refine st1 _ ?_
  show Steps p.tables e below (T1.setTop { method := m, pc := pc + 3, locals := ls, stack := .ref T.heap.size :: rest, locked := none }) _
  jvm_step X₁.here [X₁.here.top, hexec, d3', Value.category]
  exact X₁.ldcString hexec (own := own) (text := text) (index := is) (a := sa) hown' hstr'.1 hstr'.2
    (g := { method := m, pc := pc + 4, locals := ls, stack := .ref T.heap.size :: .ref T.heap.size :: rest, locked := none }) rfl d4' _ hsteps
end
section
/-! THE THROW AS A RULE OF PW -/
def rtx : List String := ["java/lang/RuntimeException", "java/lang/Exception"]
def odds : List Cond := decls.map (fun x => .declares x) ++ casts.map (fun C => .castable C C)
def rxOf (ix : Nat) : ByteArray := ⟨#[0x2a, 0x2b, 0xb7, 0x00, UInt8.ofNat ix, 0xb1]⟩
/-- what is thrown: the class's entry, its constructor's, its name, the entry of the super call -/
def exn : List (Nat × Nat × String × Nat) := [(227, 231, "java/util/NoSuchElementException", 13), (89, 93, "java/lang/IllegalArgumentException", 7), (127, 131, "java/lang/IllegalStateException", 7), (175, 179, "java/lang/ArithmeticException", 7)]
def thOk (q : Nat × Nat × String × Nat) : Bool := decide (Cond.classLink RX5 q.1 q.2.2.1 ∈ WW) && decide (Cond.initialized q.2.2.1 ∈ WW) && Bundle.fit q.2.2.1 && (vx_atX RX5 q.2.1 q.2.2.1 q.2.2.2 (rxOf q.2.2.2) rtx).all (fun w => (decide (w ∈ WW) || decide (w ∈ odds)) && vx_ot w)
theorem thOk_1 : thOk (227, 231, "java/util/NoSuchElementException", 13) = true := by decide +kernel
theorem thOk_2 : thOk (89, 93, "java/lang/IllegalArgumentException", 7) = true := by decide +kernel
theorem thOk_3 : thOk (127, 131, "java/lang/IllegalStateException", 7) = true := by decide +kernel
theorem thOk_4 : thOk (175, 179, "java/lang/ArithmeticException", 7) = true := by decide +kernel
theorem thOk_all : ∀ q ∈ exn, thOk q = true := List.forall_mem_cons.mpr ⟨thOk_1, List.forall_mem_cons.mpr ⟨thOk_2, List.forall_mem_cons.mpr ⟨thOk_3, List.forall_mem_cons.mpr ⟨thOk_4, fun _ h => absurd h List.not_mem_nil⟩⟩⟩⟩
theorem ot_lit : ∀ q ∈ exn, vx_ot (Cond.classLink RX5 q.1 q.2.2.1) = true ∧ vx_ot (Cond.initialized q.2.2.1) = true := by decide +kernel
theorem rtx_fit : ∀ n ∈ rtx, Bundle.fit n = true := by decide +kernel
theorem rx_dec : ∀ q ∈ exn, decode (rxOf q.2.2.2) 0 = .ok (.aload_n 0, 1) ∧ decode (rxOf q.2.2.2) 1 = .ok (.aload_n 1, 1) ∧ decode (rxOf q.2.2.2) 2 = .ok (.invokespecial q.2.2.2, 3) ∧ decode (rxOf q.2.2.2) 5 = .ok (.return_, 1) := by
  intro q hq
  simp only [exn, List.mem_cons, List.not_mem_nil, or_false] at hq
  rcases hq with rfl | rfl | rfl | rfl <;> exact ⟨by decide +kernel, by decide +kernel, by decide +kernel, by decide +kernel⟩
section
variable {G : Cx} {cc : ByteArray} {nL : Nat} {rt : Option FieldType} {Post : Option Value → Mem → Prop} {PostX : String → Mem → Prop} {n pc : Nat} {ls : List (Nat × Value)} {st : List Value} {M : Mem}
theorem w_throw {ik is ic ix : Nat} {cls text : String} (he : (ik, ic, cls, ix) ∈ exn) (hs : (is, text) ∈ strs) (ht : gt G = []) (hd : 8 ≤ gd G) (hn : 1 ≤ n) (h8 : (st.map fun v => v.category).sum ≤ 8)
    (d0 : decode cc pc = .ok (.new ik, 3)) (d3 : decode cc (pc + 3) = .ok (.dup, 1)) (d4 : decode cc (pc + 4) = .ok (.ldc is, 2)) (d6 : decode cc (pc + 6) = .ok (.invokespecial ic, 3)) (d9 : decode cc (pc + 9) = .ok (.athrow, 1)) (hx : PostX cls M) : PW G RX5 cc nL rt Post PostX n pc ls st M := by
  intro n0 H locs lsA cells slots ok h1 h2 hP hD hS hl
  have hth := thOk_all _ he
  have hot := ot_lit _ he
  obtain ⟨x0, x1, x2, x5⟩ := rx_dec _ he
  simp only [thOk, Bool.and_eq_true, decide_eq_true_eq, List.all_eq_true, Bool.or_eq_true] at hth
  obtain ⟨⟨⟨hk, hini⟩, hfit⟩, hall⟩ := hth
  obtain ⟨sa, hsa⟩ := ok.base.2.2.1 _ hs
  have hR := ok.room
  refine st_throwX (A := gA G) (names := rtx) (cls := cls) (text := text) (ik := ik) (is := is) (ic := ic) (sa := sa) (ix := ix) (rx := rxOf ix) ok.hx ok.hb ok.tr x0 x1 x2 x5 ok.hown hfit rtx_fit (ok.hts _ hk) (ok.hts _ hini) hsa ?_ ?_ ok.base.1 ok.base.2.1 hS (by rw [hl.1, ok.hml]) d0 d3 d4 d6 d9 (fun x hx => by rw [ok.tab, ht] at hx; cases hx) ?_ ?_ ?_ ?_ ok.hlk ?_ hS.2.2 (by omega) (by omega)
  · intro w hw
    rcases (hall w hw).1 with h | h
    · exact ok.hts w h
    · simp only [odds, List.mem_append, List.mem_map] at h
      rcases h with ⟨x, hx, rfl⟩ | ⟨C, hC, rfl⟩
      · exact va_Nw.use rfl (ok.base.2.2.2.2.1 x hx)
      · exact va_Nw.use rfl (ok.base.2.2.2.2.2.1 C hC)
  · intro w hw
    rcases List.mem_cons.mp hw with rfl | hw
    · exact hot.1
    · rcases List.mem_cons.mp hw with rfl | hw
      · exact hot.2
      · exact (hall w hw).2
  · rw [hR]; simp only [rmm, rtx, List.length_cons, List.length_nil]; omega
  · rw [hR, cats]; simp only [rmm, rtx, List.length_cons, List.length_nil]; omega
  · rw [hR]; simp only [rmm]; omega
  · rw [hR]; simp only [rmm]; omega
  · intro t hal hsz hsame
    have hP' : va_P (gD G) vwCl (Wd (gy G) (gr G) M) t.heap := hP.kept (fun k q hk => hsame q.1 (va_at.lt (hP k q hk)))
    refine ⟨⟨gr G, M, ok.ext, hx, hP', hD⟩, Nat.le_trans hS.1 hsz, fun q hq hA => ?_⟩
    rw [hsame q (Nat.lt_of_lt_of_le hq hS.1)]
    exact hS.2.1 q hq hA
end
end
section
/-! WHAT THE ENTRIES OF THE POOLS ARE (by program out of the tables) -/
theorem inW {w : Cond} (i : Nat) (h : lw_tbl[i]? = some w) (hg : goodWord w = true) : w ∈ WW := List.mem_filter.mpr ⟨List.mem_of_getElem? h, hg⟩
abbrev wJ3_checkFromToIndex_8c36e : Cond := Cond.code yJ3_checkFromToIndex_8c36e cJ3_checkFromToIndex_8c36e 4 (some .int)
abbrev wJ2_checkBoundsBeginEnd_d044e : Cond := Cond.code yJ2_checkBoundsBeginEnd_d044e cJ2_checkBoundsBeginEnd_d044e 3 none
abbrev wJ2_indexOfSupplementary_4cfef : Cond := Cond.code yJ2_indexOfSupplementary_4cfef cJ2_indexOfSupplementary_4cfef 7 (some .int)
abbrev wJ2_indexOfCharUnsafe_4cfef : Cond := Cond.code yJ2_indexOfCharUnsafe_4cfef cJ2_indexOfCharUnsafe_4cfef 5 (some .int)
abbrev wJ2_indexOfChar_4cfef : Cond := Cond.code yJ2_indexOfChar_4cfef cJ2_indexOfChar_4cfef 4 (some .int)
abbrev wJ2_indexOf_4cfef : Cond := Cond.code yJ2_indexOf_4cfef cJ2_indexOf_4cfef 4 (some .int)
abbrev wJ2_length_9d52b : Cond := Cond.code yJ2_length_9d52b cJ2_length_9d52b 1 (some .int)
abbrev wJ2_getChar_3b067 : Cond := Cond.code yJ2_getChar_3b067 cJ2_getChar_3b067 2 (some .char)
abbrev wJ1_indexOfChar_4cfef : Cond := Cond.code yJ1_indexOfChar_4cfef cJ1_indexOfChar_4cfef 6 (some .int)
abbrev wJ1_indexOf_4cfef : Cond := Cond.code yJ1_indexOf_4cfef cJ1_indexOf_4cfef 4 (some .int)
abbrev wJ1_canEncode_9a6ad : Cond := Cond.code yJ1_canEncode_9a6ad cJ1_canEncode_9a6ad 1 (some .boolean)
abbrev wJ0_checkBoundsBeginEnd_23922 : Cond := Cond.code yJ0_checkBoundsBeginEnd_23922 cJ0_checkBoundsBeginEnd_23922 3 none
abbrev wJ0_isLatin1_aae02 : Cond := Cond.code yJ0_isLatin1_aae02 cJ0_isLatin1_aae02 1 (some .boolean)
abbrev wJ0_coder_7d493 : Cond := Cond.code yJ0_coder_7d493 cJ0_coder_7d493 1 (some (.object ""))
abbrev wJ0_indexOf_7cf53 : Cond := Cond.code yJ0_indexOf_7cf53 cJ0_indexOf_7cf53 3 (some .int)
abbrev wJ0_indexOf_0f7a4 : Cond := Cond.code yJ0_indexOf_0f7a4 cJ0_indexOf_0f7a4 2 (some .int)
abbrev wJ0_length_8abf5 : Cond := Cond.code yJ0_length_8abf5 cJ0_length_8abf5 1 (some .int)
abbrev wJ9_min_f86c9 : Cond := Cond.code yJ9_min_f86c9 cJ9_min_f86c9 4 (some .long)
abbrev wJ9_min_7cf53 : Cond := Cond.code yJ9_min_7cf53 cJ9_min_7cf53 2 (some .int)
abbrev wJ9_max_f86c9 : Cond := Cond.code yJ9_max_f86c9 cJ9_max_f86c9 4 (some .long)
abbrev wJ9_max_7cf53 : Cond := Cond.code yJ9_max_7cf53 cJ9_max_7cf53 2 (some .int)
abbrev wJ9_floorMod_f86c9 : Cond := Cond.code yJ9_floorMod_f86c9 cJ9_floorMod_f86c9 6 (some .long)
abbrev wJ9_floorDiv_f86c9 : Cond := Cond.code yJ9_floorDiv_f86c9 cJ9_floorDiv_f86c9 6 (some .long)
abbrev wJ6_bitCount_0f7a4 : Cond := Cond.code yJ6_bitCount_0f7a4 cJ6_bitCount_0f7a4 1 (some .int)
abbrev wJ11_lowSurrogate_5068e : Cond := Cond.code yJ11_lowSurrogate_5068e cJ11_lowSurrogate_5068e 1 (some .char)
abbrev wJ11_highSurrogate_5068e : Cond := Cond.code yJ11_highSurrogate_5068e cJ11_highSurrogate_5068e 1 (some .char)
abbrev wJ11_isValidCodePoint_9a6ad : Cond := Cond.code yJ11_isValidCodePoint_9a6ad cJ11_isValidCodePoint_9a6ad 2 (some .boolean)
abbrev wX6_posting : Cond := Cond.code yX6_posting cX6_posting 5 (some .long)
abbrev wX6_balance : Cond := Cond.code yX6_balance cX6_balance 2 (some .long)
abbrev wX6_pass : Cond := Cond.code yX6_pass cX6_pass 6 (some .int)
abbrev wX6_charge : Cond := Cond.code yX6_charge cX6_charge 7 (some .long)
abbrev wX6_interest : Cond := Cond.code yX6_interest cX6_interest 3 (some .int)
abbrev wX6_pay : Cond := Cond.code yX6_pay cX6_pay 3 (some .long)
abbrev wX6_sum : Cond := Cond.code yX6_sum cX6_sum 5 (some .long)
abbrev wX6_share : Cond := Cond.code yX6_share cX6_share 5 (some .double)
abbrev wX6_value : Cond := Cond.code yX6_value cX6_value 4 (some .long)
abbrev wX6_there : Cond := Cond.code yX6_there cX6_there 4 (some .boolean)
abbrev wX6_post : Cond := Cond.code yX6_post cX6_post 7 none
abbrev wX6_assess : Cond := Cond.code yX6_assess cX6_assess 7 (some .long)
abbrev wX6_operate : Cond := Cond.code yX6_operate cX6_operate 12 (some .boolean)
abbrev wX6_workOut : Cond := Cond.code yX6_workOut cX6_workOut 6 (some .boolean)
abbrev wX6_before : Cond := Cond.code yX6_before cX6_before 3 (some .long)
abbrev wX6_file : Cond := Cond.code yX6_file cX6_file 7 (some .int)
abbrev wX6_order : Cond := Cond.code yX6_order cX6_order 2 (some .int)
abbrev wX6_makeOrder : Cond := Cond.code yX6_makeOrder cX6_makeOrder 4 (some .int)
abbrev wX6_tabled : Cond := Cond.code yX6_tabled cX6_tabled 10 (some .long)
abbrev wX6_divide : Cond := Cond.code yX6_divide cX6_divide 9 (some .long)
abbrev wX6_reset : Cond := Cond.code yX6_reset cX6_reset 4 (some .int)
abbrev wX6_bracket : Cond := Cond.code yX6_bracket cX6_bracket 6 (some .int)
abbrev wX6_total : Cond := Cond.code yX6_total cX6_total 3 (some .int)
abbrev wX6_input : Cond := Cond.code yX6_input cX6_input 3 (some .boolean)
abbrev wX6_define : Cond := Cond.code yX6_define cX6_define 4 (some .int)
abbrev wX6_read : Cond := Cond.code yX6_read cX6_read 3 (some .boolean)
abbrev wX6_ends : Cond := Cond.code yX6_ends cX6_ends 3 (some .int)
abbrev wX6_goOn : Cond := Cond.code yX6_goOn cX6_goOn 6 (some .int)
abbrev wX6_close : Cond := Cond.code yX6_close cX6_close 1 (some .boolean)
abbrev wX6_settle : Cond := Cond.code yX6_settle cX6_settle 1 none
abbrev wX6_begin : Cond := Cond.code yX6_begin cX6_begin 3 (some .int)
abbrev wX6_number : Cond := Cond.code yX6_number cX6_number 4 (some .int)
abbrev wX6_deepness : Cond := Cond.code yX6_deepness cX6_deepness 3 (some .int)
abbrev wX6_top : Cond := Cond.code yX6_top cX6_top 1 (some .int)
abbrev wX6_put : Cond := Cond.code yX6_put cX6_put 3 (some .boolean)
abbrev wX6_make : Cond := Cond.code yX6_make cX6_make 3 none
abbrev wX6_look : Cond := Cond.code yX6_look cX6_look 2 (some .int)
abbrev wX6_clear : Cond := Cond.code yX6_clear cX6_clear 2 (some .int)
abbrev wX6_type : Cond := Cond.code yX6_type cX6_type 3 (some .boolean)
abbrev wX6_isName : Cond := Cond.code yX6_isName cX6_isName 1 (some .boolean)
abbrev wX6_isDigit : Cond := Cond.code yX6_isDigit cX6_isDigit 1 (some .boolean)
abbrev wX6_in : Cond := Cond.code yX6_in cX6_in 6 (some .boolean)
abbrev wX6_refuse : Cond := Cond.code yX6_refuse cX6_refuse 2 (some .int)
abbrev wX6_thrown : Cond := Cond.code yX6_thrown cX6_thrown 1 (some .int)
abbrev wX5_carriesToEven : Cond := Cond.code yX5_carriesToEven cX5_carriesToEven 6 (some .boolean)
abbrev wX5_workOut : Cond := Cond.code yX5_workOut cX5_workOut 7 (some .boolean)
abbrev wX5_lowestReady : Cond := Cond.code yX5_lowestReady cX5_lowestReady 3 (some .int)
abbrev wX5_arrangeLines : Cond := Cond.code yX5_arrangeLines cX5_arrangeLines 4 (some .int)
abbrev wX5_hasFormula : Cond := Cond.code yX5_hasFormula cX5_hasFormula 2 (some .boolean)
abbrev wX5_returnOf : Cond := Cond.code yX5_returnOf cX5_returnOf 3 (some (.object "FormOffice$Return"))
abbrev wX5_requireAssessed : Cond := Cond.code yX5_requireAssessed cX5_requireAssessed 3 none
abbrev wX5_requireReturn : Cond := Cond.code yX5_requireReturn cX5_requireReturn 2 none
abbrev wX5_requireTaxpayer : Cond := Cond.code yX5_requireTaxpayer cX5_requireTaxpayer 1 none
abbrev wX5_requireTable : Cond := Cond.code yX5_requireTable cX5_requireTable 1 none
abbrev wX5_requireLine : Cond := Cond.code yX5_requireLine cX5_requireLine 1 none
abbrev wX5_posting : Cond := Cond.code yX5_posting cX5_posting 5 (some .long)
abbrev wX5_balance : Cond := Cond.code yX5_balance cX5_balance 2 (some .long)
abbrev wX5_pass : Cond := Cond.code yX5_pass cX5_pass 10 (some .int)
abbrev wX5_interest : Cond := Cond.code yX5_interest cX5_interest 3 (some .int)
abbrev wX5_pay : Cond := Cond.code yX5_pay cX5_pay 4 (some .long)
abbrev wX5_share : Cond := Cond.code yX5_share cX5_share 5 (some .double)
abbrev wX5_value : Cond := Cond.code yX5_value cX5_value 4 (some .long)
abbrev wX5_assess : Cond := Cond.code yX5_assess cX5_assess 7 (some .long)
abbrev wX5_file : Cond := Cond.code yX5_file cX5_file 7 (some .int)
abbrev wX5_order : Cond := Cond.code yX5_order cX5_order 2 (some .int)
abbrev wX5_reset : Cond := Cond.code yX5_reset cX5_reset 5 (some .int)
abbrev wX5_bracket : Cond := Cond.code yX5_bracket cX5_bracket 5 (some .int)
abbrev wX5_total : Cond := Cond.code yX5_total cX5_total 3 (some .int)
abbrev wX5_input : Cond := Cond.code yX5_input cX5_input 3 (some .boolean)
abbrev wX5_define : Cond := Cond.code yX5_define cX5_define 2 (some .int)
abbrev wX5_clear : Cond := Cond.code yX5_clear cX5_clear 2 (some .int)
abbrev wX5_type : Cond := Cond.code yX5_type cX5_type 2 (some .boolean)
abbrev wX4_copy : Cond := Cond.code yX4_copy cX4_copy 2 none
abbrev wX4_append : Cond := Cond.code yX4_append cX4_append 2 none
abbrev wX4_isFull : Cond := Cond.code yX4_isFull cX4_isFull 1 (some .boolean)
abbrev wX3_rounded : Cond := Cond.code yX3_rounded cX3_rounded 8 (some .long)
abbrev wX3_makeOf : Cond := Cond.code yX3_makeOf cX3_makeOf 8 (some .long)
abbrev wX3_append : Cond := Cond.code yX3_append cX3_append 3 none
abbrev wX3_allowsBeginning : Cond := Cond.code yX3_allowsBeginning cX3_allowsBeginning 2 (some .boolean)
abbrev wX3_isFull : Cond := Cond.code yX3_isFull cX3_isFull 1 (some .boolean)
abbrev wX2_keep : Cond := Cond.code yX2_keep cX2_keep 4 none
abbrev wX1_isDigit : Cond := Cond.code yX1_isDigit cX1_isDigit 1 (some .boolean)
abbrev wX1_checked : Cond := Cond.code yX1_checked cX1_checked 4 (some .long)
abbrev wX1_refuse : Cond := Cond.code yX1_refuse cX1_refuse 1 (some .long)
abbrev wX1_expect : Cond := Cond.code yX1_expect cX1_expect 2 none
abbrev wX1_take : Cond := Cond.code yX1_take cX1_take 2 (some .boolean)
abbrev wX1_next : Cond := Cond.code yX1_next cX1_next 1 (some .char)
abbrev wX1_readTable : Cond := Cond.code yX1_readTable cX1_readTable 5 (some .long)
abbrev wX1_readOneOfTwo : Cond := Cond.code yX1_readOneOfTwo cX1_readOneOfTwo 9 (some .long)
abbrev wX1_readInBrackets : Cond := Cond.code yX1_readInBrackets cX1_readInBrackets 6 (some .long)
abbrev wX1_readNumber : Cond := Cond.code yX1_readNumber cX1_readNumber 5 (some .long)
abbrev wX1_readName : Cond := Cond.code yX1_readName cX1_readName 2 (some .long)
abbrev wX1_readUnit : Cond := Cond.code yX1_readUnit cX1_readUnit 5 (some .long)
abbrev wX1_readPart : Cond := Cond.code yX1_readPart cX1_readPart 12 (some .long)
abbrev wX1_readSum : Cond := Cond.code yX1_readSum cX1_readSum 7 (some .long)
abbrev wX1_readFormula : Cond := Cond.code yX1_readFormula cX1_readFormula 14 (some .long)
abbrev wX1_begin : Cond := Cond.code yX1_begin cX1_begin 4 none
abbrev wX1_work : Cond := Cond.code yX1_work cX1_work 4 (some .long)
abbrev wX1_isFormula : Cond := Cond.code yX1_isFormula cX1_isFormula 2 (some .boolean)
abbrev wX0_interestFor : Cond := Cond.code yX0_interestFor cX0_interestFor 4 (some .long)
abbrev wX0_post : Cond := Cond.code yX0_post cX0_post 5 none
abbrev wX0_isFull : Cond := Cond.code yX0_isFull cX0_isFull 1 (some .boolean)
theorem uw_0 : ∀ w ∈ u_ws RX0 TX0 5, w ∈ WW := by decide +kernel
theorem uw_1 : ∀ w ∈ u_ws RX1 TX1 9, w ∈ WW := by decide +kernel
theorem uw_2 : ∀ w ∈ u_ws RX2 TX2 4, w ∈ WW := by decide +kernel
theorem uw_3 : ∀ w ∈ u_ws RX3 TX3 4, w ∈ WW := by decide +kernel
theorem uw_4 : ∀ w ∈ u_ws RX4 TX4 2, w ∈ WW := by decide +kernel
theorem uw_5 : ∀ w ∈ u_ws RX5 TX5 11, w ∈ WW := by decide +kernel
theorem uw_6 : ∀ w ∈ u_ws RX6 TX6 34, w ∈ WW := by decide +kernel
theorem fl_X4_9 : FL RX4 9 4 0 := ⟨(RX4, TX4, 2), rfl, by decide, (inW 82 (by decide +kernel) (by decide +kernel)), uw_4⟩
theorem fl_X1_137 : FL RX1 137 4 0 := ⟨(RX4, TX4, 2), rfl, by decide, (inW 83 (by decide +kernel) (by decide +kernel)), uw_4⟩
theorem fl_X4_15 : FL RX4 15 4 1 := ⟨(RX4, TX4, 2), rfl, by decide, (inW 84 (by decide +kernel) (by decide +kernel)), uw_4⟩
theorem fp_X4_15 : FP RX4 15 4 1 .int := ⟨(RX4, TX4, 2), rfl, by decide, (inW 84 (by decide +kernel) (by decide +kernel)), uw_4, rfl, by decide +kernel, ⟨tyX4, tyX4_ok⟩, nmX4⟩
theorem fl_X1_57 : FL RX1 57 4 1 := ⟨(RX4, TX4, 2), rfl, by decide, (inW 85 (by decide +kernel) (by decide +kernel)), uw_4⟩
theorem fp_X1_57 : FP RX1 57 4 1 .int := ⟨(RX4, TX4, 2), rfl, by decide, (inW 85 (by decide +kernel) (by decide +kernel)), uw_4, rfl, by decide +kernel, ⟨tyX4, tyX4_ok⟩, nmX4⟩
theorem fl_X5_78 : FL RX5 78 4 1 := ⟨(RX4, TX4, 2), rfl, by decide, (inW 86 (by decide +kernel) (by decide +kernel)), uw_4⟩
theorem fp_X5_78 : FP RX5 78 4 1 .int := ⟨(RX4, TX4, 2), rfl, by decide, (inW 86 (by decide +kernel) (by decide +kernel)), uw_4, rfl, by decide +kernel, ⟨tyX4, tyX4_ok⟩, nmX4⟩
theorem fl_X3_9 : FL RX3 9 3 0 := ⟨(RX3, TX3, 4), rfl, by decide, (inW 113 (by decide +kernel) (by decide +kernel)), uw_3⟩
theorem fl_X3_13 : FL RX3 13 3 1 := ⟨(RX3, TX3, 4), rfl, by decide, (inW 114 (by decide +kernel) (by decide +kernel)), uw_3⟩
theorem fl_X3_16 : FL RX3 16 3 2 := ⟨(RX3, TX3, 4), rfl, by decide, (inW 115 (by decide +kernel) (by decide +kernel)), uw_3⟩
theorem fp_X3_16 : FP RX3 16 3 2 .int := ⟨(RX3, TX3, 4), rfl, by decide, (inW 115 (by decide +kernel) (by decide +kernel)), uw_3, rfl, by decide +kernel, ⟨tyX3, tyX3_ok⟩, nmX3⟩
theorem fl_X5_135 : FL RX5 135 3 2 := ⟨(RX3, TX3, 4), rfl, by decide, (inW 116 (by decide +kernel) (by decide +kernel)), uw_3⟩
theorem fp_X5_135 : FP RX5 135 3 2 .int := ⟨(RX3, TX3, 4), rfl, by decide, (inW 116 (by decide +kernel) (by decide +kernel)), uw_3, rfl, by decide +kernel, ⟨tyX3, tyX3_ok⟩, nmX3⟩
theorem fl_X3_20 : FL RX3 20 3 3 := ⟨(RX3, TX3, 4), rfl, by decide, (inW 117 (by decide +kernel) (by decide +kernel)), uw_3⟩
theorem fp_X3_20 : FP RX3 20 3 3 .int := ⟨(RX3, TX3, 4), rfl, by decide, (inW 117 (by decide +kernel) (by decide +kernel)), uw_3, rfl, by decide +kernel, ⟨tyX3, tyX3_ok⟩, nmX3⟩
theorem fl_X5_140 : FL RX5 140 3 3 := ⟨(RX3, TX3, 4), rfl, by decide, (inW 118 (by decide +kernel) (by decide +kernel)), uw_3⟩
theorem fp_X5_140 : FP RX5 140 3 3 .int := ⟨(RX3, TX3, 4), rfl, by decide, (inW 118 (by decide +kernel) (by decide +kernel)), uw_3, rfl, by decide +kernel, ⟨tyX3, tyX3_ok⟩, nmX3⟩
theorem fl_X1_11 : FL RX1 11 1 0 := ⟨(RX1, TX1, 9), rfl, by decide, (inW 130 (by decide +kernel) (by decide +kernel)), uw_1⟩
theorem fl_X5_115 : FL RX5 115 1 0 := ⟨(RX1, TX1, 9), rfl, by decide, (inW 131 (by decide +kernel) (by decide +kernel)), uw_1⟩
theorem fl_X1_17 : FL RX1 17 1 1 := ⟨(RX1, TX1, 9), rfl, by decide, (inW 132 (by decide +kernel) (by decide +kernel)), uw_1⟩
theorem fl_X1_24 : FL RX1 24 1 2 := ⟨(RX1, TX1, 9), rfl, by decide, (inW 133 (by decide +kernel) (by decide +kernel)), uw_1⟩
theorem fp_X1_24 : FP RX1 24 1 2 (.object "FormOffice$Text") := ⟨(RX1, TX1, 9), rfl, by decide, (inW 133 (by decide +kernel) (by decide +kernel)), uw_1, rfl, by decide +kernel, ⟨tyX1, tyX1_ok⟩, nmX1⟩
theorem fl_X1_28 : FL RX1 28 1 3 := ⟨(RX1, TX1, 9), rfl, by decide, (inW 134 (by decide +kernel) (by decide +kernel)), uw_1⟩
theorem fp_X1_28 : FP RX1 28 1 3 .int := ⟨(RX1, TX1, 9), rfl, by decide, (inW 134 (by decide +kernel) (by decide +kernel)), uw_1, rfl, by decide +kernel, ⟨tyX1, tyX1_ok⟩, nmX1⟩
theorem fl_X1_32 : FL RX1 32 1 4 := ⟨(RX1, TX1, 9), rfl, by decide, (inW 135 (by decide +kernel) (by decide +kernel)), uw_1⟩
theorem fp_X1_32 : FP RX1 32 1 4 .boolean := ⟨(RX1, TX1, 9), rfl, by decide, (inW 135 (by decide +kernel) (by decide +kernel)), uw_1, rfl, by decide +kernel, ⟨tyX1, tyX1_ok⟩, nmX1⟩
theorem fl_X1_36 : FL RX1 36 1 5 := ⟨(RX1, TX1, 9), rfl, by decide, (inW 136 (by decide +kernel) (by decide +kernel)), uw_1⟩
theorem fp_X1_36 : FP RX1 36 1 5 (.array .long) := ⟨(RX1, TX1, 9), rfl, by decide, (inW 136 (by decide +kernel) (by decide +kernel)), uw_1, rfl, by decide +kernel, ⟨tyX1, tyX1_ok⟩, nmX1⟩
theorem fl_X1_39 : FL RX1 39 1 6 := ⟨(RX1, TX1, 9), rfl, by decide, (inW 137 (by decide +kernel) (by decide +kernel)), uw_1⟩
theorem fp_X1_39 : FP RX1 39 1 6 (.array .long) := ⟨(RX1, TX1, 9), rfl, by decide, (inW 137 (by decide +kernel) (by decide +kernel)), uw_1, rfl, by decide +kernel, ⟨tyX1, tyX1_ok⟩, nmX1⟩
theorem fl_X1_42 : FL RX1 42 1 7 := ⟨(RX1, TX1, 9), rfl, by decide, (inW 138 (by decide +kernel) (by decide +kernel)), uw_1⟩
theorem fp_X1_42 : FP RX1 42 1 7 .int := ⟨(RX1, TX1, 9), rfl, by decide, (inW 138 (by decide +kernel) (by decide +kernel)), uw_1, rfl, by decide +kernel, ⟨tyX1, tyX1_ok⟩, nmX1⟩
theorem fl_X5_100 : FL RX5 100 1 7 := ⟨(RX1, TX1, 9), rfl, by decide, (inW 139 (by decide +kernel) (by decide +kernel)), uw_1⟩
theorem fp_X5_100 : FP RX5 100 1 7 .int := ⟨(RX1, TX1, 9), rfl, by decide, (inW 139 (by decide +kernel) (by decide +kernel)), uw_1, rfl, by decide +kernel, ⟨tyX1, tyX1_ok⟩, nmX1⟩
theorem fl_X1_45 : FL RX1 45 1 8 := ⟨(RX1, TX1, 9), rfl, by decide, (inW 140 (by decide +kernel) (by decide +kernel)), uw_1⟩
theorem fp_X1_45 : FP RX1 45 1 8 .boolean := ⟨(RX1, TX1, 9), rfl, by decide, (inW 140 (by decide +kernel) (by decide +kernel)), uw_1, rfl, by decide +kernel, ⟨tyX1, tyX1_ok⟩, nmX1⟩
theorem fl_X5_251 : FL RX5 251 1 8 := ⟨(RX1, TX1, 9), rfl, by decide, (inW 141 (by decide +kernel) (by decide +kernel)), uw_1⟩
theorem fp_X5_251 : FP RX5 251 1 8 .boolean := ⟨(RX1, TX1, 9), rfl, by decide, (inW 141 (by decide +kernel) (by decide +kernel)), uw_1, rfl, by decide +kernel, ⟨tyX1, tyX1_ok⟩, nmX1⟩
theorem fl_X2_9 : FL RX2 9 2 0 := ⟨(RX2, TX2, 4), rfl, by decide, (inW 166 (by decide +kernel) (by decide +kernel)), uw_2⟩
theorem fl_X5_162 : FL RX5 162 2 0 := ⟨(RX2, TX2, 4), rfl, by decide, (inW 167 (by decide +kernel) (by decide +kernel)), uw_2⟩
theorem fl_X2_15 : FL RX2 15 2 1 := ⟨(RX2, TX2, 4), rfl, by decide, (inW 168 (by decide +kernel) (by decide +kernel)), uw_2⟩
theorem fl_X5_168 : FL RX5 168 2 1 := ⟨(RX2, TX2, 4), rfl, by decide, (inW 169 (by decide +kernel) (by decide +kernel)), uw_2⟩
theorem fl_X2_19 : FL RX2 19 2 2 := ⟨(RX2, TX2, 4), rfl, by decide, (inW 170 (by decide +kernel) (by decide +kernel)), uw_2⟩
theorem fp_X2_19 : FP RX2 19 2 2 .long := ⟨(RX2, TX2, 4), rfl, by decide, (inW 170 (by decide +kernel) (by decide +kernel)), uw_2, rfl, by decide +kernel, ⟨tyX2, tyX2_ok⟩, nmX2⟩
theorem fl_X5_180 : FL RX5 180 2 2 := ⟨(RX2, TX2, 4), rfl, by decide, (inW 171 (by decide +kernel) (by decide +kernel)), uw_2⟩
theorem fp_X5_180 : FP RX5 180 2 2 .long := ⟨(RX2, TX2, 4), rfl, by decide, (inW 171 (by decide +kernel) (by decide +kernel)), uw_2, rfl, by decide +kernel, ⟨tyX2, tyX2_ok⟩, nmX2⟩
theorem fl_X2_23 : FL RX2 23 2 3 := ⟨(RX2, TX2, 4), rfl, by decide, (inW 172 (by decide +kernel) (by decide +kernel)), uw_2⟩
theorem fp_X2_23 : FP RX2 23 2 3 .boolean := ⟨(RX2, TX2, 4), rfl, by decide, (inW 172 (by decide +kernel) (by decide +kernel)), uw_2, rfl, by decide +kernel, ⟨tyX2, tyX2_ok⟩, nmX2⟩
theorem fl_X5_238 : FL RX5 238 2 3 := ⟨(RX2, TX2, 4), rfl, by decide, (inW 173 (by decide +kernel) (by decide +kernel)), uw_2⟩
theorem fp_X5_238 : FP RX5 238 2 3 .boolean := ⟨(RX2, TX2, 4), rfl, by decide, (inW 173 (by decide +kernel) (by decide +kernel)), uw_2, rfl, by decide +kernel, ⟨tyX2, tyX2_ok⟩, nmX2⟩
theorem fl_X0_9 : FL RX0 9 0 0 := ⟨(RX0, TX0, 5), rfl, by decide, (inW 188 (by decide +kernel) (by decide +kernel)), uw_0⟩
theorem fl_X5_218 : FL RX5 218 0 0 := ⟨(RX0, TX0, 5), rfl, by decide, (inW 189 (by decide +kernel) (by decide +kernel)), uw_0⟩
theorem fl_X0_13 : FL RX0 13 0 1 := ⟨(RX0, TX0, 5), rfl, by decide, (inW 190 (by decide +kernel) (by decide +kernel)), uw_0⟩
theorem fl_X5_221 : FL RX5 221 0 1 := ⟨(RX0, TX0, 5), rfl, by decide, (inW 191 (by decide +kernel) (by decide +kernel)), uw_0⟩
theorem fl_X0_16 : FL RX0 16 0 2 := ⟨(RX0, TX0, 5), rfl, by decide, (inW 192 (by decide +kernel) (by decide +kernel)), uw_0⟩
theorem fl_X5_224 : FL RX5 224 0 2 := ⟨(RX0, TX0, 5), rfl, by decide, (inW 193 (by decide +kernel) (by decide +kernel)), uw_0⟩
theorem fl_X0_20 : FL RX0 20 0 3 := ⟨(RX0, TX0, 5), rfl, by decide, (inW 194 (by decide +kernel) (by decide +kernel)), uw_0⟩
theorem fp_X0_20 : FP RX0 20 0 3 .int := ⟨(RX0, TX0, 5), rfl, by decide, (inW 194 (by decide +kernel) (by decide +kernel)), uw_0, rfl, by decide +kernel, ⟨tyX0, tyX0_ok⟩, nmX0⟩
theorem fl_X5_215 : FL RX5 215 0 3 := ⟨(RX0, TX0, 5), rfl, by decide, (inW 195 (by decide +kernel) (by decide +kernel)), uw_0⟩
theorem fp_X5_215 : FP RX5 215 0 3 .int := ⟨(RX0, TX0, 5), rfl, by decide, (inW 195 (by decide +kernel) (by decide +kernel)), uw_0, rfl, by decide +kernel, ⟨tyX0, tyX0_ok⟩, nmX0⟩
theorem fl_X0_24 : FL RX0 24 0 4 := ⟨(RX0, TX0, 5), rfl, by decide, (inW 196 (by decide +kernel) (by decide +kernel)), uw_0⟩
theorem fp_X0_24 : FP RX0 24 0 4 .long := ⟨(RX0, TX0, 5), rfl, by decide, (inW 196 (by decide +kernel) (by decide +kernel)), uw_0, rfl, by decide +kernel, ⟨tyX0, tyX0_ok⟩, nmX0⟩
theorem fl_X5_202 : FL RX5 202 0 4 := ⟨(RX0, TX0, 5), rfl, by decide, (inW 197 (by decide +kernel) (by decide +kernel)), uw_0⟩
theorem fp_X5_202 : FP RX5 202 0 4 .long := ⟨(RX0, TX0, 5), rfl, by decide, (inW 197 (by decide +kernel) (by decide +kernel)), uw_0, rfl, by decide +kernel, ⟨tyX0, tyX0_ok⟩, nmX0⟩
theorem fl_X5_10 : FL RX5 10 5 0 := ⟨(RX5, TX5, 11), rfl, by decide, (inW 209 (by decide +kernel) (by decide +kernel)), uw_5⟩
theorem fl_X5_16 : FL RX5 16 5 1 := ⟨(RX5, TX5, 11), rfl, by decide, (inW 210 (by decide +kernel) (by decide +kernel)), uw_5⟩
theorem fl_X5_20 : FL RX5 20 5 2 := ⟨(RX5, TX5, 11), rfl, by decide, (inW 211 (by decide +kernel) (by decide +kernel)), uw_5⟩
theorem fl_X5_26 : FL RX5 26 5 3 := ⟨(RX5, TX5, 11), rfl, by decide, (inW 212 (by decide +kernel) (by decide +kernel)), uw_5⟩
theorem fl_X5_32 : FL RX5 32 5 4 := ⟨(RX5, TX5, 11), rfl, by decide, (inW 213 (by decide +kernel) (by decide +kernel)), uw_5⟩
theorem fl_X5_39 : FL RX5 39 5 5 := ⟨(RX5, TX5, 11), rfl, by decide, (inW 214 (by decide +kernel) (by decide +kernel)), uw_5⟩
theorem fl_X5_43 : FL RX5 43 5 6 := ⟨(RX5, TX5, 11), rfl, by decide, (inW 215 (by decide +kernel) (by decide +kernel)), uw_5⟩
theorem fl_X5_46 : FL RX5 46 5 7 := ⟨(RX5, TX5, 11), rfl, by decide, (inW 216 (by decide +kernel) (by decide +kernel)), uw_5⟩
theorem fl_X5_50 : FL RX5 50 5 8 := ⟨(RX5, TX5, 11), rfl, by decide, (inW 217 (by decide +kernel) (by decide +kernel)), uw_5⟩
theorem fl_X5_53 : FL RX5 53 5 9 := ⟨(RX5, TX5, 11), rfl, by decide, (inW 218 (by decide +kernel) (by decide +kernel)), uw_5⟩
theorem fp_X5_53 : FP RX5 53 5 9 .int := ⟨(RX5, TX5, 11), rfl, by decide, (inW 218 (by decide +kernel) (by decide +kernel)), uw_5, rfl, by decide +kernel, ⟨tyX5, tyX5_ok⟩, nmX5⟩
theorem fl_X5_57 : FL RX5 57 5 10 := ⟨(RX5, TX5, 11), rfl, by decide, (inW 219 (by decide +kernel) (by decide +kernel)), uw_5⟩
theorem fp_X5_57 : FP RX5 57 5 10 .int := ⟨(RX5, TX5, 11), rfl, by decide, (inW 219 (by decide +kernel) (by decide +kernel)), uw_5, rfl, by decide +kernel, ⟨tyX5, tyX5_ok⟩, nmX5⟩
theorem ki_J2_227 : Cond.constant RJ2 227 (65536) ∈ WW := (inW 290 (by decide +kernel) (by decide +kernel))
theorem ki_J11_110 : Cond.constant RJ11 110 (55232) ∈ WW := (inW 329 (by decide +kernel) (by decide +kernel))
theorem ki_J11_76 : Cond.constant RJ11 76 (56320) ∈ WW := (inW 333 (by decide +kernel) (by decide +kernel))
theorem kl_X1_125 : Cond.constantLong RX1 125 (10) ∈ WW := (inW 474 (by decide +kernel) (by decide +kernel))
theorem kl_X3_34 : Cond.constantLong RX3 34 (1000) ∈ WW := (inW 506 (by decide +kernel) (by decide +kernel))
theorem kl_X3_36 : Cond.constantLong RX3 36 (500) ∈ WW := (inW 507 (by decide +kernel) (by decide +kernel))
theorem kl_X1_89 : Cond.constantLong RX1 89 (100) ∈ WW := (inW 511 (by decide +kernel) (by decide +kernel))
theorem kl_X1_100 : Cond.constantLong RX1 100 (50) ∈ WW := (inW 518 (by decide +kernel) (by decide +kernel))
theorem kl_X1_141 : Cond.constantLong RX1 141 (-1000000000000) ∈ WW := (inW 524 (by decide +kernel) (by decide +kernel))
theorem kl_X1_143 : Cond.constantLong RX1 143 (1000000000000) ∈ WW := (inW 525 (by decide +kernel) (by decide +kernel))
theorem ki_J6_265 : Cond.constant RJ6 265 (1431655765) ∈ WW := (inW 552 (by decide +kernel) (by decide +kernel))
theorem ki_J6_266 : Cond.constant RJ6 266 (858993459) ∈ WW := (inW 553 (by decide +kernel) (by decide +kernel))
theorem ki_J6_267 : Cond.constant RJ6 267 (252645135) ∈ WW := (inW 554 (by decide +kernel) (by decide +kernel))
theorem ki_X3_23 : Cond.constant RX3 23 (1000000000) ∈ WW := (inW 589 (by decide +kernel) (by decide +kernel))
theorem ki_X5_154 : Cond.constant RX5 154 (-1000000000) ∈ WW := (inW 655 (by decide +kernel) (by decide +kernel))
theorem ki_X5_155 : Cond.constant RX5 155 (1000000000) ∈ WW := (inW 656 (by decide +kernel) (by decide +kernel))
theorem kl_X0_28 : Cond.constantLong RX0 28 (36500) ∈ WW := (inW 756 (by decide +kernel) (by decide +kernel))
theorem fl_X6_91 : FL RX6 91 6 0 := ⟨(RX6, TX6, 34), rfl, by decide, (inW 779 (by decide +kernel) (by decide +kernel)), uw_6⟩
theorem fp_X6_91 : FP RX6 91 6 0 .int := ⟨(RX6, TX6, 34), rfl, by decide, (inW 779 (by decide +kernel) (by decide +kernel)), uw_6, rfl, by decide +kernel, ⟨tyX6, tyX6_ok⟩, nmX6⟩
theorem fl_X6_7 : FL RX6 7 6 1 := ⟨(RX6, TX6, 34), rfl, by decide, (inW 780 (by decide +kernel) (by decide +kernel)), uw_6⟩
theorem fl_X6_101 : FL RX6 101 6 2 := ⟨(RX6, TX6, 34), rfl, by decide, (inW 781 (by decide +kernel) (by decide +kernel)), uw_6⟩
theorem fp_X6_101 : FP RX6 101 6 2 .int := ⟨(RX6, TX6, 34), rfl, by decide, (inW 781 (by decide +kernel) (by decide +kernel)), uw_6, rfl, by decide +kernel, ⟨tyX6, tyX6_ok⟩, nmX6⟩
theorem fl_X6_13 : FL RX6 13 6 3 := ⟨(RX6, TX6, 34), rfl, by decide, (inW 782 (by decide +kernel) (by decide +kernel)), uw_6⟩
theorem fl_X6_17 : FL RX6 17 6 4 := ⟨(RX6, TX6, 34), rfl, by decide, (inW 783 (by decide +kernel) (by decide +kernel)), uw_6⟩
theorem fl_X6_20 : FL RX6 20 6 5 := ⟨(RX6, TX6, 34), rfl, by decide, (inW 784 (by decide +kernel) (by decide +kernel)), uw_6⟩
theorem fl_X6_23 : FL RX6 23 6 6 := ⟨(RX6, TX6, 34), rfl, by decide, (inW 785 (by decide +kernel) (by decide +kernel)), uw_6⟩
theorem fl_X6_26 : FL RX6 26 6 7 := ⟨(RX6, TX6, 34), rfl, by decide, (inW 786 (by decide +kernel) (by decide +kernel)), uw_6⟩
theorem fl_X6_29 : FL RX6 29 6 8 := ⟨(RX6, TX6, 34), rfl, by decide, (inW 787 (by decide +kernel) (by decide +kernel)), uw_6⟩
theorem fp_X6_29 : FP RX6 29 6 8 .int := ⟨(RX6, TX6, 34), rfl, by decide, (inW 787 (by decide +kernel) (by decide +kernel)), uw_6, rfl, by decide +kernel, ⟨tyX6, tyX6_ok⟩, nmX6⟩
theorem fl_X6_33 : FL RX6 33 6 9 := ⟨(RX6, TX6, 34), rfl, by decide, (inW 788 (by decide +kernel) (by decide +kernel)), uw_6⟩
theorem fl_X6_36 : FL RX6 36 6 10 := ⟨(RX6, TX6, 34), rfl, by decide, (inW 789 (by decide +kernel) (by decide +kernel)), uw_6⟩
theorem fl_X6_39 : FL RX6 39 6 11 := ⟨(RX6, TX6, 34), rfl, by decide, (inW 790 (by decide +kernel) (by decide +kernel)), uw_6⟩
theorem fl_X6_42 : FL RX6 42 6 12 := ⟨(RX6, TX6, 34), rfl, by decide, (inW 791 (by decide +kernel) (by decide +kernel)), uw_6⟩
theorem fl_X6_45 : FL RX6 45 6 13 := ⟨(RX6, TX6, 34), rfl, by decide, (inW 792 (by decide +kernel) (by decide +kernel)), uw_6⟩
theorem fl_X6_48 : FL RX6 48 6 14 := ⟨(RX6, TX6, 34), rfl, by decide, (inW 793 (by decide +kernel) (by decide +kernel)), uw_6⟩
theorem fl_X6_51 : FL RX6 51 6 15 := ⟨(RX6, TX6, 34), rfl, by decide, (inW 794 (by decide +kernel) (by decide +kernel)), uw_6⟩
theorem fl_X6_55 : FL RX6 55 6 16 := ⟨(RX6, TX6, 34), rfl, by decide, (inW 795 (by decide +kernel) (by decide +kernel)), uw_6⟩
theorem fl_X6_221 : FL RX6 221 6 17 := ⟨(RX6, TX6, 34), rfl, by decide, (inW 796 (by decide +kernel) (by decide +kernel)), uw_6⟩
theorem fp_X6_221 : FP RX6 221 6 17 .int := ⟨(RX6, TX6, 34), rfl, by decide, (inW 796 (by decide +kernel) (by decide +kernel)), uw_6, rfl, by decide +kernel, ⟨tyX6, tyX6_ok⟩, nmX6⟩
theorem fl_X6_58 : FL RX6 58 6 18 := ⟨(RX6, TX6, 34), rfl, by decide, (inW 797 (by decide +kernel) (by decide +kernel)), uw_6⟩
theorem fl_X6_61 : FL RX6 61 6 19 := ⟨(RX6, TX6, 34), rfl, by decide, (inW 798 (by decide +kernel) (by decide +kernel)), uw_6⟩
theorem fl_X6_64 : FL RX6 64 6 20 := ⟨(RX6, TX6, 34), rfl, by decide, (inW 799 (by decide +kernel) (by decide +kernel)), uw_6⟩
theorem fl_X6_67 : FL RX6 67 6 21 := ⟨(RX6, TX6, 34), rfl, by decide, (inW 800 (by decide +kernel) (by decide +kernel)), uw_6⟩
theorem fl_X6_110 : FL RX6 110 6 22 := ⟨(RX6, TX6, 34), rfl, by decide, (inW 801 (by decide +kernel) (by decide +kernel)), uw_6⟩
theorem fp_X6_110 : FP RX6 110 6 22 .int := ⟨(RX6, TX6, 34), rfl, by decide, (inW 801 (by decide +kernel) (by decide +kernel)), uw_6, rfl, by decide +kernel, ⟨tyX6, tyX6_ok⟩, nmX6⟩
theorem fl_X6_107 : FL RX6 107 6 23 := ⟨(RX6, TX6, 34), rfl, by decide, (inW 802 (by decide +kernel) (by decide +kernel)), uw_6⟩
theorem fp_X6_107 : FP RX6 107 6 23 .int := ⟨(RX6, TX6, 34), rfl, by decide, (inW 802 (by decide +kernel) (by decide +kernel)), uw_6, rfl, by decide +kernel, ⟨tyX6, tyX6_ok⟩, nmX6⟩
theorem fl_X6_70 : FL RX6 70 6 24 := ⟨(RX6, TX6, 34), rfl, by decide, (inW 803 (by decide +kernel) (by decide +kernel)), uw_6⟩
theorem fl_X6_73 : FL RX6 73 6 25 := ⟨(RX6, TX6, 34), rfl, by decide, (inW 804 (by decide +kernel) (by decide +kernel)), uw_6⟩
theorem fl_X6_104 : FL RX6 104 6 26 := ⟨(RX6, TX6, 34), rfl, by decide, (inW 805 (by decide +kernel) (by decide +kernel)), uw_6⟩
theorem fp_X6_104 : FP RX6 104 6 26 .int := ⟨(RX6, TX6, 34), rfl, by decide, (inW 805 (by decide +kernel) (by decide +kernel)), uw_6, rfl, by decide +kernel, ⟨tyX6, tyX6_ok⟩, nmX6⟩
theorem fl_X6_121 : FL RX6 121 6 27 := ⟨(RX6, TX6, 34), rfl, by decide, (inW 806 (by decide +kernel) (by decide +kernel)), uw_6⟩
theorem fp_X6_121 : FP RX6 121 6 27 .int := ⟨(RX6, TX6, 34), rfl, by decide, (inW 806 (by decide +kernel) (by decide +kernel)), uw_6, rfl, by decide +kernel, ⟨tyX6, tyX6_ok⟩, nmX6⟩
theorem fl_X6_76 : FL RX6 76 6 28 := ⟨(RX6, TX6, 34), rfl, by decide, (inW 807 (by decide +kernel) (by decide +kernel)), uw_6⟩
theorem fl_X6_79 : FL RX6 79 6 29 := ⟨(RX6, TX6, 34), rfl, by decide, (inW 808 (by decide +kernel) (by decide +kernel)), uw_6⟩
theorem fl_X6_82 : FL RX6 82 6 30 := ⟨(RX6, TX6, 34), rfl, by decide, (inW 809 (by decide +kernel) (by decide +kernel)), uw_6⟩
theorem fl_X6_85 : FL RX6 85 6 31 := ⟨(RX6, TX6, 34), rfl, by decide, (inW 810 (by decide +kernel) (by decide +kernel)), uw_6⟩
theorem fl_X6_184 : FL RX6 184 6 32 := ⟨(RX6, TX6, 34), rfl, by decide, (inW 811 (by decide +kernel) (by decide +kernel)), uw_6⟩
theorem fp_X6_184 : FP RX6 184 6 32 .int := ⟨(RX6, TX6, 34), rfl, by decide, (inW 811 (by decide +kernel) (by decide +kernel)), uw_6, rfl, by decide +kernel, ⟨tyX6, tyX6_ok⟩, nmX6⟩
theorem fl_X6_88 : FL RX6 88 6 33 := ⟨(RX6, TX6, 34), rfl, by decide, (inW 812 (by decide +kernel) (by decide +kernel)), uw_6⟩
theorem kl_X6_161 : Cond.constantLong RX6 161 (11) ∈ WW := (inW 905 (by decide +kernel) (by decide +kernel))
theorem kl_X6_135 : Cond.constantLong RX6 135 (2) ∈ WW := (inW 941 (by decide +kernel) (by decide +kernel))
theorem kl_X6_169 : Cond.constantLong RX6 169 (1000000000) ∈ WW := (inW 974 (by decide +kernel) (by decide +kernel))
theorem kl_X6_171 : Cond.constantLong RX6 171 (1000) ∈ WW := (inW 975 (by decide +kernel) (by decide +kernel))
theorem kl_X6_180 : Cond.constantLong RX6 180 (3) ∈ WW := (inW 992 (by decide +kernel) (by decide +kernel))
theorem kl_X6_182 : Cond.constantLong RX6 182 (-1000000000) ∈ WW := (inW 993 (by decide +kernel) (by decide +kernel))
theorem kl_X6_199 : Cond.constantLong RX6 199 (100) ∈ WW := (inW 1017 (by decide +kernel) (by decide +kernel))
theorem kl_X6_201 : Cond.constantLong RX6 201 (-1000000000000) ∈ WW := (inW 1018 (by decide +kernel) (by decide +kernel))
theorem kl_X6_203 : Cond.constantLong RX6 203 (1000000000000) ∈ WW := (inW 1019 (by decide +kernel) (by decide +kernel))
theorem kl_X6_219 : Cond.constantLong RX6 219 (30) ∈ WW := (inW 1048 (by decide +kernel) (by decide +kernel))
theorem kl_X6_224 : Cond.constantLong RX6 224 (36500) ∈ WW := (inW 1057 (by decide +kernel) (by decide +kernel))
theorem cv_L_75 : CV RL 75 5 yX5_type (Cond.code yX5_type cX5_type 2 (some .boolean)) 1 := ⟨cX5_type, 2, (some .boolean), (RX5, TX5, 11), rfl, by decide, rfl, rfl, ⟨by decide +kernel, by decide +kernel, by decide +kernel⟩, (inW 243 (by decide +kernel) (by decide +kernel)), (inW 244 (by decide +kernel) (by decide +kernel)), (inW 245 (by decide +kernel) (by decide +kernel)), (inW 46 (by decide +kernel) (by decide +kernel)), (inW 246 (by decide +kernel) (by decide +kernel))⟩
theorem cv_X5_70 : CV RX5 70 4 yX4_isFull (Cond.code yX4_isFull cX4_isFull 1 (some .boolean)) 0 := ⟨cX4_isFull, 1, (some .boolean), (RX4, TX4, 2), rfl, by decide, rfl, rfl, ⟨by decide +kernel, by decide +kernel, by decide +kernel⟩, (inW 334 (by decide +kernel) (by decide +kernel)), (inW 335 (by decide +kernel) (by decide +kernel)), (inW 336 (by decide +kernel) (by decide +kernel)), (inW 47 (by decide +kernel) (by decide +kernel)), (inW 337 (by decide +kernel) (by decide +kernel))⟩
theorem cv_X5_74 : CV RX5 74 4 yX4_append (Cond.code yX4_append cX4_append 2 none) 1 := ⟨cX4_append, 2, none, (RX4, TX4, 2), rfl, by decide, rfl, rfl, ⟨by decide +kernel, by decide +kernel, by decide +kernel⟩, (inW 338 (by decide +kernel) (by decide +kernel)), (inW 339 (by decide +kernel) (by decide +kernel)), (inW 340 (by decide +kernel) (by decide +kernel)), (inW 47 (by decide +kernel) (by decide +kernel)), (inW 341 (by decide +kernel) (by decide +kernel))⟩
theorem cv_L_80 : CV RL 80 5 yX5_clear (Cond.code yX5_clear cX5_clear 2 (some .int)) 0 := ⟨cX5_clear, 2, (some .int), (RX5, TX5, 11), rfl, by decide, rfl, rfl, ⟨by decide +kernel, by decide +kernel, by decide +kernel⟩, (inW 343 (by decide +kernel) (by decide +kernel)), (inW 344 (by decide +kernel) (by decide +kernel)), (inW 345 (by decide +kernel) (by decide +kernel)), (inW 46 (by decide +kernel) (by decide +kernel)), (inW 346 (by decide +kernel) (by decide +kernel))⟩
theorem cv_L_7 : CV RL 7 5 yX5_define (Cond.code yX5_define cX5_define 2 (some .int)) 1 := ⟨cX5_define, 2, (some .int), (RX5, TX5, 11), rfl, by decide, rfl, rfl, ⟨by decide +kernel, by decide +kernel, by decide +kernel⟩, (inW 352 (by decide +kernel) (by decide +kernel)), (inW 353 (by decide +kernel) (by decide +kernel)), (inW 354 (by decide +kernel) (by decide +kernel)), (inW 46 (by decide +kernel) (by decide +kernel)), (inW 355 (by decide +kernel) (by decide +kernel))⟩
theorem cs_X5_81 : CS RX5 81 yX5_requireLine (Cond.code yX5_requireLine cX5_requireLine 1 none) 1 := ⟨cX5_requireLine, 1, none, rfl, by decide, ⟨by decide +kernel, by decide +kernel, by decide +kernel⟩, (inW 356 (by decide +kernel) (by decide +kernel)), (inW 357 (by decide +kernel) (by decide +kernel)), (inW 46 (by decide +kernel) (by decide +kernel)), (inW 358 (by decide +kernel) (by decide +kernel))⟩
theorem cv_X5_85 : CV RX5 85 1 yX1_isFormula (Cond.code yX1_isFormula cX1_isFormula 2 (some .boolean)) 1 := ⟨cX1_isFormula, 2, (some .boolean), (RX1, TX1, 9), rfl, by decide, rfl, rfl, ⟨by decide +kernel, by decide +kernel, by decide +kernel⟩, (inW 427 (by decide +kernel) (by decide +kernel)), (inW 428 (by decide +kernel) (by decide +kernel)), (inW 429 (by decide +kernel) (by decide +kernel)), (inW 48 (by decide +kernel) (by decide +kernel)), (inW 430 (by decide +kernel) (by decide +kernel))⟩
theorem cv_X1_49 : CV RX1 49 1 yX1_begin (Cond.code yX1_begin cX1_begin 4 none) 3 := ⟨cX1_begin, 4, none, (RX1, TX1, 9), rfl, by decide, rfl, rfl, ⟨by decide +kernel, by decide +kernel, by decide +kernel⟩, (inW 431 (by decide +kernel) (by decide +kernel)), (inW 433 (by decide +kernel) (by decide +kernel)), (inW 1 (by decide +kernel) (by decide +kernel)), (inW 48 (by decide +kernel) (by decide +kernel)), (inW 434 (by decide +kernel) (by decide +kernel))⟩
theorem cv_X1_53 : CV RX1 53 1 yX1_readFormula (Cond.code yX1_readFormula cX1_readFormula 14 (some .long)) 3 := ⟨cX1_readFormula, 14, (some .long), (RX1, TX1, 9), rfl, by decide, rfl, rfl, ⟨by decide +kernel, by decide +kernel, by decide +kernel⟩, (inW 435 (by decide +kernel) (by decide +kernel)), (inW 437 (by decide +kernel) (by decide +kernel)), (inW 2 (by decide +kernel) (by decide +kernel)), (inW 48 (by decide +kernel) (by decide +kernel)), (inW 438 (by decide +kernel) (by decide +kernel))⟩
theorem cv_X1_60 : CV RX1 60 1 yX1_refuse (Cond.code yX1_refuse cX1_refuse 1 (some .long)) 0 := ⟨cX1_refuse, 1, (some .long), (RX1, TX1, 9), rfl, by decide, rfl, rfl, ⟨by decide +kernel, by decide +kernel, by decide +kernel⟩, (inW 439 (by decide +kernel) (by decide +kernel)), (inW 441 (by decide +kernel) (by decide +kernel)), (inW 3 (by decide +kernel) (by decide +kernel)), (inW 48 (by decide +kernel) (by decide +kernel)), (inW 442 (by decide +kernel) (by decide +kernel))⟩
theorem cv_X1_64 : CV RX1 64 1 yX1_readSum (Cond.code yX1_readSum cX1_readSum 7 (some .long)) 3 := ⟨cX1_readSum, 7, (some .long), (RX1, TX1, 9), rfl, by decide, rfl, rfl, ⟨by decide +kernel, by decide +kernel, by decide +kernel⟩, (inW 443 (by decide +kernel) (by decide +kernel)), (inW 445 (by decide +kernel) (by decide +kernel)), (inW 4 (by decide +kernel) (by decide +kernel)), (inW 48 (by decide +kernel) (by decide +kernel)), (inW 446 (by decide +kernel) (by decide +kernel))⟩
theorem cv_X1_75 : CV RX1 75 1 yX1_readPart (Cond.code yX1_readPart cX1_readPart 12 (some .long)) 3 := ⟨cX1_readPart, 12, (some .long), (RX1, TX1, 9), rfl, by decide, rfl, rfl, ⟨by decide +kernel, by decide +kernel, by decide +kernel⟩, (inW 447 (by decide +kernel) (by decide +kernel)), (inW 449 (by decide +kernel) (by decide +kernel)), (inW 5 (by decide +kernel) (by decide +kernel)), (inW 48 (by decide +kernel) (by decide +kernel)), (inW 450 (by decide +kernel) (by decide +kernel))⟩
theorem cv_X1_82 : CV RX1 82 1 yX1_readUnit (Cond.code yX1_readUnit cX1_readUnit 5 (some .long)) 3 := ⟨cX1_readUnit, 5, (some .long), (RX1, TX1, 9), rfl, by decide, rfl, rfl, ⟨by decide +kernel, by decide +kernel, by decide +kernel⟩, (inW 451 (by decide +kernel) (by decide +kernel)), (inW 453 (by decide +kernel) (by decide +kernel)), (inW 6 (by decide +kernel) (by decide +kernel)), (inW 48 (by decide +kernel) (by decide +kernel)), (inW 454 (by decide +kernel) (by decide +kernel))⟩
theorem cv_X1_106 : CV RX1 106 1 yX1_next (Cond.code yX1_next cX1_next 1 (some .char)) 0 := ⟨cX1_next, 1, (some .char), (RX1, TX1, 9), rfl, by decide, rfl, rfl, ⟨by decide +kernel, by decide +kernel, by decide +kernel⟩, (inW 455 (by decide +kernel) (by decide +kernel)), (inW 457 (by decide +kernel) (by decide +kernel)), (inW 7 (by decide +kernel) (by decide +kernel)), (inW 48 (by decide +kernel) (by decide +kernel)), (inW 458 (by decide +kernel) (by decide +kernel))⟩
theorem cv_X1_110 : CV RX1 110 1 yX1_readName (Cond.code yX1_readName cX1_readName 2 (some .long)) 1 := ⟨cX1_readName, 2, (some .long), (RX1, TX1, 9), rfl, by decide, rfl, rfl, ⟨by decide +kernel, by decide +kernel, by decide +kernel⟩, (inW 459 (by decide +kernel) (by decide +kernel)), (inW 461 (by decide +kernel) (by decide +kernel)), (inW 8 (by decide +kernel) (by decide +kernel)), (inW 48 (by decide +kernel) (by decide +kernel)), (inW 462 (by decide +kernel) (by decide +kernel))⟩
theorem cv_X1_67 : CV RX1 67 1 yX1_take (Cond.code yX1_take cX1_take 2 (some .boolean)) 1 := ⟨cX1_take, 2, (some .boolean), (RX1, TX1, 9), rfl, by decide, rfl, rfl, ⟨by decide +kernel, by decide +kernel, by decide +kernel⟩, (inW 463 (by decide +kernel) (by decide +kernel)), (inW 465 (by decide +kernel) (by decide +kernel)), (inW 9 (by decide +kernel) (by decide +kernel)), (inW 48 (by decide +kernel) (by decide +kernel)), (inW 466 (by decide +kernel) (by decide +kernel))⟩
theorem cs_X1_113 : CS RX1 113 yX1_isDigit (Cond.code yX1_isDigit cX1_isDigit 1 (some .boolean)) 1 := ⟨cX1_isDigit, 1, (some .boolean), rfl, by decide, ⟨by decide +kernel, by decide +kernel, by decide +kernel⟩, (inW 467 (by decide +kernel) (by decide +kernel)), (inW 468 (by decide +kernel) (by decide +kernel)), (inW 48 (by decide +kernel) (by decide +kernel)), (inW 469 (by decide +kernel) (by decide +kernel))⟩
theorem cv_X1_85 : CV RX1 85 1 yX1_readNumber (Cond.code yX1_readNumber cX1_readNumber 5 (some .long)) 1 := ⟨cX1_readNumber, 5, (some .long), (RX1, TX1, 9), rfl, by decide, rfl, rfl, ⟨by decide +kernel, by decide +kernel, by decide +kernel⟩, (inW 470 (by decide +kernel) (by decide +kernel)), (inW 472 (by decide +kernel) (by decide +kernel)), (inW 10 (by decide +kernel) (by decide +kernel)), (inW 48 (by decide +kernel) (by decide +kernel)), (inW 473 (by decide +kernel) (by decide +kernel))⟩
theorem cv_X1_116 : CV RX1 116 1 yX1_readInBrackets (Cond.code yX1_readInBrackets cX1_readInBrackets 6 (some .long)) 3 := ⟨cX1_readInBrackets, 6, (some .long), (RX1, TX1, 9), rfl, by decide, rfl, rfl, ⟨by decide +kernel, by decide +kernel, by decide +kernel⟩, (inW 475 (by decide +kernel) (by decide +kernel)), (inW 477 (by decide +kernel) (by decide +kernel)), (inW 11 (by decide +kernel) (by decide +kernel)), (inW 48 (by decide +kernel) (by decide +kernel)), (inW 478 (by decide +kernel) (by decide +kernel))⟩
theorem cv_X1_71 : CV RX1 71 1 yX1_expect (Cond.code yX1_expect cX1_expect 2 none) 1 := ⟨cX1_expect, 2, none, (RX1, TX1, 9), rfl, by decide, rfl, rfl, ⟨by decide +kernel, by decide +kernel, by decide +kernel⟩, (inW 479 (by decide +kernel) (by decide +kernel)), (inW 481 (by decide +kernel) (by decide +kernel)), (inW 12 (by decide +kernel) (by decide +kernel)), (inW 48 (by decide +kernel) (by decide +kernel)), (inW 482 (by decide +kernel) (by decide +kernel))⟩
theorem cv_X1_119 : CV RX1 119 1 yX1_readOneOfTwo (Cond.code yX1_readOneOfTwo cX1_readOneOfTwo 9 (some .long)) 3 := ⟨cX1_readOneOfTwo, 9, (some .long), (RX1, TX1, 9), rfl, by decide, rfl, rfl, ⟨by decide +kernel, by decide +kernel, by decide +kernel⟩, (inW 483 (by decide +kernel) (by decide +kernel)), (inW 485 (by decide +kernel) (by decide +kernel)), (inW 13 (by decide +kernel) (by decide +kernel)), (inW 48 (by decide +kernel) (by decide +kernel)), (inW 486 (by decide +kernel) (by decide +kernel))⟩
theorem cs_X1_127 : CS RX1 127 yJ9_min_f86c9 (Cond.code yJ9_min_f86c9 cJ9_min_f86c9 4 (some .long)) 2 := ⟨cJ9_min_f86c9, 4, (some .long), rfl, by decide, ⟨by decide +kernel, by decide +kernel, by decide +kernel⟩, (inW 487 (by decide +kernel) (by decide +kernel)), (inW 488 (by decide +kernel) (by decide +kernel)), (inW 55 (by decide +kernel) (by decide +kernel)), (inW 489 (by decide +kernel) (by decide +kernel))⟩
theorem cs_X1_130 : CS RX1 130 yJ9_max_f86c9 (Cond.code yJ9_max_f86c9 cJ9_max_f86c9 4 (some .long)) 2 := ⟨cJ9_max_f86c9, 4, (some .long), rfl, by decide, ⟨by decide +kernel, by decide +kernel, by decide +kernel⟩, (inW 490 (by decide +kernel) (by decide +kernel)), (inW 491 (by decide +kernel) (by decide +kernel)), (inW 55 (by decide +kernel) (by decide +kernel)), (inW 492 (by decide +kernel) (by decide +kernel))⟩
theorem cv_X1_122 : CV RX1 122 1 yX1_readTable (Cond.code yX1_readTable cX1_readTable 5 (some .long)) 3 := ⟨cX1_readTable, 5, (some .long), (RX1, TX1, 9), rfl, by decide, rfl, rfl, ⟨by decide +kernel, by decide +kernel, by decide +kernel⟩, (inW 493 (by decide +kernel) (by decide +kernel)), (inW 495 (by decide +kernel) (by decide +kernel)), (inW 14 (by decide +kernel) (by decide +kernel)), (inW 48 (by decide +kernel) (by decide +kernel)), (inW 496 (by decide +kernel) (by decide +kernel))⟩
theorem cv_X1_133 : CV RX1 133 3 yX3_makeOf (Cond.code yX3_makeOf cX3_makeOf 8 (some .long)) 1 := ⟨cX3_makeOf, 8, (some .long), (RX3, TX3, 4), rfl, by decide, rfl, rfl, ⟨by decide +kernel, by decide +kernel, by decide +kernel⟩, (inW 497 (by decide +kernel) (by decide +kernel)), (inW 498 (by decide +kernel) (by decide +kernel)), (inW 499 (by decide +kernel) (by decide +kernel)), (inW 49 (by decide +kernel) (by decide +kernel)), (inW 500 (by decide +kernel) (by decide +kernel))⟩
theorem cs_X3_24 : CS RX3 24 yJ9_min_f86c9 (Cond.code yJ9_min_f86c9 cJ9_min_f86c9 4 (some .long)) 2 := ⟨cJ9_min_f86c9, 4, (some .long), rfl, by decide, ⟨by decide +kernel, by decide +kernel, by decide +kernel⟩, (inW 501 (by decide +kernel) (by decide +kernel)), (inW 488 (by decide +kernel) (by decide +kernel)), (inW 55 (by decide +kernel) (by decide +kernel)), (inW 489 (by decide +kernel) (by decide +kernel))⟩
theorem cv_X3_30 : CV RX3 30 3 yX3_rounded (Cond.code yX3_rounded cX3_rounded 8 (some .long)) 1 := ⟨cX3_rounded, 8, (some .long), (RX3, TX3, 4), rfl, by decide, rfl, rfl, ⟨by decide +kernel, by decide +kernel, by decide +kernel⟩, (inW 502 (by decide +kernel) (by decide +kernel)), (inW 504 (by decide +kernel) (by decide +kernel)), (inW 15 (by decide +kernel) (by decide +kernel)), (inW 49 (by decide +kernel) (by decide +kernel)), (inW 505 (by decide +kernel) (by decide +kernel))⟩
theorem cs_X1_91 : CS RX1 91 yJ9_floorDiv_f86c9 (Cond.code yJ9_floorDiv_f86c9 cJ9_floorDiv_f86c9 6 (some .long)) 2 := ⟨cJ9_floorDiv_f86c9, 6, (some .long), rfl, by decide, ⟨by decide +kernel, by decide +kernel, by decide +kernel⟩, (inW 512 (by decide +kernel) (by decide +kernel)), (inW 513 (by decide +kernel) (by decide +kernel)), (inW 55 (by decide +kernel) (by decide +kernel)), (inW 514 (by decide +kernel) (by decide +kernel))⟩
theorem cs_X1_97 : CS RX1 97 yJ9_floorMod_f86c9 (Cond.code yJ9_floorMod_f86c9 cJ9_floorMod_f86c9 6 (some .long)) 2 := ⟨cJ9_floorMod_f86c9, 6, (some .long), rfl, by decide, ⟨by decide +kernel, by decide +kernel, by decide +kernel⟩, (inW 515 (by decide +kernel) (by decide +kernel)), (inW 516 (by decide +kernel) (by decide +kernel)), (inW 55 (by decide +kernel) (by decide +kernel)), (inW 517 (by decide +kernel) (by decide +kernel))⟩
theorem cv_X1_78 : CV RX1 78 1 yX1_checked (Cond.code yX1_checked cX1_checked 4 (some .long)) 2 := ⟨cX1_checked, 4, (some .long), (RX1, TX1, 9), rfl, by decide, rfl, rfl, ⟨by decide +kernel, by decide +kernel, by decide +kernel⟩, (inW 520 (by decide +kernel) (by decide +kernel)), (inW 522 (by decide +kernel) (by decide +kernel)), (inW 16 (by decide +kernel) (by decide +kernel)), (inW 48 (by decide +kernel) (by decide +kernel)), (inW 523 (by decide +kernel) (by decide +kernel))⟩
theorem cv_X5_96 : CV RX5 96 4 yX4_copy (Cond.code yX4_copy cX4_copy 2 none) 1 := ⟨cX4_copy, 2, none, (RX4, TX4, 2), rfl, by decide, rfl, rfl, ⟨by decide +kernel, by decide +kernel, by decide +kernel⟩, (inW 542 (by decide +kernel) (by decide +kernel)), (inW 543 (by decide +kernel) (by decide +kernel)), (inW 544 (by decide +kernel) (by decide +kernel)), (inW 47 (by decide +kernel) (by decide +kernel)), (inW 545 (by decide +kernel) (by decide +kernel))⟩
theorem cs_X5_103 : CS RX5 103 yJ6_bitCount_0f7a4 (Cond.code yJ6_bitCount_0f7a4 cJ6_bitCount_0f7a4 1 (some .int)) 1 := ⟨cJ6_bitCount_0f7a4, 1, (some .int), rfl, by decide, ⟨by decide +kernel, by decide +kernel, by decide +kernel⟩, (inW 549 (by decide +kernel) (by decide +kernel)), (inW 550 (by decide +kernel) (by decide +kernel)), (inW 65 (by decide +kernel) (by decide +kernel)), (inW 551 (by decide +kernel) (by decide +kernel))⟩
theorem cv_L_17 : CV RL 17 5 yX5_input (Cond.code yX5_input cX5_input 3 (some .boolean)) 1 := ⟨cX5_input, 3, (some .boolean), (RX5, TX5, 11), rfl, by decide, rfl, rfl, ⟨by decide +kernel, by decide +kernel, by decide +kernel⟩, (inW 558 (by decide +kernel) (by decide +kernel)), (inW 559 (by decide +kernel) (by decide +kernel)), (inW 560 (by decide +kernel) (by decide +kernel)), (inW 46 (by decide +kernel) (by decide +kernel)), (inW 561 (by decide +kernel) (by decide +kernel))⟩
theorem cv_X5_108 : CV RX5 108 5 yX5_hasFormula (Cond.code yX5_hasFormula cX5_hasFormula 2 (some .boolean)) 1 := ⟨cX5_hasFormula, 2, (some .boolean), (RX5, TX5, 11), rfl, by decide, rfl, rfl, ⟨by decide +kernel, by decide +kernel, by decide +kernel⟩, (inW 562 (by decide +kernel) (by decide +kernel)), (inW 564 (by decide +kernel) (by decide +kernel)), (inW 17 (by decide +kernel) (by decide +kernel)), (inW 46 (by decide +kernel) (by decide +kernel)), (inW 565 (by decide +kernel) (by decide +kernel))⟩
theorem cv_L_21 : CV RL 21 5 yX5_total (Cond.code yX5_total cX5_total 3 (some .int)) 1 := ⟨cX5_total, 3, (some .int), (RX5, TX5, 11), rfl, by decide, rfl, rfl, ⟨by decide +kernel, by decide +kernel, by decide +kernel⟩, (inW 569 (by decide +kernel) (by decide +kernel)), (inW 570 (by decide +kernel) (by decide +kernel)), (inW 571 (by decide +kernel) (by decide +kernel)), (inW 46 (by decide +kernel) (by decide +kernel)), (inW 572 (by decide +kernel) (by decide +kernel))⟩
theorem cv_L_24 : CV RL 24 5 yX5_bracket (Cond.code yX5_bracket cX5_bracket 5 (some .int)) 3 := ⟨cX5_bracket, 5, (some .int), (RX5, TX5, 11), rfl, by decide, rfl, rfl, ⟨by decide +kernel, by decide +kernel, by decide +kernel⟩, (inW 577 (by decide +kernel) (by decide +kernel)), (inW 578 (by decide +kernel) (by decide +kernel)), (inW 579 (by decide +kernel) (by decide +kernel)), (inW 46 (by decide +kernel) (by decide +kernel)), (inW 580 (by decide +kernel) (by decide +kernel))⟩
theorem cs_X5_112 : CS RX5 112 yX5_requireTable (Cond.code yX5_requireTable cX5_requireTable 1 none) 1 := ⟨cX5_requireTable, 1, none, rfl, by decide, ⟨by decide +kernel, by decide +kernel, by decide +kernel⟩, (inW 581 (by decide +kernel) (by decide +kernel)), (inW 582 (by decide +kernel) (by decide +kernel)), (inW 46 (by decide +kernel) (by decide +kernel)), (inW 583 (by decide +kernel) (by decide +kernel))⟩
theorem cv_X5_119 : CV RX5 119 3 yX3_allowsBeginning (Cond.code yX3_allowsBeginning cX3_allowsBeginning 2 (some .boolean)) 1 := ⟨cX3_allowsBeginning, 2, (some .boolean), (RX3, TX3, 4), rfl, by decide, rfl, rfl, ⟨by decide +kernel, by decide +kernel, by decide +kernel⟩, (inW 585 (by decide +kernel) (by decide +kernel)), (inW 586 (by decide +kernel) (by decide +kernel)), (inW 587 (by decide +kernel) (by decide +kernel)), (inW 49 (by decide +kernel) (by decide +kernel)), (inW 588 (by decide +kernel) (by decide +kernel))⟩
theorem cv_X5_126 : CV RX5 126 3 yX3_isFull (Cond.code yX3_isFull cX3_isFull 1 (some .boolean)) 0 := ⟨cX3_isFull, 1, (some .boolean), (RX3, TX3, 4), rfl, by decide, rfl, rfl, ⟨by decide +kernel, by decide +kernel, by decide +kernel⟩, (inW 591 (by decide +kernel) (by decide +kernel)), (inW 592 (by decide +kernel) (by decide +kernel)), (inW 593 (by decide +kernel) (by decide +kernel)), (inW 49 (by decide +kernel) (by decide +kernel)), (inW 594 (by decide +kernel) (by decide +kernel))⟩
theorem cv_X5_132 : CV RX5 132 3 yX3_append (Cond.code yX3_append cX3_append 3 none) 2 := ⟨cX3_append, 3, none, (RX3, TX3, 4), rfl, by decide, rfl, rfl, ⟨by decide +kernel, by decide +kernel, by decide +kernel⟩, (inW 611 (by decide +kernel) (by decide +kernel)), (inW 612 (by decide +kernel) (by decide +kernel)), (inW 613 (by decide +kernel) (by decide +kernel)), (inW 49 (by decide +kernel) (by decide +kernel)), (inW 614 (by decide +kernel) (by decide +kernel))⟩
theorem cv_L_30 : CV RL 30 5 yX5_reset (Cond.code yX5_reset cX5_reset 5 (some .int)) 2 := ⟨cX5_reset, 5, (some .int), (RX5, TX5, 11), rfl, by decide, rfl, rfl, ⟨by decide +kernel, by decide +kernel, by decide +kernel⟩, (inW 618 (by decide +kernel) (by decide +kernel)), (inW 619 (by decide +kernel) (by decide +kernel)), (inW 620 (by decide +kernel) (by decide +kernel)), (inW 46 (by decide +kernel) (by decide +kernel)), (inW 621 (by decide +kernel) (by decide +kernel))⟩
theorem cv_L_34 : CV RL 34 5 yX5_order (Cond.code yX5_order cX5_order 2 (some .int)) 1 := ⟨cX5_order, 2, (some .int), (RX5, TX5, 11), rfl, by decide, rfl, rfl, ⟨by decide +kernel, by decide +kernel, by decide +kernel⟩, (inW 626 (by decide +kernel) (by decide +kernel)), (inW 627 (by decide +kernel) (by decide +kernel)), (inW 628 (by decide +kernel) (by decide +kernel)), (inW 46 (by decide +kernel) (by decide +kernel)), (inW 629 (by decide +kernel) (by decide +kernel))⟩
theorem cv_X5_145 : CV RX5 145 5 yX5_arrangeLines (Cond.code yX5_arrangeLines cX5_arrangeLines 4 (some .int)) 0 := ⟨cX5_arrangeLines, 4, (some .int), (RX5, TX5, 11), rfl, by decide, rfl, rfl, ⟨by decide +kernel, by decide +kernel, by decide +kernel⟩, (inW 631 (by decide +kernel) (by decide +kernel)), (inW 633 (by decide +kernel) (by decide +kernel)), (inW 18 (by decide +kernel) (by decide +kernel)), (inW 46 (by decide +kernel) (by decide +kernel)), (inW 634 (by decide +kernel) (by decide +kernel))⟩
theorem cv_X5_244 : CV RX5 244 5 yX5_lowestReady (Cond.code yX5_lowestReady cX5_lowestReady 3 (some .int)) 1 := ⟨cX5_lowestReady, 3, (some .int), (RX5, TX5, 11), rfl, by decide, rfl, rfl, ⟨by decide +kernel, by decide +kernel, by decide +kernel⟩, (inW 635 (by decide +kernel) (by decide +kernel)), (inW 637 (by decide +kernel) (by decide +kernel)), (inW 19 (by decide +kernel) (by decide +kernel)), (inW 46 (by decide +kernel) (by decide +kernel)), (inW 638 (by decide +kernel) (by decide +kernel))⟩
theorem cv_L_37 : CV RL 37 5 yX5_file (Cond.code yX5_file cX5_file 7 (some .int)) 4 := ⟨cX5_file, 7, (some .int), (RX5, TX5, 11), rfl, by decide, rfl, rfl, ⟨by decide +kernel, by decide +kernel, by decide +kernel⟩, (inW 643 (by decide +kernel) (by decide +kernel)), (inW 644 (by decide +kernel) (by decide +kernel)), (inW 645 (by decide +kernel) (by decide +kernel)), (inW 46 (by decide +kernel) (by decide +kernel)), (inW 646 (by decide +kernel) (by decide +kernel))⟩
theorem cs_X5_151 : CS RX5 151 yX5_requireReturn (Cond.code yX5_requireReturn cX5_requireReturn 2 none) 2 := ⟨cX5_requireReturn, 2, none, rfl, by decide, ⟨by decide +kernel, by decide +kernel, by decide +kernel⟩, (inW 647 (by decide +kernel) (by decide +kernel)), (inW 648 (by decide +kernel) (by decide +kernel)), (inW 46 (by decide +kernel) (by decide +kernel)), (inW 649 (by decide +kernel) (by decide +kernel))⟩
theorem cs_X5_195 : CS RX5 195 yX5_requireTaxpayer (Cond.code yX5_requireTaxpayer cX5_requireTaxpayer 1 none) 1 := ⟨cX5_requireTaxpayer, 1, none, rfl, by decide, ⟨by decide +kernel, by decide +kernel, by decide +kernel⟩, (inW 650 (by decide +kernel) (by decide +kernel)), (inW 651 (by decide +kernel) (by decide +kernel)), (inW 46 (by decide +kernel) (by decide +kernel)), (inW 652 (by decide +kernel) (by decide +kernel))⟩
theorem cv_X5_158 : CV RX5 158 5 yX5_returnOf (Cond.code yX5_returnOf cX5_returnOf 3 (some (.object "FormOffice$Return"))) 2 := ⟨cX5_returnOf, 3, (some (.object "FormOffice$Return")), (RX5, TX5, 11), rfl, by decide, rfl, rfl, ⟨by decide +kernel, by decide +kernel, by decide +kernel⟩, (inW 658 (by decide +kernel) (by decide +kernel)), (inW 660 (by decide +kernel) (by decide +kernel)), (inW 20 (by decide +kernel) (by decide +kernel)), (inW 46 (by decide +kernel) (by decide +kernel)), (inW 661 (by decide +kernel) (by decide +kernel))⟩
theorem cv_L_41 : CV RL 41 5 yX5_assess (Cond.code yX5_assess cX5_assess 7 (some .long)) 2 := ⟨cX5_assess, 7, (some .long), (RX5, TX5, 11), rfl, by decide, rfl, rfl, ⟨by decide +kernel, by decide +kernel, by decide +kernel⟩, (inW 666 (by decide +kernel) (by decide +kernel)), (inW 667 (by decide +kernel) (by decide +kernel)), (inW 668 (by decide +kernel) (by decide +kernel)), (inW 46 (by decide +kernel) (by decide +kernel)), (inW 669 (by decide +kernel) (by decide +kernel))⟩
theorem cv_X5_165 : CV RX5 165 0 yX0_isFull (Cond.code yX0_isFull cX0_isFull 1 (some .boolean)) 0 := ⟨cX0_isFull, 1, (some .boolean), (RX0, TX0, 5), rfl, by decide, rfl, rfl, ⟨by decide +kernel, by decide +kernel, by decide +kernel⟩, (inW 670 (by decide +kernel) (by decide +kernel)), (inW 671 (by decide +kernel) (by decide +kernel)), (inW 672 (by decide +kernel) (by decide +kernel)), (inW 51 (by decide +kernel) (by decide +kernel)), (inW 673 (by decide +kernel) (by decide +kernel))⟩
theorem cv_X5_171 : CV RX5 171 5 yX5_workOut (Cond.code yX5_workOut cX5_workOut 7 (some .boolean)) 2 := ⟨cX5_workOut, 7, (some .boolean), (RX5, TX5, 11), rfl, by decide, rfl, rfl, ⟨by decide +kernel, by decide +kernel, by decide +kernel⟩, (inW 675 (by decide +kernel) (by decide +kernel)), (inW 677 (by decide +kernel) (by decide +kernel)), (inW 21 (by decide +kernel) (by decide +kernel)), (inW 46 (by decide +kernel) (by decide +kernel)), (inW 678 (by decide +kernel) (by decide +kernel))⟩
theorem cv_X5_247 : CV RX5 247 1 yX1_work (Cond.code yX1_work cX1_work 4 (some .long)) 3 := ⟨cX1_work, 4, (some .long), (RX1, TX1, 9), rfl, by decide, rfl, rfl, ⟨by decide +kernel, by decide +kernel, by decide +kernel⟩, (inW 679 (by decide +kernel) (by decide +kernel)), (inW 680 (by decide +kernel) (by decide +kernel)), (inW 681 (by decide +kernel) (by decide +kernel)), (inW 48 (by decide +kernel) (by decide +kernel)), (inW 682 (by decide +kernel) (by decide +kernel))⟩
theorem cv_X5_184 : CV RX5 184 0 yX0_post (Cond.code yX0_post cX0_post 5 none) 3 := ⟨cX0_post, 5, none, (RX0, TX0, 5), rfl, by decide, rfl, rfl, ⟨by decide +kernel, by decide +kernel, by decide +kernel⟩, (inW 699 (by decide +kernel) (by decide +kernel)), (inW 700 (by decide +kernel) (by decide +kernel)), (inW 701 (by decide +kernel) (by decide +kernel)), (inW 51 (by decide +kernel) (by decide +kernel)), (inW 702 (by decide +kernel) (by decide +kernel))⟩
theorem cv_X5_188 : CV RX5 188 2 yX2_keep (Cond.code yX2_keep cX2_keep 4 none) 2 := ⟨cX2_keep, 4, none, (RX2, TX2, 4), rfl, by decide, rfl, rfl, ⟨by decide +kernel, by decide +kernel, by decide +kernel⟩, (inW 703 (by decide +kernel) (by decide +kernel)), (inW 704 (by decide +kernel) (by decide +kernel)), (inW 705 (by decide +kernel) (by decide +kernel)), (inW 50 (by decide +kernel) (by decide +kernel)), (inW 706 (by decide +kernel) (by decide +kernel))⟩
theorem cv_L_47 : CV RL 47 5 yX5_value (Cond.code yX5_value cX5_value 4 (some .long)) 3 := ⟨cX5_value, 4, (some .long), (RX5, TX5, 11), rfl, by decide, rfl, rfl, ⟨by decide +kernel, by decide +kernel, by decide +kernel⟩, (inW 711 (by decide +kernel) (by decide +kernel)), (inW 712 (by decide +kernel) (by decide +kernel)), (inW 713 (by decide +kernel) (by decide +kernel)), (inW 46 (by decide +kernel) (by decide +kernel)), (inW 714 (by decide +kernel) (by decide +kernel))⟩
theorem cv_X5_192 : CV RX5 192 5 yX5_requireAssessed (Cond.code yX5_requireAssessed cX5_requireAssessed 3 none) 2 := ⟨cX5_requireAssessed, 3, none, (RX5, TX5, 11), rfl, by decide, rfl, rfl, ⟨by decide +kernel, by decide +kernel, by decide +kernel⟩, (inW 715 (by decide +kernel) (by decide +kernel)), (inW 717 (by decide +kernel) (by decide +kernel)), (inW 22 (by decide +kernel) (by decide +kernel)), (inW 46 (by decide +kernel) (by decide +kernel)), (inW 718 (by decide +kernel) (by decide +kernel))⟩
theorem cv_L_51 : CV RL 51 5 yX5_share (Cond.code yX5_share cX5_share 5 (some .double)) 3 := ⟨cX5_share, 5, (some .double), (RX5, TX5, 11), rfl, by decide, rfl, rfl, ⟨by decide +kernel, by decide +kernel, by decide +kernel⟩, (inW 723 (by decide +kernel) (by decide +kernel)), (inW 724 (by decide +kernel) (by decide +kernel)), (inW 725 (by decide +kernel) (by decide +kernel)), (inW 46 (by decide +kernel) (by decide +kernel)), (inW 726 (by decide +kernel) (by decide +kernel))⟩
theorem cv_L_55 : CV RL 55 5 yX5_pay (Cond.code yX5_pay cX5_pay 4 (some .long)) 2 := ⟨cX5_pay, 4, (some .long), (RX5, TX5, 11), rfl, by decide, rfl, rfl, ⟨by decide +kernel, by decide +kernel, by decide +kernel⟩, (inW 730 (by decide +kernel) (by decide +kernel)), (inW 731 (by decide +kernel) (by decide +kernel)), (inW 732 (by decide +kernel) (by decide +kernel)), (inW 46 (by decide +kernel) (by decide +kernel)), (inW 733 (by decide +kernel) (by decide +kernel))⟩
theorem cv_L_58 : CV RL 58 5 yX5_interest (Cond.code yX5_interest cX5_interest 3 (some .int)) 1 := ⟨cX5_interest, 3, (some .int), (RX5, TX5, 11), rfl, by decide, rfl, rfl, ⟨by decide +kernel, by decide +kernel, by decide +kernel⟩, (inW 739 (by decide +kernel) (by decide +kernel)), (inW 740 (by decide +kernel) (by decide +kernel)), (inW 741 (by decide +kernel) (by decide +kernel)), (inW 46 (by decide +kernel) (by decide +kernel)), (inW 742 (by decide +kernel) (by decide +kernel))⟩
theorem cv_L_61 : CV RL 61 5 yX5_pass (Cond.code yX5_pass cX5_pass 10 (some .int)) 1 := ⟨cX5_pass, 10, (some .int), (RX5, TX5, 11), rfl, by decide, rfl, rfl, ⟨by decide +kernel, by decide +kernel, by decide +kernel⟩, (inW 747 (by decide +kernel) (by decide +kernel)), (inW 748 (by decide +kernel) (by decide +kernel)), (inW 749 (by decide +kernel) (by decide +kernel)), (inW 46 (by decide +kernel) (by decide +kernel)), (inW 750 (by decide +kernel) (by decide +kernel))⟩
theorem cv_X5_209 : CV RX5 209 0 yX0_interestFor (Cond.code yX0_interestFor cX0_interestFor 4 (some .long)) 1 := ⟨cX0_interestFor, 4, (some .long), (RX0, TX0, 5), rfl, by decide, rfl, rfl, ⟨by decide +kernel, by decide +kernel, by decide +kernel⟩, (inW 752 (by decide +kernel) (by decide +kernel)), (inW 753 (by decide +kernel) (by decide +kernel)), (inW 754 (by decide +kernel) (by decide +kernel)), (inW 51 (by decide +kernel) (by decide +kernel)), (inW 755 (by decide +kernel) (by decide +kernel))⟩
theorem cv_L_64 : CV RL 64 5 yX5_balance (Cond.code yX5_balance cX5_balance 2 (some .long)) 1 := ⟨cX5_balance, 2, (some .long), (RX5, TX5, 11), rfl, by decide, rfl, rfl, ⟨by decide +kernel, by decide +kernel, by decide +kernel⟩, (inW 761 (by decide +kernel) (by decide +kernel)), (inW 762 (by decide +kernel) (by decide +kernel)), (inW 763 (by decide +kernel) (by decide +kernel)), (inW 46 (by decide +kernel) (by decide +kernel)), (inW 764 (by decide +kernel) (by decide +kernel))⟩
theorem cv_L_68 : CV RL 68 5 yX5_posting (Cond.code yX5_posting cX5_posting 5 (some .long)) 3 := ⟨cX5_posting, 5, (some .long), (RX5, TX5, 11), rfl, by decide, rfl, rfl, ⟨by decide +kernel, by decide +kernel, by decide +kernel⟩, (inW 768 (by decide +kernel) (by decide +kernel)), (inW 769 (by decide +kernel) (by decide +kernel)), (inW 770 (by decide +kernel) (by decide +kernel)), (inW 46 (by decide +kernel) (by decide +kernel)), (inW 771 (by decide +kernel) (by decide +kernel))⟩
theorem cv_L_91 : CV RL 91 6 yX6_thrown (Cond.code yX6_thrown cX6_thrown 1 (some .int)) 0 := ⟨cX6_thrown, 1, (some .int), (RX6, TX6, 34), rfl, by decide, rfl, rfl, ⟨by decide +kernel, by decide +kernel, by decide +kernel⟩, (inW 883 (by decide +kernel) (by decide +kernel)), (inW 884 (by decide +kernel) (by decide +kernel)), (inW 885 (by decide +kernel) (by decide +kernel)), (inW 52 (by decide +kernel) (by decide +kernel)), (inW 886 (by decide +kernel) (by decide +kernel))⟩
theorem cv_L_79 : CV RL 79 6 yX6_type (Cond.code yX6_type cX6_type 3 (some .boolean)) 1 := ⟨cX6_type, 3, (some .boolean), (RX6, TX6, 34), rfl, by decide, rfl, rfl, ⟨by decide +kernel, by decide +kernel, by decide +kernel⟩, (inW 887 (by decide +kernel) (by decide +kernel)), (inW 888 (by decide +kernel) (by decide +kernel)), (inW 889 (by decide +kernel) (by decide +kernel)), (inW 52 (by decide +kernel) (by decide +kernel)), (inW 890 (by decide +kernel) (by decide +kernel))⟩
theorem cs_X6_94 : CS RX6 94 yX6_isDigit (Cond.code yX6_isDigit cX6_isDigit 1 (some .boolean)) 1 := ⟨cX6_isDigit, 1, (some .boolean), rfl, by decide, ⟨by decide +kernel, by decide +kernel, by decide +kernel⟩, (inW 891 (by decide +kernel) (by decide +kernel)), (inW 892 (by decide +kernel) (by decide +kernel)), (inW 52 (by decide +kernel) (by decide +kernel)), (inW 893 (by decide +kernel) (by decide +kernel))⟩
theorem cs_X6_98 : CS RX6 98 yX6_isName (Cond.code yX6_isName cX6_isName 1 (some .boolean)) 1 := ⟨cX6_isName, 1, (some .boolean), rfl, by decide, ⟨by decide +kernel, by decide +kernel, by decide +kernel⟩, (inW 894 (by decide +kernel) (by decide +kernel)), (inW 895 (by decide +kernel) (by decide +kernel)), (inW 52 (by decide +kernel) (by decide +kernel)), (inW 896 (by decide +kernel) (by decide +kernel))⟩
theorem cv_L_84 : CV RL 84 6 yX6_clear (Cond.code yX6_clear cX6_clear 2 (some .int)) 0 := ⟨cX6_clear, 2, (some .int), (RX6, TX6, 34), rfl, by decide, rfl, rfl, ⟨by decide +kernel, by decide +kernel, by decide +kernel⟩, (inW 897 (by decide +kernel) (by decide +kernel)), (inW 898 (by decide +kernel) (by decide +kernel)), (inW 899 (by decide +kernel) (by decide +kernel)), (inW 52 (by decide +kernel) (by decide +kernel)), (inW 900 (by decide +kernel) (by decide +kernel))⟩
theorem cv_L_90 : CV RL 90 6 yX6_define (Cond.code yX6_define cX6_define 4 (some .int)) 1 := ⟨cX6_define, 4, (some .int), (RX6, TX6, 34), rfl, by decide, rfl, rfl, ⟨by decide +kernel, by decide +kernel, by decide +kernel⟩, (inW 901 (by decide +kernel) (by decide +kernel)), (inW 902 (by decide +kernel) (by decide +kernel)), (inW 903 (by decide +kernel) (by decide +kernel)), (inW 52 (by decide +kernel) (by decide +kernel)), (inW 904 (by decide +kernel) (by decide +kernel))⟩
theorem cs_X6_137 : CS RX6 137 yX6_in (Cond.code yX6_in cX6_in 6 (some .boolean)) 3 := ⟨cX6_in, 6, (some .boolean), rfl, by decide, ⟨by decide +kernel, by decide +kernel, by decide +kernel⟩, (inW 906 (by decide +kernel) (by decide +kernel)), (inW 907 (by decide +kernel) (by decide +kernel)), (inW 52 (by decide +kernel) (by decide +kernel)), (inW 908 (by decide +kernel) (by decide +kernel))⟩
theorem cv_X6_163 : CV RX6 163 6 yX6_refuse (Cond.code yX6_refuse cX6_refuse 2 (some .int)) 1 := ⟨cX6_refuse, 2, (some .int), (RX6, TX6, 34), rfl, by decide, rfl, rfl, ⟨by decide +kernel, by decide +kernel, by decide +kernel⟩, (inW 909 (by decide +kernel) (by decide +kernel)), (inW 911 (by decide +kernel) (by decide +kernel)), (inW 23 (by decide +kernel) (by decide +kernel)), (inW 52 (by decide +kernel) (by decide +kernel)), (inW 912 (by decide +kernel) (by decide +kernel))⟩
theorem cv_X6_166 : CV RX6 166 6 yX6_read (Cond.code yX6_read cX6_read 3 (some .boolean)) 0 := ⟨cX6_read, 3, (some .boolean), (RX6, TX6, 34), rfl, by decide, rfl, rfl, ⟨by decide +kernel, by decide +kernel, by decide +kernel⟩, (inW 913 (by decide +kernel) (by decide +kernel)), (inW 915 (by decide +kernel) (by decide +kernel)), (inW 24 (by decide +kernel) (by decide +kernel)), (inW 52 (by decide +kernel) (by decide +kernel)), (inW 916 (by decide +kernel) (by decide +kernel))⟩
theorem cv_X6_154 : CV RX6 154 6 yX6_begin (Cond.code yX6_begin cX6_begin 3 (some .int)) 0 := ⟨cX6_begin, 3, (some .int), (RX6, TX6, 34), rfl, by decide, rfl, rfl, ⟨by decide +kernel, by decide +kernel, by decide +kernel⟩, (inW 917 (by decide +kernel) (by decide +kernel)), (inW 919 (by decide +kernel) (by decide +kernel)), (inW 25 (by decide +kernel) (by decide +kernel)), (inW 52 (by decide +kernel) (by decide +kernel)), (inW 920 (by decide +kernel) (by decide +kernel))⟩
theorem cv_X6_113 : CV RX6 113 6 yX6_look (Cond.code yX6_look cX6_look 2 (some .int)) 1 := ⟨cX6_look, 2, (some .int), (RX6, TX6, 34), rfl, by decide, rfl, rfl, ⟨by decide +kernel, by decide +kernel, by decide +kernel⟩, (inW 921 (by decide +kernel) (by decide +kernel)), (inW 923 (by decide +kernel) (by decide +kernel)), (inW 26 (by decide +kernel) (by decide +kernel)), (inW 52 (by decide +kernel) (by decide +kernel)), (inW 924 (by decide +kernel) (by decide +kernel))⟩
theorem cv_X6_117 : CV RX6 117 6 yX6_make (Cond.code yX6_make cX6_make 3 none) 2 := ⟨cX6_make, 3, none, (RX6, TX6, 34), rfl, by decide, rfl, rfl, ⟨by decide +kernel, by decide +kernel, by decide +kernel⟩, (inW 925 (by decide +kernel) (by decide +kernel)), (inW 927 (by decide +kernel) (by decide +kernel)), (inW 27 (by decide +kernel) (by decide +kernel)), (inW 52 (by decide +kernel) (by decide +kernel)), (inW 928 (by decide +kernel) (by decide +kernel))⟩
theorem cv_X6_124 : CV RX6 124 6 yX6_number (Cond.code yX6_number cX6_number 4 (some .int)) 1 := ⟨cX6_number, 4, (some .int), (RX6, TX6, 34), rfl, by decide, rfl, rfl, ⟨by decide +kernel, by decide +kernel, by decide +kernel⟩, (inW 929 (by decide +kernel) (by decide +kernel)), (inW 931 (by decide +kernel) (by decide +kernel)), (inW 28 (by decide +kernel) (by decide +kernel)), (inW 52 (by decide +kernel) (by decide +kernel)), (inW 932 (by decide +kernel) (by decide +kernel))⟩
theorem cv_X6_127 : CV RX6 127 6 yX6_deepness (Cond.code yX6_deepness cX6_deepness 3 (some .int)) 0 := ⟨cX6_deepness, 3, (some .int), (RX6, TX6, 34), rfl, by decide, rfl, rfl, ⟨by decide +kernel, by decide +kernel, by decide +kernel⟩, (inW 933 (by decide +kernel) (by decide +kernel)), (inW 935 (by decide +kernel) (by decide +kernel)), (inW 29 (by decide +kernel) (by decide +kernel)), (inW 52 (by decide +kernel) (by decide +kernel)), (inW 936 (by decide +kernel) (by decide +kernel))⟩
theorem cv_X6_131 : CV RX6 131 6 yX6_put (Cond.code yX6_put cX6_put 3 (some .boolean)) 2 := ⟨cX6_put, 3, (some .boolean), (RX6, TX6, 34), rfl, by decide, rfl, rfl, ⟨by decide +kernel, by decide +kernel, by decide +kernel⟩, (inW 937 (by decide +kernel) (by decide +kernel)), (inW 939 (by decide +kernel) (by decide +kernel)), (inW 30 (by decide +kernel) (by decide +kernel)), (inW 52 (by decide +kernel) (by decide +kernel)), (inW 940 (by decide +kernel) (by decide +kernel))⟩
theorem cv_X6_157 : CV RX6 157 6 yX6_goOn (Cond.code yX6_goOn cX6_goOn 6 (some .int)) 1 := ⟨cX6_goOn, 6, (some .int), (RX6, TX6, 34), rfl, by decide, rfl, rfl, ⟨by decide +kernel, by decide +kernel, by decide +kernel⟩, (inW 942 (by decide +kernel) (by decide +kernel)), (inW 944 (by decide +kernel) (by decide +kernel)), (inW 31 (by decide +kernel) (by decide +kernel)), (inW 52 (by decide +kernel) (by decide +kernel)), (inW 945 (by decide +kernel) (by decide +kernel))⟩
theorem cv_X6_144 : CV RX6 144 6 yX6_settle (Cond.code yX6_settle cX6_settle 1 none) 0 := ⟨cX6_settle, 1, none, (RX6, TX6, 34), rfl, by decide, rfl, rfl, ⟨by decide +kernel, by decide +kernel, by decide +kernel⟩, (inW 946 (by decide +kernel) (by decide +kernel)), (inW 948 (by decide +kernel) (by decide +kernel)), (inW 32 (by decide +kernel) (by decide +kernel)), (inW 52 (by decide +kernel) (by decide +kernel)), (inW 949 (by decide +kernel) (by decide +kernel))⟩
theorem cv_X6_141 : CV RX6 141 6 yX6_top (Cond.code yX6_top cX6_top 1 (some .int)) 0 := ⟨cX6_top, 1, (some .int), (RX6, TX6, 34), rfl, by decide, rfl, rfl, ⟨by decide +kernel, by decide +kernel, by decide +kernel⟩, (inW 950 (by decide +kernel) (by decide +kernel)), (inW 952 (by decide +kernel) (by decide +kernel)), (inW 33 (by decide +kernel) (by decide +kernel)), (inW 52 (by decide +kernel) (by decide +kernel)), (inW 953 (by decide +kernel) (by decide +kernel))⟩
theorem cv_X6_147 : CV RX6 147 6 yX6_ends (Cond.code yX6_ends cX6_ends 3 (some .int)) 1 := ⟨cX6_ends, 3, (some .int), (RX6, TX6, 34), rfl, by decide, rfl, rfl, ⟨by decide +kernel, by decide +kernel, by decide +kernel⟩, (inW 954 (by decide +kernel) (by decide +kernel)), (inW 956 (by decide +kernel) (by decide +kernel)), (inW 34 (by decide +kernel) (by decide +kernel)), (inW 52 (by decide +kernel) (by decide +kernel)), (inW 957 (by decide +kernel) (by decide +kernel))⟩
theorem cv_X6_150 : CV RX6 150 6 yX6_close (Cond.code yX6_close cX6_close 1 (some .boolean)) 0 := ⟨cX6_close, 1, (some .boolean), (RX6, TX6, 34), rfl, by decide, rfl, rfl, ⟨by decide +kernel, by decide +kernel, by decide +kernel⟩, (inW 958 (by decide +kernel) (by decide +kernel)), (inW 960 (by decide +kernel) (by decide +kernel)), (inW 35 (by decide +kernel) (by decide +kernel)), (inW 52 (by decide +kernel) (by decide +kernel)), (inW 961 (by decide +kernel) (by decide +kernel))⟩
theorem cv_L_96 : CV RL 96 6 yX6_input (Cond.code yX6_input cX6_input 3 (some .boolean)) 1 := ⟨cX6_input, 3, (some .boolean), (RX6, TX6, 34), rfl, by decide, rfl, rfl, ⟨by decide +kernel, by decide +kernel, by decide +kernel⟩, (inW 962 (by decide +kernel) (by decide +kernel)), (inW 963 (by decide +kernel) (by decide +kernel)), (inW 964 (by decide +kernel) (by decide +kernel)), (inW 52 (by decide +kernel) (by decide +kernel)), (inW 965 (by decide +kernel) (by decide +kernel))⟩
theorem cv_L_99 : CV RL 99 6 yX6_total (Cond.code yX6_total cX6_total 3 (some .int)) 1 := ⟨cX6_total, 3, (some .int), (RX6, TX6, 34), rfl, by decide, rfl, rfl, ⟨by decide +kernel, by decide +kernel, by decide +kernel⟩, (inW 966 (by decide +kernel) (by decide +kernel)), (inW 967 (by decide +kernel) (by decide +kernel)), (inW 968 (by decide +kernel) (by decide +kernel)), (inW 52 (by decide +kernel) (by decide +kernel)), (inW 969 (by decide +kernel) (by decide +kernel))⟩
theorem cv_L_103 : CV RL 103 6 yX6_bracket (Cond.code yX6_bracket cX6_bracket 6 (some .int)) 3 := ⟨cX6_bracket, 6, (some .int), (RX6, TX6, 34), rfl, by decide, rfl, rfl, ⟨by decide +kernel, by decide +kernel, by decide +kernel⟩, (inW 970 (by decide +kernel) (by decide +kernel)), (inW 971 (by decide +kernel) (by decide +kernel)), (inW 972 (by decide +kernel) (by decide +kernel)), (inW 52 (by decide +kernel) (by decide +kernel)), (inW 973 (by decide +kernel) (by decide +kernel))⟩
theorem cv_L_107 : CV RL 107 6 yX6_reset (Cond.code yX6_reset cX6_reset 4 (some .int)) 2 := ⟨cX6_reset, 4, (some .int), (RX6, TX6, 34), rfl, by decide, rfl, rfl, ⟨by decide +kernel, by decide +kernel, by decide +kernel⟩, (inW 976 (by decide +kernel) (by decide +kernel)), (inW 977 (by decide +kernel) (by decide +kernel)), (inW 978 (by decide +kernel) (by decide +kernel)), (inW 52 (by decide +kernel) (by decide +kernel)), (inW 979 (by decide +kernel) (by decide +kernel))⟩
theorem cv_L_110 : CV RL 110 6 yX6_order (Cond.code yX6_order cX6_order 2 (some .int)) 1 := ⟨cX6_order, 2, (some .int), (RX6, TX6, 34), rfl, by decide, rfl, rfl, ⟨by decide +kernel, by decide +kernel, by decide +kernel⟩, (inW 980 (by decide +kernel) (by decide +kernel)), (inW 981 (by decide +kernel) (by decide +kernel)), (inW 982 (by decide +kernel) (by decide +kernel)), (inW 52 (by decide +kernel) (by decide +kernel)), (inW 983 (by decide +kernel) (by decide +kernel))⟩
theorem cv_X6_177 : CV RX6 177 6 yX6_makeOrder (Cond.code yX6_makeOrder cX6_makeOrder 4 (some .int)) 0 := ⟨cX6_makeOrder, 4, (some .int), (RX6, TX6, 34), rfl, by decide, rfl, rfl, ⟨by decide +kernel, by decide +kernel, by decide +kernel⟩, (inW 984 (by decide +kernel) (by decide +kernel)), (inW 986 (by decide +kernel) (by decide +kernel)), (inW 36 (by decide +kernel) (by decide +kernel)), (inW 52 (by decide +kernel) (by decide +kernel)), (inW 987 (by decide +kernel) (by decide +kernel))⟩
theorem cv_L_114 : CV RL 114 6 yX6_file (Cond.code yX6_file cX6_file 7 (some .int)) 4 := ⟨cX6_file, 7, (some .int), (RX6, TX6, 34), rfl, by decide, rfl, rfl, ⟨by decide +kernel, by decide +kernel, by decide +kernel⟩, (inW 988 (by decide +kernel) (by decide +kernel)), (inW 989 (by decide +kernel) (by decide +kernel)), (inW 990 (by decide +kernel) (by decide +kernel)), (inW 52 (by decide +kernel) (by decide +kernel)), (inW 991 (by decide +kernel) (by decide +kernel))⟩
theorem cv_L_117 : CV RL 117 6 yX6_assess (Cond.code yX6_assess cX6_assess 7 (some .long)) 2 := ⟨cX6_assess, 7, (some .long), (RX6, TX6, 34), rfl, by decide, rfl, rfl, ⟨by decide +kernel, by decide +kernel, by decide +kernel⟩, (inW 994 (by decide +kernel) (by decide +kernel)), (inW 995 (by decide +kernel) (by decide +kernel)), (inW 996 (by decide +kernel) (by decide +kernel)), (inW 52 (by decide +kernel) (by decide +kernel)), (inW 997 (by decide +kernel) (by decide +kernel))⟩
theorem cv_X6_205 : CV RX6 205 6 yX6_workOut (Cond.code yX6_workOut cX6_workOut 6 (some .boolean)) 2 := ⟨cX6_workOut, 6, (some .boolean), (RX6, TX6, 34), rfl, by decide, rfl, rfl, ⟨by decide +kernel, by decide +kernel, by decide +kernel⟩, (inW 998 (by decide +kernel) (by decide +kernel)), (inW 1000 (by decide +kernel) (by decide +kernel)), (inW 37 (by decide +kernel) (by decide +kernel)), (inW 52 (by decide +kernel) (by decide +kernel)), (inW 1001 (by decide +kernel) (by decide +kernel))⟩
theorem cv_X6_187 : CV RX6 187 6 yX6_operate (Cond.code yX6_operate cX6_operate 12 (some .boolean)) 3 := ⟨cX6_operate, 12, (some .boolean), (RX6, TX6, 34), rfl, by decide, rfl, rfl, ⟨by decide +kernel, by decide +kernel, by decide +kernel⟩, (inW 1002 (by decide +kernel) (by decide +kernel)), (inW 1004 (by decide +kernel) (by decide +kernel)), (inW 38 (by decide +kernel) (by decide +kernel)), (inW 52 (by decide +kernel) (by decide +kernel)), (inW 1005 (by decide +kernel) (by decide +kernel))⟩
theorem cv_X6_191 : CV RX6 191 6 yX6_before (Cond.code yX6_before cX6_before 3 (some .long)) 2 := ⟨cX6_before, 3, (some .long), (RX6, TX6, 34), rfl, by decide, rfl, rfl, ⟨by decide +kernel, by decide +kernel, by decide +kernel⟩, (inW 1006 (by decide +kernel) (by decide +kernel)), (inW 1008 (by decide +kernel) (by decide +kernel)), (inW 39 (by decide +kernel) (by decide +kernel)), (inW 52 (by decide +kernel) (by decide +kernel)), (inW 1009 (by decide +kernel) (by decide +kernel))⟩
theorem cv_X6_195 : CV RX6 195 6 yX6_tabled (Cond.code yX6_tabled cX6_tabled 10 (some .long)) 2 := ⟨cX6_tabled, 10, (some .long), (RX6, TX6, 34), rfl, by decide, rfl, rfl, ⟨by decide +kernel, by decide +kernel, by decide +kernel⟩, (inW 1010 (by decide +kernel) (by decide +kernel)), (inW 1012 (by decide +kernel) (by decide +kernel)), (inW 40 (by decide +kernel) (by decide +kernel)), (inW 52 (by decide +kernel) (by decide +kernel)), (inW 1013 (by decide +kernel) (by decide +kernel))⟩
theorem cs_X6_173 : CS RX6 173 yX6_divide (Cond.code yX6_divide cX6_divide 9 (some .long)) 3 := ⟨cX6_divide, 9, (some .long), rfl, by decide, ⟨by decide +kernel, by decide +kernel, by decide +kernel⟩, (inW 1014 (by decide +kernel) (by decide +kernel)), (inW 1015 (by decide +kernel) (by decide +kernel)), (inW 52 (by decide +kernel) (by decide +kernel)), (inW 1016 (by decide +kernel) (by decide +kernel))⟩
theorem cv_X6_208 : CV RX6 208 6 yX6_post (Cond.code yX6_post cX6_post 7 none) 4 := ⟨cX6_post, 7, none, (RX6, TX6, 34), rfl, by decide, rfl, rfl, ⟨by decide +kernel, by decide +kernel, by decide +kernel⟩, (inW 1020 (by decide +kernel) (by decide +kernel)), (inW 1022 (by decide +kernel) (by decide +kernel)), (inW 41 (by decide +kernel) (by decide +kernel)), (inW 52 (by decide +kernel) (by decide +kernel)), (inW 1023 (by decide +kernel) (by decide +kernel))⟩
theorem cv_L_120 : CV RL 120 6 yX6_value (Cond.code yX6_value cX6_value 4 (some .long)) 3 := ⟨cX6_value, 4, (some .long), (RX6, TX6, 34), rfl, by decide, rfl, rfl, ⟨by decide +kernel, by decide +kernel, by decide +kernel⟩, (inW 1024 (by decide +kernel) (by decide +kernel)), (inW 1025 (by decide +kernel) (by decide +kernel)), (inW 1026 (by decide +kernel) (by decide +kernel)), (inW 52 (by decide +kernel) (by decide +kernel)), (inW 1027 (by decide +kernel) (by decide +kernel))⟩
theorem cv_X6_212 : CV RX6 212 6 yX6_there (Cond.code yX6_there cX6_there 4 (some .boolean)) 3 := ⟨cX6_there, 4, (some .boolean), (RX6, TX6, 34), rfl, by decide, rfl, rfl, ⟨by decide +kernel, by decide +kernel, by decide +kernel⟩, (inW 1028 (by decide +kernel) (by decide +kernel)), (inW 1030 (by decide +kernel) (by decide +kernel)), (inW 42 (by decide +kernel) (by decide +kernel)), (inW 52 (by decide +kernel) (by decide +kernel)), (inW 1031 (by decide +kernel) (by decide +kernel))⟩
theorem cv_L_124 : CV RL 124 6 yX6_share (Cond.code yX6_share cX6_share 5 (some .double)) 3 := ⟨cX6_share, 5, (some .double), (RX6, TX6, 34), rfl, by decide, rfl, rfl, ⟨by decide +kernel, by decide +kernel, by decide +kernel⟩, (inW 1032 (by decide +kernel) (by decide +kernel)), (inW 1033 (by decide +kernel) (by decide +kernel)), (inW 1034 (by decide +kernel) (by decide +kernel)), (inW 52 (by decide +kernel) (by decide +kernel)), (inW 1035 (by decide +kernel) (by decide +kernel))⟩
theorem cv_L_127 : CV RL 127 6 yX6_pay (Cond.code yX6_pay cX6_pay 3 (some .long)) 2 := ⟨cX6_pay, 3, (some .long), (RX6, TX6, 34), rfl, by decide, rfl, rfl, ⟨by decide +kernel, by decide +kernel, by decide +kernel⟩, (inW 1036 (by decide +kernel) (by decide +kernel)), (inW 1037 (by decide +kernel) (by decide +kernel)), (inW 1038 (by decide +kernel) (by decide +kernel)), (inW 52 (by decide +kernel) (by decide +kernel)), (inW 1039 (by decide +kernel) (by decide +kernel))⟩
theorem cv_X6_215 : CV RX6 215 6 yX6_sum (Cond.code yX6_sum cX6_sum 5 (some .long)) 1 := ⟨cX6_sum, 5, (some .long), (RX6, TX6, 34), rfl, by decide, rfl, rfl, ⟨by decide +kernel, by decide +kernel, by decide +kernel⟩, (inW 1040 (by decide +kernel) (by decide +kernel)), (inW 1042 (by decide +kernel) (by decide +kernel)), (inW 43 (by decide +kernel) (by decide +kernel)), (inW 52 (by decide +kernel) (by decide +kernel)), (inW 1043 (by decide +kernel) (by decide +kernel))⟩
theorem cv_L_130 : CV RL 130 6 yX6_interest (Cond.code yX6_interest cX6_interest 3 (some .int)) 1 := ⟨cX6_interest, 3, (some .int), (RX6, TX6, 34), rfl, by decide, rfl, rfl, ⟨by decide +kernel, by decide +kernel, by decide +kernel⟩, (inW 1044 (by decide +kernel) (by decide +kernel)), (inW 1045 (by decide +kernel) (by decide +kernel)), (inW 1046 (by decide +kernel) (by decide +kernel)), (inW 52 (by decide +kernel) (by decide +kernel)), (inW 1047 (by decide +kernel) (by decide +kernel))⟩
theorem cv_L_133 : CV RL 133 6 yX6_pass (Cond.code yX6_pass cX6_pass 6 (some .int)) 1 := ⟨cX6_pass, 6, (some .int), (RX6, TX6, 34), rfl, by decide, rfl, rfl, ⟨by decide +kernel, by decide +kernel, by decide +kernel⟩, (inW 1049 (by decide +kernel) (by decide +kernel)), (inW 1050 (by decide +kernel) (by decide +kernel)), (inW 1051 (by decide +kernel) (by decide +kernel)), (inW 52 (by decide +kernel) (by decide +kernel)), (inW 1052 (by decide +kernel) (by decide +kernel))⟩
theorem cv_X6_226 : CV RX6 226 6 yX6_charge (Cond.code yX6_charge cX6_charge 7 (some .long)) 2 := ⟨cX6_charge, 7, (some .long), (RX6, TX6, 34), rfl, by decide, rfl, rfl, ⟨by decide +kernel, by decide +kernel, by decide +kernel⟩, (inW 1053 (by decide +kernel) (by decide +kernel)), (inW 1055 (by decide +kernel) (by decide +kernel)), (inW 44 (by decide +kernel) (by decide +kernel)), (inW 52 (by decide +kernel) (by decide +kernel)), (inW 1056 (by decide +kernel) (by decide +kernel))⟩
theorem cv_L_136 : CV RL 136 6 yX6_balance (Cond.code yX6_balance cX6_balance 2 (some .long)) 1 := ⟨cX6_balance, 2, (some .long), (RX6, TX6, 34), rfl, by decide, rfl, rfl, ⟨by decide +kernel, by decide +kernel, by decide +kernel⟩, (inW 1058 (by decide +kernel) (by decide +kernel)), (inW 1059 (by decide +kernel) (by decide +kernel)), (inW 1060 (by decide +kernel) (by decide +kernel)), (inW 52 (by decide +kernel) (by decide +kernel)), (inW 1061 (by decide +kernel) (by decide +kernel))⟩
theorem cv_L_139 : CV RL 139 6 yX6_posting (Cond.code yX6_posting cX6_posting 5 (some .long)) 3 := ⟨cX6_posting, 5, (some .long), (RX6, TX6, 34), rfl, by decide, rfl, rfl, ⟨by decide +kernel, by decide +kernel, by decide +kernel⟩, (inW 1062 (by decide +kernel) (by decide +kernel)), (inW 1063 (by decide +kernel) (by decide +kernel)), (inW 1064 (by decide +kernel) (by decide +kernel)), (inW 52 (by decide +kernel) (by decide +kernel)), (inW 1065 (by decide +kernel) (by decide +kernel))⟩
theorem cn_X3_38 : CN RX3 38 yX5_carriesToEven (Cond.code yX5_carriesToEven cX5_carriesToEven 6 (some .boolean)) 3 := ⟨cX5_carriesToEven, 6, (some .boolean), rfl, by decide, ⟨by decide +kernel, by decide +kernel, by decide +kernel⟩, by decide +kernel, (inW 509 (by decide +kernel) (by decide +kernel)), (inW 46 (by decide +kernel) (by decide +kernel)), (inW 510 (by decide +kernel) (by decide +kernel))⟩
theorem cn_X1_102 : CN RX1 102 yX5_carriesToEven (Cond.code yX5_carriesToEven cX5_carriesToEven 6 (some .boolean)) 3 := ⟨cX5_carriesToEven, 6, (some .boolean), rfl, by decide, ⟨by decide +kernel, by decide +kernel, by decide +kernel⟩, by decide +kernel, (inW 509 (by decide +kernel) (by decide +kernel)), (inW 46 (by decide +kernel) (by decide +kernel)), (inW 510 (by decide +kernel) (by decide +kernel))⟩
end
section
/-! CALLS BY ARITY, SHAPES -/
def psh (r : Option Value) (st : List Value) : List Value := match r with
  | some v => v :: st
  | none => st
theorem psh_eq (r : Option Value) (st : List Value) : r.toList ++ st = psh r st := by cases r <;> rfl
def obB (ci a : Nat) : Bool := Nat.blt a NN && (match sh a with | .inr c => Nat.beq c ci | .inl _ => false)
theorem ob {ci a : Nat} (h : obB ci a = true) : OB ci a := by
  unfold obB at h
  rw [Bool.and_eq_true] at h
  refine ⟨by simpa [Nat.blt_eq] using h.1, ?_⟩
  cases hs : sh a with
  | inl q => rw [hs] at h; exact absurd h.2 (by simp)
  | inr c => rw [hs] at h; rw [Nat.eq_of_beq_eq_true h.2]
def arB (t n a : Nat) : Bool := Nat.blt a NN && (match sh a with | .inr _ => false | .inl q => Nat.beq q.1 t && Nat.beq q.2 n)
theorem ar {t n a : Nat} (h : arB t n a = true) : AR t n a := by
  unfold arB at h
  rw [Bool.and_eq_true] at h
  refine ⟨by simpa [Nat.blt_eq] using h.1, ?_⟩
  cases hs : sh a with
  | inl q =>
    rw [hs] at h
    have h2 := h.2
    simp only [Bool.and_eq_true] at h2
    rw [← Nat.eq_of_beq_eq_true h2.1, ← Nat.eq_of_beq_eq_true h2.2]
  | inr c => rw [hs] at h; exact absurd h.2 (by simp)
theorem ob_text {i : Nat} (h : i < 12) : OB 4 (24 + 2 * i) := ⟨by unfold NN; omega, by unfold sh; rw [if_neg (by omega), if_pos (by omega), if_pos (by omega)]⟩
theorem ar_text {i : Nat} (h : i < 12) : AR 0 40 (24 + 2 * i + 1) := ⟨by unfold NN; omega, by unfold sh; rw [if_neg (by omega), if_pos (by omega), if_neg (by omega)]⟩
theorem ob_ret {i : Nat} (h : i < 12) : OB 2 (48 + 3 * i) := ⟨by unfold NN; omega, by unfold sh; rw [if_neg (by omega), if_neg (by omega), if_pos (by omega), if_pos (by omega)]⟩
theorem ar_retN {i : Nat} (h : i < 12) : AR 1 12 (48 + 3 * i + 1) := ⟨by unfold NN; omega, by unfold sh; rw [if_neg (by omega), if_neg (by omega), if_pos (by omega), if_neg (by omega), if_pos (by omega)]⟩
theorem ar_retV {i : Nat} (h : i < 12) : AR 2 12 (48 + 3 * i + 2) := ⟨by unfold NN; omega, by unfold sh; rw [if_neg (by omega), if_neg (by omega), if_pos (by omega), if_neg (by omega), if_neg (by omega)]⟩
theorem ob_acc {i : Nat} (h : i < 3) : OB 0 (84 + 4 * i) := ⟨by unfold NN; omega, by unfold sh; rw [if_neg (by omega), if_neg (by omega), if_neg (by omega), if_pos (by omega), if_pos (by omega)]⟩
theorem ar_accK {i : Nat} (h : i < 3) : AR 1 24 (84 + 4 * i + 1) := ⟨by unfold NN; omega, by unfold sh; rw [if_neg (by omega), if_neg (by omega), if_neg (by omega), if_pos (by omega), if_neg (by omega), if_neg (by omega)]⟩
theorem ar_accY {i : Nat} (h : i < 3) : AR 1 24 (84 + 4 * i + 2) := ⟨by unfold NN; omega, by unfold sh; rw [if_neg (by omega), if_neg (by omega), if_neg (by omega), if_pos (by omega), if_neg (by omega), if_neg (by omega)]⟩
theorem ar_accA {i : Nat} (h : i < 3) : AR 2 24 (84 + 4 * i + 3) := ⟨by unfold NN; omega, by unfold sh; rw [if_neg (by omega), if_neg (by omega), if_neg (by omega), if_pos (by omega), if_neg (by omega), if_pos (by omega)]⟩
theorem ob_tab {i : Nat} (h : i < 3) : OB 3 (12 + 3 * i) := by rcases (show i = 0 ∨ i = 1 ∨ i = 2 by omega) with rfl | rfl | rfl <;> exact ob rfl
theorem ar_tabB {i : Nat} (h : i < 3) : AR 1 4 (12 + 3 * i + 1) := by rcases (show i = 0 ∨ i = 1 ∨ i = 2 by omega) with rfl | rfl | rfl <;> exact ar rfl
theorem ar_tabR {i : Nat} (h : i < 3) : AR 1 4 (12 + 3 * i + 2) := by rcases (show i = 0 ∨ i = 1 ∨ i = 2 by omega) with rfl | rfl | rfl <;> exact ar rfl
/-- a reference of an object that is none of the great ones lies just behind it -/
theorem rf_x {a k : Nat} (h : a = 1 ∨ a = 10 ∨ (12 ≤ a ∧ a < 96)) : rf a k = a + 1 + k := by
  unfold rf
  rw [if_neg (by omega), if_neg (by omega), if_neg (by omega), if_neg (by omega), if_neg (by omega), if_neg (by omega), if_neg (by omega)]
section
variable {G : Cx} {own : String} {cc : ByteArray} {nL : Nat} {rt : Option FieldType} {Post : Option Value → Mem → Prop} {PostX : String → Mem → Prop} {n pc : Nat} {ls : List (Nat × Value)} {st : List Value} {M : Mem}
variable {y : MethodName} {cw : Cond} {k d0 idx ci n' b : Nat} {pt : PT}
theorem w_callV0 (hC : Con (gl G) y cw k d0 pt) (cv : CV own idx ci y cw 0) (ho : OB ci b) (hF : Full M) (ht : gt G = []) (hd : d0 + 1 ≤ gd G) (hn : n' + k ≤ n) (h8 : (st.map fun v => v.category).sum ≤ 8) (d : decode cc pc = .ok (.invokevirtual idx, 3)) (hpt : pt [.ref b] M (fun r M' => PW G own cc nL rt Post PostX n' (pc + 3) ls (psh r st) M') PostX) : PW G own cc nL rt Post PostX n pc ls (.ref b :: st) M := w_callV (As := []) hC cv ho hF ht hd rfl hn rfl h8 d (by simp only [psh_eq]; exact hpt)
theorem w_callV1 {a1 : Value} (hC : Con (gl G) y cw k d0 pt) (cv : CV own idx ci y cw 1) (ho : OB ci b) (hF : Full M) (ht : gt G = []) (hd : d0 + 1 ≤ gd G) (hn : n' + k ≤ n) (h8 : (st.map fun v => v.category).sum ≤ 8) (d : decode cc pc = .ok (.invokevirtual idx, 3)) (hpt : pt [.ref b, a1] M (fun r M' => PW G own cc nL rt Post PostX n' (pc + 3) ls (psh r st) M') PostX) : PW G own cc nL rt Post PostX n pc ls (a1 :: .ref b :: st) M := w_callV (As := [a1]) hC cv ho hF ht hd rfl hn rfl h8 d (by simp only [psh_eq]; exact hpt)
theorem w_callV2 {a1 a2 : Value} (hC : Con (gl G) y cw k d0 pt) (cv : CV own idx ci y cw 2) (ho : OB ci b) (hF : Full M) (ht : gt G = []) (hd : d0 + 1 ≤ gd G) (hn : n' + k ≤ n) (h8 : (st.map fun v => v.category).sum ≤ 8) (d : decode cc pc = .ok (.invokevirtual idx, 3)) (hpt : pt [.ref b, a1, a2] M (fun r M' => PW G own cc nL rt Post PostX n' (pc + 3) ls (psh r st) M') PostX) : PW G own cc nL rt Post PostX n pc ls (a2 :: a1 :: .ref b :: st) M := w_callV (As := [a1, a2]) hC cv ho hF ht hd rfl hn rfl h8 d (by simp only [psh_eq]; exact hpt)
theorem w_callV3 {a1 a2 a3 : Value} (hC : Con (gl G) y cw k d0 pt) (cv : CV own idx ci y cw 3) (ho : OB ci b) (hF : Full M) (ht : gt G = []) (hd : d0 + 1 ≤ gd G) (hn : n' + k ≤ n) (h8 : (st.map fun v => v.category).sum ≤ 8) (d : decode cc pc = .ok (.invokevirtual idx, 3)) (hpt : pt [.ref b, a1, a2, a3] M (fun r M' => PW G own cc nL rt Post PostX n' (pc + 3) ls (psh r st) M') PostX) : PW G own cc nL rt Post PostX n pc ls (a3 :: a2 :: a1 :: .ref b :: st) M := w_callV (As := [a1, a2, a3]) hC cv ho hF ht hd rfl hn rfl h8 d (by simp only [psh_eq]; exact hpt)
theorem w_callV4 {a1 a2 a3 a4 : Value} (hC : Con (gl G) y cw k d0 pt) (cv : CV own idx ci y cw 4) (ho : OB ci b) (hF : Full M) (ht : gt G = []) (hd : d0 + 1 ≤ gd G) (hn : n' + k ≤ n) (h8 : (st.map fun v => v.category).sum ≤ 8) (d : decode cc pc = .ok (.invokevirtual idx, 3)) (hpt : pt [.ref b, a1, a2, a3, a4] M (fun r M' => PW G own cc nL rt Post PostX n' (pc + 3) ls (psh r st) M') PostX) : PW G own cc nL rt Post PostX n pc ls (a4 :: a3 :: a2 :: a1 :: .ref b :: st) M := w_callV (As := [a1, a2, a3, a4]) hC cv ho hF ht hd rfl hn rfl h8 d (by simp only [psh_eq]; exact hpt)
theorem w_callV5 {a1 a2 a3 a4 a5 : Value} (hC : Con (gl G) y cw k d0 pt) (cv : CV own idx ci y cw 5) (ho : OB ci b) (hF : Full M) (ht : gt G = []) (hd : d0 + 1 ≤ gd G) (hn : n' + k ≤ n) (h8 : (st.map fun v => v.category).sum ≤ 8) (d : decode cc pc = .ok (.invokevirtual idx, 3)) (hpt : pt [.ref b, a1, a2, a3, a4, a5] M (fun r M' => PW G own cc nL rt Post PostX n' (pc + 3) ls (psh r st) M') PostX) : PW G own cc nL rt Post PostX n pc ls (a5 :: a4 :: a3 :: a2 :: a1 :: .ref b :: st) M := w_callV (As := [a1, a2, a3, a4, a5]) hC cv ho hF ht hd rfl hn rfl h8 d (by simp only [psh_eq]; exact hpt)
theorem w_callS0 (hC : Con (gl G) y cw k d0 pt) (cs : CS own idx y cw 0) (ht : gt G = []) (hd : d0 + 1 ≤ gd G) (hn : n' + k ≤ n) (h8 : (st.map fun v => v.category).sum ≤ 8) (d : decode cc pc = .ok (.invokestatic idx, 3)) (hpt : pt [] M (fun r M' => PW G own cc nL rt Post PostX n' (pc + 3) ls (psh r st) M') PostX) : PW G own cc nL rt Post PostX n pc ls (st) M := w_callS (As := []) hC cs ht hd rfl hn rfl h8 d (by simp only [psh_eq]; exact hpt)
theorem w_callS1 {a1 : Value} (hC : Con (gl G) y cw k d0 pt) (cs : CS own idx y cw 1) (ht : gt G = []) (hd : d0 + 1 ≤ gd G) (hn : n' + k ≤ n) (h8 : (st.map fun v => v.category).sum ≤ 8) (d : decode cc pc = .ok (.invokestatic idx, 3)) (hpt : pt [a1] M (fun r M' => PW G own cc nL rt Post PostX n' (pc + 3) ls (psh r st) M') PostX) : PW G own cc nL rt Post PostX n pc ls (a1 :: st) M := w_callS (As := [a1]) hC cs ht hd rfl hn rfl h8 d (by simp only [psh_eq]; exact hpt)
theorem w_callS2 {a1 a2 : Value} (hC : Con (gl G) y cw k d0 pt) (cs : CS own idx y cw 2) (ht : gt G = []) (hd : d0 + 1 ≤ gd G) (hn : n' + k ≤ n) (h8 : (st.map fun v => v.category).sum ≤ 8) (d : decode cc pc = .ok (.invokestatic idx, 3)) (hpt : pt [a1, a2] M (fun r M' => PW G own cc nL rt Post PostX n' (pc + 3) ls (psh r st) M') PostX) : PW G own cc nL rt Post PostX n pc ls (a2 :: a1 :: st) M := w_callS (As := [a1, a2]) hC cs ht hd rfl hn rfl h8 d (by simp only [psh_eq]; exact hpt)
theorem w_callS3 {a1 a2 a3 : Value} (hC : Con (gl G) y cw k d0 pt) (cs : CS own idx y cw 3) (ht : gt G = []) (hd : d0 + 1 ≤ gd G) (hn : n' + k ≤ n) (h8 : (st.map fun v => v.category).sum ≤ 8) (d : decode cc pc = .ok (.invokestatic idx, 3)) (hpt : pt [a1, a2, a3] M (fun r M' => PW G own cc nL rt Post PostX n' (pc + 3) ls (psh r st) M') PostX) : PW G own cc nL rt Post PostX n pc ls (a3 :: a2 :: a1 :: st) M := w_callS (As := [a1, a2, a3]) hC cs ht hd rfl hn rfl h8 d (by simp only [psh_eq]; exact hpt)
theorem w_callS4 {a1 a2 a3 a4 : Value} (hC : Con (gl G) y cw k d0 pt) (cs : CS own idx y cw 4) (ht : gt G = []) (hd : d0 + 1 ≤ gd G) (hn : n' + k ≤ n) (h8 : (st.map fun v => v.category).sum ≤ 8) (d : decode cc pc = .ok (.invokestatic idx, 3)) (hpt : pt [a1, a2, a3, a4] M (fun r M' => PW G own cc nL rt Post PostX n' (pc + 3) ls (psh r st) M') PostX) : PW G own cc nL rt Post PostX n pc ls (a4 :: a3 :: a2 :: a1 :: st) M := w_callS (As := [a1, a2, a3, a4]) hC cs ht hd rfl hn rfl h8 d (by simp only [psh_eq]; exact hpt)
theorem w_callS5 {a1 a2 a3 a4 a5 : Value} (hC : Con (gl G) y cw k d0 pt) (cs : CS own idx y cw 5) (ht : gt G = []) (hd : d0 + 1 ≤ gd G) (hn : n' + k ≤ n) (h8 : (st.map fun v => v.category).sum ≤ 8) (d : decode cc pc = .ok (.invokestatic idx, 3)) (hpt : pt [a1, a2, a3, a4, a5] M (fun r M' => PW G own cc nL rt Post PostX n' (pc + 3) ls (psh r st) M') PostX) : PW G own cc nL rt Post PostX n pc ls (a5 :: a4 :: a3 :: a2 :: a1 :: st) M := w_callS (As := [a1, a2, a3, a4, a5]) hC cs ht hd rfl hn rfl h8 d (by simp only [psh_eq]; exact hpt)
theorem w_callS6 {a1 a2 a3 a4 a5 a6 : Value} (hC : Con (gl G) y cw k d0 pt) (cs : CS own idx y cw 6) (ht : gt G = []) (hd : d0 + 1 ≤ gd G) (hn : n' + k ≤ n) (h8 : (st.map fun v => v.category).sum ≤ 8) (d : decode cc pc = .ok (.invokestatic idx, 3)) (hpt : pt [a1, a2, a3, a4, a5, a6] M (fun r M' => PW G own cc nL rt Post PostX n' (pc + 3) ls (psh r st) M') PostX) : PW G own cc nL rt Post PostX n pc ls (a6 :: a5 :: a4 :: a3 :: a2 :: a1 :: st) M := w_callS (As := [a1, a2, a3, a4, a5, a6]) hC cs ht hd rfl hn rfl h8 d (by simp only [psh_eq]; exact hpt)
theorem w_callS7 {a1 a2 a3 a4 a5 a6 a7 : Value} (hC : Con (gl G) y cw k d0 pt) (cs : CS own idx y cw 7) (ht : gt G = []) (hd : d0 + 1 ≤ gd G) (hn : n' + k ≤ n) (h8 : (st.map fun v => v.category).sum ≤ 8) (d : decode cc pc = .ok (.invokestatic idx, 3)) (hpt : pt [a1, a2, a3, a4, a5, a6, a7] M (fun r M' => PW G own cc nL rt Post PostX n' (pc + 3) ls (psh r st) M') PostX) : PW G own cc nL rt Post PostX n pc ls (a7 :: a6 :: a5 :: a4 :: a3 :: a2 :: a1 :: st) M := w_callS (As := [a1, a2, a3, a4, a5, a6, a7]) hC cs ht hd rfl hn rfl h8 d (by simp only [psh_eq]; exact hpt)
theorem w_callN3 {a1 a2 a3 : Value} (hC : Con (gl G) y cw 0 d0 pt) (cs : CN own idx y cw 3) (ht : gt G = []) (hd : d0 + 1 ≤ gd G) (h8 : (st.map fun v => v.category).sum ≤ 8) (d : decode cc pc = .ok (.invokestatic idx, 3)) (hpt : pt [a1, a2, a3] M (fun r M' => PW G own cc nL rt Post PostX n (pc + 3) ls (psh r st) M') (fun _ _ => False)) : PW G own cc nL rt Post PostX n pc ls (a3 :: a2 :: a1 :: st) M := w_callN (As := [a1, a2, a3]) hC cs ht hd rfl rfl h8 d (by simp only [psh_eq]; exact hpt)
end
end
section
/-! MORE RULES: copies of rows, wide constants; truth values -/
/-- a row as a whole -/
def rI (M : Mem) (a : Nat) (f : Nat → Int32) : Mem := (va_up M.1 a f, M.2)
def rJ (M : Mem) (a : Nat) (f : Nat → Int64) : Mem := (M.1, va_up M.2.1 a f, M.2.2)
def bi (b : Bool) : Int32 := if b = true then 1 else 0
theorem bi_t {p : Prop} {h : Decidable p} (q : p) : bi (@decide p h) = 1 := by simp [bi, q]
theorem bi_f {p : Prop} {h : Decidable p} (q : ¬ p) : bi (@decide p h) = 0 := by simp [bi, q]
theorem bi_01 (b : Bool) : bi b = 0 ∨ bi b = 1 := by cases b <;> simp [bi]
theorem bi_0 {b : Bool} : bi b = 0 ↔ b = false := by cases b <;> simp [bi]
theorem bi_1 {b : Bool} : ¬ bi b = 0 ↔ b = true := by cases b <;> simp [bi]
theorem bi_nar (b : Bool) : narrow .boolean (.int (bi b)) = .int (bi b) := by cases b <;> rfl
theorem ac_st : Cond.static arraycopyName ∈ WW := inW 547 (by decide +kernel) (by decide +kernel)
theorem ac_na : Cond.native arraycopyName ∈ WW := inW 548 (by decide +kernel) (by decide +kernel)
theorem ac_in : Cond.initialized "java/lang/System" ∈ WW := inW 64 (by decide +kernel) (by decide +kernel)
theorem ac_X4_19 : Cond.methodLink RX4 19 arraycopyName ∈ WW := inW 546 (by decide +kernel) (by decide +kernel)
theorem ac_X2_27 : Cond.methodLink RX2 27 arraycopyName ∈ WW := inW 707 (by decide +kernel) (by decide +kernel)
theorem rI_ce {cy : Nat → ClassId} {adr : Nat → Nat} {M : Mem} {a : Nat} {f : Nat → Int32} : ∀ b, b ≠ a → ce cy adr (rI M a f) b = ce cy adr M b := fun b hb => ce_same (va_up_ne _ _ hb) rfl rfl rfl (fun _ => rfl)
theorem rJ_ce {cy : Nat → ClassId} {adr : Nat → Nat} {M : Mem} {a : Nat} {f : Nat → Int64} : ∀ b, b ≠ a → ce cy adr (rJ M a f) b = ce cy adr M b := fun b hb => ce_same rfl (va_up_ne _ _ hb) rfl rfl (fun _ => rfl)
section
variable {G : Cx} {own : String} {cc : ByteArray} {nL : Nat} {rt : Option FieldType} {Post : Option Value → Mem → Prop} {PostX : String → Mem → Prop} {n pc : Nat} {ls : List (Nat × Value)} {st : List Value} {M : Mem}
theorem w_copyC {idx a0 a m0 m1 : Nat} {sp dp c : Int32} (hw : Cond.methodLink own idx arraycopyName ∈ WW) (hF : Full M) (ha0 : AR 0 m0 a0) (ha : AR 0 m1 a) (q1 : ¬ sp < 0) (q2 : ¬ dp < 0) (q3 : ¬ c < 0) (q4 : sp.toNatClampNeg + c.toNatClampNeg ≤ m0) (q5 : dp.toNatClampNeg + c.toNatClampNeg ≤ m1) (hfit : ∀ i, i < c.toNatClampNeg → fits .char (.int (mI M a0 (sp.toNatClampNeg + i))) = true) (hd : 1 ≤ gd G) (h8 : (st.map fun v => v.category).sum ≤ 8) (d : decode cc pc = .ok (.invokestatic idx, 3))
    (kk : PW G own cc nL rt Post PostX n (pc + 3) ls st (rI M a (va_cpy (mI M a0) (mI M a) sp.toNatClampNeg dp.toNatClampNeg c.toNatClampNeg))) : PW G own cc nL rt Post PostX n pc ls (.int c :: .int dp :: .ref a :: .int sp :: .ref a0 :: st) M := by
  intro n0 H locs lsA cells slots ok h1 h2 hP hD hS hl
  have hR := ok.room
  have hnw : nativeFrameWords "java/lang/System" "arraycopy" 5 + 11 ≤ 50 := by decide +kernel
  refine va_copyi ok.hx ok.hb (by rw [ok.hml, hl.1]) ok.hown (ok.hts _ hw) (ok.hts _ ac_na) (ok.hts _ ac_st) (ok.hts _ ac_in) ok.hK hP hD hS a0 a 0 0 (c0 := gy G 0) (c1 := gy G 0) (n0 := m0) (n1 := m1) (f := mI M a0) (g := mI M a) (ty := .char) (by rw [Wd_at (by rw [hF.1]; exact ha0.1), ce_a ha0.2]; rfl) (by rw [Wd_at (by rw [hF.1]; exact ha.1), ce_a ha.2]; rfl) rfl rfl rfl q1 q2 q3 q4 q5 hfit (by rw [hR]; exact hd) (by rw [hR, cats]; simp only [rmm]; omega) d (fun H1 locs1 hP1 hD1 hS1 => ?_)
  have e : (Wd (gy G) (gr G) M).set a (gr G a, .inl (gy G 0, m1, .inl (va_cpy (mI M a0) (mI M a) sp.toNatClampNeg dp.toNatClampNeg c.toNatClampNeg))) = Wd (gy G) (gr G) (rI M a (va_cpy (mI M a0) (mI M a) sp.toNatClampNeg dp.toNatClampNeg c.toNatClampNeg)) := Wd_set (M := M) (M' := rI M a (va_cpy (mI M a0) (mI M a) sp.toNatClampNeg dp.toNatClampNeg c.toNatClampNeg)) (cy := gy G) (adr := gr G) rfl rI_ce (by
    rw [ce_a ha.2]
    have : mI (rI M a (va_cpy (mI M a0) (mI M a) sp.toNatClampNeg dp.toNatClampNeg c.toNatClampNeg)) a = va_cpy (mI M a0) (mI M a) sp.toNatClampNeg dp.toNatClampNeg c.toNatClampNeg := va_up_self _ _ _
    simp only [arow, this]
    rfl)
  rw [e] at hP1 hD1
  exact kk n0 H1 locs1 lsA cells slots ok h1 h2 hP1 hD1 hS1 hl
theorem w_copyL {idx a0 a m0 m1 : Nat} {sp dp c : Int32} (hw : Cond.methodLink own idx arraycopyName ∈ WW) (hF : Full M) (ha0 : AR 2 m0 a0) (ha : AR 2 m1 a) (q1 : ¬ sp < 0) (q2 : ¬ dp < 0) (q3 : ¬ c < 0) (q4 : sp.toNatClampNeg + c.toNatClampNeg ≤ m0) (q5 : dp.toNatClampNeg + c.toNatClampNeg ≤ m1) (hd : 1 ≤ gd G) (h8 : (st.map fun v => v.category).sum ≤ 8) (d : decode cc pc = .ok (.invokestatic idx, 3))
    (kk : PW G own cc nL rt Post PostX n (pc + 3) ls st (rJ M a (va_cpy (mJ M a0) (mJ M a) sp.toNatClampNeg dp.toNatClampNeg c.toNatClampNeg))) : PW G own cc nL rt Post PostX n pc ls (.int c :: .int dp :: .ref a :: .int sp :: .ref a0 :: st) M := by
  intro n0 H locs lsA cells slots ok h1 h2 hP hD hS hl
  have hR := ok.room
  have hnw : nativeFrameWords "java/lang/System" "arraycopy" 5 + 11 ≤ 50 := by decide +kernel
  refine va_copyl ok.hx ok.hb (by rw [ok.hml, hl.1]) ok.hown (ok.hts _ hw) (ok.hts _ ac_na) (ok.hts _ ac_st) (ok.hts _ ac_in) ok.hK hP hD hS a0 a 2 2 (c0 := gy G 2) (c1 := gy G 2) (n0 := m0) (n1 := m1) (f := mJ M a0) (g := mJ M a) (ty := .long) (by rw [Wd_at (by rw [hF.1]; exact ha0.1), ce_a ha0.2]; rfl) (by rw [Wd_at (by rw [hF.1]; exact ha.1), ce_a ha.2]; rfl) rfl rfl rfl q1 q2 q3 q4 q5 (fun _ _ => rfl) (by rw [hR]; exact hd) (by rw [hR, cats]; simp only [rmm]; omega) d (fun H1 locs1 hP1 hD1 hS1 => ?_)
  have e : (Wd (gy G) (gr G) M).set a (gr G a, .inl (gy G 2, m1, .inr (.inl (va_cpy (mJ M a0) (mJ M a) sp.toNatClampNeg dp.toNatClampNeg c.toNatClampNeg)))) = Wd (gy G) (gr G) (rJ M a (va_cpy (mJ M a0) (mJ M a) sp.toNatClampNeg dp.toNatClampNeg c.toNatClampNeg)) := Wd_set (M := M) (M' := rJ M a (va_cpy (mJ M a0) (mJ M a) sp.toNatClampNeg dp.toNatClampNeg c.toNatClampNeg)) (cy := gy G) (adr := gr G) rfl rJ_ce (by
    rw [ce_a ha.2]
    have : mJ (rJ M a (va_cpy (mJ M a0) (mJ M a) sp.toNatClampNeg dp.toNatClampNeg c.toNatClampNeg)) a = va_cpy (mJ M a0) (mJ M a) sp.toNatClampNeg dp.toNatClampNeg c.toNatClampNeg := va_up_self _ _ _
    simp only [arow, this]
    rfl)
  rw [e] at hP1 hD1
  exact kk n0 H1 locs1 lsA cells slots ok h1 h2 hP1 hD1 hS1 hl
end
section
variable {G : Cx} {own : String} {cc : ByteArray} {nL : Nat} {rt : Option FieldType} {Post : Option Value → Mem → Prop} {PostX : String → Mem → Prop} {n pc : Nat} {ls : List (Nat × Value)} {st : List Value} {M : Mem}
theorem w_ldcw {i : Nat} {v : Int32} (hw : Cond.constant own i v ∈ WW) (d : decode cc pc = .ok (.ldc_w i, 3)) (k : PW G own cc nL rt Post PostX n (pc + 3) ls (.int v :: st) M) : PW G own cc nL rt Post PostX n pc ls st M := fun n0 H locs lsA cells slots ok h1 h2 hP hD hS hl => lv_ldcw ok.1 ok.2.1 ok.2.2.2.2.1 (ok.2.2.2.2.2.1 _ hw) d (k n0 H locs lsA cells slots ok h1 h2 hP hD hS hl)
end
/-- a number below n, by its Nat -/
theorem lt_nat {x : Int32} (n : Nat) {N : Int32} (hN : nI n = N) (hn : n < 2 ^ 31) (h0 : ¬ x < 0) (h1 : x < N) : ∃ i, i < n ∧ x = nI i := by
  obtain ⟨j, hj, rfl⟩ := nI_of h0
  rw [← hN, nI_ltI hj hn] at h1
  exact ⟨j, h1, rfl⟩
/-! reading what was written -/
theorem mI_n {M : Mem} {a k b j : Nat} {v : Int32} (h : b ≠ a) : mI (sI M a k v) b j = mI M b j := if_neg (fun q => h q.1)
theorem mI_k {M : Mem} {a k b j : Nat} {v : Int32} (h : j ≠ k) : mI (sI M a k v) b j = mI M b j := if_neg (fun q => h q.2)
theorem mI_s {M : Mem} {a k : Nat} {v : Int32} : mI (sI M a k v) a k = v := if_pos ⟨rfl, rfl⟩
theorem mI_J {M : Mem} {a k : Nat} {v : Int64} : mI (sJ M a k v) = mI M := rfl
theorem mI_D {M : Mem} {a k : Nat} {v : UInt64} : mI (sD M a k v) = mI M := rfl
theorem mI_F {M : Mem} {k v : Nat} : mI (sF M k v) = mI M := rfl
theorem mI_rJ {M : Mem} {a : Nat} {f : Nat → Int64} : mI (rJ M a f) = mI M := rfl
theorem mI_rn {M : Mem} {a b : Nat} {f : Nat → Int32} (h : b ≠ a) : mI (rI M a f) b = mI M b := va_up_ne _ _ h
theorem mI_rs {M : Mem} {a : Nat} {f : Nat → Int32} : mI (rI M a f) a = f := va_up_self _ _ _
theorem mI_row {M : Mem} {a k b : Nat} {v : Int32} (h : b ≠ a) : mI (sI M a k v) b = mI M b := up2_row _ _ h
theorem mJ_n {M : Mem} {a k b j : Nat} {v : Int64} (h : b ≠ a) : mJ (sJ M a k v) b j = mJ M b j := if_neg (fun q => h q.1)
theorem mJ_k {M : Mem} {a k b j : Nat} {v : Int64} (h : j ≠ k) : mJ (sJ M a k v) b j = mJ M b j := if_neg (fun q => h q.2)
theorem mJ_s {M : Mem} {a k : Nat} {v : Int64} : mJ (sJ M a k v) a k = v := if_pos ⟨rfl, rfl⟩
theorem mJ_I {M : Mem} {a k : Nat} {v : Int32} : mJ (sI M a k v) = mJ M := rfl
theorem mJ_D {M : Mem} {a k : Nat} {v : UInt64} : mJ (sD M a k v) = mJ M := rfl
theorem mJ_F {M : Mem} {k v : Nat} : mJ (sF M k v) = mJ M := rfl
theorem mJ_rI {M : Mem} {a : Nat} {f : Nat → Int32} : mJ (rI M a f) = mJ M := rfl
theorem mJ_rn {M : Mem} {a b : Nat} {f : Nat → Int64} (h : b ≠ a) : mJ (rJ M a f) b = mJ M b := va_up_ne _ _ h
theorem mJ_rs {M : Mem} {a : Nat} {f : Nat → Int64} : mJ (rJ M a f) a = f := va_up_self _ _ _
theorem mJ_row {M : Mem} {a k b : Nat} {v : Int64} (h : b ≠ a) : mJ (sJ M a k v) b = mJ M b := up2_row _ _ h
theorem mF_I {M : Mem} {a k : Nat} {v : Int32} : mF (sI M a k v) = mF M := rfl
theorem mF_J {M : Mem} {a k : Nat} {v : Int64} : mF (sJ M a k v) = mF M := rfl
theorem mF_s {M : Mem} {k v : Nat} : mF (sF M k v) k = v := va_up_self _ _ _
theorem mF_n {M : Mem} {k j v : Nat} (h : j ≠ k) : mF (sF M k v) j = mF M j := va_up_ne _ _ h
/-- as con_of, for a class of which some methods are the machine's own (Math) -/
theorem con_ofF {l : Launch} {y : MethodName} {cc : ByteArray} {maxL d : Nat} {ret : Option FieldType} {pt : PT} (hl : l.stackTraces = false) (hy : plainFor y = true) (hX : ∀ as M Q X X', pt as M Q X → pt as M Q X') (hlen : ∀ as M Q X, pt as M Q X → (lg_sl as).length ≤ maxL)
    (h : ∀ (G : Cx) (as : List Value) (M : Mem) (Q : Option Value → Mem → Prop) (X : String → Mem → Prop), gl G = l → gt G = [] → gd G = d → pt as M Q X → PW G y.cls cc maxL ret Q X 0 0 (lv_args 0 as) [] M) (htab : ∀ (args : Array Value) (s : State) (m : MethodId) (meth : Method) (c : Code), (Cond.code y cc maxL ret).before args s = true → s.methodNamed? y = some m → s.vm.method? m = some meth → meth.code = some c → c.exceptionTable.toList = []) : Con l y (Cond.code y cc maxL ret) 0 d pt := by
  intro D cy adr M as Q X sz hpt
  have hpt' := hX as M Q X (fun _ _ => False) hpt
  have hM : Met l y (Cond.code y cc maxL ret :: WW) (rmm d 0) (va_Pc (as.map (tv adr)) (Pre D cy adr M sz)) (Qn D cy (fun a => a = adr) (AA adr (mN M) sz) Q) 0 (6 * 0) (AA adr (mN M) sz) := by
    refine va_MetF (cc := cc) (maxL := maxL) (ret := ret) hy rfl ?_
    intro p e s m args below meth c s₁ B hml hv
    obtain ⟨rfl, hsz, hP, hK, hD, hB⟩ := hv
    subst hsz
    have hts := atoms_spec (ws := Cond.code y cc maxL ret :: WW) B.pre
    have hlen' := hlen as M Q X hpt
    have hsl : ∀ vs : List Value, (lg_sl (vs.map (tv adr))).length = (lg_sl vs).length := by
      intro vs
      induction vs with
      | nil => rfl
      | cons v vs ih =>
        simp only [lg_sl, List.map_cons, List.flatMap_cons, List.length_append] at ih ⊢
        rw [ih, tv_cat]
        split <;> rfl
    have hargs : ∀ (vs : List Value) (i : Nat), lv_args i (vs.map (tv adr)) = lt adr (lv_args i vs) := by
      intro vs
      induction vs with
      | nil => intro i; rfl
      | cons v vs ih =>
        intro i
        simp only [List.map_cons, lv_args, lt, tv_cat] at ih ⊢
        rw [ih]
    have hl2 := lv_entry (as.map (tv adr)) (n := maxL) (by rw [hsl]; exact hlen')
    rw [lg_entry_eq]
    generalize (lg_sl (as.map (tv adr)) ++ List.replicate (maxL - (lg_sl (as.map (tv adr))).length) Slot.unset).toArray = lsA at hl2 ⊢
    rw [hargs] at hl2
    let G : Cx := ((p, l, e, rmm d 0, s, m, (as.map (tv adr)).toArray, below, meth, c), (D, cy, adr, (fun a => a = adr), AA adr (mN M) s.heap.size, d, []))
    have tab0 : c.exceptionTable.toList = [] := htab _ s m meth c (hts _ List.mem_cons_self) B.named B.method (Stand.of_body B).code
    have ok : Ok G y.cls cc maxL ret 0 := ⟨B.exec, B.bytes, hml, B.returns, findClass_of_methodNamed B.named, fun w hw => hts w (List.mem_cons_of_mem _ hw), B.notSynchronized, hK, hB, hl, rfl, rfl, fun q hq => Or.inr hq, tab0⟩
    have hw := h G as M Q (fun _ _ => False) rfl rfl rfl hpt' 0 s.heap [] lsA 0 0 ok (by omega) (by omega) hP hD va_S.rf hl2
    intro T hT Xs
    obtain ⟨t, st, o, z1, z2, z3⟩ := hw T hT Xs
    refine ⟨t, st, o, z1, z2, ?_⟩
    rcases z3 with z3 | ⟨q, -, E, ce, L, hx, -⟩
    · exact z3
    · obtain ⟨⟨_, _, _, hx, _⟩, _⟩ := hx
      exact hx.elim
  intro p e ha hc hk s m args below hf happ hP hK
  obtain ⟨kk, o, h1, h2, h3, hq⟩ := hM p e ha hc hk s m args below hf happ hP hK
  exact ⟨kk, o, h1, h2, h3, Or.inl hq⟩
theorem tab_none {y : MethodName} {cc : ByteArray} {maxL : Nat} {ret : Option FieldType} : ∀ (args : Array Value) (s : State) (m : MethodId) (meth : Method) (c : Code), (Cond.code y cc maxL ret).before args s = true → s.methodNamed? y = some m → s.vm.method? m = some meth → meth.code = some c → c.exceptionTable.toList = [] := by
  intro args s m meth c h hn hm hc
  obtain ⟨meth', c', h1, h2, -, -, -, -, h7, -⟩ := Cond.code_spec hn h
  cases h1.symm.trans hm
  cases h2.symm.trans hc
  simpa using h7
/-- locals by what they answer -/
def allLk (ls : List (Nat × Value)) : List (Nat × Value) → Prop
  | [] => True
  | q :: r => lk ls q.1 = some q.2 ∧ allLk ls r
theorem allLk_mem {ls : List (Nat × Value)} : ∀ (ls' : List (Nat × Value)), allLk ls ls' → ∀ q ∈ ls', q ∈ ls
  | [], _, q, h => by cases h
  | x :: r, hh, q, h => by
    rcases List.mem_cons.mp h with rfl | h
    · exact lk_mem ls q.1 q.2 hh.1
    · exact allLk_mem r hh.2 q h
theorem w_ls {G : Cx} {own : String} {cc : ByteArray} {nL : Nat} {rt : Option FieldType} {Post : Option Value → Mem → Prop} {PostX : String → Mem → Prop} {n pc : Nat} {ls ls' : List (Nat × Value)} {st : List Value} {M : Mem} (h : allLk ls ls') (k : PW G own cc nL rt Post PostX n pc ls' st M) : PW G own cc nL rt Post PostX n pc ls st M := fun n0 H locs lsA cells slots ok h1 h2 hP hD hS hl =>
  k n0 H locs lsA cells slots ok h1 h2 hP hD hS ⟨hl.1, hl.2.1, fun q hq => by
    obtain ⟨q0, hq0, rfl⟩ := List.mem_map.mp hq
    exact hl.2.2 _ (List.mem_map.mpr ⟨q0, allLk_mem ls' h q0 hq0, rfl⟩)⟩
/-! indices -/
def ix (x : Int32) (n : Nat) : Prop := ∃ i : Nat, i < n ∧ x = nI i
theorem ix_no {x : Int32} {n : Nat} {N : Int32} (hN : nI n = N) (hn : n < 2 ^ 31) (h : x < 0 ∨ ¬ x < N) : ¬ ix x n := by
  rintro ⟨i, hi, rfl⟩
  rw [← hN, nI_ltI (by omega) hn] at h
  rcases h with h | h
  · exact nI_pos (by omega) h
  · exact h hi
theorem in_t {y lo hi : Int32} {LO HI : Int64} (hlo : lo.toInt64 = LO) (hhi : hi.toInt64 = HI) (h : ¬ bi (decide (¬ y.toInt64 < LO) && decide (¬ HI < y.toInt64)) = 0) : ¬ y < lo ∧ ¬ hi < y := by
  rw [bi_1, Bool.and_eq_true, decide_eq_true_eq, decide_eq_true_eq, ← hlo, ← hhi, Int64.lt_iff_toInt_lt, Int64.lt_iff_toInt_lt] at h
  rw [Int32.lt_iff_toInt_lt, Int32.lt_iff_toInt_lt]
  simpa using h
theorem in_f {y lo hi : Int32} {LO HI : Int64} (hlo : lo.toInt64 = LO) (hhi : hi.toInt64 = HI) (h : bi (decide (¬ y.toInt64 < LO) && decide (¬ HI < y.toInt64)) = 0) : y < lo ∨ hi < y := by
  rw [bi_0, ← hlo, ← hhi, Bool.and_eq_false_iff, decide_eq_false_iff_not, decide_eq_false_iff_not, Int64.lt_iff_toInt_lt, Int64.lt_iff_toInt_lt] at h
  rw [Int32.lt_iff_toInt_lt, Int32.lt_iff_toInt_lt]
  simp only [Int32.toInt_toInt64] at h
  omega
theorem ix_in {x : Int32} {n : Nat} {N : Int32} (hN : nI n = N) (hn : n + 1 < 2 ^ 31) (h : ¬ x < 0 ∧ ¬ N < x) : ∃ i, i < n + 1 ∧ x = nI i := by
  obtain ⟨j, hj, rfl⟩ := nI_of h.1
  have h1 := h.2
  rw [← hN, nI_ltI (by omega) hj] at h1
  exact ⟨j, by omega, rfl⟩
theorem ix_out {x : Int32} {n : Nat} {N : Int32} (hN : nI n = N) (hn : n + 1 < 2 ^ 31) (h : x < 0 ∨ N < x) : ¬ ix x (n + 1) := by
  rintro ⟨i, hi, rfl⟩
  rw [← hN, nI_ltI (by omega) (by omega)] at h
  rcases h with h | h
  · exact nI_pos (by omega) h
  · omega
theorem vin {i n : Nat} (h : i < n) (hn : n < 2 ^ 31) : vp_in (nI i) n := vp_in_nI h hn
theorem clN {i : Nat} (h : i < 2 ^ 31) : (nI i).toNatClampNeg = i := nI_clamp h
theorem cm3 (i k : Nat) : (3 : Int32) * nI i + nI k = nI (3 * i + k) := by rw [show (3 : Int32) = nI 3 from rfl, pk_mul, nI_add]
theorem cm4 (i k : Nat) : (4 : Int32) * nI i + nI k = nI (4 * i + k) := by rw [show (4 : Int32) = nI 4 from rfl, pk_mul, nI_add]
theorem cm12 (i k : Nat) : (12 : Int32) * nI i + nI k = nI (12 * i + k) := by rw [show (12 : Int32) = nI 12 from rfl, pk_mul, nI_add]
theorem cm24 (i k : Nat) : (24 : Int32) * nI i + nI k = nI (24 * i + k) := by rw [show (24 : Int32) = nI 24 from rfl, pk_mul, nI_add]
theorem cm48 (i k : Nat) : (48 : Int32) * nI i + nI k = nI (48 * i + k) := by rw [show (48 : Int32) = nI 48 from rfl, pk_mul, nI_add]
theorem c4 (i : Nat) : (4 : Int32) * nI i = nI (4 * i) := by rw [show (4 : Int32) = nI 4 from rfl, pk_mul]
theorem c24 (i : Nat) : (24 : Int32) * nI i = nI (24 * i) := by rw [show (24 : Int32) = nI 24 from rfl, pk_mul]
theorem sb1 {a : Nat} (h : 1 ≤ a) : nI a - 1 = nI (a - 1) := by rw [show (1 : Int32) = nI 1 from rfl, pk_sub h]
theorem in_t' {y : Int64} {LO HI : Int64} (h : ¬ bi (decide (¬ y < LO) && decide (¬ HI < y)) = 0) : ¬ y < LO ∧ ¬ HI < y := by
  rw [bi_1, Bool.and_eq_true, decide_eq_true_eq, decide_eq_true_eq] at h
  exact h
theorem in_f' {y : Int64} {LO HI : Int64} (h : bi (decide (¬ y < LO) && decide (¬ HI < y)) = 0) : y < LO ∨ HI < y := by
  rw [bi_0, Bool.and_eq_false_iff, decide_eq_false_iff_not, decide_eq_false_iff_not] at h
  rcases h with h | h
  · exact Or.inl (Classical.not_not.mp h)
  · exact Or.inr (Classical.not_not.mp h)
end
section
/-! SMALL METHODS -/
def ush (x y : Int32) : Int32 := (x.toUInt32 >>> (y.toUInt32 &&& Int32.toUInt32 31)).toInt32
def bitC1 (x : Int32) : Int32 := x - (ush x 1 &&& 1431655765)
def bitC2 (x : Int32) : Int32 := (x &&& 858993459) + (ush x 2 &&& 858993459)
def bitC3 (x : Int32) : Int32 := (x + ush x 4) &&& 252645135
def bitC4 (x : Int32) : Int32 := x + ush x 8
def bitC5 (x : Int32) : Int32 := x + ush x 16
def bitC (x : Int32) : Int32 := bitC5 (bitC4 (bitC3 (bitC2 (bitC1 x)))) &&& 63
def T_bitCount : PT := fun as M Q X => ∃ x : Int32, as = [.int x] ∧ Q (some (.int (bitC x))) M
theorem c_J6_bitCount_0f7a4 {l : Launch} (hl : l.stackTraces = false) : Con l yJ6_bitCount_0f7a4 wJ6_bitCount_0f7a4 0 1 (T_bitCount) := by
  refine con_of hl (by decide) ?_ ?_
  · intro as M Q X hpt
    obtain ⟨x, rfl, hQ⟩ := hpt
    exact Nat.le_of_ble_eq_true rfl
  intro G as M Q X hl' hT hd hpt
  obtain ⟨x, rfl, hQ⟩ := hpt
  have hG : (gl G).stackTraces = false := by rw [hl']; exact hl
  show PW G RJ6 cJ6_bitCount_0f7a4 1 (some .int) Q X 0 0 [(0, .int x)] [] M
  refine w_iload_n (pc := 0) dJ6_bitCount_0f7a4_0 rfl ?_
  refine w_iload_n (pc := 1) dJ6_bitCount_0f7a4_1 rfl ?_
  refine w_iconst (v := 1) (pc := 2) dJ6_bitCount_0f7a4_2 rfl ?_
  refine w_iushr (pc := 3) dJ6_bitCount_0f7a4_3 ?_
  refine w_ldcw (pc := 4) ki_J6_265 dJ6_bitCount_0f7a4_4 ?_
  refine w_iand (pc := 7) dJ6_bitCount_0f7a4_7 ?_
  refine w_isub (pc := 8) dJ6_bitCount_0f7a4_8 ?_
  refine w_istore_n 0 (pc := 9) rfl dJ6_bitCount_0f7a4_9 (by decide) ?_
  refine w_iload_n (pc := 10) dJ6_bitCount_0f7a4_10 rfl ?_
  refine w_ldcw (pc := 11) ki_J6_266 dJ6_bitCount_0f7a4_11 ?_
  refine w_iand (pc := 14) dJ6_bitCount_0f7a4_14 ?_
  refine w_iload_n (pc := 15) dJ6_bitCount_0f7a4_15 rfl ?_
  refine w_iconst (v := 2) (pc := 16) dJ6_bitCount_0f7a4_16 rfl ?_
  refine w_iushr (pc := 17) dJ6_bitCount_0f7a4_17 ?_
  refine w_ldcw (pc := 18) ki_J6_266 dJ6_bitCount_0f7a4_18 ?_
  refine w_iand (pc := 21) dJ6_bitCount_0f7a4_21 ?_
  refine w_iadd (pc := 22) dJ6_bitCount_0f7a4_22 ?_
  refine w_istore_n 0 (pc := 23) rfl dJ6_bitCount_0f7a4_23 (by decide) ?_
  refine w_iload_n (pc := 24) dJ6_bitCount_0f7a4_24 rfl ?_
  refine w_iload_n (pc := 25) dJ6_bitCount_0f7a4_25 rfl ?_
  refine w_iconst (v := 4) (pc := 26) dJ6_bitCount_0f7a4_26 rfl ?_
  refine w_iushr (pc := 27) dJ6_bitCount_0f7a4_27 ?_
  refine w_iadd (pc := 28) dJ6_bitCount_0f7a4_28 ?_
  refine w_ldcw (pc := 29) ki_J6_267 dJ6_bitCount_0f7a4_29 ?_
  refine w_iand (pc := 32) dJ6_bitCount_0f7a4_32 ?_
  refine w_istore_n 0 (pc := 33) rfl dJ6_bitCount_0f7a4_33 (by decide) ?_
  refine w_iload_n (pc := 34) dJ6_bitCount_0f7a4_34 rfl ?_
  refine w_iload_n (pc := 35) dJ6_bitCount_0f7a4_35 rfl ?_
  refine w_bipush (v := 8) (pc := 36) dJ6_bitCount_0f7a4_36 rfl ?_
  refine w_iushr (pc := 38) dJ6_bitCount_0f7a4_38 ?_
  refine w_iadd (pc := 39) dJ6_bitCount_0f7a4_39 ?_
  refine w_istore_n 0 (pc := 40) rfl dJ6_bitCount_0f7a4_40 (by decide) ?_
  refine w_iload_n (pc := 41) dJ6_bitCount_0f7a4_41 rfl ?_
  refine w_iload_n (pc := 42) dJ6_bitCount_0f7a4_42 rfl ?_
  refine w_bipush (v := 16) (pc := 43) dJ6_bitCount_0f7a4_43 rfl ?_
  refine w_iushr (pc := 45) dJ6_bitCount_0f7a4_45 ?_
  refine w_iadd (pc := 46) dJ6_bitCount_0f7a4_46 ?_
  refine w_istore_n 0 (pc := 47) rfl dJ6_bitCount_0f7a4_47 (by decide) ?_
  refine w_iload_n (pc := 48) dJ6_bitCount_0f7a4_48 rfl ?_
  refine w_bipush (v := 63) (pc := 49) dJ6_bitCount_0f7a4_49 rfl ?_
  refine w_iand (pc := 51) dJ6_bitCount_0f7a4_51 ?_
  refine w_ireturn (pc := 52) dJ6_bitCount_0f7a4_52 rfl ?_
  exact hQ
def fdivL (x y : Int64) : Int64 := if 0 ≤ x ^^^ y then x / y else if x / y * y = x then x / y else x / y - 1
def fmodL (x y : Int64) : Int64 := if 0 ≤ x ^^^ y then x - x / y * y else if x - x / y * y = 0 then x - x / y * y else x - x / y * y + y
def minL (x y : Int64) : Int64 := if y < x then y else x
def maxL (x y : Int64) : Int64 := if x < y then y else x
def T_floorDiv : PT := fun as M Q X => ∃ x y : Int64, as = [.long x, .long y] ∧ ¬ y = 0 ∧ Q (some (.long (fdivL x y))) M
def T_floorMod : PT := fun as M Q X => ∃ x y : Int64, as = [.long x, .long y] ∧ ¬ y = 0 ∧ Q (some (.long (fmodL x y))) M
def T_minL : PT := fun as M Q X => ∃ x y : Int64, as = [.long x, .long y] ∧ Q (some (.long (minL x y))) M
def T_maxL : PT := fun as M Q X => ∃ x y : Int64, as = [.long x, .long y] ∧ Q (some (.long (maxL x y))) M
theorem c_J9_floorDiv_f86c9 {l : Launch} (hl : l.stackTraces = false) : Con l yJ9_floorDiv_f86c9 wJ9_floorDiv_f86c9 0 1 (T_floorDiv) := by
  refine con_ofF hl (by decide +kernel) (by intro as M Q X X2 h; exact h) ?_ ?_ tab_none
  · intro as M Q X hpt
    obtain ⟨x, y, rfl, hy, hQ⟩ := hpt
    exact Nat.le_of_ble_eq_true rfl
  intro G as M Q X hl' hT hd hpt
  obtain ⟨x, y, rfl, hy, hQ⟩ := hpt
  have hG : (gl G).stackTraces = false := by rw [hl']; exact hl
  show PW G RJ9 cJ9_floorDiv_f86c9 6 (some .long) Q X 0 0 [(0, .long x), (2, .long y)] [] M
  refine w_lload_n (pc := 0) dJ9_floorDiv_f86c9_0 rfl ?_
  refine w_lload_n (pc := 1) dJ9_floorDiv_f86c9_1 rfl ?_
  refine w_ldiv (pc := 2) dJ9_floorDiv_f86c9_2 hy ?_
  refine w_lstore 4 (pc := 3) dJ9_floorDiv_f86c9_3 (by decide) ?_
  refine w_lload_n (pc := 5) dJ9_floorDiv_f86c9_5 rfl ?_
  refine w_lload_n (pc := 6) dJ9_floorDiv_f86c9_6 rfl ?_
  refine w_lxor (pc := 7) dJ9_floorDiv_f86c9_7 ?_
  refine w_lconst (v := 0) (pc := 8) dJ9_floorDiv_f86c9_8 rfl ?_
  refine w_lcmp_ge 27 (pc := 9) dJ9_floorDiv_f86c9_9 dJ9_floorDiv_f86c9_10 (by decide) (fun h9 => ?_) (fun h9 => ?_)
  · refine w_lload (pc := 27) dJ9_floorDiv_f86c9_27 rfl ?_
    refine w_lreturn (pc := 29) dJ9_floorDiv_f86c9_29 ?_
    unfold fdivL at hQ
    (repeat (first | rw [if_pos (by assumption)] at hQ | rw [if_neg (by assumption)] at hQ))
    exact hQ
  · refine w_lload (pc := 13) dJ9_floorDiv_f86c9_13 rfl ?_
    refine w_lload_n (pc := 15) dJ9_floorDiv_f86c9_15 rfl ?_
    refine w_lmul (pc := 16) dJ9_floorDiv_f86c9_16 ?_
    refine w_lload_n (pc := 17) dJ9_floorDiv_f86c9_17 rfl ?_
    refine w_lcmp_eq 27 (pc := 18) dJ9_floorDiv_f86c9_18 dJ9_floorDiv_f86c9_19 (by decide) (fun h18 => ?_) (fun h18 => ?_)
    · refine w_lload (pc := 27) dJ9_floorDiv_f86c9_27 rfl ?_
      refine w_lreturn (pc := 29) dJ9_floorDiv_f86c9_29 ?_
      unfold fdivL at hQ
      (repeat (first | rw [if_pos (by assumption)] at hQ | rw [if_neg (by assumption)] at hQ))
      exact hQ
    · refine w_lload (pc := 22) dJ9_floorDiv_f86c9_22 rfl ?_
      refine w_lconst (v := 1) (pc := 24) dJ9_floorDiv_f86c9_24 rfl ?_
      refine w_lsub (pc := 25) dJ9_floorDiv_f86c9_25 ?_
      refine w_lreturn (pc := 26) dJ9_floorDiv_f86c9_26 ?_
      unfold fdivL at hQ
      (repeat (first | rw [if_pos (by assumption)] at hQ | rw [if_neg (by assumption)] at hQ))
      exact hQ
theorem c_J9_floorMod_f86c9 {l : Launch} (hl : l.stackTraces = false) : Con l yJ9_floorMod_f86c9 wJ9_floorMod_f86c9 0 1 (T_floorMod) := by
  refine con_ofF hl (by decide +kernel) (by intro as M Q X X2 h; exact h) ?_ ?_ tab_none
  · intro as M Q X hpt
    obtain ⟨x, y, rfl, hy, hQ⟩ := hpt
    exact Nat.le_of_ble_eq_true rfl
  intro G as M Q X hl' hT hd hpt
  obtain ⟨x, y, rfl, hy, hQ⟩ := hpt
  have hG : (gl G).stackTraces = false := by rw [hl']; exact hl
  show PW G RJ9 cJ9_floorMod_f86c9 6 (some .long) Q X 0 0 [(0, .long x), (2, .long y)] [] M
  refine w_lload_n (pc := 0) dJ9_floorMod_f86c9_0 rfl ?_
  refine w_lload_n (pc := 1) dJ9_floorMod_f86c9_1 rfl ?_
  refine w_lrem (pc := 2) dJ9_floorMod_f86c9_2 hy ?_
  refine w_lstore 4 (pc := 3) dJ9_floorMod_f86c9_3 (by decide) ?_
  refine w_lload_n (pc := 5) dJ9_floorMod_f86c9_5 rfl ?_
  refine w_lload_n (pc := 6) dJ9_floorMod_f86c9_6 rfl ?_
  refine w_lxor (pc := 7) dJ9_floorMod_f86c9_7 ?_
  refine w_lconst (v := 0) (pc := 8) dJ9_floorMod_f86c9_8 rfl ?_
  refine w_lcmp_ge 25 (pc := 9) dJ9_floorMod_f86c9_9 dJ9_floorMod_f86c9_10 (by decide) (fun h9 => ?_) (fun h9 => ?_)
  · refine w_lload (pc := 25) dJ9_floorMod_f86c9_25 rfl ?_
    refine w_lreturn (pc := 27) dJ9_floorMod_f86c9_27 ?_
    unfold fmodL at hQ
    (repeat (first | rw [if_pos (by assumption)] at hQ | rw [if_neg (by assumption)] at hQ))
    exact hQ
  · refine w_lload (pc := 13) dJ9_floorMod_f86c9_13 rfl ?_
    refine w_lconst (v := 0) (pc := 15) dJ9_floorMod_f86c9_15 rfl ?_
    refine w_lcmp_eq 25 (pc := 16) dJ9_floorMod_f86c9_16 dJ9_floorMod_f86c9_17 (by decide) (fun h16 => ?_) (fun h16 => ?_)
    · refine w_lload (pc := 25) dJ9_floorMod_f86c9_25 rfl ?_
      refine w_lreturn (pc := 27) dJ9_floorMod_f86c9_27 ?_
      unfold fmodL at hQ
      (repeat (first | rw [if_pos (by assumption)] at hQ | rw [if_neg (by assumption)] at hQ))
      exact hQ
    · refine w_lload (pc := 20) dJ9_floorMod_f86c9_20 rfl ?_
      refine w_lload_n (pc := 22) dJ9_floorMod_f86c9_22 rfl ?_
      refine w_ladd (pc := 23) dJ9_floorMod_f86c9_23 ?_
      refine w_lreturn (pc := 24) dJ9_floorMod_f86c9_24 ?_
      unfold fmodL at hQ
      (repeat (first | rw [if_pos (by assumption)] at hQ | rw [if_neg (by assumption)] at hQ))
      exact hQ
theorem c_J9_min_f86c9 {l : Launch} (hl : l.stackTraces = false) : Con l yJ9_min_f86c9 wJ9_min_f86c9 0 1 (T_minL) := by
  refine con_ofF hl (by decide +kernel) (by intro as M Q X X2 h; exact h) ?_ ?_ tab_none
  · intro as M Q X hpt
    obtain ⟨x, y, rfl, hQ⟩ := hpt
    exact Nat.le_of_ble_eq_true rfl
  intro G as M Q X hl' hT hd hpt
  obtain ⟨x, y, rfl, hQ⟩ := hpt
  have hG : (gl G).stackTraces = false := by rw [hl']; exact hl
  show PW G RJ9 cJ9_min_f86c9 4 (some .long) Q X 0 0 [(0, .long x), (2, .long y)] [] M
  refine w_lload_n (pc := 0) dJ9_min_f86c9_0 rfl ?_
  refine w_lload_n (pc := 1) dJ9_min_f86c9_1 rfl ?_
  refine w_lcmp_gt 10 (pc := 2) dJ9_min_f86c9_2 dJ9_min_f86c9_3 (by decide) (fun h2 => ?_) (fun h2 => ?_)
  · refine w_lload_n (pc := 10) dJ9_min_f86c9_10 rfl ?_
    refine w_lreturn (pc := 11) dJ9_min_f86c9_11 ?_
    simp only [minL, h2, if_true, if_false, decide_true, decide_false, Bool.or_false, Bool.or_true, Bool.and_true, Bool.and_false, Bool.true_or, Bool.true_and, Bool.false_and, Bool.false_or, not_true_eq_false, not_false_eq_true] at hQ
    exact hQ
  · refine w_lload_n (pc := 6) dJ9_min_f86c9_6 rfl ?_
    refine w_goto 11 (pc := 7) dJ9_min_f86c9_7 (by decide) ?_
    refine w_lreturn (pc := 11) dJ9_min_f86c9_11 ?_
    simp only [minL, h2, if_true, if_false, decide_true, decide_false, Bool.or_false, Bool.or_true, Bool.and_true, Bool.and_false, Bool.true_or, Bool.true_and, Bool.false_and, Bool.false_or, not_true_eq_false, not_false_eq_true] at hQ
    exact hQ
theorem c_J9_max_f86c9 {l : Launch} (hl : l.stackTraces = false) : Con l yJ9_max_f86c9 wJ9_max_f86c9 0 1 (T_maxL) := by
  refine con_ofF hl (by decide +kernel) (by intro as M Q X X2 h; exact h) ?_ ?_ tab_none
  · intro as M Q X hpt
    obtain ⟨x, y, rfl, hQ⟩ := hpt
    exact Nat.le_of_ble_eq_true rfl
  intro G as M Q X hl' hT hd hpt
  obtain ⟨x, y, rfl, hQ⟩ := hpt
  have hG : (gl G).stackTraces = false := by rw [hl']; exact hl
  show PW G RJ9 cJ9_max_f86c9 4 (some .long) Q X 0 0 [(0, .long x), (2, .long y)] [] M
  refine w_lload_n (pc := 0) dJ9_max_f86c9_0 rfl ?_
  refine w_lload_n (pc := 1) dJ9_max_f86c9_1 rfl ?_
  refine w_lcmp_lt 10 (pc := 2) dJ9_max_f86c9_2 dJ9_max_f86c9_3 (by decide) (fun h2 => ?_) (fun h2 => ?_)
  · refine w_lload_n (pc := 10) dJ9_max_f86c9_10 rfl ?_
    refine w_lreturn (pc := 11) dJ9_max_f86c9_11 ?_
    simp only [maxL, h2, if_true, if_false, decide_true, decide_false, Bool.or_false, Bool.or_true, Bool.and_true, Bool.and_false, Bool.true_or, Bool.true_and, Bool.false_and, Bool.false_or, not_true_eq_false, not_false_eq_true] at hQ
    exact hQ
  · refine w_lload_n (pc := 6) dJ9_max_f86c9_6 rfl ?_
    refine w_goto 11 (pc := 7) dJ9_max_f86c9_7 (by decide) ?_
    refine w_lreturn (pc := 11) dJ9_max_f86c9_11 ?_
    simp only [maxL, h2, if_true, if_false, decide_true, decide_false, Bool.or_false, Bool.or_true, Bool.and_true, Bool.and_false, Bool.true_or, Bool.true_and, Bool.false_and, Bool.false_or, not_true_eq_false, not_false_eq_true] at hQ
    exact hQ
def ctE (lo r h : Int64) : Bool := decide (h < r) || (decide (r = h) && decide (¬ lo &&& 1 = 0))
def T_carries : PT := fun as M Q X => ∃ lo r h : Int64, as = [.long lo, .long r, .long h] ∧ Q (some (.int (bi (ctE lo r h)))) M
theorem c_X5_carriesToEven {l : Launch} (hl : l.stackTraces = false) : Con l yX5_carriesToEven wX5_carriesToEven 0 1 (T_carries) := by
  refine con_of hl (by decide) ?_ ?_
  · intro as M Q X hpt
    obtain ⟨lo, r, h, rfl, hQ⟩ := hpt
    exact Nat.le_of_ble_eq_true rfl
  intro G as M Q X hl' hT hd hpt
  obtain ⟨lo, r, h, rfl, hQ⟩ := hpt
  have hG : (gl G).stackTraces = false := by rw [hl']; exact hl
  show PW G RX5 cX5_carriesToEven 6 (some .boolean) Q X 0 0 [(0, .long lo), (2, .long r), (4, .long h)] [] M
  refine w_lload_n (pc := 0) dX5_carriesToEven_0 rfl ?_
  refine w_lload (pc := 1) dX5_carriesToEven_1 rfl ?_
  refine w_lcmp_gt 22 (pc := 3) dX5_carriesToEven_3 dX5_carriesToEven_4 (by decide) (fun h3 => ?_) (fun h3 => ?_)
  · refine w_iconst (v := 1) (pc := 22) dX5_carriesToEven_22 rfl ?_
    refine w_goto 27 (pc := 23) dX5_carriesToEven_23 (by decide) ?_
    refine w_ireturn (pc := 27) dX5_carriesToEven_27 rfl ?_
    first | (have hb : ctE lo r h = true := (by simp [ctE, h3]); rw [hb] at hQ; exact hQ) | (have hb : ctE lo r h = false := (by simp [ctE, h3]); rw [hb] at hQ; exact hQ)
  · refine w_lload_n (pc := 7) dX5_carriesToEven_7 rfl ?_
    refine w_lload (pc := 8) dX5_carriesToEven_8 rfl ?_
    refine w_lcmp_ne 26 (pc := 10) dX5_carriesToEven_10 dX5_carriesToEven_11 (by decide) (fun h10 => ?_) (fun h10 => ?_)
    · refine w_iconst (v := 0) (pc := 26) dX5_carriesToEven_26 rfl ?_
      refine w_ireturn (pc := 27) dX5_carriesToEven_27 rfl ?_
      first | (have hb : ctE lo r h = true := (by simp [ctE, h3, h10]); rw [hb] at hQ; exact hQ) | (have hb : ctE lo r h = false := (by simp [ctE, h3, h10]); rw [hb] at hQ; exact hQ)
    · refine w_lload_n (pc := 14) dX5_carriesToEven_14 rfl ?_
      refine w_lconst (v := 1) (pc := 15) dX5_carriesToEven_15 rfl ?_
      refine w_land (pc := 16) dX5_carriesToEven_16 ?_
      refine w_lconst (v := 0) (pc := 17) dX5_carriesToEven_17 rfl ?_
      refine w_lcmp_eq 26 (pc := 18) dX5_carriesToEven_18 dX5_carriesToEven_19 (by decide) (fun h18 => ?_) (fun h18 => ?_)
      · refine w_iconst (v := 0) (pc := 26) dX5_carriesToEven_26 rfl ?_
        refine w_ireturn (pc := 27) dX5_carriesToEven_27 rfl ?_
        first | (have hb : ctE lo r h = true := (by simp [ctE, h3, h10, h18]); rw [hb] at hQ; exact hQ) | (have hb : ctE lo r h = false := (by simp [ctE, h3, h10, h18]); rw [hb] at hQ; exact hQ)
      · refine w_iconst (v := 1) (pc := 22) dX5_carriesToEven_22 rfl ?_
        refine w_goto 27 (pc := 23) dX5_carriesToEven_23 (by decide) ?_
        refine w_ireturn (pc := 27) dX5_carriesToEven_27 rfl ?_
        first | (have hb : ctE lo r h = true := (by simp [ctE, h3, h10, h18]); rw [hb] at hQ; exact hQ) | (have hb : ctE lo r h = false := (by simp [ctE, h3, h10, h18]); rw [hb] at hQ; exact hQ)
def T_textFull : PT := fun as M Q X => ∃ a, as = [.ref a] ∧ Full M ∧ OB 4 a ∧ Q (some (.int (bi (decide (40 ≤ mI M a 1))))) M
theorem c_X4_isFull {l : Launch} (hl : l.stackTraces = false) : Con l yX4_isFull wX4_isFull 0 1 (T_textFull) := by
  refine con_of hl (by decide) ?_ ?_
  · intro as M Q X hpt
    obtain ⟨a, rfl, hF, ho, hQ⟩ := hpt
    exact Nat.le_of_ble_eq_true rfl
  intro G as M Q X hl' hT hd hpt
  obtain ⟨a, rfl, hF, ho, hQ⟩ := hpt
  have hG : (gl G).stackTraces = false := by rw [hl']; exact hl
  show PW G RX4 cX4_isFull 1 (some .boolean) Q X 0 0 [(0, .ref a)] [] M
  refine w_aload_n (pc := 0) dX4_isFull_0 rfl ?_
  refine w_getI (pc := 1) fl_X4_15 hF (by first | assumption | exact ob rfl) rfl dX4_isFull_1 ?_
  refine w_bipush (v := 40) (pc := 4) dX4_isFull_4 rfl ?_
  refine w_icmp_lt 13 (pc := 6) dX4_isFull_6 (by decide) (fun h6 => ?_) (fun h6 => ?_)
  · refine w_iconst (v := 0) (pc := 13) dX4_isFull_13 rfl ?_
    refine w_ireturn (pc := 14) dX4_isFull_14 rfl ?_
    first | (rw [bi_f (Int32.not_le.mpr h6)] at hQ; exact hQ) | (rw [bi_t (Int32.not_lt.mp h6)] at hQ; exact hQ)
  · refine w_iconst (v := 1) (pc := 9) dX4_isFull_9 rfl ?_
    refine w_goto 14 (pc := 10) dX4_isFull_10 (by decide) ?_
    refine w_ireturn (pc := 14) dX4_isFull_14 rfl ?_
    first | (rw [bi_f (Int32.not_le.mpr h6)] at hQ; exact hQ) | (rw [bi_t (Int32.not_lt.mp h6)] at hQ; exact hQ)
def appT (M : Mem) (a : Nat) (c : Int32) : Mem := sI (sI M (a + 1) (mI M a 1).toNatClampNeg c) a 1 (mI (sI M (a + 1) (mI M a 1).toNatClampNeg c) a 1 + 1)
def T_textAppend : PT := fun as M Q X => ∃ (a : Nat) (c : Int32), as = [.ref a, .int c] ∧ Full M ∧ OB 4 a ∧ rf a 0 = a + 1 ∧ AR 0 40 (a + 1) ∧ vp_in (mI M a 1) 40 ∧ vp_nar .char c = c ∧ Q none (appT M a c)
theorem c_X4_append {l : Launch} (hl : l.stackTraces = false) : Con l yX4_append wX4_append 0 1 (T_textAppend) := by
  refine con_of hl (by decide) ?_ ?_
  · intro as M Q X hpt
    obtain ⟨a, c, rfl, hF, ho, hr, har, hin, hc, hQ⟩ := hpt
    exact Nat.le_of_ble_eq_true rfl
  intro G as M Q X hl' hT hd hpt
  obtain ⟨a, c, rfl, hF, ho, hr, har, hin, hc, hQ⟩ := hpt
  have hG : (gl G).stackTraces = false := by rw [hl']; exact hl
  show PW G RX4 cX4_append 2 none Q X 0 0 [(0, .ref a), (1, .int c)] [] M
  refine w_aload_n (pc := 0) dX4_append_0 rfl ?_
  refine w_getR (b := a + 1) (pc := 1) fl_X4_9 hF (by first | assumption | exact ob rfl) rfl (by first | assumption | exact rf_x (by omega)) dX4_append_1 ?_
  refine w_aload_n (pc := 4) dX4_append_4 rfl ?_
  refine w_getI (pc := 5) fl_X4_15 hF (by first | assumption | exact ob rfl) rfl dX4_append_5 ?_
  refine w_iload_n (pc := 8) dX4_append_8 rfl ?_
  refine w_cast (m := 40) (pc := 9) hF (by first | assumption | exact ar rfl) (by assumption) hc dX4_append_9 ?_
  refine w_aload_n (pc := 10) dX4_append_10 rfl ?_
  refine w_dup (pc := 11) dX4_append_11 rfl ?_
  refine w_getI (pc := 12) fl_X4_15 hF (by first | assumption | exact ob rfl) rfl dX4_append_12 ?_
  refine w_iconst (v := 1) (pc := 15) dX4_append_15 rfl ?_
  refine w_iadd (pc := 16) dX4_append_16 ?_
  refine w_putI (pc := 17) fp_X4_15 hF (by first | assumption | exact ob rfl) rfl dX4_append_17 ?_
  refine w_return (pc := 20) dX4_append_20 ?_
  exact hQ
def copT (M : Mem) (a b : Nat) : Mem := sI (rI M (a + 1) (va_cpy (mI M (b + 1)) (mI M (a + 1)) 0 0 (mI M b 1).toNatClampNeg)) a 1 (mI (rI M (a + 1) (va_cpy (mI M (b + 1)) (mI M (a + 1)) 0 0 (mI M b 1).toNatClampNeg)) b 1)
def T_textCopy : PT := fun as M Q X => ∃ (a b : Nat), as = [.ref a, .ref b] ∧ Full M ∧ (OB 4 a ∧ rf a 0 = a + 1 ∧ AR 0 40 (a + 1)) ∧ (OB 4 b ∧ rf b 0 = b + 1 ∧ AR 0 40 (b + 1)) ∧ ¬ mI M b 1 < 0 ∧ (mI M b 1).toNatClampNeg ≤ 40 ∧ (∀ i, i < (mI M b 1).toNatClampNeg → fits .char (.int (mI M (b + 1) i)) = true) ∧ Q none (copT M a b)
theorem c_X4_copy {l : Launch} (hl : l.stackTraces = false) : Con l yX4_copy wX4_copy 0 1 (T_textCopy) := by
  refine con_of hl (by decide) ?_ ?_
  · intro as M Q X hpt
    obtain ⟨a, b, rfl, hF, ⟨hoa, hra, hara⟩, ⟨hob, hrb, harb⟩, hn, hle, hfit, hQ⟩ := hpt
    exact Nat.le_of_ble_eq_true rfl
  intro G as M Q X hl' hT hd hpt
  obtain ⟨a, b, rfl, hF, ⟨hoa, hra, hara⟩, ⟨hob, hrb, harb⟩, hn, hle, hfit, hQ⟩ := hpt
  have hG : (gl G).stackTraces = false := by rw [hl']; exact hl
  show PW G RX4 cX4_copy 2 none Q X 0 0 [(0, .ref a), (1, .ref b)] [] M
  refine w_aload_n (pc := 0) dX4_copy_0 rfl ?_
  refine w_getR (b := b + 1) (pc := 1) fl_X4_9 hF (by first | assumption | exact ob rfl) rfl (by first | assumption | exact rf_x (by omega)) dX4_copy_1 ?_
  refine w_iconst (v := 0) (pc := 4) dX4_copy_4 rfl ?_
  refine w_aload_n (pc := 5) dX4_copy_5 rfl ?_
  refine w_getR (b := a + 1) (pc := 6) fl_X4_9 hF (by first | assumption | exact ob rfl) rfl (by first | assumption | exact rf_x (by omega)) dX4_copy_6 ?_
  refine w_iconst (v := 0) (pc := 9) dX4_copy_9 rfl ?_
  refine w_aload_n (pc := 10) dX4_copy_10 rfl ?_
  refine w_getI (pc := 11) fl_X4_15 hF (by first | assumption | exact ob rfl) rfl dX4_copy_11 ?_
  refine w_copyC (pc := 14) ac_X4_19 hF (by assumption) (by assumption) (by decide) (by decide) hn (by simpa using hle) (by simpa using hle) (by simpa using hfit) (by omega) (Nat.le_of_ble_eq_true rfl) dX4_copy_14 ?_
  refine w_aload_n (pc := 17) dX4_copy_17 rfl ?_
  refine w_aload_n (pc := 18) dX4_copy_18 rfl ?_
  refine w_getI (pc := 19) fl_X4_15 hF (by first | assumption | exact ob rfl) rfl dX4_copy_19 ?_
  refine w_putI (pc := 22) fp_X4_15 hF (by first | assumption | exact ob rfl) rfl dX4_copy_22 ?_
  refine w_return (pc := 25) dX4_copy_25 ?_
  exact hQ
def T_tabFull : PT := fun as M Q X => ∃ a, as = [.ref a] ∧ Full M ∧ OB 3 a ∧ Q (some (.int (bi (decide (4 ≤ mI M a 2))))) M
theorem c_X3_isFull {l : Launch} (hl : l.stackTraces = false) : Con l yX3_isFull wX3_isFull 0 1 (T_tabFull) := by
  refine con_of hl (by decide) ?_ ?_
  · intro as M Q X hpt
    obtain ⟨a, rfl, hF, ho, hQ⟩ := hpt
    exact Nat.le_of_ble_eq_true rfl
  intro G as M Q X hl' hT hd hpt
  obtain ⟨a, rfl, hF, ho, hQ⟩ := hpt
  have hG : (gl G).stackTraces = false := by rw [hl']; exact hl
  show PW G RX3 cX3_isFull 1 (some .boolean) Q X 0 0 [(0, .ref a)] [] M
  refine w_aload_n (pc := 0) dX3_isFull_0 rfl ?_
  refine w_getI (pc := 1) fl_X3_16 hF (by first | assumption | exact ob rfl) rfl dX3_isFull_1 ?_
  refine w_iconst (v := 4) (pc := 4) dX3_isFull_4 rfl ?_
  refine w_icmp_lt 12 (pc := 5) dX3_isFull_5 (by decide) (fun h5 => ?_) (fun h5 => ?_)
  · refine w_iconst (v := 0) (pc := 12) dX3_isFull_12 rfl ?_
    refine w_ireturn (pc := 13) dX3_isFull_13 rfl ?_
    first | (rw [bi_f (Int32.not_le.mpr h5)] at hQ; exact hQ) | (rw [bi_t (Int32.not_lt.mp h5)] at hQ; exact hQ)
  · refine w_iconst (v := 1) (pc := 8) dX3_isFull_8 rfl ?_
    refine w_goto 13 (pc := 9) dX3_isFull_9 (by decide) ?_
    refine w_ireturn (pc := 13) dX3_isFull_13 rfl ?_
    first | (rw [bi_f (Int32.not_le.mpr h5)] at hQ; exact hQ) | (rw [bi_t (Int32.not_lt.mp h5)] at hQ; exact hQ)
def alwB (M : Mem) (a : Nat) (x : Int32) : Bool := decide (¬ x < 0) && (decide (¬ 1000000000 < x) && (decide (mI M a 2 = 0) || decide (¬ x ≤ mI M (a + 1) (mI M a 2 - 1).toNatClampNeg)))
def T_allows : PT := fun as M Q X => ∃ (a : Nat) (x : Int32), as = [.ref a, .int x] ∧ Full M ∧ OB 3 a ∧ rf a 0 = a + 1 ∧ AR 1 4 (a + 1) ∧ (¬ mI M a 2 = 0 → vp_in (mI M a 2 - 1) 4) ∧ Q (some (.int (bi (alwB M a x)))) M
theorem c_X3_allowsBeginning {l : Launch} (hl : l.stackTraces = false) : Con l yX3_allowsBeginning wX3_allowsBeginning 0 1 (T_allows) := by
  refine con_of hl (by decide) ?_ ?_
  · intro as M Q X hpt
    obtain ⟨a, x, rfl, hF, ho, hr, har, hin, hQ⟩ := hpt
    exact Nat.le_of_ble_eq_true rfl
  intro G as M Q X hl' hT hd hpt
  obtain ⟨a, x, rfl, hF, ho, hr, har, hin, hQ⟩ := hpt
  have hG : (gl G).stackTraces = false := by rw [hl']; exact hl
  show PW G RX3 cX3_allowsBeginning 2 (some .boolean) Q X 0 0 [(0, .ref a), (1, .int x)] [] M
  refine w_iload_n (pc := 0) dX3_allowsBeginning_0 rfl ?_
  refine w_if_lt 36 (pc := 1) dX3_allowsBeginning_1 (by decide) (fun h1 => ?_) (fun h1 => ?_)
  · refine w_iconst (v := 0) (pc := 36) dX3_allowsBeginning_36 rfl ?_
    refine w_ireturn (pc := 37) dX3_allowsBeginning_37 rfl ?_
    simp only [alwB, bi, h1, if_true, if_false, decide_true, decide_false, Bool.or_false, Bool.or_true, Bool.and_true, Bool.and_false, Bool.true_or, Bool.true_and, Bool.false_and, Bool.false_or, not_true_eq_false, not_false_eq_true] at hQ
    exact hQ
  · refine w_iload_n (pc := 4) dX3_allowsBeginning_4 rfl ?_
    refine w_ldc (pc := 5) ki_X3_23 dX3_allowsBeginning_5 ?_
    refine w_icmp_gt 36 (pc := 7) dX3_allowsBeginning_7 (by decide) (fun h7 => ?_) (fun h7 => ?_)
    · refine w_iconst (v := 0) (pc := 36) dX3_allowsBeginning_36 rfl ?_
      refine w_ireturn (pc := 37) dX3_allowsBeginning_37 rfl ?_
      simp only [alwB, bi, h1, h7, if_true, if_false, decide_true, decide_false, Bool.or_false, Bool.or_true, Bool.and_true, Bool.and_false, Bool.true_or, Bool.true_and, Bool.false_and, Bool.false_or, not_true_eq_false, not_false_eq_true] at hQ
      exact hQ
    · refine w_aload_n (pc := 10) dX3_allowsBeginning_10 rfl ?_
      refine w_getI (pc := 11) fl_X3_16 hF (by first | assumption | exact ob rfl) rfl dX3_allowsBeginning_11 ?_
      refine w_if_eq 32 (pc := 14) dX3_allowsBeginning_14 (by decide) (fun h14 => ?_) (fun h14 => ?_)
      · refine w_iconst (v := 1) (pc := 32) dX3_allowsBeginning_32 rfl ?_
        refine w_goto 37 (pc := 33) dX3_allowsBeginning_33 (by decide) ?_
        refine w_ireturn (pc := 37) dX3_allowsBeginning_37 rfl ?_
        simp only [alwB, bi, h1, h7, h14, if_true, if_false, decide_true, decide_false, Bool.or_false, Bool.or_true, Bool.and_true, Bool.and_false, Bool.true_or, Bool.true_and, Bool.false_and, Bool.false_or, not_true_eq_false, not_false_eq_true] at hQ
        exact hQ
      · refine w_iload_n (pc := 17) dX3_allowsBeginning_17 rfl ?_
        refine w_aload_n (pc := 18) dX3_allowsBeginning_18 rfl ?_
        refine w_getR (b := a + 1) (pc := 19) fl_X3_9 hF (by first | assumption | exact ob rfl) rfl (by first | assumption | exact rf_x (by omega)) dX3_allowsBeginning_19 ?_
        refine w_aload_n (pc := 22) dX3_allowsBeginning_22 rfl ?_
        refine w_getI (pc := 23) fl_X3_16 hF (by first | assumption | exact ob rfl) rfl dX3_allowsBeginning_23 ?_
        refine w_iconst (v := 1) (pc := 26) dX3_allowsBeginning_26 rfl ?_
        refine w_isub (pc := 27) dX3_allowsBeginning_27 ?_
        refine w_iald (m := 4) (pc := 28) hF (by first | assumption | exact ar rfl) (hin h14) dX3_allowsBeginning_28 ?_
        refine w_icmp_le 36 (pc := 29) dX3_allowsBeginning_29 (by decide) (fun h29 => ?_) (fun h29 => ?_)
        · refine w_iconst (v := 0) (pc := 36) dX3_allowsBeginning_36 rfl ?_
          refine w_ireturn (pc := 37) dX3_allowsBeginning_37 rfl ?_
          simp only [alwB, bi, h1, h7, h14, h29, if_true, if_false, decide_true, decide_false, Bool.or_false, Bool.or_true, Bool.and_true, Bool.and_false, Bool.true_or, Bool.true_and, Bool.false_and, Bool.false_or, not_true_eq_false, not_false_eq_true] at hQ
          exact hQ
        · refine w_iconst (v := 1) (pc := 32) dX3_allowsBeginning_32 rfl ?_
          refine w_goto 37 (pc := 33) dX3_allowsBeginning_33 (by decide) ?_
          refine w_ireturn (pc := 37) dX3_allowsBeginning_37 rfl ?_
          simp only [alwB, bi, h1, h7, h14, h29, if_true, if_false, decide_true, decide_false, Bool.or_false, Bool.or_true, Bool.and_true, Bool.and_false, Bool.true_or, Bool.true_and, Bool.false_and, Bool.false_or, not_true_eq_false, not_false_eq_true] at hQ
          exact hQ
def appB (M : Mem) (a : Nat) (x r : Int32) : Mem := sI (sI (sI M (a + 1) (mI M a 2).toNatClampNeg x) (a + 2) (mI M a 2).toNatClampNeg r) a 2 (mI M a 2 + 1)
def T_tabAppend : PT := fun as M Q X => ∃ (a : Nat) (x r : Int32), as = [.ref a, .int x, .int r] ∧ Full M ∧ OB 3 a ∧ (rf a 0 = a + 1 ∧ rf a 1 = a + 2) ∧ (AR 1 4 (a + 1) ∧ AR 1 4 (a + 2)) ∧ vp_in (mI M a 2) 4 ∧ Q none (appB M a x r)
theorem c_X3_append {l : Launch} (hl : l.stackTraces = false) : Con l yX3_append wX3_append 0 1 (T_tabAppend) := by
  refine con_of hl (by decide) ?_ ?_
  · intro as M Q X hpt
    obtain ⟨a, x, r, rfl, hF, ho, ⟨hr0, hr1⟩, ⟨har0, har1⟩, hin, hQ⟩ := hpt
    exact Nat.le_of_ble_eq_true rfl
  intro G as M Q X hl' hT hd hpt
  obtain ⟨a, x, r, rfl, hF, ho, ⟨hr0, hr1⟩, ⟨har0, har1⟩, hin, hQ⟩ := hpt
  have hG : (gl G).stackTraces = false := by rw [hl']; exact hl
  show PW G RX3 cX3_append 3 none Q X 0 0 [(0, .ref a), (1, .int x), (2, .int r)] [] M
  refine w_aload_n (pc := 0) dX3_append_0 rfl ?_
  refine w_getR (b := a + 1) (pc := 1) fl_X3_9 hF (by first | assumption | exact ob rfl) rfl (by first | assumption | exact rf_x (by omega)) dX3_append_1 ?_
  refine w_aload_n (pc := 4) dX3_append_4 rfl ?_
  refine w_getI (pc := 5) fl_X3_16 hF (by first | assumption | exact ob rfl) rfl dX3_append_5 ?_
  refine w_iload_n (pc := 8) dX3_append_8 rfl ?_
  refine w_iast (m := 4) (pc := 9) hF (by first | assumption | exact ar rfl) (by assumption) dX3_append_9 ?_
  refine w_aload_n (pc := 10) dX3_append_10 rfl ?_
  refine w_getR (b := a + 2) (pc := 11) fl_X3_13 hF (by first | assumption | exact ob rfl) rfl (by first | assumption | exact rf_x (by omega)) dX3_append_11 ?_
  refine w_aload_n (pc := 14) dX3_append_14 rfl ?_
  refine w_getI (pc := 15) fl_X3_16 hF (by first | assumption | exact ob rfl) rfl dX3_append_15 ?_
  refine w_iload_n (pc := 18) dX3_append_18 rfl ?_
  refine w_iast (m := 4) (pc := 19) hF (by first | assumption | exact ar rfl) (by simp (disch := omega) only [mI_n]; exact hin) dX3_append_19 ?_
  refine w_aload_n (pc := 20) dX3_append_20 rfl ?_
  refine w_dup (pc := 21) dX3_append_21 rfl ?_
  refine w_getI (pc := 22) fl_X3_16 hF (by first | assumption | exact ob rfl) rfl dX3_append_22 ?_
  refine w_iconst (v := 1) (pc := 25) dX3_append_25 rfl ?_
  refine w_iadd (pc := 26) dX3_append_26 ?_
  refine w_putI (pc := 27) fp_X3_16 hF (by first | assumption | exact ob rfl) rfl dX3_append_27 ?_
  refine w_return (pc := 30) dX3_append_30 ?_
  simp (disch := omega) only [mI_n] at *
  exact hQ
def rndB (ro : Int32) (v : Int64) : Bool := (decide (ro = 1) && decide (500 ≤ v - v / 1000 * 1000)) || (decide (ro = 2) && ctE (v / 1000) (v - v / 1000 * 1000) 500)
def rndL (ro : Int32) (v : Int64) : Int64 := if rndB ro v = true then v / 1000 + 1 else v / 1000
def T_rounded : PT := fun as M Q X => ∃ (a : Nat) (v : Int64), as = [.ref a, .long v] ∧ Full M ∧ OB 3 a ∧ Q (some (.long (rndL (mI M a 3) v))) M
theorem c_X3_rounded {l : Launch} (hl : l.stackTraces = false) : Con l yX3_rounded wX3_rounded 0 3 (T_rounded) := by
  refine con_of hl (by decide) ?_ ?_
  · intro as M Q X hpt
    obtain ⟨a, v, rfl, hF, ho, hQ⟩ := hpt
    exact Nat.le_of_ble_eq_true rfl
  intro G as M Q X hl' hT hd hpt
  obtain ⟨a, v, rfl, hF, ho, hQ⟩ := hpt
  have hG : (gl G).stackTraces = false := by rw [hl']; exact hl
  show PW G RX3 cX3_rounded 8 (some .long) Q X 0 0 [(0, .ref a), (1, .long v)] [] M
  refine w_lload_n (pc := 0) dX3_rounded_0 rfl ?_
  refine w_ldc2 (pc := 1) kl_X3_34 dX3_rounded_1 ?_
  refine w_ldiv (pc := 4) dX3_rounded_4 (by decide) ?_
  refine w_lstore_n 3 (pc := 5) rfl dX3_rounded_5 (by decide) ?_
  refine w_lload_n (pc := 6) dX3_rounded_6 rfl ?_
  refine w_ldc2 (pc := 7) kl_X3_34 dX3_rounded_7 ?_
  refine w_lrem (pc := 10) dX3_rounded_10 (by decide) ?_
  refine w_lstore 5 (pc := 11) dX3_rounded_11 (by decide) ?_
  refine w_aload_n (pc := 13) dX3_rounded_13 rfl ?_
  refine w_getI (pc := 14) fl_X3_20 hF (by first | assumption | exact ob rfl) rfl dX3_rounded_14 ?_
  refine w_iconst (v := 1) (pc := 17) dX3_rounded_17 rfl ?_
  refine w_icmp_ne 30 (pc := 18) dX3_rounded_18 (by decide) (fun h18 => ?_) (fun h18 => ?_)
  · refine w_aload_n (pc := 30) dX3_rounded_30 rfl ?_
    refine w_getI (pc := 31) fl_X3_20 hF (by first | assumption | exact ob rfl) rfl dX3_rounded_31 ?_
    refine w_iconst (v := 2) (pc := 34) dX3_rounded_34 rfl ?_
    refine w_icmp_ne 54 (pc := 35) dX3_rounded_35 (by decide) (fun h35 => ?_) (fun h35 => ?_)
    · refine w_iconst (v := 0) (pc := 54) dX3_rounded_54 rfl ?_
      refine w_istore 7 (pc := 55) dX3_rounded_55 (by decide) ?_
      refine w_iload (pc := 57) dX3_rounded_57 rfl ?_
      refine w_if_eq 68 (pc := 59) dX3_rounded_59 (by decide) (fun h59 => ?_) (fun h59 => ?_)
      · refine w_lload_n (pc := 68) dX3_rounded_68 rfl ?_
        refine w_lreturn (pc := 69) dX3_rounded_69 ?_
        first | exact absurd rfl h59 | exact absurd h59 (by decide) | (have hb : rndB (mI M a 3) v = true := (by clear hQ; simp_all [rndB, bi_0, bi_1]); rw [rndL, if_pos hb] at hQ; exact hQ) | (have hb : rndB (mI M a 3) v = false := (by clear hQ; simp_all [rndB, bi_0, bi_1]); rw [rndL, hb] at hQ; exact hQ)
      · refine w_lload_n (pc := 62) dX3_rounded_62 rfl ?_
        refine w_lconst (v := 1) (pc := 63) dX3_rounded_63 rfl ?_
        refine w_ladd (pc := 64) dX3_rounded_64 ?_
        refine w_goto 69 (pc := 65) dX3_rounded_65 (by decide) ?_
        refine w_lreturn (pc := 69) dX3_rounded_69 ?_
        first | exact absurd rfl h59 | exact absurd h59 (by decide) | (have hb : rndB (mI M a 3) v = true := (by clear hQ; simp_all [rndB, bi_0, bi_1]); rw [rndL, if_pos hb] at hQ; exact hQ) | (have hb : rndB (mI M a 3) v = false := (by clear hQ; simp_all [rndB, bi_0, bi_1]); rw [rndL, hb] at hQ; exact hQ)
    · refine w_lload_n (pc := 38) dX3_rounded_38 rfl ?_
      refine w_lload (pc := 39) dX3_rounded_39 rfl ?_
      refine w_ldc2 (pc := 41) kl_X3_36 dX3_rounded_41 ?_
      refine w_callN3 (pc := 44) (c_X5_carriesToEven hG) cn_X3_38 hT (by omega) (Nat.le_of_ble_eq_true rfl) dX3_rounded_44 ?_
      refine ⟨_, _, _, rfl, ?_⟩
      dsimp only [psh]
      refine w_if_eq 54 (pc := 47) dX3_rounded_47 (by decide) (fun h47 => ?_) (fun h47 => ?_)
      · refine w_iconst (v := 0) (pc := 54) dX3_rounded_54 rfl ?_
        refine w_istore 7 (pc := 55) dX3_rounded_55 (by decide) ?_
        refine w_iload (pc := 57) dX3_rounded_57 rfl ?_
        refine w_if_eq 68 (pc := 59) dX3_rounded_59 (by decide) (fun h59 => ?_) (fun h59 => ?_)
        · refine w_lload_n (pc := 68) dX3_rounded_68 rfl ?_
          refine w_lreturn (pc := 69) dX3_rounded_69 ?_
          first | exact absurd rfl h59 | exact absurd h59 (by decide) | (have hb : rndB (mI M a 3) v = true := (by clear hQ; simp_all [rndB, bi_0, bi_1]); rw [rndL, if_pos hb] at hQ; exact hQ) | (have hb : rndB (mI M a 3) v = false := (by clear hQ; simp_all [rndB, bi_0, bi_1]); rw [rndL, hb] at hQ; exact hQ)
        · refine w_lload_n (pc := 62) dX3_rounded_62 rfl ?_
          refine w_lconst (v := 1) (pc := 63) dX3_rounded_63 rfl ?_
          refine w_ladd (pc := 64) dX3_rounded_64 ?_
          refine w_goto 69 (pc := 65) dX3_rounded_65 (by decide) ?_
          refine w_lreturn (pc := 69) dX3_rounded_69 ?_
          first | exact absurd rfl h59 | exact absurd h59 (by decide) | (have hb : rndB (mI M a 3) v = true := (by clear hQ; simp_all [rndB, bi_0, bi_1]); rw [rndL, if_pos hb] at hQ; exact hQ) | (have hb : rndB (mI M a 3) v = false := (by clear hQ; simp_all [rndB, bi_0, bi_1]); rw [rndL, hb] at hQ; exact hQ)
      · refine w_iconst (v := 1) (pc := 50) dX3_rounded_50 rfl ?_
        refine w_goto 55 (pc := 51) dX3_rounded_51 (by decide) ?_
        refine w_istore 7 (pc := 55) dX3_rounded_55 (by decide) ?_
        refine w_iload (pc := 57) dX3_rounded_57 rfl ?_
        refine w_if_eq 68 (pc := 59) dX3_rounded_59 (by decide) (fun h59 => ?_) (fun h59 => ?_)
        · refine w_lload_n (pc := 68) dX3_rounded_68 rfl ?_
          refine w_lreturn (pc := 69) dX3_rounded_69 ?_
          first | exact absurd rfl h59 | exact absurd h59 (by decide) | (have hb : rndB (mI M a 3) v = true := (by clear hQ; simp_all [rndB, bi_0, bi_1]); rw [rndL, if_pos hb] at hQ; exact hQ) | (have hb : rndB (mI M a 3) v = false := (by clear hQ; simp_all [rndB, bi_0, bi_1]); rw [rndL, hb] at hQ; exact hQ)
        · refine w_lload_n (pc := 62) dX3_rounded_62 rfl ?_
          refine w_lconst (v := 1) (pc := 63) dX3_rounded_63 rfl ?_
          refine w_ladd (pc := 64) dX3_rounded_64 ?_
          refine w_goto 69 (pc := 65) dX3_rounded_65 (by decide) ?_
          refine w_lreturn (pc := 69) dX3_rounded_69 ?_
          first | exact absurd rfl h59 | exact absurd h59 (by decide) | (have hb : rndB (mI M a 3) v = true := (by clear hQ; simp_all [rndB, bi_0, bi_1]); rw [rndL, if_pos hb] at hQ; exact hQ) | (have hb : rndB (mI M a 3) v = false := (by clear hQ; simp_all [rndB, bi_0, bi_1]); rw [rndL, hb] at hQ; exact hQ)
  · refine w_lload (pc := 21) dX3_rounded_21 rfl ?_
    refine w_ldc2 (pc := 23) kl_X3_36 dX3_rounded_23 ?_
    refine w_lcmp_ge 50 (pc := 26) dX3_rounded_26 dX3_rounded_27 (by decide) (fun h26 => ?_) (fun h26 => ?_)
    · refine w_iconst (v := 1) (pc := 50) dX3_rounded_50 rfl ?_
      refine w_goto 55 (pc := 51) dX3_rounded_51 (by decide) ?_
      refine w_istore 7 (pc := 55) dX3_rounded_55 (by decide) ?_
      refine w_iload (pc := 57) dX3_rounded_57 rfl ?_
      refine w_if_eq 68 (pc := 59) dX3_rounded_59 (by decide) (fun h59 => ?_) (fun h59 => ?_)
      · refine w_lload_n (pc := 68) dX3_rounded_68 rfl ?_
        refine w_lreturn (pc := 69) dX3_rounded_69 ?_
        first | exact absurd rfl h59 | exact absurd h59 (by decide) | (have hb : rndB (mI M a 3) v = true := (by clear hQ; simp_all [rndB, bi_0, bi_1]); rw [rndL, if_pos hb] at hQ; exact hQ) | (have hb : rndB (mI M a 3) v = false := (by clear hQ; simp_all [rndB, bi_0, bi_1]); rw [rndL, hb] at hQ; exact hQ)
      · refine w_lload_n (pc := 62) dX3_rounded_62 rfl ?_
        refine w_lconst (v := 1) (pc := 63) dX3_rounded_63 rfl ?_
        refine w_ladd (pc := 64) dX3_rounded_64 ?_
        refine w_goto 69 (pc := 65) dX3_rounded_65 (by decide) ?_
        refine w_lreturn (pc := 69) dX3_rounded_69 ?_
        first | exact absurd rfl h59 | exact absurd h59 (by decide) | (have hb : rndB (mI M a 3) v = true := (by clear hQ; simp_all [rndB, bi_0, bi_1]); rw [rndL, if_pos hb] at hQ; exact hQ) | (have hb : rndB (mI M a 3) v = false := (by clear hQ; simp_all [rndB, bi_0, bi_1]); rw [rndL, hb] at hQ; exact hQ)
    · refine w_aload_n (pc := 30) dX3_rounded_30 rfl ?_
      refine w_getI (pc := 31) fl_X3_20 hF (by first | assumption | exact ob rfl) rfl dX3_rounded_31 ?_
      refine w_iconst (v := 2) (pc := 34) dX3_rounded_34 rfl ?_
      refine w_icmp_ne 54 (pc := 35) dX3_rounded_35 (by decide) (fun h35 => ?_) (fun h35 => ?_)
      · refine w_iconst (v := 0) (pc := 54) dX3_rounded_54 rfl ?_
        refine w_istore 7 (pc := 55) dX3_rounded_55 (by decide) ?_
        refine w_iload (pc := 57) dX3_rounded_57 rfl ?_
        refine w_if_eq 68 (pc := 59) dX3_rounded_59 (by decide) (fun h59 => ?_) (fun h59 => ?_)
        · refine w_lload_n (pc := 68) dX3_rounded_68 rfl ?_
          refine w_lreturn (pc := 69) dX3_rounded_69 ?_
          first | exact absurd rfl h59 | exact absurd h59 (by decide) | (have hb : rndB (mI M a 3) v = true := (by clear hQ; simp_all [rndB, bi_0, bi_1]); rw [rndL, if_pos hb] at hQ; exact hQ) | (have hb : rndB (mI M a 3) v = false := (by clear hQ; simp_all [rndB, bi_0, bi_1]); rw [rndL, hb] at hQ; exact hQ)
        · refine w_lload_n (pc := 62) dX3_rounded_62 rfl ?_
          refine w_lconst (v := 1) (pc := 63) dX3_rounded_63 rfl ?_
          refine w_ladd (pc := 64) dX3_rounded_64 ?_
          refine w_goto 69 (pc := 65) dX3_rounded_65 (by decide) ?_
          refine w_lreturn (pc := 69) dX3_rounded_69 ?_
          first | exact absurd rfl h59 | exact absurd h59 (by decide) | (have hb : rndB (mI M a 3) v = true := (by clear hQ; simp_all [rndB, bi_0, bi_1]); rw [rndL, if_pos hb] at hQ; exact hQ) | (have hb : rndB (mI M a 3) v = false := (by clear hQ; simp_all [rndB, bi_0, bi_1]); rw [rndL, hb] at hQ; exact hQ)
      · refine w_lload_n (pc := 38) dX3_rounded_38 rfl ?_
        refine w_lload (pc := 39) dX3_rounded_39 rfl ?_
        refine w_ldc2 (pc := 41) kl_X3_36 dX3_rounded_41 ?_
        refine w_callN3 (pc := 44) (c_X5_carriesToEven hG) cn_X3_38 hT (by omega) (Nat.le_of_ble_eq_true rfl) dX3_rounded_44 ?_
        refine ⟨_, _, _, rfl, ?_⟩
        dsimp only [psh]
        refine w_if_eq 54 (pc := 47) dX3_rounded_47 (by decide) (fun h47 => ?_) (fun h47 => ?_)
        · refine w_iconst (v := 0) (pc := 54) dX3_rounded_54 rfl ?_
          refine w_istore 7 (pc := 55) dX3_rounded_55 (by decide) ?_
          refine w_iload (pc := 57) dX3_rounded_57 rfl ?_
          refine w_if_eq 68 (pc := 59) dX3_rounded_59 (by decide) (fun h59 => ?_) (fun h59 => ?_)
          · refine w_lload_n (pc := 68) dX3_rounded_68 rfl ?_
            refine w_lreturn (pc := 69) dX3_rounded_69 ?_
            first | exact absurd rfl h59 | exact absurd h59 (by decide) | (have hb : rndB (mI M a 3) v = true := (by clear hQ; simp_all [rndB, bi_0, bi_1]); rw [rndL, if_pos hb] at hQ; exact hQ) | (have hb : rndB (mI M a 3) v = false := (by clear hQ; simp_all [rndB, bi_0, bi_1]); rw [rndL, hb] at hQ; exact hQ)
          · refine w_lload_n (pc := 62) dX3_rounded_62 rfl ?_
            refine w_lconst (v := 1) (pc := 63) dX3_rounded_63 rfl ?_
            refine w_ladd (pc := 64) dX3_rounded_64 ?_
            refine w_goto 69 (pc := 65) dX3_rounded_65 (by decide) ?_
            refine w_lreturn (pc := 69) dX3_rounded_69 ?_
            first | exact absurd rfl h59 | exact absurd h59 (by decide) | (have hb : rndB (mI M a 3) v = true := (by clear hQ; simp_all [rndB, bi_0, bi_1]); rw [rndL, if_pos hb] at hQ; exact hQ) | (have hb : rndB (mI M a 3) v = false := (by clear hQ; simp_all [rndB, bi_0, bi_1]); rw [rndL, hb] at hQ; exact hQ)
        · refine w_iconst (v := 1) (pc := 50) dX3_rounded_50 rfl ?_
          refine w_goto 55 (pc := 51) dX3_rounded_51 (by decide) ?_
          refine w_istore 7 (pc := 55) dX3_rounded_55 (by decide) ?_
          refine w_iload (pc := 57) dX3_rounded_57 rfl ?_
          refine w_if_eq 68 (pc := 59) dX3_rounded_59 (by decide) (fun h59 => ?_) (fun h59 => ?_)
          · refine w_lload_n (pc := 68) dX3_rounded_68 rfl ?_
            refine w_lreturn (pc := 69) dX3_rounded_69 ?_
            first | exact absurd rfl h59 | exact absurd h59 (by decide) | (have hb : rndB (mI M a 3) v = true := (by clear hQ; simp_all [rndB, bi_0, bi_1]); rw [rndL, if_pos hb] at hQ; exact hQ) | (have hb : rndB (mI M a 3) v = false := (by clear hQ; simp_all [rndB, bi_0, bi_1]); rw [rndL, hb] at hQ; exact hQ)
          · refine w_lload_n (pc := 62) dX3_rounded_62 rfl ?_
            refine w_lconst (v := 1) (pc := 63) dX3_rounded_63 rfl ?_
            refine w_ladd (pc := 64) dX3_rounded_64 ?_
            refine w_goto 69 (pc := 65) dX3_rounded_65 (by decide) ?_
            refine w_lreturn (pc := 69) dX3_rounded_69 ?_
            first | exact absurd rfl h59 | exact absurd h59 (by decide) | (have hb : rndB (mI M a 3) v = true := (by clear hQ; simp_all [rndB, bi_0, bi_1]); rw [rndL, if_pos hb] at hQ; exact hQ) | (have hb : rndB (mI M a 3) v = false := (by clear hQ; simp_all [rndB, bi_0, bi_1]); rw [rndL, hb] at hQ; exact hQ)
def T_accFull : PT := fun as M Q X => ∃ a, as = [.ref a] ∧ Full M ∧ OB 0 a ∧ Q (some (.int (bi (decide (24 ≤ mI M a 3))))) M
theorem c_X0_isFull {l : Launch} (hl : l.stackTraces = false) : Con l yX0_isFull wX0_isFull 0 1 (T_accFull) := by
  refine con_of hl (by decide) ?_ ?_
  · intro as M Q X hpt
    obtain ⟨a, rfl, hF, ho, hQ⟩ := hpt
    exact Nat.le_of_ble_eq_true rfl
  intro G as M Q X hl' hT hd hpt
  obtain ⟨a, rfl, hF, ho, hQ⟩ := hpt
  have hG : (gl G).stackTraces = false := by rw [hl']; exact hl
  show PW G RX0 cX0_isFull 1 (some .boolean) Q X 0 0 [(0, .ref a)] [] M
  refine w_aload_n (pc := 0) dX0_isFull_0 rfl ?_
  refine w_getI (pc := 1) fl_X0_20 hF (by first | assumption | exact ob rfl) rfl dX0_isFull_1 ?_
  refine w_bipush (v := 24) (pc := 4) dX0_isFull_4 rfl ?_
  refine w_icmp_lt 13 (pc := 6) dX0_isFull_6 (by decide) (fun h6 => ?_) (fun h6 => ?_)
  · refine w_iconst (v := 0) (pc := 13) dX0_isFull_13 rfl ?_
    refine w_ireturn (pc := 14) dX0_isFull_14 rfl ?_
    first | (rw [bi_f (Int32.not_le.mpr h6)] at hQ; exact hQ) | (rw [bi_t (Int32.not_lt.mp h6)] at hQ; exact hQ)
  · refine w_iconst (v := 1) (pc := 9) dX0_isFull_9 rfl ?_
    refine w_goto 14 (pc := 10) dX0_isFull_10 (by decide) ?_
    refine w_ireturn (pc := 14) dX0_isFull_14 rfl ?_
    first | (rw [bi_f (Int32.not_le.mpr h6)] at hQ; exact hQ) | (rw [bi_t (Int32.not_lt.mp h6)] at hQ; exact hQ)
def posA (M : Mem) (a : Nat) (kd yr : Int32) (v : Int64) : Mem := sJ (sI (sJ (sI (sI M (a + 1) (mI M a 3).toNatClampNeg kd) (a + 2) (mI M a 3).toNatClampNeg yr) (a + 3) (mI M a 3).toNatClampNeg v) a 3 (mI M a 3 + 1)) a 4 (mJ M a 4 + v)
def T_accPost : PT := fun as M Q X => ∃ (a : Nat) (kd yr : Int32) (v : Int64), as = [.ref a, .int kd, .int yr, .long v] ∧ Full M ∧ OB 0 a ∧ (rf a 0 = a + 1 ∧ rf a 1 = a + 2 ∧ rf a 2 = a + 3) ∧ (AR 1 24 (a + 1) ∧ AR 1 24 (a + 2) ∧ AR 2 24 (a + 3)) ∧ vp_in (mI M a 3) 24 ∧ Q none (posA M a kd yr v)
theorem c_X0_post {l : Launch} (hl : l.stackTraces = false) : Con l yX0_post wX0_post 0 1 (T_accPost) := by
  refine con_of hl (by decide) ?_ ?_
  · intro as M Q X hpt
    obtain ⟨a, kd, yr, v, rfl, hF, ho, ⟨hr0, hr1, hr2⟩, ⟨har0, har1, har2⟩, hin, hQ⟩ := hpt
    exact Nat.le_of_ble_eq_true rfl
  intro G as M Q X hl' hT hd hpt
  obtain ⟨a, kd, yr, v, rfl, hF, ho, ⟨hr0, hr1, hr2⟩, ⟨har0, har1, har2⟩, hin, hQ⟩ := hpt
  have hG : (gl G).stackTraces = false := by rw [hl']; exact hl
  show PW G RX0 cX0_post 5 none Q X 0 0 [(0, .ref a), (1, .int kd), (2, .int yr), (3, .long v)] [] M
  refine w_aload_n (pc := 0) dX0_post_0 rfl ?_
  refine w_getR (b := a + 1) (pc := 1) fl_X0_9 hF (by first | assumption | exact ob rfl) rfl (by first | assumption | exact rf_x (by omega)) dX0_post_1 ?_
  refine w_aload_n (pc := 4) dX0_post_4 rfl ?_
  refine w_getI (pc := 5) fl_X0_20 hF (by first | assumption | exact ob rfl) rfl dX0_post_5 ?_
  refine w_iload_n (pc := 8) dX0_post_8 rfl ?_
  refine w_iast (m := 24) (pc := 9) hF (by first | assumption | exact ar rfl) (by assumption) dX0_post_9 ?_
  refine w_aload_n (pc := 10) dX0_post_10 rfl ?_
  refine w_getR (b := a + 2) (pc := 11) fl_X0_13 hF (by first | assumption | exact ob rfl) rfl (by first | assumption | exact rf_x (by omega)) dX0_post_11 ?_
  refine w_aload_n (pc := 14) dX0_post_14 rfl ?_
  refine w_getI (pc := 15) fl_X0_20 hF (by first | assumption | exact ob rfl) rfl dX0_post_15 ?_
  refine w_iload_n (pc := 18) dX0_post_18 rfl ?_
  refine w_iast (m := 24) (pc := 19) hF (by first | assumption | exact ar rfl) (by simp (disch := omega) only [mI_n]; exact hin) dX0_post_19 ?_
  refine w_aload_n (pc := 20) dX0_post_20 rfl ?_
  refine w_getR (b := a + 3) (pc := 21) fl_X0_16 hF (by first | assumption | exact ob rfl) rfl (by first | assumption | exact rf_x (by omega)) dX0_post_21 ?_
  refine w_aload_n (pc := 24) dX0_post_24 rfl ?_
  refine w_getI (pc := 25) fl_X0_20 hF (by first | assumption | exact ob rfl) rfl dX0_post_25 ?_
  refine w_lload_n (pc := 28) dX0_post_28 rfl ?_
  refine w_last (m := 24) (pc := 29) hF (by first | assumption | exact ar rfl) (by simp (disch := omega) only [mI_n]; exact hin) dX0_post_29 ?_
  refine w_aload_n (pc := 30) dX0_post_30 rfl ?_
  refine w_dup (pc := 31) dX0_post_31 rfl ?_
  refine w_getI (pc := 32) fl_X0_20 hF (by first | assumption | exact ob rfl) rfl dX0_post_32 ?_
  refine w_iconst (v := 1) (pc := 35) dX0_post_35 rfl ?_
  refine w_iadd (pc := 36) dX0_post_36 ?_
  refine w_putI (pc := 37) fp_X0_20 hF (by first | assumption | exact ob rfl) rfl dX0_post_37 ?_
  refine w_aload_n (pc := 40) dX0_post_40 rfl ?_
  refine w_dup (pc := 41) dX0_post_41 rfl ?_
  refine w_getJ (pc := 42) fl_X0_24 hF (by first | assumption | exact ob rfl) rfl dX0_post_42 ?_
  refine w_lload_n (pc := 45) dX0_post_45 rfl ?_
  refine w_ladd (pc := 46) dX0_post_46 ?_
  refine w_putJ (pc := 47) fp_X0_24 hF (by first | assumption | exact ob rfl) rfl dX0_post_47 ?_
  refine w_return (pc := 50) dX0_post_50 ?_
  simp (disch := omega) only [mI_n, mI_J, mJ_I, mJ_n] at *
  exact hQ
def intr (s : Int64) (t : Int32) : Int64 := if 0 < s then s / 36500 * t.toInt64 + (s - s / 36500 * 36500) * t.toInt64 / 36500 else 0
def T_interestFor : PT := fun as M Q X => ∃ (a : Nat) (t : Int32), as = [.ref a, .int t] ∧ Full M ∧ OB 0 a ∧ Q (some (.long (intr (mJ M a 4) t))) M
theorem c_X0_interestFor {l : Launch} (hl : l.stackTraces = false) : Con l yX0_interestFor wX0_interestFor 0 1 (T_interestFor) := by
  refine con_of hl (by decide) ?_ ?_
  · intro as M Q X hpt
    obtain ⟨a, t, rfl, hF, ho, hQ⟩ := hpt
    exact Nat.le_of_ble_eq_true rfl
  intro G as M Q X hl' hT hd hpt
  obtain ⟨a, t, rfl, hF, ho, hQ⟩ := hpt
  have hG : (gl G).stackTraces = false := by rw [hl']; exact hl
  show PW G RX0 cX0_interestFor 4 (some .long) Q X 0 0 [(0, .ref a), (1, .int t)] [] M
  refine w_aload_n (pc := 0) dX0_interestFor_0 rfl ?_
  refine w_getJ (pc := 1) fl_X0_24 hF (by first | assumption | exact ob rfl) rfl dX0_interestFor_1 ?_
  refine w_lconst (v := 0) (pc := 4) dX0_interestFor_4 rfl ?_
  refine w_lcmp_gt 11 (pc := 5) dX0_interestFor_5 dX0_interestFor_6 (by decide) (fun h5 => ?_) (fun h5 => ?_)
  · refine w_aload_n (pc := 11) dX0_interestFor_11 rfl ?_
    refine w_getJ (pc := 12) fl_X0_24 hF (by first | assumption | exact ob rfl) rfl dX0_interestFor_12 ?_
    refine w_ldc2 (pc := 15) kl_X0_28 dX0_interestFor_15 ?_
    refine w_lrem (pc := 18) dX0_interestFor_18 (by decide) ?_
    refine w_iload_n (pc := 19) dX0_interestFor_19 rfl ?_
    refine w_i2l (pc := 20) dX0_interestFor_20 ?_
    refine w_lmul (pc := 21) dX0_interestFor_21 ?_
    refine w_ldc2 (pc := 22) kl_X0_28 dX0_interestFor_22 ?_
    refine w_ldiv (pc := 25) dX0_interestFor_25 (by decide) ?_
    refine w_lstore_n 2 (pc := 26) rfl dX0_interestFor_26 (by decide) ?_
    refine w_aload_n (pc := 27) dX0_interestFor_27 rfl ?_
    refine w_getJ (pc := 28) fl_X0_24 hF (by first | assumption | exact ob rfl) rfl dX0_interestFor_28 ?_
    refine w_ldc2 (pc := 31) kl_X0_28 dX0_interestFor_31 ?_
    refine w_ldiv (pc := 34) dX0_interestFor_34 (by decide) ?_
    refine w_iload_n (pc := 35) dX0_interestFor_35 rfl ?_
    refine w_i2l (pc := 36) dX0_interestFor_36 ?_
    refine w_lmul (pc := 37) dX0_interestFor_37 ?_
    refine w_lload_n (pc := 38) dX0_interestFor_38 rfl ?_
    refine w_ladd (pc := 39) dX0_interestFor_39 ?_
    refine w_lreturn (pc := 40) dX0_interestFor_40 ?_
    simp only [intr, h5, if_true, if_false, decide_true, decide_false, Bool.or_false, Bool.or_true, Bool.and_true, Bool.and_false, Bool.true_or, Bool.true_and, Bool.false_and, Bool.false_or, not_true_eq_false, not_false_eq_true] at hQ
    exact hQ
  · refine w_lconst (v := 0) (pc := 9) dX0_interestFor_9 rfl ?_
    refine w_lreturn (pc := 10) dX0_interestFor_10 ?_
    simp only [intr, h5, if_true, if_false, decide_true, decide_false, Bool.or_false, Bool.or_true, Bool.and_true, Bool.and_false, Bool.true_or, Bool.true_and, Bool.false_and, Bool.false_or, not_true_eq_false, not_false_eq_true] at hQ
    exact hQ
def kepR (M : Mem) (a w : Nat) (v : Int64) : Mem := sI (sJ (rJ M (a + 2) (va_cpy (mJ M w) (mJ M (a + 2)) 0 0 12)) a 2 v) a 3 1
def T_keep : PT := fun as M Q X => ∃ (a w : Nat) (v : Int64), as = [.ref a, .ref w, .long v] ∧ Full M ∧ OB 2 a ∧ rf a 1 = a + 2 ∧ AR 2 12 (a + 2) ∧ AR 2 12 w ∧ Q none (kepR M a w v)
theorem c_X2_keep {l : Launch} (hl : l.stackTraces = false) : Con l yX2_keep wX2_keep 0 1 (T_keep) := by
  refine con_of hl (by decide) ?_ ?_
  · intro as M Q X hpt
    obtain ⟨a, w, v, rfl, hF, ho, hr, har, haw, hQ⟩ := hpt
    exact Nat.le_of_ble_eq_true rfl
  intro G as M Q X hl' hT hd hpt
  obtain ⟨a, w, v, rfl, hF, ho, hr, har, haw, hQ⟩ := hpt
  have hG : (gl G).stackTraces = false := by rw [hl']; exact hl
  show PW G RX2 cX2_keep 4 none Q X 0 0 [(0, .ref a), (1, .ref w), (2, .long v)] [] M
  refine w_aload_n (pc := 0) dX2_keep_0 rfl ?_
  refine w_iconst (v := 0) (pc := 1) dX2_keep_1 rfl ?_
  refine w_aload_n (pc := 2) dX2_keep_2 rfl ?_
  refine w_getR (b := a + 2) (pc := 3) fl_X2_15 hF (by first | assumption | exact ob rfl) rfl (by first | assumption | exact rf_x (by omega)) dX2_keep_3 ?_
  refine w_iconst (v := 0) (pc := 6) dX2_keep_6 rfl ?_
  refine w_bipush (v := 12) (pc := 7) dX2_keep_7 rfl ?_
  refine w_copyL (pc := 9) ac_X2_27 hF (by assumption) (by assumption) (by decide) (by decide) (by decide) (by decide) (by decide) (by omega) (Nat.le_of_ble_eq_true rfl) dX2_keep_9 ?_
  refine w_aload_n (pc := 12) dX2_keep_12 rfl ?_
  refine w_lload_n (pc := 13) dX2_keep_13 rfl ?_
  refine w_putJ (pc := 14) fp_X2_19 hF (by first | assumption | exact ob rfl) rfl dX2_keep_14 ?_
  refine w_aload_n (pc := 17) dX2_keep_17 rfl ?_
  refine w_iconst (v := 1) (pc := 18) dX2_keep_18 rfl ?_
  refine w_putZ (pc := 19) fp_X2_23 hF (by first | assumption | exact ob rfl) rfl (by first | exact Or.inl rfl | exact Or.inr rfl | assumption) dX2_keep_19 ?_
  refine w_return (pc := 22) dX2_keep_22 ?_
  exact hQ
def T_requireLine : PT := fun as M Q X => ∃ x : Int32, as = [.int x] ∧ (¬ ix x 12 → X "java/util/NoSuchElementException" M) ∧ (∀ i, i < 12 → x = nI i → Q none M)
theorem c_X5_requireLine {l : Launch} (hl : l.stackTraces = false) : Con l yX5_requireLine wX5_requireLine 1 8 (T_requireLine) := by
  refine con_of hl (by decide) ?_ ?_
  · intro as M Q X hpt
    obtain ⟨x, rfl, hX, hQ⟩ := hpt
    exact Nat.le_of_ble_eq_true rfl
  intro G as M Q X hl' hT hd hpt
  obtain ⟨x, rfl, hX, hQ⟩ := hpt
  have hG : (gl G).stackTraces = false := by rw [hl']; exact hl
  show PW G RX5 cX5_requireLine 1 none Q X 1 0 [(0, .int x)] [] M
  refine w_iload_n (pc := 0) dX5_requireLine_0 rfl ?_
  refine w_if_lt 10 (pc := 1) dX5_requireLine_1 (by decide) (fun h1 => ?_) (fun h1 => ?_)
  · refine w_throw (pc := 10) (ik := 227) (is := 229) (ic := 231) (cls := "java/util/NoSuchElementException") (ix := 13) (text := "no such line") (List.mem_of_getElem? (i := 0) rfl) (List.mem_of_getElem? (i := 0) rfl) hT (by omega) (by decide) (Nat.le_of_ble_eq_true rfl) dX5_requireLine_10 dX5_requireLine_13 dX5_requireLine_14 dX5_requireLine_16 dX5_requireLine_19 ?_
    exact hX (ix_no (N := 12) rfl (by decide) (by first | exact Or.inl h1 | exact Or.inr h7))
  · refine w_iload_n (pc := 4) dX5_requireLine_4 rfl ?_
    refine w_bipush (v := 12) (pc := 5) dX5_requireLine_5 rfl ?_
    refine w_icmp_lt 20 (pc := 7) dX5_requireLine_7 (by decide) (fun h7 => ?_) (fun h7 => ?_)
    · refine w_return (pc := 20) dX5_requireLine_20 ?_
      obtain ⟨i, hi, hx⟩ := lt_nat 12 rfl (by decide) h1 h7
      exact hQ i hi hx
    · refine w_throw (pc := 10) (ik := 227) (is := 229) (ic := 231) (cls := "java/util/NoSuchElementException") (ix := 13) (text := "no such line") (List.mem_of_getElem? (i := 0) rfl) (List.mem_of_getElem? (i := 0) rfl) hT (by omega) (by decide) (Nat.le_of_ble_eq_true rfl) dX5_requireLine_10 dX5_requireLine_13 dX5_requireLine_14 dX5_requireLine_16 dX5_requireLine_19 ?_
      exact hX (ix_no (N := 12) rfl (by decide) (by first | exact Or.inl h1 | exact Or.inr h7))
def T_requireTable : PT := fun as M Q X => ∃ x : Int32, as = [.int x] ∧ (¬ ix x 3 → X "java/util/NoSuchElementException" M) ∧ (∀ i, i < 3 → x = nI i → Q none M)
theorem c_X5_requireTable {l : Launch} (hl : l.stackTraces = false) : Con l yX5_requireTable wX5_requireTable 1 8 (T_requireTable) := by
  refine con_of hl (by decide) ?_ ?_
  · intro as M Q X hpt
    obtain ⟨x, rfl, hX, hQ⟩ := hpt
    exact Nat.le_of_ble_eq_true rfl
  intro G as M Q X hl' hT hd hpt
  obtain ⟨x, rfl, hX, hQ⟩ := hpt
  have hG : (gl G).stackTraces = false := by rw [hl']; exact hl
  show PW G RX5 cX5_requireTable 1 none Q X 1 0 [(0, .int x)] [] M
  refine w_iload_n (pc := 0) dX5_requireTable_0 rfl ?_
  refine w_if_lt 9 (pc := 1) dX5_requireTable_1 (by decide) (fun h1 => ?_) (fun h1 => ?_)
  · refine w_throw (pc := 9) (ik := 227) (is := 232) (ic := 231) (cls := "java/util/NoSuchElementException") (ix := 13) (text := "no such table") (List.mem_of_getElem? (i := 0) rfl) (List.mem_of_getElem? (i := 2) rfl) hT (by omega) (by decide) (Nat.le_of_ble_eq_true rfl) dX5_requireTable_9 dX5_requireTable_12 dX5_requireTable_13 dX5_requireTable_15 dX5_requireTable_18 ?_
    exact hX (ix_no (N := 3) rfl (by decide) (by first | exact Or.inl h1 | exact Or.inr h6))
  · refine w_iload_n (pc := 4) dX5_requireTable_4 rfl ?_
    refine w_iconst (v := 3) (pc := 5) dX5_requireTable_5 rfl ?_
    refine w_icmp_lt 19 (pc := 6) dX5_requireTable_6 (by decide) (fun h6 => ?_) (fun h6 => ?_)
    · refine w_return (pc := 19) dX5_requireTable_19 ?_
      obtain ⟨i, hi, hx⟩ := lt_nat 3 rfl (by decide) h1 h6
      exact hQ i hi hx
    · refine w_throw (pc := 9) (ik := 227) (is := 232) (ic := 231) (cls := "java/util/NoSuchElementException") (ix := 13) (text := "no such table") (List.mem_of_getElem? (i := 0) rfl) (List.mem_of_getElem? (i := 2) rfl) hT (by omega) (by decide) (Nat.le_of_ble_eq_true rfl) dX5_requireTable_9 dX5_requireTable_12 dX5_requireTable_13 dX5_requireTable_15 dX5_requireTable_18 ?_
      exact hX (ix_no (N := 3) rfl (by decide) (by first | exact Or.inl h1 | exact Or.inr h6))
def T_requireTaxpayer : PT := fun as M Q X => ∃ x : Int32, as = [.int x] ∧ (¬ ix x 3 → X "java/util/NoSuchElementException" M) ∧ (∀ i, i < 3 → x = nI i → Q none M)
theorem c_X5_requireTaxpayer {l : Launch} (hl : l.stackTraces = false) : Con l yX5_requireTaxpayer wX5_requireTaxpayer 1 8 (T_requireTaxpayer) := by
  refine con_of hl (by decide) ?_ ?_
  · intro as M Q X hpt
    obtain ⟨x, rfl, hX, hQ⟩ := hpt
    exact Nat.le_of_ble_eq_true rfl
  intro G as M Q X hl' hT hd hpt
  obtain ⟨x, rfl, hX, hQ⟩ := hpt
  have hG : (gl G).stackTraces = false := by rw [hl']; exact hl
  show PW G RX5 cX5_requireTaxpayer 1 none Q X 1 0 [(0, .int x)] [] M
  refine w_iload_n (pc := 0) dX5_requireTaxpayer_0 rfl ?_
  refine w_if_lt 9 (pc := 1) dX5_requireTaxpayer_1 (by decide) (fun h1 => ?_) (fun h1 => ?_)
  · refine w_throw (pc := 9) (ik := 227) (is := 234) (ic := 231) (cls := "java/util/NoSuchElementException") (ix := 13) (text := "no such taxpayer") (List.mem_of_getElem? (i := 0) rfl) (List.mem_of_getElem? (i := 8) rfl) hT (by omega) (by decide) (Nat.le_of_ble_eq_true rfl) dX5_requireTaxpayer_9 dX5_requireTaxpayer_12 dX5_requireTaxpayer_13 dX5_requireTaxpayer_15 dX5_requireTaxpayer_18 ?_
    exact hX (ix_no (N := 3) rfl (by decide) (by first | exact Or.inl h1 | exact Or.inr h6))
  · refine w_iload_n (pc := 4) dX5_requireTaxpayer_4 rfl ?_
    refine w_iconst (v := 3) (pc := 5) dX5_requireTaxpayer_5 rfl ?_
    refine w_icmp_lt 19 (pc := 6) dX5_requireTaxpayer_6 (by decide) (fun h6 => ?_) (fun h6 => ?_)
    · refine w_return (pc := 19) dX5_requireTaxpayer_19 ?_
      obtain ⟨i, hi, hx⟩ := lt_nat 3 rfl (by decide) h1 h6
      exact hQ i hi hx
    · refine w_throw (pc := 9) (ik := 227) (is := 234) (ic := 231) (cls := "java/util/NoSuchElementException") (ix := 13) (text := "no such taxpayer") (List.mem_of_getElem? (i := 0) rfl) (List.mem_of_getElem? (i := 8) rfl) hT (by omega) (by decide) (Nat.le_of_ble_eq_true rfl) dX5_requireTaxpayer_9 dX5_requireTaxpayer_12 dX5_requireTaxpayer_13 dX5_requireTaxpayer_15 dX5_requireTaxpayer_18 ?_
      exact hX (ix_no (N := 3) rfl (by decide) (by first | exact Or.inl h1 | exact Or.inr h6))
def T_requireReturn : PT := fun as M Q X => ∃ x y : Int32, as = [.int x, .int y] ∧ (¬ (ix x 3 ∧ ix y 4) → X "java/util/NoSuchElementException" M) ∧ (∀ i j, i < 3 → j < 4 → x = nI i → y = nI j → Q none M)
theorem c_X5_requireReturn {l : Launch} (hl : l.stackTraces = false) : Con l yX5_requireReturn wX5_requireReturn 2 9 (T_requireReturn) := by
  refine con_of hl (by decide) ?_ ?_
  · intro as M Q X hpt
    obtain ⟨x, y, rfl, hX, hQ⟩ := hpt
    exact Nat.le_of_ble_eq_true rfl
  intro G as M Q X hl' hT hd hpt
  obtain ⟨x, y, rfl, hX, hQ⟩ := hpt
  have hG : (gl G).stackTraces = false := by rw [hl']; exact hl
  show PW G RX5 cX5_requireReturn 2 none Q X 2 0 [(0, .int x), (1, .int y)] [] M
  refine w_iload_n (pc := 0) dX5_requireReturn_0 rfl ?_
  refine w_callS1 (n' := 1) (pc := 1) (c_X5_requireTaxpayer hG) cs_X5_195 hT (by omega) (by decide) (Nat.le_of_ble_eq_true rfl) dX5_requireReturn_1 ?_
  refine ⟨_, rfl, fun hx => ?_, fun i hi ei => ?_⟩
  · exact hX (fun q => hx q.1)
  dsimp only [psh]
  refine w_iload_n (pc := 4) dX5_requireReturn_4 rfl ?_
  refine w_if_lt 13 (pc := 5) dX5_requireReturn_5 (by decide) (fun h5 => ?_) (fun h5 => ?_)
  · refine w_throw (pc := 13) (ik := 227) (is := 236) (ic := 231) (cls := "java/util/NoSuchElementException") (ix := 13) (text := "no such year") (List.mem_of_getElem? (i := 0) rfl) (List.mem_of_getElem? (i := 9) rfl) hT (by omega) (by decide) (Nat.le_of_ble_eq_true rfl) dX5_requireReturn_13 dX5_requireReturn_16 dX5_requireReturn_17 dX5_requireReturn_19 dX5_requireReturn_22 ?_
    exact hX (fun q => ix_no (N := 4) rfl (by decide) (by first | exact Or.inl h5 | exact Or.inr h10) q.2)
  · refine w_iload_n (pc := 8) dX5_requireReturn_8 rfl ?_
    refine w_iconst (v := 4) (pc := 9) dX5_requireReturn_9 rfl ?_
    refine w_icmp_lt 23 (pc := 10) dX5_requireReturn_10 (by decide) (fun h10 => ?_) (fun h10 => ?_)
    · refine w_return (pc := 23) dX5_requireReturn_23 ?_
      obtain ⟨j, hj, ej⟩ := lt_nat 4 rfl (by decide) h5 h10
      exact hQ i j hi hj ei ej
    · refine w_throw (pc := 13) (ik := 227) (is := 236) (ic := 231) (cls := "java/util/NoSuchElementException") (ix := 13) (text := "no such year") (List.mem_of_getElem? (i := 0) rfl) (List.mem_of_getElem? (i := 9) rfl) hT (by omega) (by decide) (Nat.le_of_ble_eq_true rfl) dX5_requireReturn_13 dX5_requireReturn_16 dX5_requireReturn_17 dX5_requireReturn_19 dX5_requireReturn_22 ?_
      exact hX (fun q => ix_no (N := 4) rfl (by decide) (by first | exact Or.inl h5 | exact Or.inr h10) q.2)
def T_returnOf : PT := fun as M Q X => ∃ i j : Nat, i < 3 ∧ j < 4 ∧ as = [.ref 0, .int (nI i), .int (nI j)] ∧ Full M ∧ Q (some (.ref (48 + 3 * (4 * i + j)))) M
theorem ix_ret {i j : Nat} (hi : i < 3) (hj : j < 4) : nI i * 4 + nI j = nI (4 * i + j) := by
  rw [show (4 : Int32) = nI 4 from rfl, pk_mul, nI_add, Nat.mul_comm]
theorem in_ret {i j : Nat} (hi : i < 3) (hj : j < 4) : vp_in (nI i * 4 + nI j) 12 := by
  rw [ix_ret hi hj]
  exact vp_in_nI (by omega) (by decide)
theorem cl_ret {i j : Nat} (hi : i < 3) (hj : j < 4) : (nI i * 4 + nI j).toNatClampNeg = 4 * i + j := by
  rw [ix_ret hi hj]
  exact nI_clamp (by omega)
theorem c_X5_returnOf {l : Launch} (hl : l.stackTraces = false) : Con l yX5_returnOf wX5_returnOf 0 1 (T_returnOf) := by
  refine con_of hl (by decide) ?_ ?_
  · intro as M Q X hpt
    obtain ⟨i, j, hi, hj, rfl, hF, hQ⟩ := hpt
    exact Nat.le_of_ble_eq_true rfl
  intro G as M Q X hl' hT hd hpt
  obtain ⟨i, j, hi, hj, rfl, hF, hQ⟩ := hpt
  have hG : (gl G).stackTraces = false := by rw [hl']; exact hl
  show PW G RX5 cX5_returnOf 3 (some (.object "FormOffice$Return")) Q X 0 0 [(0, .ref 0), (1, .int (nI i)), (2, .int (nI j))] [] M
  refine w_aload_n (pc := 0) dX5_returnOf_0 rfl ?_
  refine w_getR (b := 5) (pc := 1) fl_X5_26 hF (by first | assumption | exact ob rfl) rfl rfl dX5_returnOf_1 ?_
  refine w_iload_n (pc := 4) dX5_returnOf_4 rfl ?_
  refine w_iconst (v := 4) (pc := 5) dX5_returnOf_5 rfl ?_
  refine w_imul (pc := 6) dX5_returnOf_6 ?_
  refine w_iload_n (pc := 7) dX5_returnOf_7 rfl ?_
  refine w_iadd (pc := 8) dX5_returnOf_8 ?_
  refine w_aald (m := 12) (b := 48 + 3 * (4 * i + j)) (pc := 9) (Or.inr (Or.inl rfl)) hF (by first | assumption | exact ar rfl) (in_ret hi hj) (by rw [cl_ret hi hj]; rfl) dX5_returnOf_9 ?_
  refine w_areturn (pc := 10) dX5_returnOf_10 ?_
  exact hQ
def hasF (M : Mem) (i : Nat) : Bool := decide (¬ mI M (24 + 2 * i) 1 ≤ 0)
def T_hasFormula : PT := fun as M Q X => ∃ i : Nat, i < 12 ∧ as = [.ref 0, .int (nI i)] ∧ Full M ∧ Q (some (.int (bi (hasF M i)))) M
theorem cl_n {i n : Nat} (hi : i < n) (hn : n < 2 ^ 31) : (nI i).toNatClampNeg = i := nI_clamp (by omega)
theorem c_X5_hasFormula {l : Launch} (hl : l.stackTraces = false) : Con l yX5_hasFormula wX5_hasFormula 0 1 (T_hasFormula) := by
  refine con_of hl (by decide) ?_ ?_
  · intro as M Q X hpt
    obtain ⟨i, hi, rfl, hF, hQ⟩ := hpt
    exact Nat.le_of_ble_eq_true rfl
  intro G as M Q X hl' hT hd hpt
  obtain ⟨i, hi, rfl, hF, hQ⟩ := hpt
  have hG : (gl G).stackTraces = false := by rw [hl']; exact hl
  show PW G RX5 cX5_hasFormula 2 (some .boolean) Q X 0 0 [(0, .ref 0), (1, .int (nI i))] [] M
  have hot := ob_text hi
  refine w_aload_n (pc := 0) dX5_hasFormula_0 rfl ?_
  refine w_getR (b := 3) (pc := 1) fl_X5_16 hF (by first | assumption | exact ob rfl) rfl rfl dX5_hasFormula_1 ?_
  refine w_iload_n (pc := 4) dX5_hasFormula_4 rfl ?_
  refine w_aald (m := 12) (b := 24 + 2 * i) (pc := 5) (Or.inr (Or.inr (Or.inr rfl))) hF (by first | assumption | exact ar rfl) (vp_in_nI hi (by decide)) (by rw [cl_n hi (by decide)]; rfl) dX5_hasFormula_5 ?_
  refine w_getI (pc := 6) fl_X5_78 hF (by first | assumption | exact ob rfl) rfl dX5_hasFormula_6 ?_
  refine w_if_le 16 (pc := 9) dX5_hasFormula_9 (by decide) (fun h9 => ?_) (fun h9 => ?_)
  · refine w_iconst (v := 0) (pc := 16) dX5_hasFormula_16 rfl ?_
    refine w_ireturn (pc := 17) dX5_hasFormula_17 rfl ?_
    simp only [hasF, bi, h9, if_true, if_false, decide_true, decide_false, Bool.or_false, Bool.or_true, Bool.and_true, Bool.and_false, Bool.true_or, Bool.true_and, Bool.false_and, Bool.false_or, not_true_eq_false, not_false_eq_true] at hQ
    exact hQ
  · refine w_iconst (v := 1) (pc := 12) dX5_hasFormula_12 rfl ?_
    refine w_goto 17 (pc := 13) dX5_hasFormula_13 (by decide) ?_
    refine w_ireturn (pc := 17) dX5_hasFormula_17 rfl ?_
    simp only [hasF, bi, h9, if_true, if_false, decide_true, decide_false, Bool.or_false, Bool.or_true, Bool.and_true, Bool.and_false, Bool.true_or, Bool.true_and, Bool.false_and, Bool.false_or, not_true_eq_false, not_false_eq_true] at hQ
    exact hQ
def T_requireAssessed : PT := fun as M Q X => ∃ i j : Nat, i < 3 ∧ j < 4 ∧ as = [.ref 0, .int (nI i), .int (nI j)] ∧ Full M ∧ (mI M (48 + 3 * (4 * i + j)) 3 = 0 → X "java/lang/IllegalStateException" M) ∧ (¬ mI M (48 + 3 * (4 * i + j)) 3 = 0 → Q none M)
theorem c_X5_requireAssessed {l : Launch} (hl : l.stackTraces = false) : Con l yX5_requireAssessed wX5_requireAssessed 1 8 (T_requireAssessed) := by
  refine con_of hl (by decide) ?_ ?_
  · intro as M Q X hpt
    obtain ⟨i, j, hi, hj, rfl, hF, hX, hQ⟩ := hpt
    exact Nat.le_of_ble_eq_true rfl
  intro G as M Q X hl' hT hd hpt
  obtain ⟨i, j, hi, hj, rfl, hF, hX, hQ⟩ := hpt
  have hG : (gl G).stackTraces = false := by rw [hl']; exact hl
  show PW G RX5 cX5_requireAssessed 3 none Q X 1 0 [(0, .ref 0), (1, .int (nI i)), (2, .int (nI j))] [] M
  have hor := ob_ret (i := 4 * i + j) (by omega)
  refine w_aload_n (pc := 0) dX5_requireAssessed_0 rfl ?_
  refine w_iload_n (pc := 1) dX5_requireAssessed_1 rfl ?_
  refine w_iload_n (pc := 2) dX5_requireAssessed_2 rfl ?_
  refine w_callV2 (n' := 1) (pc := 3) (c_X5_returnOf hG) cv_X5_158 (by first | assumption | exact ob rfl) hF hT (by omega) (by decide) (Nat.le_of_ble_eq_true rfl) dX5_requireAssessed_3 ?_
  refine ⟨_, _, hi, hj, rfl, hF, ?_⟩
  dsimp only [psh]
  refine w_getI (pc := 6) fl_X5_238 hF (by first | assumption | exact ob rfl) rfl dX5_requireAssessed_6 ?_
  refine w_if_ne 22 (pc := 9) dX5_requireAssessed_9 (by decide) (fun h9 => ?_) (fun h9 => ?_)
  · refine w_return (pc := 22) dX5_requireAssessed_22 ?_
    exact hQ h9
  · refine w_throw (pc := 12) (ik := 127) (is := 242) (ic := 131) (cls := "java/lang/IllegalStateException") (ix := 7) (text := "the return was not assessed") (List.mem_of_getElem? (i := 2) rfl) (List.mem_of_getElem? (i := 13) rfl) hT (by omega) (by decide) (Nat.le_of_ble_eq_true rfl) dX5_requireAssessed_12 dX5_requireAssessed_15 dX5_requireAssessed_16 dX5_requireAssessed_18 dX5_requireAssessed_21 ?_
    exact hX h9
end
section
/-! SMALL METHODS OF THE REFERENCE -/
def T_mThrown : PT := fun as M Q X => as = [.ref 96] ∧ Full M ∧ Q (some (.int (mI M 96 0))) M
theorem c_X6_thrown {l : Launch} (hl : l.stackTraces = false) : Con l yX6_thrown wX6_thrown 0 1 (T_mThrown) := by
  refine con_of hl (by decide) ?_ ?_
  · intro as M Q X hpt
    obtain ⟨rfl, hF, hQ⟩ := hpt
    exact Nat.le_of_ble_eq_true rfl
  intro G as M Q X hl' hT hd hpt
  obtain ⟨rfl, hF, hQ⟩ := hpt
  have hG : (gl G).stackTraces = false := by rw [hl']; exact hl
  show PW G RX6 cX6_thrown 1 (some .int) Q X 0 0 [(0, .ref 96)] [] M
  refine w_aload_n (pc := 0) dX6_thrown_0 rfl ?_
  refine w_getI (pc := 1) fl_X6_91 hF (by first | assumption | exact ob rfl) rfl dX6_thrown_1 ?_
  refine w_ireturn (pc := 4) dX6_thrown_4 rfl ?_
  exact hQ
def T_mRefuse : PT := fun as M Q X => ∃ c : Int32, as = [.ref 96, .int c] ∧ Full M ∧ Q (some (.int 0)) (sI M 96 0 c)
theorem c_X6_refuse {l : Launch} (hl : l.stackTraces = false) : Con l yX6_refuse wX6_refuse 0 1 (T_mRefuse) := by
  refine con_of hl (by decide) ?_ ?_
  · intro as M Q X hpt
    obtain ⟨c, rfl, hF, hQ⟩ := hpt
    exact Nat.le_of_ble_eq_true rfl
  intro G as M Q X hl' hT hd hpt
  obtain ⟨c, rfl, hF, hQ⟩ := hpt
  have hG : (gl G).stackTraces = false := by rw [hl']; exact hl
  show PW G RX6 cX6_refuse 2 (some .int) Q X 0 0 [(0, .ref 96), (1, .int c)] [] M
  refine w_aload_n (pc := 0) dX6_refuse_0 rfl ?_
  refine w_iload_n (pc := 1) dX6_refuse_1 rfl ?_
  refine w_putI (pc := 2) fp_X6_91 hF (by first | assumption | exact ob rfl) rfl dX6_refuse_2 ?_
  refine w_iconst (v := 0) (pc := 5) dX6_refuse_5 rfl ?_
  refine w_ireturn (pc := 6) dX6_refuse_6 rfl ?_
  exact hQ
def inB (x lo hi : Int64) : Bool := decide (¬ x < lo) && decide (¬ hi < x)
def T_in : PT := fun as M Q X => ∃ x lo hi : Int64, as = [.long x, .long lo, .long hi] ∧ Q (some (.int (bi (decide (¬ x < lo) && decide (¬ hi < x))))) M
theorem c_X6_in {l : Launch} (hl : l.stackTraces = false) : Con l yX6_in wX6_in 0 1 (T_in) := by
  refine con_of hl (by decide) ?_ ?_
  · intro as M Q X hpt
    obtain ⟨x, lo, hi, rfl, hQ⟩ := hpt
    exact Nat.le_of_ble_eq_true rfl
  intro G as M Q X hl' hT hd hpt
  obtain ⟨x, lo, hi, rfl, hQ⟩ := hpt
  have hG : (gl G).stackTraces = false := by rw [hl']; exact hl
  show PW G RX6 cX6_in 6 (some .boolean) Q X 0 0 [(0, .long x), (2, .long lo), (4, .long hi)] [] M
  refine w_lload_n (pc := 0) dX6_in_0 rfl ?_
  refine w_lload_n (pc := 1) dX6_in_1 rfl ?_
  refine w_lcmp_lt 17 (pc := 2) dX6_in_2 dX6_in_3 (by decide) (fun h2 => ?_) (fun h2 => ?_)
  · refine w_iconst (v := 0) (pc := 17) dX6_in_17 rfl ?_
    refine w_ireturn (pc := 18) dX6_in_18 rfl ?_
    first | (have hb : (decide (¬ x < lo) && decide (¬ hi < x)) = true := (by simp [bi, h2]); rw [hb] at hQ; exact hQ) | (have hb : (decide (¬ x < lo) && decide (¬ hi < x)) = false := (by simp [bi, h2]); rw [hb] at hQ; exact hQ)
  · refine w_lload_n (pc := 6) dX6_in_6 rfl ?_
    refine w_lload (pc := 7) dX6_in_7 rfl ?_
    refine w_lcmp_gt 17 (pc := 9) dX6_in_9 dX6_in_10 (by decide) (fun h9 => ?_) (fun h9 => ?_)
    · refine w_iconst (v := 0) (pc := 17) dX6_in_17 rfl ?_
      refine w_ireturn (pc := 18) dX6_in_18 rfl ?_
      first | (have hb : (decide (¬ x < lo) && decide (¬ hi < x)) = true := (by simp [bi, h2, h9]); rw [hb] at hQ; exact hQ) | (have hb : (decide (¬ x < lo) && decide (¬ hi < x)) = false := (by simp [bi, h2, h9]); rw [hb] at hQ; exact hQ)
    · refine w_iconst (v := 1) (pc := 13) dX6_in_13 rfl ?_
      refine w_goto 18 (pc := 14) dX6_in_14 (by decide) ?_
      refine w_ireturn (pc := 18) dX6_in_18 rfl ?_
      first | (have hb : (decide (¬ x < lo) && decide (¬ hi < x)) = true := (by simp [bi, h2, h9]); rw [hb] at hQ; exact hQ) | (have hb : (decide (¬ x < lo) && decide (¬ hi < x)) = false := (by simp [bi, h2, h9]); rw [hb] at hQ; exact hQ)
def isDg (c : Int32) : Bool := decide (¬ c < 48) && decide (¬ 57 < c)
def isNm (c : Int32) : Bool := decide (¬ c < 65) && decide (¬ 76 < c)
def T_isDg : PT := fun as M Q X => ∃ c : Int32, as = [.int c] ∧ Q (some (.int (bi (isDg c)))) M
def T_isNm : PT := fun as M Q X => ∃ c : Int32, as = [.int c] ∧ Q (some (.int (bi (isNm c)))) M
theorem c_X6_isDigit {l : Launch} (hl : l.stackTraces = false) : Con l yX6_isDigit wX6_isDigit 0 1 (T_isDg) := by
  refine con_of hl (by decide) ?_ ?_
  · intro as M Q X hpt
    obtain ⟨c, rfl, hQ⟩ := hpt
    exact Nat.le_of_ble_eq_true rfl
  intro G as M Q X hl' hT hd hpt
  obtain ⟨c, rfl, hQ⟩ := hpt
  have hG : (gl G).stackTraces = false := by rw [hl']; exact hl
  show PW G RX6 cX6_isDigit 1 (some .boolean) Q X 0 0 [(0, .int c)] [] M
  refine w_iload_n (pc := 0) dX6_isDigit_0 rfl ?_
  refine w_bipush (v := 48) (pc := 1) dX6_isDigit_1 rfl ?_
  refine w_icmp_lt 16 (pc := 3) dX6_isDigit_3 (by decide) (fun h3 => ?_) (fun h3 => ?_)
  · refine w_iconst (v := 0) (pc := 16) dX6_isDigit_16 rfl ?_
    refine w_ireturn (pc := 17) dX6_isDigit_17 rfl ?_
    first | (have hb : isDg c = true := (by simp [isDg, h3]); rw [hb] at hQ; exact hQ) | (have hb : isDg c = false := (by simp [isDg, h3]); rw [hb] at hQ; exact hQ)
  · refine w_iload_n (pc := 6) dX6_isDigit_6 rfl ?_
    refine w_bipush (v := 57) (pc := 7) dX6_isDigit_7 rfl ?_
    refine w_icmp_gt 16 (pc := 9) dX6_isDigit_9 (by decide) (fun h9 => ?_) (fun h9 => ?_)
    · refine w_iconst (v := 0) (pc := 16) dX6_isDigit_16 rfl ?_
      refine w_ireturn (pc := 17) dX6_isDigit_17 rfl ?_
      first | (have hb : isDg c = true := (by simp [isDg, h3, h9]); rw [hb] at hQ; exact hQ) | (have hb : isDg c = false := (by simp [isDg, h3, h9]); rw [hb] at hQ; exact hQ)
    · refine w_iconst (v := 1) (pc := 12) dX6_isDigit_12 rfl ?_
      refine w_goto 17 (pc := 13) dX6_isDigit_13 (by decide) ?_
      refine w_ireturn (pc := 17) dX6_isDigit_17 rfl ?_
      first | (have hb : isDg c = true := (by simp [isDg, h3, h9]); rw [hb] at hQ; exact hQ) | (have hb : isDg c = false := (by simp [isDg, h3, h9]); rw [hb] at hQ; exact hQ)
theorem c_X6_isName {l : Launch} (hl : l.stackTraces = false) : Con l yX6_isName wX6_isName 0 1 (T_isNm) := by
  refine con_of hl (by decide) ?_ ?_
  · intro as M Q X hpt
    obtain ⟨c, rfl, hQ⟩ := hpt
    exact Nat.le_of_ble_eq_true rfl
  intro G as M Q X hl' hT hd hpt
  obtain ⟨c, rfl, hQ⟩ := hpt
  have hG : (gl G).stackTraces = false := by rw [hl']; exact hl
  show PW G RX6 cX6_isName 1 (some .boolean) Q X 0 0 [(0, .int c)] [] M
  refine w_iload_n (pc := 0) dX6_isName_0 rfl ?_
  refine w_bipush (v := 65) (pc := 1) dX6_isName_1 rfl ?_
  refine w_icmp_lt 16 (pc := 3) dX6_isName_3 (by decide) (fun h3 => ?_) (fun h3 => ?_)
  · refine w_iconst (v := 0) (pc := 16) dX6_isName_16 rfl ?_
    refine w_ireturn (pc := 17) dX6_isName_17 rfl ?_
    first | (have hb : isNm c = true := (by simp [isNm, h3]); rw [hb] at hQ; exact hQ) | (have hb : isNm c = false := (by simp [isNm, h3]); rw [hb] at hQ; exact hQ)
  · refine w_iload_n (pc := 6) dX6_isName_6 rfl ?_
    refine w_bipush (v := 76) (pc := 7) dX6_isName_7 rfl ?_
    refine w_icmp_gt 16 (pc := 9) dX6_isName_9 (by decide) (fun h9 => ?_) (fun h9 => ?_)
    · refine w_iconst (v := 0) (pc := 16) dX6_isName_16 rfl ?_
      refine w_ireturn (pc := 17) dX6_isName_17 rfl ?_
      first | (have hb : isNm c = true := (by simp [isNm, h3, h9]); rw [hb] at hQ; exact hQ) | (have hb : isNm c = false := (by simp [isNm, h3, h9]); rw [hb] at hQ; exact hQ)
    · refine w_iconst (v := 1) (pc := 12) dX6_isName_12 rfl ?_
      refine w_goto 17 (pc := 13) dX6_isName_13 (by decide) ?_
      refine w_ireturn (pc := 17) dX6_isName_17 rfl ?_
      first | (have hb : isNm c = true := (by simp [isNm, h3, h9]); rw [hb] at hQ; exact hQ) | (have hb : isNm c = false := (by simp [isNm, h3, h9]); rw [hb] at hQ; exact hQ)
theorem c_X1_isDigit {l : Launch} (hl : l.stackTraces = false) : Con l yX1_isDigit wX1_isDigit 0 1 (T_isDg) := by
  refine con_of hl (by decide) ?_ ?_
  · intro as M Q X hpt
    obtain ⟨c, rfl, hQ⟩ := hpt
    exact Nat.le_of_ble_eq_true rfl
  intro G as M Q X hl' hT hd hpt
  obtain ⟨c, rfl, hQ⟩ := hpt
  have hG : (gl G).stackTraces = false := by rw [hl']; exact hl
  show PW G RX1 cX1_isDigit 1 (some .boolean) Q X 0 0 [(0, .int c)] [] M
  refine w_iload_n (pc := 0) dX1_isDigit_0 rfl ?_
  refine w_bipush (v := 48) (pc := 1) dX1_isDigit_1 rfl ?_
  refine w_icmp_lt 16 (pc := 3) dX1_isDigit_3 (by decide) (fun h3 => ?_) (fun h3 => ?_)
  · refine w_iconst (v := 0) (pc := 16) dX1_isDigit_16 rfl ?_
    refine w_ireturn (pc := 17) dX1_isDigit_17 rfl ?_
    first | (have hb : isDg c = true := (by simp [isDg, h3]); rw [hb] at hQ; exact hQ) | (have hb : isDg c = false := (by simp [isDg, h3]); rw [hb] at hQ; exact hQ)
  · refine w_iload_n (pc := 6) dX1_isDigit_6 rfl ?_
    refine w_bipush (v := 57) (pc := 7) dX1_isDigit_7 rfl ?_
    refine w_icmp_gt 16 (pc := 9) dX1_isDigit_9 (by decide) (fun h9 => ?_) (fun h9 => ?_)
    · refine w_iconst (v := 0) (pc := 16) dX1_isDigit_16 rfl ?_
      refine w_ireturn (pc := 17) dX1_isDigit_17 rfl ?_
      first | (have hb : isDg c = true := (by simp [isDg, h3, h9]); rw [hb] at hQ; exact hQ) | (have hb : isDg c = false := (by simp [isDg, h3, h9]); rw [hb] at hQ; exact hQ)
    · refine w_iconst (v := 1) (pc := 12) dX1_isDigit_12 rfl ?_
      refine w_goto 17 (pc := 13) dX1_isDigit_13 (by decide) ?_
      refine w_ireturn (pc := 17) dX1_isDigit_17 rfl ?_
      first | (have hb : isDg c = true := (by simp [isDg, h3, h9]); rw [hb] at hQ; exact hQ) | (have hb : isDg c = false := (by simp [isDg, h3, h9]); rw [hb] at hQ; exact hQ)
def T_mClear : PT := fun as M Q X => as = [.ref 96] ∧ Full M ∧ Q (some (.int (mI M 96 2))) (sI (sI M 96 0 0) 96 2 0)
theorem c_X6_clear {l : Launch} (hl : l.stackTraces = false) : Con l yX6_clear wX6_clear 0 1 (T_mClear) := by
  refine con_of hl (by decide) ?_ ?_
  · intro as M Q X hpt
    obtain ⟨rfl, hF, hQ⟩ := hpt
    exact Nat.le_of_ble_eq_true rfl
  intro G as M Q X hl' hT hd hpt
  obtain ⟨rfl, hF, hQ⟩ := hpt
  have hG : (gl G).stackTraces = false := by rw [hl']; exact hl
  show PW G RX6 cX6_clear 2 (some .int) Q X 0 0 [(0, .ref 96)] [] M
  refine w_aload_n (pc := 0) dX6_clear_0 rfl ?_
  refine w_iconst (v := 0) (pc := 1) dX6_clear_1 rfl ?_
  refine w_putI (pc := 2) fp_X6_91 hF (by first | assumption | exact ob rfl) rfl dX6_clear_2 ?_
  refine w_aload_n (pc := 5) dX6_clear_5 rfl ?_
  refine w_getI (pc := 6) fl_X6_101 hF (by first | assumption | exact ob rfl) rfl dX6_clear_6 ?_
  refine w_istore_n 1 (pc := 9) rfl dX6_clear_9 (by decide) ?_
  refine w_aload_n (pc := 10) dX6_clear_10 rfl ?_
  refine w_iconst (v := 0) (pc := 11) dX6_clear_11 rfl ?_
  refine w_putI (pc := 12) fp_X6_101 hF (by first | assumption | exact ob rfl) rfl dX6_clear_12 ?_
  refine w_iload_n (pc := 15) dX6_clear_15 rfl ?_
  refine w_ireturn (pc := 16) dX6_clear_16 rfl ?_
  exact hQ
def lookV (M : Mem) (i : Int32) : Int32 := if mI M 96 2 ≤ i then 0 else mI M 97 i.toNatClampNeg
def T_look : PT := fun as M Q X => ∃ i : Int32, as = [.ref 96, .int i] ∧ Full M ∧ (¬ mI M 96 2 ≤ i → vp_in i 40) ∧ Q (some (.int (lookV M i))) M
theorem c_X6_look {l : Launch} (hl : l.stackTraces = false) : Con l yX6_look wX6_look 0 1 (T_look) := by
  refine con_of hl (by decide) ?_ ?_
  · intro as M Q X hpt
    obtain ⟨i, rfl, hF, hin, hQ⟩ := hpt
    exact Nat.le_of_ble_eq_true rfl
  intro G as M Q X hl' hT hd hpt
  obtain ⟨i, rfl, hF, hin, hQ⟩ := hpt
  have hG : (gl G).stackTraces = false := by rw [hl']; exact hl
  show PW G RX6 cX6_look 2 (some .int) Q X 0 0 [(0, .ref 96), (1, .int i)] [] M
  refine w_iload_n (pc := 0) dX6_look_0 rfl ?_
  refine w_aload_n (pc := 1) dX6_look_1 rfl ?_
  refine w_getI (pc := 2) fl_X6_101 hF (by first | assumption | exact ob rfl) rfl dX6_look_2 ?_
  refine w_icmp_ge 17 (pc := 5) dX6_look_5 (by decide) (fun h5 => ?_) (fun h5 => ?_)
  · refine w_iconst (v := 0) (pc := 17) dX6_look_17 rfl ?_
    refine w_ireturn (pc := 18) dX6_look_18 rfl ?_
    unfold lookV at hQ
    (repeat (first | rw [if_pos (by assumption)] at hQ | rw [if_neg (by assumption)] at hQ))
    exact hQ
  · refine w_aload_n (pc := 8) dX6_look_8 rfl ?_
    refine w_getR (b := 97) (pc := 9) fl_X6_7 hF (by first | assumption | exact ob rfl) rfl rfl dX6_look_9 ?_
    refine w_iload_n (pc := 12) dX6_look_12 rfl ?_
    refine w_iald (m := 40) (pc := 13) hF (by first | assumption | exact ar rfl) (hin h5) dX6_look_13 ?_
    refine w_goto 18 (pc := 14) dX6_look_14 (by decide) ?_
    refine w_ireturn (pc := 18) dX6_look_18 rfl ?_
    unfold lookV at hQ
    (repeat (first | rw [if_pos (by assumption)] at hQ | rw [if_neg (by assumption)] at hQ))
    exact hQ
def makeV (M : Mem) (w n : Int32) : Mem := sI (sI (sI M 117 (mI M 96 26).toNatClampNeg w) 118 (mI M 96 26).toNatClampNeg n) 96 26 (mI M 96 26 + 1)
def putV (M : Mem) (w n : Int32) : Mem := sI (sI (sI M 115 (mI M 96 23).toNatClampNeg w) 116 (mI M 96 23).toNatClampNeg n) 96 23 (mI M 96 23 + 1)
def topV (M : Mem) : Int32 := if mI M 96 23 ≤ 0 then 0 else mI M 115 (mI M 96 23 - 1).toNatClampNeg
def T_make : PT := fun as M Q X => ∃ w n : Int32, as = [.ref 96, .int w, .int n] ∧ Full M ∧ vp_in (mI M 96 26) 48 ∧ Q none (makeV M w n)
def T_put : PT := fun as M Q X => ∃ w n : Int32, as = [.ref 96, .int w, .int n] ∧ Full M ∧ vp_in (mI M 96 23) 48 ∧ Q (some (.int 1)) (putV M w n)
def T_top : PT := fun as M Q X => as = [.ref 96] ∧ Full M ∧ (¬ mI M 96 23 ≤ 0 → vp_in (mI M 96 23 - 1) 48) ∧ Q (some (.int (topV M))) M
theorem c_X6_make {l : Launch} (hl : l.stackTraces = false) : Con l yX6_make wX6_make 0 1 (T_make) := by
  refine con_of hl (by decide) ?_ ?_
  · intro as M Q X hpt
    obtain ⟨w, n, rfl, hF, hin, hQ⟩ := hpt
    exact Nat.le_of_ble_eq_true rfl
  intro G as M Q X hl' hT hd hpt
  obtain ⟨w, n, rfl, hF, hin, hQ⟩ := hpt
  have hG : (gl G).stackTraces = false := by rw [hl']; exact hl
  show PW G RX6 cX6_make 3 none Q X 0 0 [(0, .ref 96), (1, .int w), (2, .int n)] [] M
  refine w_aload_n (pc := 0) dX6_make_0 rfl ?_
  refine w_getR (b := 117) (pc := 1) fl_X6_76 hF (by first | assumption | exact ob rfl) rfl rfl dX6_make_1 ?_
  refine w_aload_n (pc := 4) dX6_make_4 rfl ?_
  refine w_getI (pc := 5) fl_X6_104 hF (by first | assumption | exact ob rfl) rfl dX6_make_5 ?_
  refine w_iload_n (pc := 8) dX6_make_8 rfl ?_
  refine w_iast (m := 48) (pc := 9) hF (by first | assumption | exact ar rfl) hin dX6_make_9 ?_
  refine w_aload_n (pc := 10) dX6_make_10 rfl ?_
  refine w_getR (b := 118) (pc := 11) fl_X6_79 hF (by first | assumption | exact ob rfl) rfl rfl dX6_make_11 ?_
  refine w_aload_n (pc := 14) dX6_make_14 rfl ?_
  refine w_getI (pc := 15) fl_X6_104 hF (by first | assumption | exact ob rfl) rfl dX6_make_15 ?_
  refine w_iload_n (pc := 18) dX6_make_18 rfl ?_
  refine w_iast (m := 48) (pc := 19) hF (by first | assumption | exact ar rfl) hin dX6_make_19 ?_
  refine w_aload_n (pc := 20) dX6_make_20 rfl ?_
  refine w_dup (pc := 21) dX6_make_21 rfl ?_
  refine w_getI (pc := 22) fl_X6_104 hF (by first | assumption | exact ob rfl) rfl dX6_make_22 ?_
  refine w_iconst (v := 1) (pc := 25) dX6_make_25 rfl ?_
  refine w_iadd (pc := 26) dX6_make_26 ?_
  refine w_putI (pc := 27) fp_X6_104 hF (by first | assumption | exact ob rfl) rfl dX6_make_27 ?_
  refine w_return (pc := 30) dX6_make_30 ?_
  exact hQ
theorem c_X6_put {l : Launch} (hl : l.stackTraces = false) : Con l yX6_put wX6_put 0 1 (T_put) := by
  refine con_of hl (by decide) ?_ ?_
  · intro as M Q X hpt
    obtain ⟨w, n, rfl, hF, hin, hQ⟩ := hpt
    exact Nat.le_of_ble_eq_true rfl
  intro G as M Q X hl' hT hd hpt
  obtain ⟨w, n, rfl, hF, hin, hQ⟩ := hpt
  have hG : (gl G).stackTraces = false := by rw [hl']; exact hl
  show PW G RX6 cX6_put 3 (some .boolean) Q X 0 0 [(0, .ref 96), (1, .int w), (2, .int n)] [] M
  refine w_aload_n (pc := 0) dX6_put_0 rfl ?_
  refine w_getR (b := 115) (pc := 1) fl_X6_70 hF (by first | assumption | exact ob rfl) rfl rfl dX6_put_1 ?_
  refine w_aload_n (pc := 4) dX6_put_4 rfl ?_
  refine w_getI (pc := 5) fl_X6_107 hF (by first | assumption | exact ob rfl) rfl dX6_put_5 ?_
  refine w_iload_n (pc := 8) dX6_put_8 rfl ?_
  refine w_iast (m := 48) (pc := 9) hF (by first | assumption | exact ar rfl) hin dX6_put_9 ?_
  refine w_aload_n (pc := 10) dX6_put_10 rfl ?_
  refine w_getR (b := 116) (pc := 11) fl_X6_73 hF (by first | assumption | exact ob rfl) rfl rfl dX6_put_11 ?_
  refine w_aload_n (pc := 14) dX6_put_14 rfl ?_
  refine w_getI (pc := 15) fl_X6_107 hF (by first | assumption | exact ob rfl) rfl dX6_put_15 ?_
  refine w_iload_n (pc := 18) dX6_put_18 rfl ?_
  refine w_iast (m := 48) (pc := 19) hF (by first | assumption | exact ar rfl) hin dX6_put_19 ?_
  refine w_aload_n (pc := 20) dX6_put_20 rfl ?_
  refine w_dup (pc := 21) dX6_put_21 rfl ?_
  refine w_getI (pc := 22) fl_X6_107 hF (by first | assumption | exact ob rfl) rfl dX6_put_22 ?_
  refine w_iconst (v := 1) (pc := 25) dX6_put_25 rfl ?_
  refine w_iadd (pc := 26) dX6_put_26 ?_
  refine w_putI (pc := 27) fp_X6_107 hF (by first | assumption | exact ob rfl) rfl dX6_put_27 ?_
  refine w_iconst (v := 1) (pc := 30) dX6_put_30 rfl ?_
  refine w_ireturn (pc := 31) dX6_put_31 rfl ?_
  exact hQ
theorem c_X6_top {l : Launch} (hl : l.stackTraces = false) : Con l yX6_top wX6_top 0 1 (T_top) := by
  refine con_of hl (by decide) ?_ ?_
  · intro as M Q X hpt
    obtain ⟨rfl, hF, hin, hQ⟩ := hpt
    exact Nat.le_of_ble_eq_true rfl
  intro G as M Q X hl' hT hd hpt
  obtain ⟨rfl, hF, hin, hQ⟩ := hpt
  have hG : (gl G).stackTraces = false := by rw [hl']; exact hl
  show PW G RX6 cX6_top 1 (some .int) Q X 0 0 [(0, .ref 96)] [] M
  refine w_aload_n (pc := 0) dX6_top_0 rfl ?_
  refine w_getI (pc := 1) fl_X6_107 hF (by first | assumption | exact ob rfl) rfl dX6_top_1 ?_
  refine w_if_le 21 (pc := 4) dX6_top_4 (by decide) (fun h4 => ?_) (fun h4 => ?_)
  · refine w_iconst (v := 0) (pc := 21) dX6_top_21 rfl ?_
    refine w_ireturn (pc := 22) dX6_top_22 rfl ?_
    unfold topV at hQ
    (repeat (first | rw [if_pos (by assumption)] at hQ | rw [if_neg (by assumption)] at hQ))
    exact hQ
  · refine w_aload_n (pc := 7) dX6_top_7 rfl ?_
    refine w_getR (b := 115) (pc := 8) fl_X6_70 hF (by first | assumption | exact ob rfl) rfl rfl dX6_top_8 ?_
    refine w_aload_n (pc := 11) dX6_top_11 rfl ?_
    refine w_getI (pc := 12) fl_X6_107 hF (by first | assumption | exact ob rfl) rfl dX6_top_12 ?_
    refine w_iconst (v := 1) (pc := 15) dX6_top_15 rfl ?_
    refine w_isub (pc := 16) dX6_top_16 ?_
    refine w_iald (m := 48) (pc := 17) hF (by first | assumption | exact ar rfl) (hin h4) dX6_top_17 ?_
    refine w_goto 22 (pc := 18) dX6_top_18 (by decide) ?_
    refine w_ireturn (pc := 22) dX6_top_22 rfl ?_
    unfold topV at hQ
    (repeat (first | rw [if_pos (by assumption)] at hQ | rw [if_neg (by assumption)] at hQ))
    exact hQ
/-- refused: thrown is c -/
def thr (M : Mem) (c : Int32) : Mem := sI (sI M 96 0 0) 96 0 c
def T_mTotal : PT := fun as M Q X => ∃ x : Int32, as = [.ref 96, .int x] ∧ Full M ∧ (¬ ix x 12 → Q (some (.int 0)) (thr M 1)) ∧ (∀ i, i < 12 → x = nI i → Q (some (.int (mI M 96 8))) (sI (sI M 96 0 0) 96 8 (nI i)))
def T_mInterest : PT := fun as M Q X => ∃ x : Int32, as = [.ref 96, .int x] ∧ Full M ∧ (¬ ix x 31 → Q (some (.int 0)) (thr M 1)) ∧ (∀ i, i < 31 → x = nI i → Q (some (.int (mI M 96 17))) (sI (sI M 96 0 0) 96 17 (nI i)))
theorem c_X6_total {l : Launch} (hl : l.stackTraces = false) : Con l yX6_total wX6_total 0 2 (T_mTotal) := by
  refine con_of hl (by decide) ?_ ?_
  · intro as M Q X hpt
    obtain ⟨x, rfl, hF, hX, hQ⟩ := hpt
    exact Nat.le_of_ble_eq_true rfl
  intro G as M Q X hl' hT hd hpt
  obtain ⟨x, rfl, hF, hX, hQ⟩ := hpt
  have hG : (gl G).stackTraces = false := by rw [hl']; exact hl
  show PW G RX6 cX6_total 3 (some .int) Q X 0 0 [(0, .ref 96), (1, .int x)] [] M
  refine w_aload_n (pc := 0) dX6_total_0 rfl ?_
  refine w_iconst (v := 0) (pc := 1) dX6_total_1 rfl ?_
  refine w_putI (pc := 2) fp_X6_91 hF (by first | assumption | exact ob rfl) rfl dX6_total_2 ?_
  refine w_iload_n (pc := 5) dX6_total_5 rfl ?_
  refine w_i2l (pc := 6) dX6_total_6 ?_
  refine w_lconst (v := 0) (pc := 7) dX6_total_7 rfl ?_
  refine w_ldc2 (pc := 8) kl_X6_161 dX6_total_8 ?_
  refine w_callS3 (n' := 0) (pc := 11) (c_X6_in hG) cs_X6_137 hT (by omega) (by decide) (Nat.le_of_ble_eq_true rfl) dX6_total_11 ?_
  refine ⟨_, _, _, rfl, ?_⟩
  dsimp only [psh]
  refine w_if_ne 23 (pc := 14) dX6_total_14 (by decide) (fun h14 => ?_) (fun h14 => ?_)
  · obtain ⟨i, hi, rfl⟩ := ix_in (n := 11) (N := 11) rfl (by decide) (in_t (lo := 0) (hi := 11) rfl rfl h14)
    refine w_aload_n (pc := 23) dX6_total_23 rfl ?_
    refine w_getI (pc := 24) fl_X6_29 hF (by first | assumption | exact ob rfl) rfl dX6_total_24 ?_
    refine w_istore_n 2 (pc := 27) rfl dX6_total_27 (by decide) ?_
    refine w_aload_n (pc := 28) dX6_total_28 rfl ?_
    refine w_iload_n (pc := 29) dX6_total_29 rfl ?_
    refine w_putI (pc := 30) fp_X6_29 hF (by first | assumption | exact ob rfl) rfl dX6_total_30 ?_
    refine w_iload_n (pc := 33) dX6_total_33 rfl ?_
    refine w_ireturn (pc := 34) dX6_total_34 rfl ?_
    exact hQ i hi rfl
  · have hx14 := ix_out (n := 11) (N := 11) rfl (by decide) (in_f (lo := 0) (hi := 11) rfl rfl h14)
    refine w_aload_n (pc := 17) dX6_total_17 rfl ?_
    refine w_iconst (v := 1) (pc := 18) dX6_total_18 rfl ?_
    refine w_callV1 (n' := 0) (pc := 19) (c_X6_refuse hG) cv_X6_163 (by first | assumption | exact ob rfl) hF hT (by omega) (by decide) (Nat.le_of_ble_eq_true rfl) dX6_total_19 ?_
    refine ⟨_, rfl, hF, ?_⟩
    dsimp only [psh]
    refine w_ireturn (pc := 22) dX6_total_22 rfl ?_
    exact hX hx14
theorem c_X6_interest {l : Launch} (hl : l.stackTraces = false) : Con l yX6_interest wX6_interest 0 2 (T_mInterest) := by
  refine con_of hl (by decide) ?_ ?_
  · intro as M Q X hpt
    obtain ⟨x, rfl, hF, hX, hQ⟩ := hpt
    exact Nat.le_of_ble_eq_true rfl
  intro G as M Q X hl' hT hd hpt
  obtain ⟨x, rfl, hF, hX, hQ⟩ := hpt
  have hG : (gl G).stackTraces = false := by rw [hl']; exact hl
  show PW G RX6 cX6_interest 3 (some .int) Q X 0 0 [(0, .ref 96), (1, .int x)] [] M
  refine w_aload_n (pc := 0) dX6_interest_0 rfl ?_
  refine w_iconst (v := 0) (pc := 1) dX6_interest_1 rfl ?_
  refine w_putI (pc := 2) fp_X6_91 hF (by first | assumption | exact ob rfl) rfl dX6_interest_2 ?_
  refine w_iload_n (pc := 5) dX6_interest_5 rfl ?_
  refine w_i2l (pc := 6) dX6_interest_6 ?_
  refine w_lconst (v := 0) (pc := 7) dX6_interest_7 rfl ?_
  refine w_ldc2 (pc := 8) kl_X6_219 dX6_interest_8 ?_
  refine w_callS3 (n' := 0) (pc := 11) (c_X6_in hG) cs_X6_137 hT (by omega) (by decide) (Nat.le_of_ble_eq_true rfl) dX6_interest_11 ?_
  refine ⟨_, _, _, rfl, ?_⟩
  dsimp only [psh]
  refine w_if_ne 23 (pc := 14) dX6_interest_14 (by decide) (fun h14 => ?_) (fun h14 => ?_)
  · obtain ⟨i, hi, rfl⟩ := ix_in (n := 30) (N := 30) rfl (by decide) (in_t (lo := 0) (hi := 30) rfl rfl h14)
    refine w_aload_n (pc := 23) dX6_interest_23 rfl ?_
    refine w_getI (pc := 24) fl_X6_221 hF (by first | assumption | exact ob rfl) rfl dX6_interest_24 ?_
    refine w_istore_n 2 (pc := 27) rfl dX6_interest_27 (by decide) ?_
    refine w_aload_n (pc := 28) dX6_interest_28 rfl ?_
    refine w_iload_n (pc := 29) dX6_interest_29 rfl ?_
    refine w_putI (pc := 30) fp_X6_221 hF (by first | assumption | exact ob rfl) rfl dX6_interest_30 ?_
    refine w_iload_n (pc := 33) dX6_interest_33 rfl ?_
    refine w_ireturn (pc := 34) dX6_interest_34 rfl ?_
    exact hQ i hi rfl
  · have hx14 := ix_out (n := 30) (N := 30) rfl (by decide) (in_f (lo := 0) (hi := 30) rfl rfl h14)
    refine w_aload_n (pc := 17) dX6_interest_17 rfl ?_
    refine w_iconst (v := 1) (pc := 18) dX6_interest_18 rfl ?_
    refine w_callV1 (n' := 0) (pc := 19) (c_X6_refuse hG) cv_X6_163 (by first | assumption | exact ob rfl) hF hT (by omega) (by decide) (Nat.le_of_ble_eq_true rfl) dX6_interest_19 ?_
    refine ⟨_, rfl, hF, ?_⟩
    dsimp only [psh]
    refine w_ireturn (pc := 22) dX6_interest_22 rfl ?_
    exact hX hx14
def T_mInput : PT := fun as M Q X => ∃ x : Int32, as = [.ref 96, .int x] ∧ Full M ∧ (∀ i, i < 12 → mI M 98 i = 0 ∨ mI M 98 i = 1) ∧ (¬ ix x 12 → Q (some (.int 0)) (thr M 1)) ∧ (∀ i, i < 12 → x = nI i → Q (some (.int (mI M 98 i))) (sI (sI M 96 0 0) 98 i 0))
theorem c_X6_input {l : Launch} (hl : l.stackTraces = false) : Con l yX6_input wX6_input 0 2 (T_mInput) := by
  refine con_of hl (by decide) ?_ ?_
  · intro as M Q X hpt
    obtain ⟨x, rfl, hF, h01, hX, hQ⟩ := hpt
    exact Nat.le_of_ble_eq_true rfl
  intro G as M Q X hl' hT hd hpt
  obtain ⟨x, rfl, hF, h01, hX, hQ⟩ := hpt
  have hG : (gl G).stackTraces = false := by rw [hl']; exact hl
  show PW G RX6 cX6_input 3 (some .boolean) Q X 0 0 [(0, .ref 96), (1, .int x)] [] M
  refine w_aload_n (pc := 0) dX6_input_0 rfl ?_
  refine w_iconst (v := 0) (pc := 1) dX6_input_1 rfl ?_
  refine w_putI (pc := 2) fp_X6_91 hF (by first | assumption | exact ob rfl) rfl dX6_input_2 ?_
  refine w_iload_n (pc := 5) dX6_input_5 rfl ?_
  refine w_i2l (pc := 6) dX6_input_6 ?_
  refine w_lconst (v := 0) (pc := 7) dX6_input_7 rfl ?_
  refine w_ldc2 (pc := 8) kl_X6_161 dX6_input_8 ?_
  refine w_callS3 (n' := 0) (pc := 11) (c_X6_in hG) cs_X6_137 hT (by omega) (by decide) (Nat.le_of_ble_eq_true rfl) dX6_input_11 ?_
  refine ⟨_, _, _, rfl, ?_⟩
  dsimp only [psh]
  refine w_if_ne 31 (pc := 14) dX6_input_14 (by decide) (fun h14 => ?_) (fun h14 => ?_)
  · obtain ⟨i, hi, rfl⟩ := ix_in (n := 11) (N := 11) rfl (by decide) (in_t (lo := 0) (hi := 11) rfl rfl h14)
    refine w_aload_n (pc := 31) dX6_input_31 rfl ?_
    refine w_getR (b := 98) (pc := 32) fl_X6_13 hF (by first | assumption | exact ob rfl) rfl rfl dX6_input_32 ?_
    refine w_iload_n (pc := 35) dX6_input_35 rfl ?_
    refine w_zald (m := 12) (pc := 36) hF (by first | assumption | exact ar rfl) (vin hi (by decide)) dX6_input_36 ?_
    refine w_istore_n 2 (pc := 37) rfl dX6_input_37 (by decide) ?_
    refine w_aload_n (pc := 38) dX6_input_38 rfl ?_
    refine w_getR (b := 98) (pc := 39) fl_X6_13 hF (by first | assumption | exact ob rfl) rfl rfl dX6_input_39 ?_
    refine w_iload_n (pc := 42) dX6_input_42 rfl ?_
    refine w_iconst (v := 0) (pc := 43) dX6_input_43 rfl ?_
    refine w_zast (m := 12) (pc := 44) hF (by first | assumption | exact ar rfl) (vin hi (by decide)) (by first | exact Or.inl rfl | exact Or.inr rfl | assumption) dX6_input_44 ?_
    refine w_iload_n (pc := 45) dX6_input_45 rfl ?_
    refine w_ireturn (pc := 46) dX6_input_46 (by have e := clN (i := i) (by omega); rw [e]; rcases h01 i hi with h | h <;> (show narrow .boolean (.int (mI M 98 i)) = .int (mI M 98 i); rw [h]; rfl)) ?_
    have e := clN (i := i) (by omega)
    rw [e]
    exact hQ i hi rfl
  · have hx14 := ix_out (n := 11) (N := 11) rfl (by decide) (in_f (lo := 0) (hi := 11) rfl rfl h14)
    refine w_aload_n (pc := 17) dX6_input_17 rfl ?_
    refine w_iconst (v := 1) (pc := 18) dX6_input_18 rfl ?_
    refine w_callV1 (n' := 0) (pc := 19) (c_X6_refuse hG) cv_X6_163 (by first | assumption | exact ob rfl) hF hT (by omega) (by decide) (Nat.le_of_ble_eq_true rfl) dX6_input_19 ?_
    refine ⟨_, rfl, hF, ?_⟩
    dsimp only [psh]
    refine w_if_le 29 (pc := 22) dX6_input_22 (by decide) (fun h22 => ?_) (fun h22 => ?_)
    · refine w_iconst (v := 0) (pc := 29) dX6_input_29 rfl ?_
      refine w_ireturn (pc := 30) dX6_input_30 rfl ?_
      exact hX hx14
    · exact absurd h22 (by decide)
def T_mReset : PT := fun as M Q X => ∃ x y : Int32, as = [.ref 96, .int x, .int y] ∧ Full M ∧ (¬ ix x 3 → Q (some (.int 0)) (thr M 1)) ∧ (ix x 3 → ¬ ix y 3 → Q (some (.int 0)) (thr M 2)) ∧ (∀ i j, i < 3 → j < 3 → x = nI i → y = nI j → Q (some (.int (mI M 103 i))) (sI (sI (sI M 96 0 0) 103 i 0) 106 i (nI j)))
theorem c_X6_reset {l : Launch} (hl : l.stackTraces = false) : Con l yX6_reset wX6_reset 0 2 (T_mReset) := by
  refine con_of hl (by decide) ?_ ?_
  · intro as M Q X hpt
    obtain ⟨x, y, rfl, hF, hX1, hX2, hQ⟩ := hpt
    exact Nat.le_of_ble_eq_true rfl
  intro G as M Q X hl' hT hd hpt
  obtain ⟨x, y, rfl, hF, hX1, hX2, hQ⟩ := hpt
  have hG : (gl G).stackTraces = false := by rw [hl']; exact hl
  show PW G RX6 cX6_reset 4 (some .int) Q X 0 0 [(0, .ref 96), (1, .int x), (2, .int y)] [] M
  refine w_aload_n (pc := 0) dX6_reset_0 rfl ?_
  refine w_iconst (v := 0) (pc := 1) dX6_reset_1 rfl ?_
  refine w_putI (pc := 2) fp_X6_91 hF (by first | assumption | exact ob rfl) rfl dX6_reset_2 ?_
  refine w_iload_n (pc := 5) dX6_reset_5 rfl ?_
  refine w_i2l (pc := 6) dX6_reset_6 ?_
  refine w_lconst (v := 0) (pc := 7) dX6_reset_7 rfl ?_
  refine w_ldc2 (pc := 8) kl_X6_135 dX6_reset_8 ?_
  refine w_callS3 (n' := 0) (pc := 11) (c_X6_in hG) cs_X6_137 hT (by omega) (by decide) (Nat.le_of_ble_eq_true rfl) dX6_reset_11 ?_
  refine ⟨_, _, _, rfl, ?_⟩
  dsimp only [psh]
  refine w_if_ne 23 (pc := 14) dX6_reset_14 (by decide) (fun h14 => ?_) (fun h14 => ?_)
  · obtain ⟨i, hi, rfl⟩ := ix_in (n := 2) (N := 2) rfl (by decide) (in_t (lo := 0) (hi := 2) rfl rfl h14)
    refine w_iload_n (pc := 23) dX6_reset_23 rfl ?_
    refine w_i2l (pc := 24) dX6_reset_24 ?_
    refine w_lconst (v := 0) (pc := 25) dX6_reset_25 rfl ?_
    refine w_ldc2 (pc := 26) kl_X6_135 dX6_reset_26 ?_
    refine w_callS3 (n' := 0) (pc := 29) (c_X6_in hG) cs_X6_137 hT (by omega) (by decide) (Nat.le_of_ble_eq_true rfl) dX6_reset_29 ?_
    refine ⟨_, _, _, rfl, ?_⟩
    dsimp only [psh]
    refine w_if_ne 41 (pc := 32) dX6_reset_32 (by decide) (fun h32 => ?_) (fun h32 => ?_)
    · obtain ⟨j, hj, rfl⟩ := ix_in (n := 2) (N := 2) rfl (by decide) (in_t (lo := 0) (hi := 2) rfl rfl h32)
      refine w_aload_n (pc := 41) dX6_reset_41 rfl ?_
      refine w_getR (b := 103) (pc := 42) fl_X6_33 hF (by first | assumption | exact ob rfl) rfl rfl dX6_reset_42 ?_
      refine w_iload_n (pc := 45) dX6_reset_45 rfl ?_
      refine w_iald (m := 3) (pc := 46) hF (by first | assumption | exact ar rfl) (vin hi (by decide)) dX6_reset_46 ?_
      refine w_istore_n 3 (pc := 47) rfl dX6_reset_47 (by decide) ?_
      refine w_aload_n (pc := 48) dX6_reset_48 rfl ?_
      refine w_getR (b := 103) (pc := 49) fl_X6_33 hF (by first | assumption | exact ob rfl) rfl rfl dX6_reset_49 ?_
      refine w_iload_n (pc := 52) dX6_reset_52 rfl ?_
      refine w_iconst (v := 0) (pc := 53) dX6_reset_53 rfl ?_
      refine w_iast (m := 3) (pc := 54) hF (by first | assumption | exact ar rfl) (vin hi (by decide)) dX6_reset_54 ?_
      refine w_aload_n (pc := 55) dX6_reset_55 rfl ?_
      refine w_getR (b := 106) (pc := 56) fl_X6_42 hF (by first | assumption | exact ob rfl) rfl rfl dX6_reset_56 ?_
      refine w_iload_n (pc := 59) dX6_reset_59 rfl ?_
      refine w_iload_n (pc := 60) dX6_reset_60 rfl ?_
      refine w_iast (m := 3) (pc := 61) hF (by first | assumption | exact ar rfl) (vin hi (by decide)) dX6_reset_61 ?_
      refine w_iload_n (pc := 62) dX6_reset_62 rfl ?_
      refine w_ireturn (pc := 63) dX6_reset_63 rfl ?_
      have e := clN (i := i) (by omega)
      rw [e]
      exact hQ i j hi hj rfl rfl
    · have hx32 := ix_out (n := 2) (N := 2) rfl (by decide) (in_f (lo := 0) (hi := 2) rfl rfl h32)
      refine w_aload_n (pc := 35) dX6_reset_35 rfl ?_
      refine w_iconst (v := 2) (pc := 36) dX6_reset_36 rfl ?_
      refine w_callV1 (n' := 0) (pc := 37) (c_X6_refuse hG) cv_X6_163 (by first | assumption | exact ob rfl) hF hT (by omega) (by decide) (Nat.le_of_ble_eq_true rfl) dX6_reset_37 ?_
      refine ⟨_, rfl, hF, ?_⟩
      dsimp only [psh]
      refine w_ireturn (pc := 40) dX6_reset_40 rfl ?_
      exact hX2 ⟨i, hi, rfl⟩ hx32
  · have hx14 := ix_out (n := 2) (N := 2) rfl (by decide) (in_f (lo := 0) (hi := 2) rfl rfl h14)
    refine w_aload_n (pc := 17) dX6_reset_17 rfl ?_
    refine w_iconst (v := 1) (pc := 18) dX6_reset_18 rfl ?_
    refine w_callV1 (n' := 0) (pc := 19) (c_X6_refuse hG) cv_X6_163 (by first | assumption | exact ob rfl) hF hT (by omega) (by decide) (Nat.le_of_ble_eq_true rfl) dX6_reset_19 ?_
    refine ⟨_, rfl, hF, ?_⟩
    dsimp only [psh]
    refine w_ireturn (pc := 22) dX6_reset_22 rfl ?_
    exact hX1 hx14
def brOk (M : Mem) (i k : Nat) (b r : Int32) : Prop := (¬ b < 0 ∧ ¬ 1000000000 < b) ∧ (k = 0 ∨ mI M 104 (4 * i + k - 1) < b) ∧ (¬ r < 0 ∧ ¬ 1000 < r)
def T_mBracket : PT := fun as M Q X => ∃ x b r : Int32, as = [.ref 96, .int x, .int b, .int r] ∧ Full M ∧ (¬ ix x 3 → Q (some (.int 0)) (thr M 1)) ∧ (∀ i, i < 3 → x = nI i → ∃ k, k ≤ 4 ∧ mI M 103 i = nI k ∧ (¬ brOk M i k b r → Q (some (.int 0)) (thr M 2)) ∧ (brOk M i k b r → k = 4 → Q (some (.int 0)) (thr M 3)) ∧ (brOk M i k b r → k < 4 → Q (some (.int (nI (k + 1)))) (sI (sI (sI (sI M 96 0 0) 104 (4 * i + k) b) 105 (4 * i + k) r) 103 i (nI (k + 1)))))
theorem c_X6_bracket {l : Launch} (hl : l.stackTraces = false) : Con l yX6_bracket wX6_bracket 0 2 (T_mBracket) := by
  refine con_of hl (by decide) ?_ ?_
  · intro as M Q X hpt
    obtain ⟨x, b, r, rfl, hF, hX1, hQ0⟩ := hpt
    exact Nat.le_of_ble_eq_true rfl
  intro G as M Q X hl' hT hd hpt
  obtain ⟨x, b, r, rfl, hF, hX1, hQ0⟩ := hpt
  have hG : (gl G).stackTraces = false := by rw [hl']; exact hl
  show PW G RX6 cX6_bracket 6 (some .int) Q X 0 0 [(0, .ref 96), (1, .int x), (2, .int b), (3, .int r)] [] M
  refine w_aload_n (pc := 0) dX6_bracket_0 rfl ?_
  refine w_iconst (v := 0) (pc := 1) dX6_bracket_1 rfl ?_
  refine w_putI (pc := 2) fp_X6_91 hF (by first | assumption | exact ob rfl) rfl dX6_bracket_2 ?_
  refine w_iload_n (pc := 5) dX6_bracket_5 rfl ?_
  refine w_i2l (pc := 6) dX6_bracket_6 ?_
  refine w_lconst (v := 0) (pc := 7) dX6_bracket_7 rfl ?_
  refine w_ldc2 (pc := 8) kl_X6_135 dX6_bracket_8 ?_
  refine w_callS3 (n' := 0) (pc := 11) (c_X6_in hG) cs_X6_137 hT (by omega) (by decide) (Nat.le_of_ble_eq_true rfl) dX6_bracket_11 ?_
  refine ⟨_, _, _, rfl, ?_⟩
  dsimp only [psh]
  refine w_if_ne 23 (pc := 14) dX6_bracket_14 (by decide) (fun h14 => ?_) (fun h14 => ?_)
  · obtain ⟨i, hi, rfl⟩ := ix_in (n := 2) (N := 2) rfl (by decide) (in_t (lo := 0) (hi := 2) rfl rfl h14)
    obtain ⟨k, hk, ek, hX2, hX3, hQ⟩ := hQ0 i hi rfl
    have e := clN (i := i) (by omega)
    have ek2 : mI (sI M 96 0 0) 103 (nI i).toNatClampNeg = nI k := by rw [e]; exact ek
    refine w_aload_n (pc := 23) dX6_bracket_23 rfl ?_
    refine w_getR (b := 103) (pc := 24) fl_X6_33 hF (by first | assumption | exact ob rfl) rfl rfl dX6_bracket_24 ?_
    refine w_iload_n (pc := 27) dX6_bracket_27 rfl ?_
    refine w_iald (m := 3) (pc := 28) hF (by first | assumption | exact ar rfl) (vin hi (by decide)) dX6_bracket_28 ?_
    refine w_istore 4 (pc := 29) dX6_bracket_29 (by decide) ?_
    refine w_iload (pc := 31) dX6_bracket_31 rfl ?_
    refine w_if_eq 53 (pc := 33) dX6_bracket_33 (by decide) (fun h33 => ?_) (fun h33 => ?_)
    · have k0 : k = 0 := by rw [ek2, show (0 : Int32) = nI 0 from rfl, nI_eq (by omega) (by omega)] at h33; exact h33
      refine w_iconst (v := 1) (pc := 53) dX6_bracket_53 rfl ?_
      refine w_goto 58 (pc := 54) dX6_bracket_54 (by decide) ?_
      refine w_istore 5 (pc := 58) dX6_bracket_58 (by decide) ?_
      refine w_iload_n (pc := 60) dX6_bracket_60 rfl ?_
      refine w_i2l (pc := 61) dX6_bracket_61 ?_
      refine w_lconst (v := 0) (pc := 62) dX6_bracket_62 rfl ?_
      refine w_ldc2 (pc := 63) kl_X6_169 dX6_bracket_63 ?_
      refine w_callS3 (n' := 0) (pc := 66) (c_X6_in hG) cs_X6_137 hT (by omega) (by decide) (Nat.le_of_ble_eq_true rfl) dX6_bracket_66 ?_
      refine ⟨_, _, _, rfl, ?_⟩
      dsimp only [psh]
      refine w_if_eq 89 (pc := 69) dX6_bracket_69 (by decide) (fun h69 => ?_) (fun h69 => ?_)
      · have hb := in_f (lo := 0) (hi := 1000000000) rfl rfl h69
        refine w_aload_n (pc := 89) dX6_bracket_89 rfl ?_
        refine w_iconst (v := 2) (pc := 90) dX6_bracket_90 rfl ?_
        refine w_callV1 (n' := 0) (pc := 91) (c_X6_refuse hG) cv_X6_163 (by first | assumption | exact ob rfl) hF hT (by omega) (by decide) (Nat.le_of_ble_eq_true rfl) dX6_bracket_91 ?_
        refine ⟨_, rfl, hF, ?_⟩
        dsimp only [psh]
        refine w_ireturn (pc := 94) dX6_bracket_94 rfl ?_
        exact hX2 (fun q => by first | (rcases hb with h | h; exact q.1.1 h; exact q.1.2 h) | (rcases hr with h | h; exact q.2.2.1 h; exact q.2.2.2 h) | (rcases q.2.1 with h | h; exact absurd h (by omega); exact absurd h (Int32.not_lt.mpr h50)) | exact absurd rfl h74 | exact absurd h74 (by decide))
      · have hb := in_t (lo := 0) (hi := 1000000000) rfl rfl h69
        refine w_iload (pc := 72) dX6_bracket_72 rfl ?_
        refine w_if_eq 89 (pc := 74) dX6_bracket_74 (by decide) (fun h74 => ?_) (fun h74 => ?_)
        · refine w_aload_n (pc := 89) dX6_bracket_89 rfl ?_
          refine w_iconst (v := 2) (pc := 90) dX6_bracket_90 rfl ?_
          refine w_callV1 (n' := 0) (pc := 91) (c_X6_refuse hG) cv_X6_163 (by first | assumption | exact ob rfl) hF hT (by omega) (by decide) (Nat.le_of_ble_eq_true rfl) dX6_bracket_91 ?_
          refine ⟨_, rfl, hF, ?_⟩
          dsimp only [psh]
          refine w_ireturn (pc := 94) dX6_bracket_94 rfl ?_
          exact hX2 (fun q => by first | (rcases hb with h | h; exact q.1.1 h; exact q.1.2 h) | (rcases hr with h | h; exact q.2.2.1 h; exact q.2.2.2 h) | (rcases q.2.1 with h | h; exact absurd h (by omega); exact absurd h (Int32.not_lt.mpr h50)) | exact absurd rfl h74 | exact absurd h74 (by decide))
        · refine w_iload_n (pc := 77) dX6_bracket_77 rfl ?_
          refine w_i2l (pc := 78) dX6_bracket_78 ?_
          refine w_lconst (v := 0) (pc := 79) dX6_bracket_79 rfl ?_
          refine w_ldc2 (pc := 80) kl_X6_171 dX6_bracket_80 ?_
          refine w_callS3 (n' := 0) (pc := 83) (c_X6_in hG) cs_X6_137 hT (by omega) (by decide) (Nat.le_of_ble_eq_true rfl) dX6_bracket_83 ?_
          refine ⟨_, _, _, rfl, ?_⟩
          dsimp only [psh]
          refine w_if_ne 95 (pc := 86) dX6_bracket_86 (by decide) (fun h86 => ?_) (fun h86 => ?_)
          · have hr := in_t (lo := 0) (hi := 1000) rfl rfl h86
            refine w_iload (pc := 95) dX6_bracket_95 rfl ?_
            refine w_iconst (v := 4) (pc := 97) dX6_bracket_97 rfl ?_
            refine w_icmp_ne 107 (pc := 98) dX6_bracket_98 (by decide) (fun h98 => ?_) (fun h98 => ?_)
            · have k4 : k < 4 := by rw [ek2, show (4 : Int32) = nI 4 from rfl, nI_eq (by omega) (by omega)] at h98; omega
              have ei : (4 : Int32) * nI i + mI (sI M 96 0 0) 103 (nI i).toNatClampNeg = nI (4 * i + k) := by rw [ek2, cm4]
              refine w_aload_n (pc := 107) dX6_bracket_107 rfl ?_
              refine w_getR (b := 104) (pc := 108) fl_X6_36 hF (by first | assumption | exact ob rfl) rfl rfl dX6_bracket_108 ?_
              refine w_iconst (v := 4) (pc := 111) dX6_bracket_111 rfl ?_
              refine w_iload_n (pc := 112) dX6_bracket_112 rfl ?_
              refine w_imul (pc := 113) dX6_bracket_113 ?_
              refine w_iload (pc := 114) dX6_bracket_114 rfl ?_
              refine w_iadd (pc := 116) dX6_bracket_116 ?_
              refine w_iload_n (pc := 117) dX6_bracket_117 rfl ?_
              refine w_iast (m := 12) (pc := 118) hF (by first | assumption | exact ar rfl) (by rw [ei]; exact vin (by omega) (by decide)) dX6_bracket_118 ?_
              refine w_aload_n (pc := 119) dX6_bracket_119 rfl ?_
              refine w_getR (b := 105) (pc := 120) fl_X6_39 hF (by first | assumption | exact ob rfl) rfl rfl dX6_bracket_120 ?_
              refine w_iconst (v := 4) (pc := 123) dX6_bracket_123 rfl ?_
              refine w_iload_n (pc := 124) dX6_bracket_124 rfl ?_
              refine w_imul (pc := 125) dX6_bracket_125 ?_
              refine w_iload (pc := 126) dX6_bracket_126 rfl ?_
              refine w_iadd (pc := 128) dX6_bracket_128 ?_
              refine w_iload_n (pc := 129) dX6_bracket_129 rfl ?_
              refine w_iast (m := 12) (pc := 130) hF (by first | assumption | exact ar rfl) (by rw [ei]; exact vin (by omega) (by decide)) dX6_bracket_130 ?_
              refine w_aload_n (pc := 131) dX6_bracket_131 rfl ?_
              refine w_getR (b := 103) (pc := 132) fl_X6_33 hF (by first | assumption | exact ob rfl) rfl rfl dX6_bracket_132 ?_
              refine w_iload_n (pc := 135) dX6_bracket_135 rfl ?_
              refine w_dup2_11 (pc := 136) dX6_bracket_136 rfl rfl ?_
              refine w_iald (m := 3) (pc := 137) hF (by first | assumption | exact ar rfl) (vin hi (by decide)) dX6_bracket_137 ?_
              refine w_iconst (v := 1) (pc := 138) dX6_bracket_138 rfl ?_
              refine w_iadd (pc := 139) dX6_bracket_139 ?_
              refine w_iast (m := 3) (pc := 140) hF (by first | assumption | exact ar rfl) (vin hi (by decide)) dX6_bracket_140 ?_
              refine w_iload (pc := 141) dX6_bracket_141 rfl ?_
              refine w_iconst (v := 1) (pc := 143) dX6_bracket_143 rfl ?_
              refine w_iadd (pc := 144) dX6_bracket_144 ?_
              refine w_ireturn (pc := 145) dX6_bracket_145 rfl ?_
              first | exact absurd rfl h74 | exact absurd h74 (by decide) | (have e2 : (nI (4 * i + k)).toNatClampNeg = 4 * i + k := clN (by omega); have hq := hQ ⟨hb, (by first | exact Or.inl k0 | exact Or.inr (Int32.not_le.mp h50)), hr⟩ k4; have e3 : mI (sI (sI (sI M 96 0 0) 104 (4 * i + k) b) 105 (4 * i + k) r) 103 i = nI k := ek; rw [ei, e2, ek2, nI_1, e, e3, nI_1]; exact hq)
            · have k4 : k = 4 := by rw [ek2, show (4 : Int32) = nI 4 from rfl, nI_eq (by omega) (by omega)] at h98; exact h98
              refine w_aload_n (pc := 101) dX6_bracket_101 rfl ?_
              refine w_iconst (v := 3) (pc := 102) dX6_bracket_102 rfl ?_
              refine w_callV1 (n' := 0) (pc := 103) (c_X6_refuse hG) cv_X6_163 (by first | assumption | exact ob rfl) hF hT (by omega) (by decide) (Nat.le_of_ble_eq_true rfl) dX6_bracket_103 ?_
              refine ⟨_, rfl, hF, ?_⟩
              dsimp only [psh]
              refine w_ireturn (pc := 106) dX6_bracket_106 rfl ?_
              first | exact absurd rfl h74 | exact absurd h74 (by decide) | exact hX3 ⟨hb, (by first | exact Or.inl k0 | exact Or.inr (Int32.not_le.mp h50)), hr⟩ k4
          · have hr := in_f (lo := 0) (hi := 1000) rfl rfl h86
            refine w_aload_n (pc := 89) dX6_bracket_89 rfl ?_
            refine w_iconst (v := 2) (pc := 90) dX6_bracket_90 rfl ?_
            refine w_callV1 (n' := 0) (pc := 91) (c_X6_refuse hG) cv_X6_163 (by first | assumption | exact ob rfl) hF hT (by omega) (by decide) (Nat.le_of_ble_eq_true rfl) dX6_bracket_91 ?_
            refine ⟨_, rfl, hF, ?_⟩
            dsimp only [psh]
            refine w_ireturn (pc := 94) dX6_bracket_94 rfl ?_
            exact hX2 (fun q => by first | (rcases hb with h | h; exact q.1.1 h; exact q.1.2 h) | (rcases hr with h | h; exact q.2.2.1 h; exact q.2.2.2 h) | (rcases q.2.1 with h | h; exact absurd h (by omega); exact absurd h (Int32.not_lt.mpr h50)) | exact absurd rfl h74 | exact absurd h74 (by decide))
    · have k1 : 1 ≤ k := by rw [ek2, show (0 : Int32) = nI 0 from rfl, nI_eq (by omega) (by omega)] at h33; omega
      have eb : ((4 : Int32) * nI i + mI (sI M 96 0 0) 103 (nI i).toNatClampNeg - 1).toNatClampNeg = 4 * i + k - 1 := by rw [ek2, cm4, sb1 (by omega), clN (by omega)]
      refine w_iload_n (pc := 36) dX6_bracket_36 rfl ?_
      refine w_aload_n (pc := 37) dX6_bracket_37 rfl ?_
      refine w_getR (b := 104) (pc := 38) fl_X6_36 hF (by first | assumption | exact ob rfl) rfl rfl dX6_bracket_38 ?_
      refine w_iconst (v := 4) (pc := 41) dX6_bracket_41 rfl ?_
      refine w_iload_n (pc := 42) dX6_bracket_42 rfl ?_
      refine w_imul (pc := 43) dX6_bracket_43 ?_
      refine w_iload (pc := 44) dX6_bracket_44 rfl ?_
      refine w_iadd (pc := 46) dX6_bracket_46 ?_
      refine w_iconst (v := 1) (pc := 47) dX6_bracket_47 rfl ?_
      refine w_isub (pc := 48) dX6_bracket_48 ?_
      refine w_iald (m := 12) (pc := 49) hF (by first | assumption | exact ar rfl) (by rw [ek2, cm4, sb1 (by omega)]; exact vin (by omega) (by decide)) dX6_bracket_49 ?_
      refine w_icmp_le 57 (pc := 50) dX6_bracket_50 (by decide) (fun h50 => ?_) (fun h50 => ?_)
      · rw [eb] at h50
        refine w_iconst (v := 0) (pc := 57) dX6_bracket_57 rfl ?_
        refine w_istore 5 (pc := 58) dX6_bracket_58 (by decide) ?_
        refine w_iload_n (pc := 60) dX6_bracket_60 rfl ?_
        refine w_i2l (pc := 61) dX6_bracket_61 ?_
        refine w_lconst (v := 0) (pc := 62) dX6_bracket_62 rfl ?_
        refine w_ldc2 (pc := 63) kl_X6_169 dX6_bracket_63 ?_
        refine w_callS3 (n' := 0) (pc := 66) (c_X6_in hG) cs_X6_137 hT (by omega) (by decide) (Nat.le_of_ble_eq_true rfl) dX6_bracket_66 ?_
        refine ⟨_, _, _, rfl, ?_⟩
        dsimp only [psh]
        refine w_if_eq 89 (pc := 69) dX6_bracket_69 (by decide) (fun h69 => ?_) (fun h69 => ?_)
        · have hb := in_f (lo := 0) (hi := 1000000000) rfl rfl h69
          refine w_aload_n (pc := 89) dX6_bracket_89 rfl ?_
          refine w_iconst (v := 2) (pc := 90) dX6_bracket_90 rfl ?_
          refine w_callV1 (n' := 0) (pc := 91) (c_X6_refuse hG) cv_X6_163 (by first | assumption | exact ob rfl) hF hT (by omega) (by decide) (Nat.le_of_ble_eq_true rfl) dX6_bracket_91 ?_
          refine ⟨_, rfl, hF, ?_⟩
          dsimp only [psh]
          refine w_ireturn (pc := 94) dX6_bracket_94 rfl ?_
          exact hX2 (fun q => by first | (rcases hb with h | h; exact q.1.1 h; exact q.1.2 h) | (rcases hr with h | h; exact q.2.2.1 h; exact q.2.2.2 h) | (rcases q.2.1 with h | h; exact absurd h (by omega); exact absurd h (Int32.not_lt.mpr h50)) | exact absurd rfl h74 | exact absurd h74 (by decide))
        · have hb := in_t (lo := 0) (hi := 1000000000) rfl rfl h69
          refine w_iload (pc := 72) dX6_bracket_72 rfl ?_
          refine w_if_eq 89 (pc := 74) dX6_bracket_74 (by decide) (fun h74 => ?_) (fun h74 => ?_)
          · refine w_aload_n (pc := 89) dX6_bracket_89 rfl ?_
            refine w_iconst (v := 2) (pc := 90) dX6_bracket_90 rfl ?_
            refine w_callV1 (n' := 0) (pc := 91) (c_X6_refuse hG) cv_X6_163 (by first | assumption | exact ob rfl) hF hT (by omega) (by decide) (Nat.le_of_ble_eq_true rfl) dX6_bracket_91 ?_
            refine ⟨_, rfl, hF, ?_⟩
            dsimp only [psh]
            refine w_ireturn (pc := 94) dX6_bracket_94 rfl ?_
            exact hX2 (fun q => by first | (rcases hb with h | h; exact q.1.1 h; exact q.1.2 h) | (rcases hr with h | h; exact q.2.2.1 h; exact q.2.2.2 h) | (rcases q.2.1 with h | h; exact absurd h (by omega); exact absurd h (Int32.not_lt.mpr h50)) | exact absurd rfl h74 | exact absurd h74 (by decide))
          · refine w_iload_n (pc := 77) dX6_bracket_77 rfl ?_
            refine w_i2l (pc := 78) dX6_bracket_78 ?_
            refine w_lconst (v := 0) (pc := 79) dX6_bracket_79 rfl ?_
            refine w_ldc2 (pc := 80) kl_X6_171 dX6_bracket_80 ?_
            refine w_callS3 (n' := 0) (pc := 83) (c_X6_in hG) cs_X6_137 hT (by omega) (by decide) (Nat.le_of_ble_eq_true rfl) dX6_bracket_83 ?_
            refine ⟨_, _, _, rfl, ?_⟩
            dsimp only [psh]
            refine w_if_ne 95 (pc := 86) dX6_bracket_86 (by decide) (fun h86 => ?_) (fun h86 => ?_)
            · have hr := in_t (lo := 0) (hi := 1000) rfl rfl h86
              refine w_iload (pc := 95) dX6_bracket_95 rfl ?_
              refine w_iconst (v := 4) (pc := 97) dX6_bracket_97 rfl ?_
              refine w_icmp_ne 107 (pc := 98) dX6_bracket_98 (by decide) (fun h98 => ?_) (fun h98 => ?_)
              · have k4 : k < 4 := by rw [ek2, show (4 : Int32) = nI 4 from rfl, nI_eq (by omega) (by omega)] at h98; omega
                have ei : (4 : Int32) * nI i + mI (sI M 96 0 0) 103 (nI i).toNatClampNeg = nI (4 * i + k) := by rw [ek2, cm4]
                refine w_aload_n (pc := 107) dX6_bracket_107 rfl ?_
                refine w_getR (b := 104) (pc := 108) fl_X6_36 hF (by first | assumption | exact ob rfl) rfl rfl dX6_bracket_108 ?_
                refine w_iconst (v := 4) (pc := 111) dX6_bracket_111 rfl ?_
                refine w_iload_n (pc := 112) dX6_bracket_112 rfl ?_
                refine w_imul (pc := 113) dX6_bracket_113 ?_
                refine w_iload (pc := 114) dX6_bracket_114 rfl ?_
                refine w_iadd (pc := 116) dX6_bracket_116 ?_
                refine w_iload_n (pc := 117) dX6_bracket_117 rfl ?_
                refine w_iast (m := 12) (pc := 118) hF (by first | assumption | exact ar rfl) (by rw [ei]; exact vin (by omega) (by decide)) dX6_bracket_118 ?_
                refine w_aload_n (pc := 119) dX6_bracket_119 rfl ?_
                refine w_getR (b := 105) (pc := 120) fl_X6_39 hF (by first | assumption | exact ob rfl) rfl rfl dX6_bracket_120 ?_
                refine w_iconst (v := 4) (pc := 123) dX6_bracket_123 rfl ?_
                refine w_iload_n (pc := 124) dX6_bracket_124 rfl ?_
                refine w_imul (pc := 125) dX6_bracket_125 ?_
                refine w_iload (pc := 126) dX6_bracket_126 rfl ?_
                refine w_iadd (pc := 128) dX6_bracket_128 ?_
                refine w_iload_n (pc := 129) dX6_bracket_129 rfl ?_
                refine w_iast (m := 12) (pc := 130) hF (by first | assumption | exact ar rfl) (by rw [ei]; exact vin (by omega) (by decide)) dX6_bracket_130 ?_
                refine w_aload_n (pc := 131) dX6_bracket_131 rfl ?_
                refine w_getR (b := 103) (pc := 132) fl_X6_33 hF (by first | assumption | exact ob rfl) rfl rfl dX6_bracket_132 ?_
                refine w_iload_n (pc := 135) dX6_bracket_135 rfl ?_
                refine w_dup2_11 (pc := 136) dX6_bracket_136 rfl rfl ?_
                refine w_iald (m := 3) (pc := 137) hF (by first | assumption | exact ar rfl) (vin hi (by decide)) dX6_bracket_137 ?_
                refine w_iconst (v := 1) (pc := 138) dX6_bracket_138 rfl ?_
                refine w_iadd (pc := 139) dX6_bracket_139 ?_
                refine w_iast (m := 3) (pc := 140) hF (by first | assumption | exact ar rfl) (vin hi (by decide)) dX6_bracket_140 ?_
                refine w_iload (pc := 141) dX6_bracket_141 rfl ?_
                refine w_iconst (v := 1) (pc := 143) dX6_bracket_143 rfl ?_
                refine w_iadd (pc := 144) dX6_bracket_144 ?_
                refine w_ireturn (pc := 145) dX6_bracket_145 rfl ?_
                first | exact absurd rfl h74 | exact absurd h74 (by decide) | (have e2 : (nI (4 * i + k)).toNatClampNeg = 4 * i + k := clN (by omega); have hq := hQ ⟨hb, (by first | exact Or.inl k0 | exact Or.inr (Int32.not_le.mp h50)), hr⟩ k4; have e3 : mI (sI (sI (sI M 96 0 0) 104 (4 * i + k) b) 105 (4 * i + k) r) 103 i = nI k := ek; rw [ei, e2, ek2, nI_1, e, e3, nI_1]; exact hq)
              · have k4 : k = 4 := by rw [ek2, show (4 : Int32) = nI 4 from rfl, nI_eq (by omega) (by omega)] at h98; exact h98
                refine w_aload_n (pc := 101) dX6_bracket_101 rfl ?_
                refine w_iconst (v := 3) (pc := 102) dX6_bracket_102 rfl ?_
                refine w_callV1 (n' := 0) (pc := 103) (c_X6_refuse hG) cv_X6_163 (by first | assumption | exact ob rfl) hF hT (by omega) (by decide) (Nat.le_of_ble_eq_true rfl) dX6_bracket_103 ?_
                refine ⟨_, rfl, hF, ?_⟩
                dsimp only [psh]
                refine w_ireturn (pc := 106) dX6_bracket_106 rfl ?_
                first | exact absurd rfl h74 | exact absurd h74 (by decide) | exact hX3 ⟨hb, (by first | exact Or.inl k0 | exact Or.inr (Int32.not_le.mp h50)), hr⟩ k4
            · have hr := in_f (lo := 0) (hi := 1000) rfl rfl h86
              refine w_aload_n (pc := 89) dX6_bracket_89 rfl ?_
              refine w_iconst (v := 2) (pc := 90) dX6_bracket_90 rfl ?_
              refine w_callV1 (n' := 0) (pc := 91) (c_X6_refuse hG) cv_X6_163 (by first | assumption | exact ob rfl) hF hT (by omega) (by decide) (Nat.le_of_ble_eq_true rfl) dX6_bracket_91 ?_
              refine ⟨_, rfl, hF, ?_⟩
              dsimp only [psh]
              refine w_ireturn (pc := 94) dX6_bracket_94 rfl ?_
              exact hX2 (fun q => by first | (rcases hb with h | h; exact q.1.1 h; exact q.1.2 h) | (rcases hr with h | h; exact q.2.2.1 h; exact q.2.2.2 h) | (rcases q.2.1 with h | h; exact absurd h (by omega); exact absurd h (Int32.not_lt.mpr h50)) | exact absurd rfl h74 | exact absurd h74 (by decide))
      · rw [eb] at h50
        refine w_iconst (v := 1) (pc := 53) dX6_bracket_53 rfl ?_
        refine w_goto 58 (pc := 54) dX6_bracket_54 (by decide) ?_
        refine w_istore 5 (pc := 58) dX6_bracket_58 (by decide) ?_
        refine w_iload_n (pc := 60) dX6_bracket_60 rfl ?_
        refine w_i2l (pc := 61) dX6_bracket_61 ?_
        refine w_lconst (v := 0) (pc := 62) dX6_bracket_62 rfl ?_
        refine w_ldc2 (pc := 63) kl_X6_169 dX6_bracket_63 ?_
        refine w_callS3 (n' := 0) (pc := 66) (c_X6_in hG) cs_X6_137 hT (by omega) (by decide) (Nat.le_of_ble_eq_true rfl) dX6_bracket_66 ?_
        refine ⟨_, _, _, rfl, ?_⟩
        dsimp only [psh]
        refine w_if_eq 89 (pc := 69) dX6_bracket_69 (by decide) (fun h69 => ?_) (fun h69 => ?_)
        · have hb := in_f (lo := 0) (hi := 1000000000) rfl rfl h69
          refine w_aload_n (pc := 89) dX6_bracket_89 rfl ?_
          refine w_iconst (v := 2) (pc := 90) dX6_bracket_90 rfl ?_
          refine w_callV1 (n' := 0) (pc := 91) (c_X6_refuse hG) cv_X6_163 (by first | assumption | exact ob rfl) hF hT (by omega) (by decide) (Nat.le_of_ble_eq_true rfl) dX6_bracket_91 ?_
          refine ⟨_, rfl, hF, ?_⟩
          dsimp only [psh]
          refine w_ireturn (pc := 94) dX6_bracket_94 rfl ?_
          exact hX2 (fun q => by first | (rcases hb with h | h; exact q.1.1 h; exact q.1.2 h) | (rcases hr with h | h; exact q.2.2.1 h; exact q.2.2.2 h) | (rcases q.2.1 with h | h; exact absurd h (by omega); exact absurd h (Int32.not_lt.mpr h50)) | exact absurd rfl h74 | exact absurd h74 (by decide))
        · have hb := in_t (lo := 0) (hi := 1000000000) rfl rfl h69
          refine w_iload (pc := 72) dX6_bracket_72 rfl ?_
          refine w_if_eq 89 (pc := 74) dX6_bracket_74 (by decide) (fun h74 => ?_) (fun h74 => ?_)
          · refine w_aload_n (pc := 89) dX6_bracket_89 rfl ?_
            refine w_iconst (v := 2) (pc := 90) dX6_bracket_90 rfl ?_
            refine w_callV1 (n' := 0) (pc := 91) (c_X6_refuse hG) cv_X6_163 (by first | assumption | exact ob rfl) hF hT (by omega) (by decide) (Nat.le_of_ble_eq_true rfl) dX6_bracket_91 ?_
            refine ⟨_, rfl, hF, ?_⟩
            dsimp only [psh]
            refine w_ireturn (pc := 94) dX6_bracket_94 rfl ?_
            exact hX2 (fun q => by first | (rcases hb with h | h; exact q.1.1 h; exact q.1.2 h) | (rcases hr with h | h; exact q.2.2.1 h; exact q.2.2.2 h) | (rcases q.2.1 with h | h; exact absurd h (by omega); exact absurd h (Int32.not_lt.mpr h50)) | exact absurd rfl h74 | exact absurd h74 (by decide))
          · refine w_iload_n (pc := 77) dX6_bracket_77 rfl ?_
            refine w_i2l (pc := 78) dX6_bracket_78 ?_
            refine w_lconst (v := 0) (pc := 79) dX6_bracket_79 rfl ?_
            refine w_ldc2 (pc := 80) kl_X6_171 dX6_bracket_80 ?_
            refine w_callS3 (n' := 0) (pc := 83) (c_X6_in hG) cs_X6_137 hT (by omega) (by decide) (Nat.le_of_ble_eq_true rfl) dX6_bracket_83 ?_
            refine ⟨_, _, _, rfl, ?_⟩
            dsimp only [psh]
            refine w_if_ne 95 (pc := 86) dX6_bracket_86 (by decide) (fun h86 => ?_) (fun h86 => ?_)
            · have hr := in_t (lo := 0) (hi := 1000) rfl rfl h86
              refine w_iload (pc := 95) dX6_bracket_95 rfl ?_
              refine w_iconst (v := 4) (pc := 97) dX6_bracket_97 rfl ?_
              refine w_icmp_ne 107 (pc := 98) dX6_bracket_98 (by decide) (fun h98 => ?_) (fun h98 => ?_)
              · have k4 : k < 4 := by rw [ek2, show (4 : Int32) = nI 4 from rfl, nI_eq (by omega) (by omega)] at h98; omega
                have ei : (4 : Int32) * nI i + mI (sI M 96 0 0) 103 (nI i).toNatClampNeg = nI (4 * i + k) := by rw [ek2, cm4]
                refine w_aload_n (pc := 107) dX6_bracket_107 rfl ?_
                refine w_getR (b := 104) (pc := 108) fl_X6_36 hF (by first | assumption | exact ob rfl) rfl rfl dX6_bracket_108 ?_
                refine w_iconst (v := 4) (pc := 111) dX6_bracket_111 rfl ?_
                refine w_iload_n (pc := 112) dX6_bracket_112 rfl ?_
                refine w_imul (pc := 113) dX6_bracket_113 ?_
                refine w_iload (pc := 114) dX6_bracket_114 rfl ?_
                refine w_iadd (pc := 116) dX6_bracket_116 ?_
                refine w_iload_n (pc := 117) dX6_bracket_117 rfl ?_
                refine w_iast (m := 12) (pc := 118) hF (by first | assumption | exact ar rfl) (by rw [ei]; exact vin (by omega) (by decide)) dX6_bracket_118 ?_
                refine w_aload_n (pc := 119) dX6_bracket_119 rfl ?_
                refine w_getR (b := 105) (pc := 120) fl_X6_39 hF (by first | assumption | exact ob rfl) rfl rfl dX6_bracket_120 ?_
                refine w_iconst (v := 4) (pc := 123) dX6_bracket_123 rfl ?_
                refine w_iload_n (pc := 124) dX6_bracket_124 rfl ?_
                refine w_imul (pc := 125) dX6_bracket_125 ?_
                refine w_iload (pc := 126) dX6_bracket_126 rfl ?_
                refine w_iadd (pc := 128) dX6_bracket_128 ?_
                refine w_iload_n (pc := 129) dX6_bracket_129 rfl ?_
                refine w_iast (m := 12) (pc := 130) hF (by first | assumption | exact ar rfl) (by rw [ei]; exact vin (by omega) (by decide)) dX6_bracket_130 ?_
                refine w_aload_n (pc := 131) dX6_bracket_131 rfl ?_
                refine w_getR (b := 103) (pc := 132) fl_X6_33 hF (by first | assumption | exact ob rfl) rfl rfl dX6_bracket_132 ?_
                refine w_iload_n (pc := 135) dX6_bracket_135 rfl ?_
                refine w_dup2_11 (pc := 136) dX6_bracket_136 rfl rfl ?_
                refine w_iald (m := 3) (pc := 137) hF (by first | assumption | exact ar rfl) (vin hi (by decide)) dX6_bracket_137 ?_
                refine w_iconst (v := 1) (pc := 138) dX6_bracket_138 rfl ?_
                refine w_iadd (pc := 139) dX6_bracket_139 ?_
                refine w_iast (m := 3) (pc := 140) hF (by first | assumption | exact ar rfl) (vin hi (by decide)) dX6_bracket_140 ?_
                refine w_iload (pc := 141) dX6_bracket_141 rfl ?_
                refine w_iconst (v := 1) (pc := 143) dX6_bracket_143 rfl ?_
                refine w_iadd (pc := 144) dX6_bracket_144 ?_
                refine w_ireturn (pc := 145) dX6_bracket_145 rfl ?_
                first | exact absurd rfl h74 | exact absurd h74 (by decide) | (have e2 : (nI (4 * i + k)).toNatClampNeg = 4 * i + k := clN (by omega); have hq := hQ ⟨hb, (by first | exact Or.inl k0 | exact Or.inr (Int32.not_le.mp h50)), hr⟩ k4; have e3 : mI (sI (sI (sI M 96 0 0) 104 (4 * i + k) b) 105 (4 * i + k) r) 103 i = nI k := ek; rw [ei, e2, ek2, nI_1, e, e3, nI_1]; exact hq)
              · have k4 : k = 4 := by rw [ek2, show (4 : Int32) = nI 4 from rfl, nI_eq (by omega) (by omega)] at h98; exact h98
                refine w_aload_n (pc := 101) dX6_bracket_101 rfl ?_
                refine w_iconst (v := 3) (pc := 102) dX6_bracket_102 rfl ?_
                refine w_callV1 (n' := 0) (pc := 103) (c_X6_refuse hG) cv_X6_163 (by first | assumption | exact ob rfl) hF hT (by omega) (by decide) (Nat.le_of_ble_eq_true rfl) dX6_bracket_103 ?_
                refine ⟨_, rfl, hF, ?_⟩
                dsimp only [psh]
                refine w_ireturn (pc := 106) dX6_bracket_106 rfl ?_
                first | exact absurd rfl h74 | exact absurd h74 (by decide) | exact hX3 ⟨hb, (by first | exact Or.inl k0 | exact Or.inr (Int32.not_le.mp h50)), hr⟩ k4
            · have hr := in_f (lo := 0) (hi := 1000) rfl rfl h86
              refine w_aload_n (pc := 89) dX6_bracket_89 rfl ?_
              refine w_iconst (v := 2) (pc := 90) dX6_bracket_90 rfl ?_
              refine w_callV1 (n' := 0) (pc := 91) (c_X6_refuse hG) cv_X6_163 (by first | assumption | exact ob rfl) hF hT (by omega) (by decide) (Nat.le_of_ble_eq_true rfl) dX6_bracket_91 ?_
              refine ⟨_, rfl, hF, ?_⟩
              dsimp only [psh]
              refine w_ireturn (pc := 94) dX6_bracket_94 rfl ?_
              exact hX2 (fun q => by first | (rcases hb with h | h; exact q.1.1 h; exact q.1.2 h) | (rcases hr with h | h; exact q.2.2.1 h; exact q.2.2.2 h) | (rcases q.2.1 with h | h; exact absurd h (by omega); exact absurd h (Int32.not_lt.mpr h50)) | exact absurd rfl h74 | exact absurd h74 (by decide))
  · have hx14 := ix_out (n := 2) (N := 2) rfl (by decide) (in_f (lo := 0) (hi := 2) rfl rfl h14)
    refine w_aload_n (pc := 17) dX6_bracket_17 rfl ?_
    refine w_iconst (v := 1) (pc := 18) dX6_bracket_18 rfl ?_
    refine w_callV1 (n' := 0) (pc := 19) (c_X6_refuse hG) cv_X6_163 (by first | assumption | exact ob rfl) hF hT (by omega) (by decide) (Nat.le_of_ble_eq_true rfl) dX6_bracket_19 ?_
    refine ⟨_, rfl, hF, ?_⟩
    dsimp only [psh]
    refine w_ireturn (pc := 22) dX6_bracket_22 rfl ?_
    exact hX1 hx14
end
