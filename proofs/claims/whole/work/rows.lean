section
-- ===== PART A: goes FIRST, ahead of the names: the tables' words, and 'selects' of the private methods out of them =====
/-- a private method of a class that the tables say can be made, by its rows of tables_1 -/
def lw_okq (q : MethodName × Nat) : Prop := (q.1.cls ≠ "java/lang/invoke/MethodHandle" ∧ q.1.cls ≠ "java/lang/invoke/VarHandle") ∧ Cond.instantiable q.1.cls q.2 ∈ tables_1 ∧ Cond.privateMethod q.1 ∈ tables_1 ∧ Cond.instanceMethod q.1 ∈ tables_1
theorem lw_p0 : lw_okq (⟨"java/lang/Throwable", "fillInStackTrace", "(I)Ljava/lang/Throwable;"⟩, 6) := ⟨⟨by decide +kernel, by decide +kernel⟩, List.mem_of_getElem? (i := 160) (by decide +kernel), List.mem_of_getElem? (i := 158) (by decide +kernel), List.mem_of_getElem? (i := 159) (by decide +kernel)⟩
theorem lw_p1 : lw_okq (⟨"java/util/ArrayList", "add", "(Ljava/lang/Object;[Ljava/lang/Object;I)V"⟩, 3) := ⟨⟨by decide +kernel, by decide +kernel⟩, List.mem_of_getElem? (i := 31) (by decide +kernel), List.mem_of_getElem? (i := 266) (by decide +kernel), List.mem_of_getElem? (i := 267) (by decide +kernel)⟩
theorem lw_p2 : lw_okq (⟨"java/util/ArrayList", "grow", "()[Ljava/lang/Object;"⟩, 3) := ⟨⟨by decide +kernel, by decide +kernel⟩, List.mem_of_getElem? (i := 31) (by decide +kernel), List.mem_of_getElem? (i := 270) (by decide +kernel), List.mem_of_getElem? (i := 271) (by decide +kernel)⟩
theorem lw_p3 : lw_okq (⟨"java/util/ArrayList", "grow", "(I)[Ljava/lang/Object;"⟩, 3) := ⟨⟨by decide +kernel, by decide +kernel⟩, List.mem_of_getElem? (i := 31) (by decide +kernel), List.mem_of_getElem? (i := 274) (by decide +kernel), List.mem_of_getElem? (i := 275) (by decide +kernel)⟩
theorem lw_p4 : lw_okq (⟨"Gasvault", "storeNumbered", "(I)LGasvault$Store;"⟩, 11) := ⟨⟨by decide +kernel, by decide +kernel⟩, List.mem_of_getElem? (i := 23) (by decide +kernel), List.mem_of_getElem? (i := 327) (by decide +kernel), List.mem_of_getElem? (i := 328) (by decide +kernel)⟩
theorem lw_p5 : lw_okq (⟨"Gasvault$Store", "rateBy", "(II)I"⟩, 11) := ⟨⟨by decide +kernel, by decide +kernel⟩, List.mem_of_getElem? (i := 210) (by decide +kernel), List.mem_of_getElem? (i := 379) (by decide +kernel), List.mem_of_getElem? (i := 380) (by decide +kernel)⟩
theorem lw_p6 : lw_okq (⟨"Gasvault", "customerNumbered", "(I)LGasvault$Customer;"⟩, 11) := ⟨⟨by decide +kernel, by decide +kernel⟩, List.mem_of_getElem? (i := 23) (by decide +kernel), List.mem_of_getElem? (i := 480) (by decide +kernel), List.mem_of_getElem? (i := 481) (by decide +kernel)⟩
theorem lw_p7 : lw_okq (⟨"Gasvault", "goOneHour", "()V"⟩, 11) := ⟨⟨by decide +kernel, by decide +kernel⟩, List.mem_of_getElem? (i := 23) (by decide +kernel), List.mem_of_getElem? (i := 549) (by decide +kernel), List.mem_of_getElem? (i := 550) (by decide +kernel)⟩
theorem lw_p8 : lw_okq (⟨"Gasvault", "planTheHour", "()V"⟩, 11) := ⟨⟨by decide +kernel, by decide +kernel⟩, List.mem_of_getElem? (i := 23) (by decide +kernel), List.mem_of_getElem? (i := 553) (by decide +kernel), List.mem_of_getElem? (i := 554) (by decide +kernel)⟩
theorem lw_p9 : lw_okq (⟨"Gasvault", "plannedAboveTheLaw", "()I"⟩, 11) := ⟨⟨by decide +kernel, by decide +kernel⟩, List.mem_of_getElem? (i := 23) (by decide +kernel), List.mem_of_getElem? (i := 583) (by decide +kernel), List.mem_of_getElem? (i := 584) (by decide +kernel)⟩
theorem lw_p10 : lw_okq (⟨"Gasvault", "leastByLaw", "()I"⟩, 11) := ⟨⟨by decide +kernel, by decide +kernel⟩, List.mem_of_getElem? (i := 23) (by decide +kernel), List.mem_of_getElem? (i := 587) (by decide +kernel), List.mem_of_getElem? (i := 588) (by decide +kernel)⟩
theorem lw_p11 : lw_okq (⟨"Gasvault", "allInventories", "()I"⟩, 11) := ⟨⟨by decide +kernel, by decide +kernel⟩, List.mem_of_getElem? (i := 23) (by decide +kernel), List.mem_of_getElem? (i := 595) (by decide +kernel), List.mem_of_getElem? (i := 596) (by decide +kernel)⟩
theorem lw_p12 : lw_okq (⟨"Gasvault", "curtail", "(ZII)V"⟩, 11) := ⟨⟨by decide +kernel, by decide +kernel⟩, List.mem_of_getElem? (i := 23) (by decide +kernel), List.mem_of_getElem? (i := 600) (by decide +kernel), List.mem_of_getElem? (i := 601) (by decide +kernel)⟩
theorem lw_p13 : lw_okq (⟨"Gasvault", "plannedNet", "()I"⟩, 11) := ⟨⟨by decide +kernel, by decide +kernel⟩, List.mem_of_getElem? (i := 23) (by decide +kernel), List.mem_of_getElem? (i := 609) (by decide +kernel), List.mem_of_getElem? (i := 610) (by decide +kernel)⟩
theorem lw_p14 : lw_okq (⟨"Gasvault", "capacityOfPlant", "(Z)I"⟩, 11) := ⟨⟨by decide +kernel, by decide +kernel⟩, List.mem_of_getElem? (i := 23) (by decide +kernel), List.mem_of_getElem? (i := 616) (by decide +kernel), List.mem_of_getElem? (i := 617) (by decide +kernel)⟩
theorem lw_p15 : lw_okq (⟨"Gasvault", "flowIn", "(I)V"⟩, 11) := ⟨⟨by decide +kernel, by decide +kernel⟩, List.mem_of_getElem? (i := 23) (by decide +kernel), List.mem_of_getElem? (i := 629) (by decide +kernel), List.mem_of_getElem? (i := 630) (by decide +kernel)⟩
def lw_privs_1 : List (MethodName × Nat) := [(⟨"java/lang/Throwable", "fillInStackTrace", "(I)Ljava/lang/Throwable;"⟩, 6), (⟨"java/util/ArrayList", "add", "(Ljava/lang/Object;[Ljava/lang/Object;I)V"⟩, 3), (⟨"java/util/ArrayList", "grow", "()[Ljava/lang/Object;"⟩, 3), (⟨"java/util/ArrayList", "grow", "(I)[Ljava/lang/Object;"⟩, 3), (⟨"Gasvault", "storeNumbered", "(I)LGasvault$Store;"⟩, 11), (⟨"Gasvault$Store", "rateBy", "(II)I"⟩, 11), (⟨"Gasvault", "customerNumbered", "(I)LGasvault$Customer;"⟩, 11), (⟨"Gasvault", "goOneHour", "()V"⟩, 11), (⟨"Gasvault", "planTheHour", "()V"⟩, 11), (⟨"Gasvault", "plannedAboveTheLaw", "()I"⟩, 11), (⟨"Gasvault", "leastByLaw", "()I"⟩, 11), (⟨"Gasvault", "allInventories", "()I"⟩, 11), (⟨"Gasvault", "curtail", "(ZII)V"⟩, 11), (⟨"Gasvault", "plannedNet", "()I"⟩, 11), (⟨"Gasvault", "capacityOfPlant", "(Z)I"⟩, 11), (⟨"Gasvault", "flowIn", "(I)V"⟩, 11)]
theorem lw_r1 : ∀ q ∈ lw_privs_1, lw_okq q := List.forall_mem_cons.mpr ⟨lw_p0, List.forall_mem_cons.mpr ⟨lw_p1, List.forall_mem_cons.mpr ⟨lw_p2, List.forall_mem_cons.mpr ⟨lw_p3, List.forall_mem_cons.mpr ⟨lw_p4, List.forall_mem_cons.mpr ⟨lw_p5, List.forall_mem_cons.mpr ⟨lw_p6, List.forall_mem_cons.mpr ⟨lw_p7, List.forall_mem_cons.mpr ⟨lw_p8, List.forall_mem_cons.mpr ⟨lw_p9, List.forall_mem_cons.mpr ⟨lw_p10, List.forall_mem_cons.mpr ⟨lw_p11, List.forall_mem_cons.mpr ⟨lw_p12, List.forall_mem_cons.mpr ⟨lw_p13, List.forall_mem_cons.mpr ⟨lw_p14, List.forall_mem_cons.mpr ⟨lw_p15, fun _ h => absurd h List.not_mem_nil⟩⟩⟩⟩⟩⟩⟩⟩⟩⟩⟩⟩⟩⟩⟩⟩
theorem lw_p16 : lw_okq (⟨"Gasvault", "flowOut", "(I)V"⟩, 11) := ⟨⟨by decide +kernel, by decide +kernel⟩, List.mem_of_getElem? (i := 23) (by decide +kernel), List.mem_of_getElem? (i := 634) (by decide +kernel), List.mem_of_getElem? (i := 635) (by decide +kernel)⟩
theorem lw_p17 : lw_okq (⟨"Gasvault", "endTheDay", "()V"⟩, 11) := ⟨⟨by decide +kernel, by decide +kernel⟩, List.mem_of_getElem? (i := 23) (by decide +kernel), List.mem_of_getElem? (i := 652) (by decide +kernel), List.mem_of_getElem? (i := 653) (by decide +kernel)⟩
theorem lw_p18 : lw_okq (⟨"Gasvault$Store", "moveWater", "()V"⟩, 11) := ⟨⟨by decide +kernel, by decide +kernel⟩, List.mem_of_getElem? (i := 210) (by decide +kernel), List.mem_of_getElem? (i := 660) (by decide +kernel), List.mem_of_getElem? (i := 661) (by decide +kernel)⟩
theorem lw_p19 : lw_okq (⟨"Gasvault$Store", "creep", "()V"⟩, 11) := ⟨⟨by decide +kernel, by decide +kernel⟩, List.mem_of_getElem? (i := 210) (by decide +kernel), List.mem_of_getElem? (i := 664) (by decide +kernel), List.mem_of_getElem? (i := 665) (by decide +kernel)⟩
theorem lw_p20 : lw_okq (⟨"Gasvault", "bestSum", "(LGasvault$Customer;III)J"⟩, 11) := ⟨⟨by decide +kernel, by decide +kernel⟩, List.mem_of_getElem? (i := 23) (by decide +kernel), List.mem_of_getElem? (i := 735) (by decide +kernel), List.mem_of_getElem? (i := 736) (by decide +kernel)⟩
theorem lw_p21 : lw_okq (⟨"Gasvault", "sumOfWay", "(LGasvault$Customer;II)J"⟩, 11) := ⟨⟨by decide +kernel, by decide +kernel⟩, List.mem_of_getElem? (i := 23) (by decide +kernel), List.mem_of_getElem? (i := 750) (by decide +kernel), List.mem_of_getElem? (i := 751) (by decide +kernel)⟩
theorem lw_p22 : lw_okq (⟨"Gasvault", "gasInAllStores", "()I"⟩, 11) := ⟨⟨by decide +kernel, by decide +kernel⟩, List.mem_of_getElem? (i := 23) (by decide +kernel), List.mem_of_getElem? (i := 761) (by decide +kernel), List.mem_of_getElem? (i := 762) (by decide +kernel)⟩
theorem lw_p23 : lw_okq (⟨"GasvaultModel", "holds", "(I)Z"⟩, 40) := ⟨⟨by decide +kernel, by decide +kernel⟩, List.mem_of_getElem? (i := 765) (by decide +kernel), List.mem_of_getElem? (i := 912) (by decide +kernel), List.mem_of_getElem? (i := 913) (by decide +kernel)⟩
theorem lw_p24 : lw_okq (⟨"GasvaultModel", "isStore", "(I)Z"⟩, 40) := ⟨⟨by decide +kernel, by decide +kernel⟩, List.mem_of_getElem? (i := 765) (by decide +kernel), List.mem_of_getElem? (i := 920) (by decide +kernel), List.mem_of_getElem? (i := 921) (by decide +kernel)⟩
theorem lw_p25 : lw_okq (⟨"GasvaultModel", "rateOf", "(IZ)I"⟩, 40) := ⟨⟨by decide +kernel, by decide +kernel⟩, List.mem_of_getElem? (i := 765) (by decide +kernel), List.mem_of_getElem? (i := 924) (by decide +kernel), List.mem_of_getElem? (i := 925) (by decide +kernel)⟩
theorem lw_p26 : lw_okq (⟨"GasvaultModel", "pressureOf", "(I)I"⟩, 40) := ⟨⟨by decide +kernel, by decide +kernel⟩, List.mem_of_getElem? (i := 765) (by decide +kernel), List.mem_of_getElem? (i := 928) (by decide +kernel), List.mem_of_getElem? (i := 929) (by decide +kernel)⟩
theorem lw_p27 : lw_okq (⟨"GasvaultModel", "roomOf", "(I)I"⟩, 40) := ⟨⟨by decide +kernel, by decide +kernel⟩, List.mem_of_getElem? (i := 765) (by decide +kernel), List.mem_of_getElem? (i := 932) (by decide +kernel), List.mem_of_getElem? (i := 933) (by decide +kernel)⟩
theorem lw_p28 : lw_okq (⟨"GasvaultModel", "isCustomer", "(I)Z"⟩, 40) := ⟨⟨by decide +kernel, by decide +kernel⟩, List.mem_of_getElem? (i := 765) (by decide +kernel), List.mem_of_getElem? (i := 958) (by decide +kernel), List.mem_of_getElem? (i := 959) (by decide +kernel)⟩
theorem lw_p29 : lw_okq (⟨"GasvaultModel", "goesBy", "()V"⟩, 40) := ⟨⟨by decide +kernel, by decide +kernel⟩, List.mem_of_getElem? (i := 765) (by decide +kernel), List.mem_of_getElem? (i := 979) (by decide +kernel), List.mem_of_getElem? (i := 980) (by decide +kernel)⟩
theorem lw_p30 : lw_okq (⟨"GasvaultModel", "lays", "()V"⟩, 40) := ⟨⟨by decide +kernel, by decide +kernel⟩, List.mem_of_getElem? (i := 765) (by decide +kernel), List.mem_of_getElem? (i := 983) (by decide +kernel), List.mem_of_getElem? (i := 984) (by decide +kernel)⟩
theorem lw_p31 : lw_okq (⟨"GasvaultModel", "laysFirst", "(I)V"⟩, 40) := ⟨⟨by decide +kernel, by decide +kernel⟩, List.mem_of_getElem? (i := 765) (by decide +kernel), List.mem_of_getElem? (i := 987) (by decide +kernel), List.mem_of_getElem? (i := 988) (by decide +kernel)⟩
def lw_privs_2 : List (MethodName × Nat) := [(⟨"Gasvault", "flowOut", "(I)V"⟩, 11), (⟨"Gasvault", "endTheDay", "()V"⟩, 11), (⟨"Gasvault$Store", "moveWater", "()V"⟩, 11), (⟨"Gasvault$Store", "creep", "()V"⟩, 11), (⟨"Gasvault", "bestSum", "(LGasvault$Customer;III)J"⟩, 11), (⟨"Gasvault", "sumOfWay", "(LGasvault$Customer;II)J"⟩, 11), (⟨"Gasvault", "gasInAllStores", "()I"⟩, 11), (⟨"GasvaultModel", "holds", "(I)Z"⟩, 40), (⟨"GasvaultModel", "isStore", "(I)Z"⟩, 40), (⟨"GasvaultModel", "rateOf", "(IZ)I"⟩, 40), (⟨"GasvaultModel", "pressureOf", "(I)I"⟩, 40), (⟨"GasvaultModel", "roomOf", "(I)I"⟩, 40), (⟨"GasvaultModel", "isCustomer", "(I)Z"⟩, 40), (⟨"GasvaultModel", "goesBy", "()V"⟩, 40), (⟨"GasvaultModel", "lays", "()V"⟩, 40), (⟨"GasvaultModel", "laysFirst", "(I)V"⟩, 40)]
theorem lw_r2 : ∀ q ∈ lw_privs_2, lw_okq q := List.forall_mem_cons.mpr ⟨lw_p16, List.forall_mem_cons.mpr ⟨lw_p17, List.forall_mem_cons.mpr ⟨lw_p18, List.forall_mem_cons.mpr ⟨lw_p19, List.forall_mem_cons.mpr ⟨lw_p20, List.forall_mem_cons.mpr ⟨lw_p21, List.forall_mem_cons.mpr ⟨lw_p22, List.forall_mem_cons.mpr ⟨lw_p23, List.forall_mem_cons.mpr ⟨lw_p24, List.forall_mem_cons.mpr ⟨lw_p25, List.forall_mem_cons.mpr ⟨lw_p26, List.forall_mem_cons.mpr ⟨lw_p27, List.forall_mem_cons.mpr ⟨lw_p28, List.forall_mem_cons.mpr ⟨lw_p29, List.forall_mem_cons.mpr ⟨lw_p30, List.forall_mem_cons.mpr ⟨lw_p31, fun _ h => absurd h List.not_mem_nil⟩⟩⟩⟩⟩⟩⟩⟩⟩⟩⟩⟩⟩⟩⟩⟩
theorem lw_p32 : lw_okq (⟨"GasvaultModel", "rateWith", "(IIZ)I"⟩, 40) := ⟨⟨by decide +kernel, by decide +kernel⟩, List.mem_of_getElem? (i := 765) (by decide +kernel), List.mem_of_getElem? (i := 991) (by decide +kernel), List.mem_of_getElem? (i := 992) (by decide +kernel)⟩
theorem lw_p33 : lw_okq (⟨"GasvaultModel", "lawNow", "()I"⟩, 40) := ⟨⟨by decide +kernel, by decide +kernel⟩, List.mem_of_getElem? (i := 765) (by decide +kernel), List.mem_of_getElem? (i := 1000) (by decide +kernel), List.mem_of_getElem? (i := 1001) (by decide +kernel)⟩
theorem lw_p34 : lw_okq (⟨"GasvaultModel", "all", "()J"⟩, 40) := ⟨⟨by decide +kernel, by decide +kernel⟩, List.mem_of_getElem? (i := 765) (by decide +kernel), List.mem_of_getElem? (i := 1004) (by decide +kernel), List.mem_of_getElem? (i := 1005) (by decide +kernel)⟩
theorem lw_p35 : lw_okq (⟨"GasvaultModel", "sum", "(Z)I"⟩, 40) := ⟨⟨by decide +kernel, by decide +kernel⟩, List.mem_of_getElem? (i := 765) (by decide +kernel), List.mem_of_getElem? (i := 1008) (by decide +kernel), List.mem_of_getElem? (i := 1009) (by decide +kernel)⟩
theorem lw_p36 : lw_okq (⟨"GasvaultModel", "curtails", "(ZII)V"⟩, 40) := ⟨⟨by decide +kernel, by decide +kernel⟩, List.mem_of_getElem? (i := 765) (by decide +kernel), List.mem_of_getElem? (i := 1012) (by decide +kernel), List.mem_of_getElem? (i := 1013) (by decide +kernel)⟩
theorem lw_p37 : lw_okq (⟨"GasvaultModel", "can", "(Z)J"⟩, 40) := ⟨⟨by decide +kernel, by decide +kernel⟩, List.mem_of_getElem? (i := 765) (by decide +kernel), List.mem_of_getElem? (i := 1016) (by decide +kernel), List.mem_of_getElem? (i := 1017) (by decide +kernel)⟩
theorem lw_p38 : lw_okq (⟨"GasvaultModel", "flows", "(I)V"⟩, 40) := ⟨⟨by decide +kernel, by decide +kernel⟩, List.mem_of_getElem? (i := 765) (by decide +kernel), List.mem_of_getElem? (i := 1020) (by decide +kernel), List.mem_of_getElem? (i := 1021) (by decide +kernel)⟩
theorem lw_p39 : lw_okq (⟨"GasvaultModel", "gets", "(II)V"⟩, 40) := ⟨⟨by decide +kernel, by decide +kernel⟩, List.mem_of_getElem? (i := 765) (by decide +kernel), List.mem_of_getElem? (i := 1024) (by decide +kernel), List.mem_of_getElem? (i := 1025) (by decide +kernel)⟩
theorem lw_p40 : lw_okq (⟨"GasvaultModel", "loses", "(II)V"⟩, 40) := ⟨⟨by decide +kernel, by decide +kernel⟩, List.mem_of_getElem? (i := 765) (by decide +kernel), List.mem_of_getElem? (i := 1028) (by decide +kernel), List.mem_of_getElem? (i := 1029) (by decide +kernel)⟩
theorem lw_p41 : lw_okq (⟨"GasvaultModel", "leaks", "(I)V"⟩, 40) := ⟨⟨by decide +kernel, by decide +kernel⟩, List.mem_of_getElem? (i := 765) (by decide +kernel), List.mem_of_getElem? (i := 1032) (by decide +kernel), List.mem_of_getElem? (i := 1033) (by decide +kernel)⟩
theorem lw_p42 : lw_okq (⟨"GasvaultModel", "isLost", "(II)V"⟩, 40) := ⟨⟨by decide +kernel, by decide +kernel⟩, List.mem_of_getElem? (i := 765) (by decide +kernel), List.mem_of_getElem? (i := 1036) (by decide +kernel), List.mem_of_getElem? (i := 1037) (by decide +kernel)⟩
theorem lw_p43 : lw_okq (⟨"GasvaultModel", "endsDay", "(I)V"⟩, 40) := ⟨⟨by decide +kernel, by decide +kernel⟩, List.mem_of_getElem? (i := 765) (by decide +kernel), List.mem_of_getElem? (i := 1040) (by decide +kernel), List.mem_of_getElem? (i := 1041) (by decide +kernel)⟩
theorem lw_p44 : lw_okq (⟨"GasvaultModel", "bestOf", "(III)J"⟩, 40) := ⟨⟨by decide +kernel, by decide +kernel⟩, List.mem_of_getElem? (i := 765) (by decide +kernel), List.mem_of_getElem? (i := 1077) (by decide +kernel), List.mem_of_getElem? (i := 1078) (by decide +kernel)⟩
def lw_privs_3 : List (MethodName × Nat) := [(⟨"GasvaultModel", "rateWith", "(IIZ)I"⟩, 40), (⟨"GasvaultModel", "lawNow", "()I"⟩, 40), (⟨"GasvaultModel", "all", "()J"⟩, 40), (⟨"GasvaultModel", "sum", "(Z)I"⟩, 40), (⟨"GasvaultModel", "curtails", "(ZII)V"⟩, 40), (⟨"GasvaultModel", "can", "(Z)J"⟩, 40), (⟨"GasvaultModel", "flows", "(I)V"⟩, 40), (⟨"GasvaultModel", "gets", "(II)V"⟩, 40), (⟨"GasvaultModel", "loses", "(II)V"⟩, 40), (⟨"GasvaultModel", "leaks", "(I)V"⟩, 40), (⟨"GasvaultModel", "isLost", "(II)V"⟩, 40), (⟨"GasvaultModel", "endsDay", "(I)V"⟩, 40), (⟨"GasvaultModel", "bestOf", "(III)J"⟩, 40)]
theorem lw_r3 : ∀ q ∈ lw_privs_3, lw_okq q := List.forall_mem_cons.mpr ⟨lw_p32, List.forall_mem_cons.mpr ⟨lw_p33, List.forall_mem_cons.mpr ⟨lw_p34, List.forall_mem_cons.mpr ⟨lw_p35, List.forall_mem_cons.mpr ⟨lw_p36, List.forall_mem_cons.mpr ⟨lw_p37, List.forall_mem_cons.mpr ⟨lw_p38, List.forall_mem_cons.mpr ⟨lw_p39, List.forall_mem_cons.mpr ⟨lw_p40, List.forall_mem_cons.mpr ⟨lw_p41, List.forall_mem_cons.mpr ⟨lw_p42, List.forall_mem_cons.mpr ⟨lw_p43, List.forall_mem_cons.mpr ⟨lw_p44, fun _ h => absurd h List.not_mem_nil⟩⟩⟩⟩⟩⟩⟩⟩⟩⟩⟩⟩⟩
def lw_privs : List (MethodName × Nat) := lw_privs_1 ++ (lw_privs_2 ++ (lw_privs_3))
def lw_tbl : List Cond := k2_sels lw_privs ++ tables_1
theorem lw_privs_ok : ∀ q ∈ lw_privs, lw_okq q := by
  show ∀ q ∈ lw_privs_1 ++ (lw_privs_2 ++ (lw_privs_3)), lw_okq q
  exact List.forall_mem_append.mpr ⟨lw_r1, List.forall_mem_append.mpr ⟨lw_r2, lw_r3⟩⟩
/-- the streams that the claim lets the run draw from -/
abbrev lw_cs : List Choice := [Jvm.Choice.named "NaN.bits"]
theorem lw_bits : nanBits ∈ lw_cs := by first | decide | exact List.mem_cons_self | simp [lw_cs, nanBits]
-- ===== end of PART A; then your names; then what follows =====
end
section
/-! ===== BEGIN words of one list among another's, by their places ===== -/
theorem goodIn_r {big : List Cond} (ws : List Cond) (ps : List Nat) (hp : ws = ps.filterMap (fun i => big[i]?)) (h : ws.all goodWord = true) : GoodIn big ws := by
  intro w hw
  have h1 := List.all_eq_true.mp h w hw
  rw [hp] at hw
  obtain ⟨i, -, hi⟩ := List.mem_filterMap.mp hw
  have hm : w ∈ big := by first | exact List.mem_of_getElem? hi | exact List.getElem?_mem hi
  exact ⟨hm, good_of_word h1⟩
theorem goodIn_app {big a b : List Cond} (ha : GoodIn big a) (hb : GoodIn big b) : GoodIn big (a ++ b) := fun w h => (List.mem_append.mp h).elim (ha w) (hb w)
theorem goodIn_ca {big a b : List Cond} {c : Cond} (ha : GoodIn big (c :: a)) (hb : GoodIn big b) : GoodIn big (c :: (a ++ b)) := fun w h => (List.mem_cons.mp h).elim (fun e => ha w (List.mem_cons.mpr (Or.inl e))) (fun h => (List.mem_append.mp h).elim (fun h => ha w (List.mem_cons.mpr (Or.inr h))) (hb w))
theorem goodIn_sub {big ws : List Cond} (hm : ∀ w ∈ ws, w ∈ big) (h : ws.all goodWord = true) : GoodIn big ws := fun w hw => ⟨hm w hw, good_of_word (List.all_eq_true.mp h w hw)⟩
/-! ===== END ===== -/

/-! ===== BEGIN exceptions that leave a method, and their catching by the caller (launches without stack traces) ===== -/
section VXA
/-! The laws vx_back, vx_callV, vx_callS, vx_callSW, vx_throw0, vx_throwS follow proofs of the library, with one case more: JvmDerived/Free/Laws.lean (Back.of_free), Shelf42/LK1.lean (callV, callS), Shelf/KitTraced.lean (throwNew0V, throwNewS). -/
/-- where a method has thrown q: the class by its name, the cell, what was written, the world -/
def vx_T (XC : String → State → State → Prop) (st : State) (q : Addr) (t : State) (mc ms : Nat) (free : Addr → Prop) : Prop :=
  ∃ (E : String) (ce : Cell) (L : List Loc), XC E st t ∧ t.heap[q]? = some ce ∧ ce.vm = .none ∧ st.vm.findClass E = some ce.cls ∧ st.WarmedH t.vm ∧ st.sameButNew ({ t with vm := st.vm } : State) L mc ms ∧ ∀ z ∈ L, free z.base
def vx_Q (Qc : Array Value → State → Outcome → State → Prop) (XC : String → State → State → Prop) (mc ms : Nat) (free : Addr → Prop) : Array Value → State → Outcome → State → Prop := fun a st o t =>
  (Qc a st o t ∧ ∃ L, FrameEnd st o t L mc ms ∧ ∀ q ∈ L, free q.base) ∨ ∃ q, o = .threw q ∧ vx_T XC st q t mc ms free
/-- a callee that returns or throws -/
def vx_Met (l : Launch) (y : MethodName) (ws : List Cond) (rm : Room) (Pc : Array Value → State → Prop) (Qc : Array Value → State → Outcome → State → Prop) (XC : String → State → State → Prop) (mc ms : Nat) (free : Addr → Prop) : Prop :=
  MetFree l y (headSpec ws rm) Pc (fun _ _ _ _ _ => True) (vx_Q Qc XC mc ms free)
def vx_Post (XC : String → State → State → Prop) (mc ms : Nat) (free : Addr → Prop) : Pt → Array Value → Addr → Pt → Prop := fun A a q B =>
  ∃ (g : JFrame) (mk : MethodId) (t : State) (L : List Loc) (E : String) (ce : Cell), B.U.heap = t.heap ∧ B.U.vm = t.vm ∧ XC E (A.U.calling g mk a) t ∧ t.heap[q]? = some ce ∧ ce.vm = .none ∧ A.U.vm.findClass E = some ce.cls ∧ B.locs = A.locs ++ L ∧ (∀ z ∈ L, free z.base) ∧ B.cells = A.cells + mc ∧ B.slots = A.slots + ms
def vx_Back (l : Launch) (R : Room) (p : Program) (e : Env) (below : List Frame) (s : State) (sargs : Array Value) (y : MethodName) (len W9 : Nat)
    (Pre : Pt → Array Value → Prop) (Post : Pt → Array Value → Option Value → Pt → Prop) (PostX : Pt → Array Value → Addr → Pt → Prop) : Prop :=
  ∀ (m : MethodId) (meth : Method) (c : Code) (A : Pt) (g : JFrame) (ig : Instr) (mk : MethodId) (a : Array Value),
    Stand p l e R s m sargs below meth c A.U A.locs A.cells A.slots → g.method = m → g.locals.size = c.maxLocals → decode c.code g.pc = .ok (ig, len) →
    2 * g.monitorRoom + (g.stack.map fun v => v.category).sum ≤ W9 → A.U.methodNamed? y = some mk → Pre A a →
    (∃ (v : Option Value) (B : Pt), Stand p l e R s m sargs below meth c B.U B.locs B.cells B.slots ∧ Post A a v B ∧
      Steps p.tables e below (doInvoke e (A.U.setTop g) [] mk a).1 (B.U.setTop { g with pc := g.pc + len, stack := v.toList ++ g.stack })) ∨
    (∃ (q : Addr) (B : Pt), Stand p l e R s m sargs below meth c B.U B.locs B.cells B.slots ∧ PostX A a q B ∧
      Steps p.tables e below (doInvoke e (A.U.setTop g) [] mk a).1 ((B.U.setTop g).pushFrame (.throwing q)))
section Payer
variable {l : Launch} {R : Room} {p : Program} {e : Env} {below : List Frame} {s : State} {sargs : Array Value} {y : MethodName} {len W9 : Nat}
theorem vx_back {ws : List Cond} {rm : Room} {Pc : Array Value → State → Prop} {Qc : Array Value → State → Outcome → State → Prop} {XC : String → State → State → Prop} {mc ms : Nat} {free : Addr → Prop} {bytes : ByteArray} {maxL : Nat} {ret : Option FieldType}
    (hM : vx_Met l y ws rm Pc Qc XC mc ms free) (hblind : FrameBlind Pc) (hrc : rm.cells = mc) (hrs : rm.slots = ms)
    (hframes : rm.frames + 1 ≤ R.frames) (hlocals : W9 + (maxL + 11) + rm.locals ≤ R.locals)
    (hws : ∀ w ∈ ws, ∀ a' U, s.WarmedH U.vm → w.before a' U = true) (hcode : Cond.code y bytes maxL ret ∈ ws) (hinit : ∀ a' U, s.WarmedH U.vm → (Cond.initialized y.cls).before a' U = true) :
    vx_Back l R p e below s sargs y len W9 (PreOf R mc ms Pc) (PostOf Qc mc ms free) (vx_Post XC mc ms free) := by
  intro m meth c A g ig mk a X hg hsize hdg hW hn hp
  have h1 : (headSpec ws rm).pre.before a A.U = true := atoms_intro fun w hw => hws w hw _ _ X.warmed
  have h2 : (Cond.code y bytes maxL ret).before a A.U = true := hws _ hcode _ _ X.warmed
  have h3 : (Cond.initialized y.cls).before a A.U = true := hinit _ _ X.warmed
  have h4 : A.cells + (headSpec ws rm).room.cells ≤ R.cells := by rw [show (headSpec ws rm).room.cells = mc from hrc]; exact hp.1
  have h5 : A.slots + (headSpec ws rm).room.slots ≤ R.slots := by rw [show (headSpec ws rm).room.slots = ms from hrs]; exact hp.2.1
  have hPc : Pc a (A.U.calling g mk a) := hblind _ _ _ _ hp.2.2
  obtain ⟨U, Ls, c0, s0⟩ := A
  dsimp only [Pt.U, Pt.locs, Pt.cells, Pt.slots] at h1 h2 h3 h4 h5 X hn hPc ⊢
  obtain ⟨methY, cY, hmY, hcY, -, hlY, -, -, -, -⟩ := Cond.code_spec hn h2
  obtain ⟨kY, hkY, -⟩ := className_of_methodNamed hn
  have hinitY : kY.init = .initialized := Cond.initialized_spec (findClass_of_methodNamed hn) hkY h3
  have h : At U g.method c below := by rw [hg]; exact X.here
  have hlocals9 : W9 + (maxL + 11) + (headSpec ws rm).room.locals ≤ R.locals := hlocals
  have happ : (headSpec ws rm).appliesLoose y e.platform (U.calling g mk a) = true :=
    Spec.appliesLoose_calling (g := g) h hdg hn hkY hinitY
      (X.room_calling (g := g) (R' := (headSpec ws rm).room) hsize hmY hcY hframes (by rw [hlY]; omega) h4 h5) h1
  obtain ⟨mid, hmid⟩ := h.above
  have hfr : (U.setTop g).frames = (.java g :: mid) ++ below := by rw [State.frames_setTop' g h.top, hmid]; rfl
  obtain ⟨o, s₂, hsteps, -, hend, hq⟩ := Steps.callFree hM p X.admits X.cas X.clock (acts := []) hfr happ hPc trivial
  have hq' : vx_Q Qc XC mc ms free a (U.calling g mk a) o s₂ := hq
  rw [State.frames_setTop' g h.top] at hend
  obtain ⟨g₀, hg0⟩ := Option.isSome_iff_exists.mp h.top
  obtain ⟨r, hr⟩ := State.topJava?_eq_some.mp hg0
  have hr' : (({ U with heap := s₂.heap, slotsUsed := s₂.slotsUsed } : State).setVm s₂.vm).frames = .java g₀ :: r := hr
  rcases hq' with ⟨hqc, L, hfe, hL⟩ | ⟨q, rfl, E, ce, L, hx, hce, hcv, hcl, hW₂, hsm, hL⟩
  · obtain ⟨⟨v, rfl⟩, hW₂, e2, q2, q3, q4, q5, q6⟩ := id hfe
    have e3 : s₂ = ({ (U.calling g mk a).setFrames s₂.frames with heap := s₂.heap, slotsUsed := s₂.slotsUsed } : State).setVm s₂.vm := by
      have : s₂ = ({ s₂ with vm := (U.calling g mk a).vm } : State).setVm s₂.vm := rfl
      rw [e2] at this
      exact this
    obtain ⟨c₂, i₂, len₂, hc₂, hd₂, hf₂⟩ := hend
    have hW' : U.WarmedH s₂.vm := hW₂
    have hcc : c₂ = c := by
      have h1 : s₂.code? g.method = U.code? g.method := by
        rw [State.code?_eq, State.code?_eq, hW'.alike.method?]
      exact Option.some.inj (hc₂.symm.trans (h1.trans h.code))
    subst hcc
    have hlen : len₂ = len := by rw [hdg] at hd₂; cases hd₂; rfl
    subst hlen
    have hs₂ : s₂ = (({ U with heap := s₂.heap, slotsUsed := s₂.slotsUsed } : State).setVm s₂.vm).setTop { g with pc := g.pc + len₂, stack := v.toList ++ g.stack } := by
      refine e3.trans ?_
      rw [hf₂, State.calling_eq h.top, State.setFrames_setFrames, State.setTop_of_frames _ hr', hr]
      rfl
    have hsame : U.sameButNew ({ U with heap := s₂.heap, slotsUsed := s₂.slotsUsed } : State) L mc ms := by
      refine ⟨?_, q2, q3, q4, q5, q6⟩
      obtain ⟨t, ht, -⟩ := State.frames_cons hr
      show ({ U with heap := s₂.heap, slotsUsed := s₂.slotsUsed } : State) = { U.setFrames U.frames with heap := s₂.heap, slotsUsed := s₂.slotsUsed }
      rw [State.setFrames_self ht]
    subst hg
    refine Or.inl ⟨v, ⟨(({ U with heap := s₂.heap, slotsUsed := s₂.slotsUsed } : State).setVm s₂.vm), Ls ++ L, c0 + mc, s0 + ms⟩,
      ⟨X.admits, X.cas, X.clock, X.frames, X.room, X.hears, X.method, X.code, (X.here.setHeapUsed s₂.heap s₂.slotsUsed).setVm hW'.alike, X.tail, State.WarmedH.trans X.warmed hW', X.limits, X.bytes, X.same.trans (hsame.setVm s.vm)⟩,
      ⟨g, mk, s₂, L, rfl, rfl, hqc, rfl, hL, rfl, rfl⟩, ?_⟩
    show Steps p.tables e below _ ((({ U with heap := s₂.heap, slotsUsed := s₂.slotsUsed } : State).setVm s₂.vm).setTop { g with pc := g.pc + len₂, stack := v.toList ++ g.stack })
    rw [← hs₂]
    exact hsteps
  · obtain ⟨e2, q2, q3, q4, q5, q6⟩ := id hsm
    have e3 : s₂ = ({ (U.calling g mk a).setFrames s₂.frames with heap := s₂.heap, slotsUsed := s₂.slotsUsed } : State).setVm s₂.vm := by
      have : s₂ = ({ s₂ with vm := (U.calling g mk a).vm } : State).setVm s₂.vm := rfl
      rw [e2] at this
      exact this
    have hf₂ : s₂.frames = .throwing q :: .java g :: U.frames.tail := hend
    have hW' : U.WarmedH s₂.vm := hW₂
    have hs₂ : s₂ = ((({ U with heap := s₂.heap, slotsUsed := s₂.slotsUsed } : State).setVm s₂.vm).setTop g).pushFrame (.throwing q) := by
      refine e3.trans ?_
      rw [hf₂, State.calling_eq h.top, State.setFrames_setFrames, State.pushFrame, State.frames_setTop _ hr', State.setTop_of_frames _ hr', State.setFrames_setFrames, hr]
      rfl
    have hsame : U.sameButNew ({ U with heap := s₂.heap, slotsUsed := s₂.slotsUsed } : State) L mc ms := by
      refine ⟨?_, q2, q3, q4, q5, q6⟩
      obtain ⟨t, ht, -⟩ := State.frames_cons hr
      show ({ U with heap := s₂.heap, slotsUsed := s₂.slotsUsed } : State) = { U.setFrames U.frames with heap := s₂.heap, slotsUsed := s₂.slotsUsed }
      rw [State.setFrames_self ht]
    subst hg
    refine Or.inr ⟨q, ⟨(({ U with heap := s₂.heap, slotsUsed := s₂.slotsUsed } : State).setVm s₂.vm), Ls ++ L, c0 + mc, s0 + ms⟩,
      ⟨X.admits, X.cas, X.clock, X.frames, X.room, X.hears, X.method, X.code, (X.here.setHeapUsed s₂.heap s₂.slotsUsed).setVm hW'.alike, X.tail, State.WarmedH.trans X.warmed hW', X.limits, X.bytes, X.same.trans (hsame.setVm s.vm)⟩,
      ⟨g, mk, s₂, L, E, ce, rfl, rfl, hx, hce, hcv, hcl, rfl, hL, rfl, rfl⟩, ?_⟩
    show Steps p.tables e below _ (((({ U with heap := s₂.heap, slotsUsed := s₂.slotsUsed } : State).setVm s₂.vm).setTop g).pushFrame (.throwing q))
    rw [← hs₂]
    exact hsteps
end Payer
section Calls
variable {p : Program} {l : Launch} {e : Env} {R : Room} {s : State} {m : MethodId} {args : Array Value} {below : List Frame} {meth : Method} {c : Code} {T : State} {locs : List Loc} {cells slots : Nat}
theorem vx_callV (X : Stand p l e R s m args below meth c T locs cells slots) (hexec : p.tables.exec = Jvm.exec) {own C : String} {index : Nat} {y : MethodName} {bytes : ByteArray} {maxL : Nat} {ret : Option FieldType}
    (hown : s.vm.findClass own = some m.cls) (hlink : (Cond.methodLink own index y).before args s = true) (hinst : (Cond.instanceMethod y).before args s = true) (hsel : (Cond.selects C y y).before args s = true)
    (hcode : (Cond.code y bytes maxL ret).before args s = true) (hy : y.cls ≠ "java/lang/invoke/MethodHandle" ∧ y.cls ≠ "java/lang/invoke/VarHandle")
    {W9 : Nat} {Pre : Pt → Array Value → Prop} {Post : Pt → Array Value → Option Value → Pt → Prop} {PostX : Pt → Array Value → Addr → Pt → Prop} (hK : vx_Back l R p e below s args y 3 W9 Pre Post PostX)
    {b : Addr} {cellB : Cell} (hcell : T.heap[b]? = some cellB) (hobj : cellB.vm.isStatics = false) (hcls : s.vm.findClass C = some cellB.cls)
    {g : JFrame} (hg : g.method = m) (hsize : g.locals.size = c.maxLocals) {argsL rest : List Value} (hlen : ∀ sig, parseMethodDescriptor y.desc = some sig → argsL.length = sig.parameters.length)
    (hstack : g.stack = argsL.reverse ++ .ref b :: rest) (hW : 2 * g.monitorRoom + (rest.map fun v => v.category).sum ≤ W9) (hdg : decode c.code g.pc = .ok (.invokevirtual index, 3))
    (hpre : ∀ vm₁, s.WarmedH vm₁ → Pre ⟨T.setVm vm₁, locs, cells, slots⟩ (Value.ref b :: argsL).toArray) :
    (∃ (v : Option Value) (vm₁ : Vm) (B : Pt), s.WarmedH vm₁ ∧ Stand p l e R s m args below meth c B.U B.locs B.cells B.slots ∧ Post ⟨T.setVm vm₁, locs, cells, slots⟩ (Value.ref b :: argsL).toArray v B ∧
      ∀ target, Steps p.tables e below (B.U.setTop { g with pc := g.pc + 3, stack := v.toList ++ rest }) target → Steps p.tables e below (T.setTop g) target) ∨
    (∃ (q : Addr) (vm₁ : Vm) (B : Pt), s.WarmedH vm₁ ∧ Stand p l e R s m args below meth c B.U B.locs B.cells B.slots ∧ PostX ⟨T.setVm vm₁, locs, cells, slots⟩ (Value.ref b :: argsL).toArray q B ∧
      Steps p.tables e below (T.setTop g) ((B.U.setTop { g with stack := rest }).pushFrame (.throwing q))) := by
  obtain ⟨mk, methM, hnamed, hmethM, hstM, habM⟩ := Cond.instanceMethod_spec hinst
  obtain ⟨methM', cM, hmethM', -, -, -, -, -, -, hsigM⟩ := Cond.code_spec hnamed hcode
  cases hmethM.symm.trans hmethM'
  obtain ⟨c2, r2, m2, q1, q2, q3, q4, kP, hkP, hkPi⟩ := Cond.selects_spec hsel
  cases hcls.symm.trans q1
  cases (State.methodFound?_of_named hnamed hy).symm.trans q2
  cases hnamed.symm.trans q3
  have hselP : selectMethod e.platform s.vm cellB.cls mk = .method mk := by rw [Launch.admits_selectMethod X.admits]; exact q4
  obtain ⟨vm₁, X₁, hstep₁⟩ := X.invokevirtual hexec hown hlink hnamed hmethM hstM hkP hkPi hy (a := b) (cell := cellB) hcell
    (fun z h => by rw [h] at hobj; cases hobj) hselP hmethM habM hkP hkPi (g := g) hg (argsL := argsL) (rest := rest) (hlen _ hsigM) hstack hdg
  rcases hK m meth c ⟨T.setVm vm₁, locs, cells, slots⟩ { g with stack := rest } (.invokevirtual index) mk (Value.ref b :: argsL).toArray X₁ hg hsize hdg hW (X₁.named hnamed) (hpre vm₁ X₁.warmed) with ⟨v, B, X', hpost, hsteps⟩ | ⟨q, B, X', hpost, hsteps⟩
  · exact Or.inl ⟨v, vm₁, B, X₁.warmed, X', hpost, fun target h => hstep₁ _ fun acts => by rw [doInvoke_state]; exact hsteps.trans h⟩
  · exact Or.inr ⟨q, vm₁, B, X₁.warmed, X', hpost, hstep₁ _ fun acts => by rw [doInvoke_state]; exact hsteps⟩
theorem vx_callS (X : Stand p l e R s m args below meth c T locs cells slots) (hexec : p.tables.exec = Jvm.exec) {own : String} {index : Nat} {y : MethodName} {bytes : ByteArray} {maxL : Nat} {ret : Option FieldType}
    (hown : s.vm.findClass own = some m.cls) (hlink : (Cond.methodLink own index y).before args s = true) (hstat : (Cond.static y).before args s = true) (hinit : (Cond.initialized y.cls).before args s = true)
    (hcode : (Cond.code y bytes maxL ret).before args s = true) (hy : y.cls ≠ "java/lang/invoke/MethodHandle" ∧ y.cls ≠ "java/lang/invoke/VarHandle")
    {W9 : Nat} {Pre : Pt → Array Value → Prop} {Post : Pt → Array Value → Option Value → Pt → Prop} {PostX : Pt → Array Value → Addr → Pt → Prop} (hK : vx_Back l R p e below s args y 3 W9 Pre Post PostX)
    {g : JFrame} (hg : g.method = m) (hsize : g.locals.size = c.maxLocals) {argsL rest : List Value} (hlen : ∀ sig, parseMethodDescriptor y.desc = some sig → argsL.length = sig.parameters.length)
    (hstack : g.stack = argsL.reverse ++ rest) (hW : 2 * g.monitorRoom + (rest.map fun v => v.category).sum ≤ W9) (hdg : decode c.code g.pc = .ok (.invokestatic index, 3))
    (hpre : ∀ vm₁, s.WarmedH vm₁ → Pre ⟨T.setVm vm₁, locs, cells, slots⟩ argsL.toArray) :
    (∃ (v : Option Value) (vm₁ : Vm) (B : Pt), s.WarmedH vm₁ ∧ Stand p l e R s m args below meth c B.U B.locs B.cells B.slots ∧ Post ⟨T.setVm vm₁, locs, cells, slots⟩ argsL.toArray v B ∧
      ∀ target, Steps p.tables e below (B.U.setTop { g with pc := g.pc + 3, stack := v.toList ++ rest }) target → Steps p.tables e below (T.setTop g) target) ∨
    (∃ (q : Addr) (vm₁ : Vm) (B : Pt), s.WarmedH vm₁ ∧ Stand p l e R s m args below meth c B.U B.locs B.cells B.slots ∧ PostX ⟨T.setVm vm₁, locs, cells, slots⟩ argsL.toArray q B ∧
      Steps p.tables e below (T.setTop g) ((B.U.setTop { g with stack := rest }).pushFrame (.throwing q))) := by
  obtain ⟨mk, hnamed⟩ := Cond.code_named hcode
  obtain ⟨methM, cM, hmethM, -, -, -, -, -, -, hsigM⟩ := Cond.code_spec hnamed hcode
  have hstatic : methM.isStatic = true := Cond.static_spec hnamed hmethM hstat
  obtain ⟨kP, hkP, -⟩ := className_of_methodNamed hnamed
  have hinitP : kP.init = .initialized := Cond.initialized_spec (findClass_of_methodNamed hnamed) hkP hinit
  obtain ⟨vm₁, X₁, hstep₁⟩ := X.invokestatic hexec hown hlink hnamed hmethM hstatic hkP hinitP hy (g := g) hg (argsL := argsL) (rest := rest) (hlen _ hsigM) hstack hdg
  rcases hK m meth c ⟨T.setVm vm₁, locs, cells, slots⟩ { g with stack := rest } (.invokestatic index) mk argsL.toArray X₁ hg hsize hdg hW (X₁.named hnamed) (hpre vm₁ X₁.warmed) with ⟨v, B, X', hpost, hsteps⟩ | ⟨q, B, X', hpost, hsteps⟩
  · exact Or.inl ⟨v, vm₁, B, X₁.warmed, X', hpost, fun target h => hstep₁ _ fun acts => by rw [doInvoke_state]; exact hsteps.trans h⟩
  · exact Or.inr ⟨q, vm₁, B, X₁.warmed, X', hpost, hstep₁ _ fun acts => by rw [doInvoke_state]; exact hsteps⟩
end Calls
theorem vx_cls {s : State} {T : State} {vm₁ : Vm} {E : String} {k : ClassId} (hW : s.WarmedH vm₁) (h : (T.setVm vm₁).vm.findClass E = some k) : s.vm.findClass E = some k := by
  have h1 : vm₁.findClass E = some k := h
  rw [hW.alike.findClass] at h1
  exact h1
/-- the method's frame g, with q thrown over it -/
def vx_W (p : Program) (l : Launch) (e : Env) (R : Room) (s : State) (m : MethodId) (args : Array Value) (below : List Frame) (meth : Method) (c : Code) (H : Heap) (locs : List Loc) (cells slots : Nat) (Q : State → Prop) (g : JFrame) (q : Addr) : Prop :=
  ∀ T : State, T.heap = H → Stand p l e R s m args below meth c T locs cells slots → ∃ t, Steps p.tables e below ((T.setTop g).pushFrame (.throwing q)) t ∧ Q t
def vx_Run (p : Program) (l : Launch) (e : Env) (R : Room) (s : State) (m : MethodId) (args : Array Value) (below : List Frame) (meth : Method) (c : Code) (H : Heap) (locs : List Loc) (cells slots mc ms : Nat) (g : JFrame) (rest : List Value) (Qa : State → Outcome → State → Prop) (XC : String → State → State → Prop) (free : Addr → Prop) : Prop :=
  ∀ T : State, T.heap = H → Stand p l e R s m args below meth c T locs cells slots →
    (∃ (v : Option Value) (st₀ t T' : State) (L : List Loc), st₀.heap = H ∧ Stand p l e R s m args below meth c T' (locs ++ L) (cells + mc) (slots + ms) ∧ (∀ q ∈ L, free q.base) ∧ T'.heap = t.heap ∧ T'.vm = t.vm ∧ Qa st₀ (.returned v) t ∧
      Goes p e below T g T' { g with pc := g.pc + 3, stack := v.toList ++ rest }) ∨
    (∃ (q : Addr) (st₀ t T' : State) (L : List Loc) (E : String) (ce : Cell), st₀.heap = H ∧ Stand p l e R s m args below meth c T' (locs ++ L) (cells + mc) (slots + ms) ∧ (∀ z ∈ L, free z.base) ∧ T'.heap = t.heap ∧ T'.vm = t.vm ∧ XC E st₀ t ∧ t.heap[q]? = some ce ∧ ce.vm = .none ∧ s.vm.findClass E = some ce.cls ∧
      Steps p.tables e below (T.setTop g) ((T'.setTop { g with stack := rest }).pushFrame (.throwing q)))
def vx_X {S : Type} (px : S → Prop) (B : String → S → State → Prop) (A : Nat → Prop) : String → State → State → Prop := fun E st t => ∃ u : S, px u ∧ B E u t ∧ va_F A st t
section Runs
variable {p : Program} {l : Launch} {e : Env} {R : Room} {s : State} {m : MethodId} {args : Array Value} {below : List Frame} {meth : Method} {c : Code} {H : Heap} {locs : List Loc} {cells slots : Nat}
variable {y : MethodName} {bytes cc : ByteArray} {maxL nL mc ms n index : Nat} {ret : Option FieldType} {ws : List Cond} {rm : Room} {Pc : Array Value → State → Prop} {Qc : Array Value → State → Outcome → State → Prop} {XC : String → State → State → Prop} {free : Addr → Prop} {Ts : List Cond} {own C : String} {b : Addr} {As rest : List Value} {g : JFrame}
theorem vx_callBack (cb : CallB R s args own index y bytes maxL ret ws rm mc ms n) (hM : vx_Met l y ws rm Pc Qc XC mc ms free) (hbl : FrameBlind Pc) : vx_Back l R p e below s args y 3 8 (PreOf R mc ms Pc) (PostOf Qc mc ms free) (vx_Post XC mc ms free) := by
  obtain ⟨hrc, hrs, hfr, hlo, hws, hcw, -, hini, -⟩ := cb
  exact vx_back (bytes := bytes) (maxL := maxL) (ret := ret) hM hbl hrc hrs hfr hlo hws hcw (fun a' U hW => word_at hW (Or.inl (by first | rfl | simp [Cond.onTables, Cond.keeps, Cond.steady])) hini)
theorem vx_runV (S : CallFix p m c cc nL s args Ts own) (hM : vx_Met l y ws rm Pc Qc XC mc ms free) (cw : CallW R s args own C index y bytes maxL ret ws rm mc ms n) (hp : PreV s H C b Pc As)
    (hg : g.method = m) (hn : As.length = n) (hsize : g.locals.size = nL) (hstack : g.stack = As.reverse ++ .ref b :: rest) (hW : 2 * g.monitorRoom + (rest.map fun v => v.category).sum ≤ 8) (hdg : decode cc g.pc = .ok (.invokevirtual index, 3)) (hf : cells + mc ≤ R.cells ∧ slots + ms ≤ R.slots) :
    vx_Run p l e R s m args below meth c H locs cells slots mc ms g rest (Qc (Value.ref b :: As).toArray) XC free := by
  have hK : vx_Back l R p e below s args y 3 8 (PreOf R mc ms Pc) (PostOf Qc mc ms free) (vx_Post XC mc ms free) := vx_callBack cw.1 hM hp.1
  obtain ⟨⟨-, -, -, -, -, -, hcode, -, hy, hlen, hl⟩, hin, hse⟩ := cw
  obtain ⟨hx, hb, hml, ho, -⟩ := S
  obtain ⟨-, ⟨cellB, hcB, hoB, hclB⟩, hPc⟩ := hp
  intro T hT X
  rcases vx_callV X hx (C := C) (bytes := bytes) (maxL := maxL) (ret := ret) ho hl hin hse hcode hy hK (by rw [hT]; exact hcB) hoB hclB hg (hsize.trans hml.symm) (argsL := As) (rest := rest) (fun sig h => hn.trans (hlen sig h)) hstack hW (by rw [hb]; exact hdg)
    (fun vm₁ hW₁ => ⟨hf.1, hf.2, hPc (T.setVm vm₁) hT hW₁⟩) with ⟨v, vm₁, ⟨U', l2, c2, s2⟩, hW₁, X', ⟨g', mk, t, L, e1, e2, hq, h1, hL, h2, h3⟩, st⟩ | ⟨q, vm₁, ⟨U', l2, c2, s2⟩, hW₁, X', ⟨g', mk, t, L, E, ce, e1, e2, hq, hce, hcv, hcl, h1, hL, h2, h3⟩, st⟩
  · dsimp only [Pt.U, Pt.locs, Pt.cells, Pt.slots] at X' e1 e2 h1 h2 h3 st
    subst h1; subst h2; subst h3
    exact Or.inl ⟨v, (T.setVm vm₁).calling g' mk (Value.ref b :: As).toArray, t, U', L, hT, X', hL, e1, e2, hq, st⟩
  · dsimp only [Pt.U, Pt.locs, Pt.cells, Pt.slots] at X' e1 e2 h1 h2 h3 st hcl
    subst h1; subst h2; subst h3
    exact Or.inr ⟨q, (T.setVm vm₁).calling g' mk (Value.ref b :: As).toArray, t, U', L, E, ce, hT, X', hL, e1, e2, hq, hce, hcv, vx_cls hW₁ hcl, st⟩
theorem vx_runS (S : CallFix p m c cc nL s args Ts own) (hM : vx_Met l y ws rm Pc Qc XC mc ms free) (cw : CallB R s args own index y bytes maxL ret ws rm mc ms n ∧ (Cond.static y).before args s = true) (hp : PreS s H Pc As)
    (hg : g.method = m) (hn : As.length = n) (hsize : g.locals.size = nL) (hstack : g.stack = As.reverse ++ rest) (hW : 2 * g.monitorRoom + (rest.map fun v => v.category).sum ≤ 8) (hdg : decode cc g.pc = .ok (.invokestatic index, 3)) (hf : cells + mc ≤ R.cells ∧ slots + ms ≤ R.slots) :
    vx_Run p l e R s m args below meth c H locs cells slots mc ms g rest (Qc As.toArray) XC free := by
  have hK : vx_Back l R p e below s args y 3 8 (PreOf R mc ms Pc) (PostOf Qc mc ms free) (vx_Post XC mc ms free) := vx_callBack cw.1 hM hp.1
  obtain ⟨⟨-, -, -, -, -, -, hcode, hini, hy, hlen, hl⟩, hstt⟩ := cw
  obtain ⟨hx, hb, hml, ho, -⟩ := S
  intro T hT X
  rcases vx_callS X hx (bytes := bytes) (maxL := maxL) (ret := ret) ho hl hstt hini hcode hy hK hg (hsize.trans hml.symm) (argsL := As) (rest := rest) (fun sig h => hn.trans (hlen sig h)) hstack hW (by rw [hb]; exact hdg)
    (fun vm₁ hW₁ => ⟨hf.1, hf.2, hp.2 (T.setVm vm₁) hT hW₁⟩) with ⟨v, vm₁, ⟨U', l2, c2, s2⟩, hW₁, X', ⟨g', mk, t, L, e1, e2, hq, h1, hL, h2, h3⟩, st⟩ | ⟨q, vm₁, ⟨U', l2, c2, s2⟩, hW₁, X', ⟨g', mk, t, L, E, ce, e1, e2, hq, hce, hcv, hcl, h1, hL, h2, h3⟩, st⟩
  · dsimp only [Pt.U, Pt.locs, Pt.cells, Pt.slots] at X' e1 e2 h1 h2 h3 st
    subst h1; subst h2; subst h3
    exact Or.inl ⟨v, (T.setVm vm₁).calling g' mk As.toArray, t, U', L, hT, X', hL, e1, e2, hq, st⟩
  · dsimp only [Pt.U, Pt.locs, Pt.cells, Pt.slots] at X' e1 e2 h1 h2 h3 st hcl
    subst h1; subst h2; subst h3
    exact Or.inr ⟨q, (T.setVm vm₁).calling g' mk As.toArray, t, U', L, E, ce, hT, X', hL, e1, e2, hq, hce, hcv, vx_cls hW₁ hcl, st⟩
end Runs
section Rows
variable {p : Program} {l : Launch} {e : Env} {R : Room} {s : State} {m : MethodId} {args : Array Value} {below : List Frame} {meth : Method} {c : Code} {H : Heap} {locs : List Loc} {cells slots : Nat} {Q : State → Prop}
variable {mc ms : Nat} {free : Addr → Prop} {A0 A1 : Nat → Prop} {H0 : Heap} {a : Array Value} {pc : Nat} {ls : Array Slot} {st0 rest : List Value}
theorem vx_keep {st₀ t T' : State} {L : List Loc} (h0 : st₀.heap = H) (e1 : T'.heap = t.heap) (hS : va_S A0 H0 H locs) (hA : ∀ q, q < H.size → A1 q → A0 q) (hf : ∀ q, free q → A0 q) (hL : ∀ q ∈ L, free q.base) (hF : va_F A1 st₀ t) :
    H.size ≤ T'.heap.size ∧ (∀ q : Nat, q < H.size → ¬ A1 q → T'.heap[q]? = H[q]?) ∧ va_S A0 H0 T'.heap (locs ++ L) := by
  obtain ⟨hz, hk⟩ := hF
  rw [h0] at hz hk
  exact ⟨by rw [e1]; exact hz, fun q h1 h2 => by rw [e1]; exact hk q h1 h2,
    ⟨Nat.le_trans hS.1 (by rw [e1]; exact hz), fun q h1 h2 => by rw [e1, hk q (Nat.lt_of_lt_of_le h1 hS.1) (fun z => h2 (hA q (Nat.lt_of_lt_of_le h1 hS.1) z))]; exact hS.2.1 q h1 h2, fun q hq => by
      rcases List.mem_append.mp hq with h | h
      · exact hS.2.2 q h
      · exact hf _ (hL q h)⟩⟩
theorem vx_calli {S SX : Type} {post : Int32 → S → Prop} {px : SX → Prop} {B : S → State → Prop} {BX : String → SX → State → Prop} {AX : Nat → Prop} (hr : vx_Run p l e R s m args below meth c H locs cells slots mc ms (F0 m pc ls st0) rest (va_Qi post B A1 a) (vx_X px BX AX) free) (hS : va_S A0 H0 H locs) (hA : ∀ q, q < H.size → A1 q → A0 q) (hf : ∀ q, free q → A0 q) (hAX : ∀ q, q < H.size → AX q → A0 q)
    (kx : ∀ (E : String) (ce : Cell) (q9 : Addr) (u : SX) (t : State) (H1 : Heap) (locs1 : List Loc), t.heap = H1 → s.vm.Alike t.vm → px u → BX E u t → H.size ≤ H1.size → (∀ q : Nat, q < H.size → ¬ AX q → H1[q]? = H[q]?) → va_S A0 H0 H1 locs1 → H1[q9]? = some ce → ce.vm = .none → s.vm.findClass E = some ce.cls → vx_W p l e R s m args below meth c H1 locs1 (cells + mc) (slots + ms) Q (F0 m pc ls rest) q9)
    (kk : ∀ (r : Int32) (u : S) (t : State) (H1 : Heap) (locs1 : List Loc), t.heap = H1 → s.vm.Alike t.vm → post r u → B u t → H.size ≤ H1.size → (∀ q : Nat, q < H.size → ¬ A1 q → H1[q]? = H[q]?) → va_S A0 H0 H1 locs1 → W p l e R s m args below meth c H1 locs1 (cells + mc) (slots + ms) Q (F0 m (pc + 3) ls (.int r :: rest))) : W p l e R s m args below meth c H locs cells slots Q (F0 m pc ls st0) := by
  intro T hT X
  rcases hr T hT X with ⟨v, st₀, t, T', L, h0, X', hL, e1, e2, ⟨⟨r, u, hv, hp, hb⟩, hF⟩, st⟩ | ⟨q, st₀, t, T', L, E, ce, h0, X', hL, e1, e2, ⟨u, hp, hb, hF⟩, hce, hcv, hcl, st⟩
  · cases hv
    obtain ⟨k1, k2, k3⟩ := vx_keep h0 e1 hS hA hf hL hF
    obtain ⟨t2, a1, b1⟩ := kk r u t T'.heap (locs ++ L) e1.symm (by rw [← e2]; exact X'.warmed.alike) hp hb k1 k2 k3 T' rfl X'
    exact ⟨t2, st t2 a1, b1⟩
  · obtain ⟨k1, k2, k3⟩ := vx_keep h0 e1 hS hAX hf hL hF
    obtain ⟨t2, a1, b1⟩ := kx E ce q u t T'.heap (locs ++ L) e1.symm (by rw [← e2]; exact X'.warmed.alike) hp hb k1 k2 k3 (by rw [e1]; exact hce) hcv hcl T' rfl X'
    exact ⟨t2, st.trans a1, b1⟩
theorem vx_calll {S SX : Type} {post : Int64 → S → Prop} {px : SX → Prop} {B : S → State → Prop} {BX : String → SX → State → Prop} {AX : Nat → Prop} (hr : vx_Run p l e R s m args below meth c H locs cells slots mc ms (F0 m pc ls st0) rest (va_Ql post B A1 a) (vx_X px BX AX) free) (hS : va_S A0 H0 H locs) (hA : ∀ q, q < H.size → A1 q → A0 q) (hf : ∀ q, free q → A0 q) (hAX : ∀ q, q < H.size → AX q → A0 q)
    (kx : ∀ (E : String) (ce : Cell) (q9 : Addr) (u : SX) (t : State) (H1 : Heap) (locs1 : List Loc), t.heap = H1 → s.vm.Alike t.vm → px u → BX E u t → H.size ≤ H1.size → (∀ q : Nat, q < H.size → ¬ AX q → H1[q]? = H[q]?) → va_S A0 H0 H1 locs1 → H1[q9]? = some ce → ce.vm = .none → s.vm.findClass E = some ce.cls → vx_W p l e R s m args below meth c H1 locs1 (cells + mc) (slots + ms) Q (F0 m pc ls rest) q9)
    (kk : ∀ (r : Int64) (u : S) (t : State) (H1 : Heap) (locs1 : List Loc), t.heap = H1 → s.vm.Alike t.vm → post r u → B u t → H.size ≤ H1.size → (∀ q : Nat, q < H.size → ¬ A1 q → H1[q]? = H[q]?) → va_S A0 H0 H1 locs1 → W p l e R s m args below meth c H1 locs1 (cells + mc) (slots + ms) Q (F0 m (pc + 3) ls (.long r :: rest))) : W p l e R s m args below meth c H locs cells slots Q (F0 m pc ls st0) := by
  intro T hT X
  rcases hr T hT X with ⟨v, st₀, t, T', L, h0, X', hL, e1, e2, ⟨⟨r, u, hv, hp, hb⟩, hF⟩, st⟩ | ⟨q, st₀, t, T', L, E, ce, h0, X', hL, e1, e2, ⟨u, hp, hb, hF⟩, hce, hcv, hcl, st⟩
  · cases hv
    obtain ⟨k1, k2, k3⟩ := vx_keep h0 e1 hS hA hf hL hF
    obtain ⟨t2, a1, b1⟩ := kk r u t T'.heap (locs ++ L) e1.symm (by rw [← e2]; exact X'.warmed.alike) hp hb k1 k2 k3 T' rfl X'
    exact ⟨t2, st t2 a1, b1⟩
  · obtain ⟨k1, k2, k3⟩ := vx_keep h0 e1 hS hAX hf hL hF
    obtain ⟨t2, a1, b1⟩ := kx E ce q u t T'.heap (locs ++ L) e1.symm (by rw [← e2]; exact X'.warmed.alike) hp hb k1 k2 k3 (by rw [e1]; exact hce) hcv hcl T' rfl X'
    exact ⟨t2, st.trans a1, b1⟩
theorem vx_callf {S SX : Type} {post : UInt32 → S → Prop} {px : SX → Prop} {B : S → State → Prop} {BX : String → SX → State → Prop} {AX : Nat → Prop} (hr : vx_Run p l e R s m args below meth c H locs cells slots mc ms (F0 m pc ls st0) rest (va_Qf post B A1 a) (vx_X px BX AX) free) (hS : va_S A0 H0 H locs) (hA : ∀ q, q < H.size → A1 q → A0 q) (hf : ∀ q, free q → A0 q) (hAX : ∀ q, q < H.size → AX q → A0 q)
    (kx : ∀ (E : String) (ce : Cell) (q9 : Addr) (u : SX) (t : State) (H1 : Heap) (locs1 : List Loc), t.heap = H1 → s.vm.Alike t.vm → px u → BX E u t → H.size ≤ H1.size → (∀ q : Nat, q < H.size → ¬ AX q → H1[q]? = H[q]?) → va_S A0 H0 H1 locs1 → H1[q9]? = some ce → ce.vm = .none → s.vm.findClass E = some ce.cls → vx_W p l e R s m args below meth c H1 locs1 (cells + mc) (slots + ms) Q (F0 m pc ls rest) q9)
    (kk : ∀ (r : UInt32) (u : S) (t : State) (H1 : Heap) (locs1 : List Loc), t.heap = H1 → s.vm.Alike t.vm → post r u → B u t → H.size ≤ H1.size → (∀ q : Nat, q < H.size → ¬ A1 q → H1[q]? = H[q]?) → va_S A0 H0 H1 locs1 → W p l e R s m args below meth c H1 locs1 (cells + mc) (slots + ms) Q (F0 m (pc + 3) ls (.float r :: rest))) : W p l e R s m args below meth c H locs cells slots Q (F0 m pc ls st0) := by
  intro T hT X
  rcases hr T hT X with ⟨v, st₀, t, T', L, h0, X', hL, e1, e2, ⟨⟨r, u, hv, hp, hb⟩, hF⟩, st⟩ | ⟨q, st₀, t, T', L, E, ce, h0, X', hL, e1, e2, ⟨u, hp, hb, hF⟩, hce, hcv, hcl, st⟩
  · cases hv
    obtain ⟨k1, k2, k3⟩ := vx_keep h0 e1 hS hA hf hL hF
    obtain ⟨t2, a1, b1⟩ := kk r u t T'.heap (locs ++ L) e1.symm (by rw [← e2]; exact X'.warmed.alike) hp hb k1 k2 k3 T' rfl X'
    exact ⟨t2, st t2 a1, b1⟩
  · obtain ⟨k1, k2, k3⟩ := vx_keep h0 e1 hS hAX hf hL hF
    obtain ⟨t2, a1, b1⟩ := kx E ce q u t T'.heap (locs ++ L) e1.symm (by rw [← e2]; exact X'.warmed.alike) hp hb k1 k2 k3 (by rw [e1]; exact hce) hcv hcl T' rfl X'
    exact ⟨t2, st.trans a1, b1⟩
theorem vx_calld {S SX : Type} {post : UInt64 → S → Prop} {px : SX → Prop} {B : S → State → Prop} {BX : String → SX → State → Prop} {AX : Nat → Prop} (hr : vx_Run p l e R s m args below meth c H locs cells slots mc ms (F0 m pc ls st0) rest (va_Qd post B A1 a) (vx_X px BX AX) free) (hS : va_S A0 H0 H locs) (hA : ∀ q, q < H.size → A1 q → A0 q) (hf : ∀ q, free q → A0 q) (hAX : ∀ q, q < H.size → AX q → A0 q)
    (kx : ∀ (E : String) (ce : Cell) (q9 : Addr) (u : SX) (t : State) (H1 : Heap) (locs1 : List Loc), t.heap = H1 → s.vm.Alike t.vm → px u → BX E u t → H.size ≤ H1.size → (∀ q : Nat, q < H.size → ¬ AX q → H1[q]? = H[q]?) → va_S A0 H0 H1 locs1 → H1[q9]? = some ce → ce.vm = .none → s.vm.findClass E = some ce.cls → vx_W p l e R s m args below meth c H1 locs1 (cells + mc) (slots + ms) Q (F0 m pc ls rest) q9)
    (kk : ∀ (r : UInt64) (u : S) (t : State) (H1 : Heap) (locs1 : List Loc), t.heap = H1 → s.vm.Alike t.vm → post r u → B u t → H.size ≤ H1.size → (∀ q : Nat, q < H.size → ¬ A1 q → H1[q]? = H[q]?) → va_S A0 H0 H1 locs1 → W p l e R s m args below meth c H1 locs1 (cells + mc) (slots + ms) Q (F0 m (pc + 3) ls (.double r :: rest))) : W p l e R s m args below meth c H locs cells slots Q (F0 m pc ls st0) := by
  intro T hT X
  rcases hr T hT X with ⟨v, st₀, t, T', L, h0, X', hL, e1, e2, ⟨⟨r, u, hv, hp, hb⟩, hF⟩, st⟩ | ⟨q, st₀, t, T', L, E, ce, h0, X', hL, e1, e2, ⟨u, hp, hb, hF⟩, hce, hcv, hcl, st⟩
  · cases hv
    obtain ⟨k1, k2, k3⟩ := vx_keep h0 e1 hS hA hf hL hF
    obtain ⟨t2, a1, b1⟩ := kk r u t T'.heap (locs ++ L) e1.symm (by rw [← e2]; exact X'.warmed.alike) hp hb k1 k2 k3 T' rfl X'
    exact ⟨t2, st t2 a1, b1⟩
  · obtain ⟨k1, k2, k3⟩ := vx_keep h0 e1 hS hAX hf hL hF
    obtain ⟨t2, a1, b1⟩ := kx E ce q u t T'.heap (locs ++ L) e1.symm (by rw [← e2]; exact X'.warmed.alike) hp hb k1 k2 k3 (by rw [e1]; exact hce) hcv hcl T' rfl X'
    exact ⟨t2, st.trans a1, b1⟩
theorem vx_callv {S SX : Type} {post : S → Prop} {px : SX → Prop} {B : S → State → Prop} {BX : String → SX → State → Prop} {AX : Nat → Prop} (hr : vx_Run p l e R s m args below meth c H locs cells slots mc ms (F0 m pc ls st0) rest (va_Qv post B A1 a) (vx_X px BX AX) free) (hS : va_S A0 H0 H locs) (hA : ∀ q, q < H.size → A1 q → A0 q) (hf : ∀ q, free q → A0 q) (hAX : ∀ q, q < H.size → AX q → A0 q)
    (kx : ∀ (E : String) (ce : Cell) (q9 : Addr) (u : SX) (t : State) (H1 : Heap) (locs1 : List Loc), t.heap = H1 → s.vm.Alike t.vm → px u → BX E u t → H.size ≤ H1.size → (∀ q : Nat, q < H.size → ¬ AX q → H1[q]? = H[q]?) → va_S A0 H0 H1 locs1 → H1[q9]? = some ce → ce.vm = .none → s.vm.findClass E = some ce.cls → vx_W p l e R s m args below meth c H1 locs1 (cells + mc) (slots + ms) Q (F0 m pc ls rest) q9)
    (kk : ∀ (u : S) (t : State) (H1 : Heap) (locs1 : List Loc), t.heap = H1 → s.vm.Alike t.vm → post u → B u t → H.size ≤ H1.size → (∀ q : Nat, q < H.size → ¬ A1 q → H1[q]? = H[q]?) → va_S A0 H0 H1 locs1 → W p l e R s m args below meth c H1 locs1 (cells + mc) (slots + ms) Q (F0 m (pc + 3) ls (rest))) : W p l e R s m args below meth c H locs cells slots Q (F0 m pc ls st0) := by
  intro T hT X
  rcases hr T hT X with ⟨v, st₀, t, T', L, h0, X', hL, e1, e2, ⟨⟨u, hv, hp, hb⟩, hF⟩, st⟩ | ⟨q, st₀, t, T', L, E, ce, h0, X', hL, e1, e2, ⟨u, hp, hb, hF⟩, hce, hcv, hcl, st⟩
  · cases hv
    obtain ⟨k1, k2, k3⟩ := vx_keep h0 e1 hS hA hf hL hF
    obtain ⟨t2, a1, b1⟩ := kk u t T'.heap (locs ++ L) e1.symm (by rw [← e2]; exact X'.warmed.alike) hp hb k1 k2 k3 T' rfl X'
    exact ⟨t2, st t2 a1, b1⟩
  · obtain ⟨k1, k2, k3⟩ := vx_keep h0 e1 hS hAX hf hL hF
    obtain ⟨t2, a1, b1⟩ := kx E ce q u t T'.heap (locs ++ L) e1.symm (by rw [← e2]; exact X'.warmed.alike) hp hb k1 k2 k3 (by rw [e1]; exact hce) hcv hcl T' rfl X'
    exact ⟨t2, st.trans a1, b1⟩
/-- caught by the row x of this method's table; the rows ahead don't take it -/
theorem vx_catch {own name : String} {E : String} {ce : Cell} {q : Addr} (hown : s.vm.findClass own = some m.cls) (pre : List ExceptionTableEntry) (x : ExceptionTableEntry) (suf : List ExceptionTableEntry) (hsplit : c.exceptionTable.toList = pre ++ x :: suf)
    (hpass : ∀ z ∈ pre, covers z pc = false ∨ (z.catchType ≠ 0 ∧ ∃ nm : String, (Cond.classLink own z.catchType nm).before args s = true ∧ va_Nc E nm s)) (hx : covers x pc = true) (h0 : x.catchType ≠ 0)
    (hlink : (Cond.classLink own x.catchType name).before args s = true) (hcast : (Cond.castable E name).before args s = true) (hcell : H[q]? = some ce) (hv : ce.vm = .none) (hcl : s.vm.findClass E = some ce.cls)
    (kk : W p l e R s m args below meth c H locs cells slots Q (F0 m x.handlerPc ls [.ref q])) : vx_W p l e R s m args below meth c H locs cells slots Q (F0 m pc ls rest) q := by
  intro T hT X
  have hpl : e.platform.magicAccessors = ({} : Platform).magicAccessors := by rw [X.admits.platform]
  obtain ⟨c3, c4, hc3, hc4, hasg⟩ := Cond.castable_spec hcast
  cases Option.some.inj (hc3.symm.trans hcl)
  obtain ⟨c5, hc5, hcl5⟩ := Cond.classLink_spec hown hlink e.platform hpl
  cases Option.some.inj (hc4.symm.trans hc5)
  obtain ⟨vm', X', st⟩ := X.thenCaughtThrough q (g := F0 m pc ls rest) rfl (Steps.refl _) (by rw [hT]; exact hcell) (by rw [hv]; rfl) (by obtain ⟨k9, h9, -⟩ := Vm.findClass_spec hcl; exact ⟨k9, h9⟩) pre x suf hsplit
    (fun z hz => by
      rcases hpass z hz with h | ⟨hz0, nm, hl1, hn1⟩
      · exact Or.inl h
      · obtain ⟨c6, hc6, hcl6⟩ := Cond.classLink_spec hown hl1 e.platform hpl
        obtain ⟨a8, b8, h1, h2, h3⟩ := hn1
        cases Option.some.inj (h1.symm.trans hcl)
        cases Option.some.inj (h2.symm.trans hc6)
        exact Or.inr ⟨hz0, _, hcl6, h3⟩) hx (Or.inr ⟨h0, c4, hcl5, hasg⟩)
  obtain ⟨t, a1, b1⟩ := kk (T.setVm vm') hT X'
  exact ⟨t, st.trans a1, b1⟩
end Rows
section Ends
variable {p : Program} {l : Launch} {e : Env} {R : Room} {s : State} {m : MethodId} {args : Array Value} {below : List Frame} {meth : Method} {c : Code} {H : Heap} {locs : List Loc} {cells slots : Nat} {Q : State → Prop}
variable {mc ms : Nat} {free : Addr → Prop} {A0 A1 : Nat → Prop} {H0 : Heap} {a : Array Value} {ls : Array Slot} {st0 rest : List Value}
variable {Qc : Array Value → State → Outcome → State → Prop} {XC : String → State → State → Prop}
/-- what a body that may throw owes at its end -/
def vx_MQ (below : List Frame) (Qc : Array Value → State → Outcome → State → Prop) (XC : String → State → State → Prop) (a : Array Value) (s : State) (mc ms : Nat) (free : Addr → Prop) : State → Prop := fun t =>
  ∃ o, t.status = .running ∧ Ended t below o ∧ vx_Q Qc XC mc ms free a s o t
theorem vx_ret {g : JFrame} {mc ms : Nat} (k : W p l e R s m args below meth c H locs cells slots (MQ below Qc args s mc ms free) g) : W p l e R s m args below meth c H locs cells slots (vx_MQ below Qc XC args s mc ms free) g := by
  intro T hT X
  obtain ⟨t, a1, o, b1, b2, b3, b4⟩ := k T hT X
  exact ⟨t, a1, o, b1, b2, Or.inl ⟨b3, b4⟩⟩
/-- not caught here: it goes on to the caller -/
theorem vx_widen {g : JFrame} {q : Addr} {k n : Nat} (h1 : cells ≤ k) (h2 : slots ≤ n) (kk : vx_W p l e R s m args below meth c H locs k n Q g q) : vx_W p l e R s m args below meth c H locs cells slots Q g q := fun T hT X => kk T hT (stand_widen X h1 h2)
theorem vx_out {pc : Nat} {E : String} {ce : Cell} {q : Addr} {mc ms : Nat} (hout : ∀ x ∈ c.exceptionTable.toList, covers x pc = false) (hlocks : meth.locks = false) (hcell : H[q]? = some ce) (hv : ce.vm = .none) (hcl : s.vm.findClass E = some ce.cls)
    (hx : ∀ t : State, t.heap = H → s.vm.Alike t.vm → XC E s t) (hf : ∀ z ∈ locs, free z.base) (hc : cells ≤ mc) (hs : slots ≤ ms) :
    vx_W p l e R s m args below meth c H locs cells slots (vx_MQ below Qc XC args s mc ms free) (F0 m pc ls rest) q := by
  intro T hT X
  obtain ⟨st1, hrun, hend, hW, hsm⟩ := X.leaveThrown q (g := F0 m pc ls rest) rfl rfl rfl hout hlocks
  have hcell9 : (T.setFrames (.throwing q :: below)).heap[q]? = some ce := by
    show T.heap[q]? = some ce
    rw [hT]; exact hcell
  exact ⟨_, st1, .threw q, hrun, hend, Or.inr ⟨q, rfl, E, ce, locs, hx _ hT hW.alike, hcell9, hv, hcl, hW, hsm.mono hc hs, hf⟩⟩
theorem vx_frame {U : State} {k n : Nat} (h : s.sameButNew ({ U with vm := s.vm } : State) locs k n) : s.heap.size ≤ U.heap.size ∧ ∀ q : Nat, q < s.heap.size → (∀ z ∈ locs, z.base ≠ q) → U.heap[q]? = s.heap[q]? := by
  obtain ⟨-, h2, -, -, -, h6⟩ := h
  refine ⟨h2, fun q hq hz => ?_⟩
  obtain ⟨c9, e1, e2, e3, e4⟩ := h6 q _ (Array.getElem?_eq_getElem hq)
  have hs : c9.slots = (s.heap[q]).slots := Array.ext_getElem? fun i => e4 i fun hm => hz _ hm rfl
  have h9 : c9 = s.heap[q] := by
    rw [hs] at e2
    exact e2
  have e5 : U.heap[q]? = some c9 := e1
  rw [e5, h9, Array.getElem?_eq_getElem hq]
/-- the words of a throw but the four that speak of the heap -/
def vx_no (w : Cond) : Bool := decide (w ≠ .isRef (.static Bundle.tN "UNASSIGNED_STACK" Bundle.steD)) && decide (w ≠ .isRef (.static Bundle.tN "SUPPRESSED_SENTINEL" Bundle.listD)) && decide (w ≠ .laysStatic Bundle.tN "UNASSIGNED_STACK" Bundle.steD) && decide (w ≠ .laysStatic Bundle.tN "SUPPRESSED_SENTINEL" Bundle.listD)
def vx_at0 (own : String) (ic : Nat) (X : String) (names : List String) : List Cond := (Bundle.ownAtoms0 own ic X names).filter vx_no
def vx_atS (own : String) (ic : Nat) (X : String) (names : List String) : List Cond := (Bundle.ownAtoms own ic X names).filter vx_no
/-- a word that the tables alone decide, or a good one -/
def vx_ot (w : Cond) : Bool := w.onTables || goodWord w
theorem vx_ot_at {args a' : Array Value} {s U : State} {w : Cond} (hW : s.WarmedH U.vm) (hvm : s.vm = U.vm) (hg : vx_ot w = true) (h : w.before args s = true) : w.before a' U = true := by
  simp only [vx_ot, Bool.or_eq_true] at hg
  rcases hg with hg | hg
  · exact va_tabs hg hvm h
  · exact word_at hW (good_of_word hg) h
/-- a list's words: the good ones out of the method's own list, the others by premises of their own -/
theorem vx_hat {args : Array Value} {s : State} {L B : List Cond} (h1 : ∀ w ∈ L.filter goodWord, w.before args s = true) (h2 : ∀ w ∈ L.filter (fun w => !goodWord w), w ∈ B) (h3 : ∀ w ∈ B, w.before args s = true) : ∀ w ∈ L, w.before args s = true := by
  intro w hw
  by_cases g : goodWord w = true
  · exact h1 w (List.mem_filter.mpr ⟨hw, g⟩)
  · refine h3 w (h2 w (List.mem_filter.mpr ⟨hw, ?_⟩))
    show (!goodWord w) = true
    cases hgw : goodWord w
    · rfl
    · exact absurd hgw g
theorem vx_c {args : Array Value} {s : State} {w : Cond} {B : List Cond} (h : w.before args s = true) (t : ∀ w ∈ B, w.before args s = true) : ∀ w' ∈ w :: B, w'.before args s = true := fun w' h' => (List.mem_cons.mp h').elim (fun e => by rw [e]; exact h) (t w')
theorem vx_n {args : Array Value} {s : State} : ∀ w ∈ ([] : List Cond), w.before args s = true := fun _ h => nomatch h
theorem vx_own {args : Array Value} {s : State} {L : List Cond} (h1 : ∀ w ∈ L.filter vx_no, w.before args s = true)
    (hU : (Cond.isRef (.static Bundle.tN "UNASSIGNED_STACK" Bundle.steD)).before args s = true) (hN : (Cond.isRef (.static Bundle.tN "SUPPRESSED_SENTINEL" Bundle.listD)).before args s = true)
    (lU : (Cond.laysStatic Bundle.tN "UNASSIGNED_STACK" Bundle.steD).before args s = true) (lN : (Cond.laysStatic Bundle.tN "SUPPRESSED_SENTINEL" Bundle.listD).before args s = true) : ∀ w ∈ L, w.before args s = true := by
  intro w hw
  by_cases e1 : w = .isRef (.static Bundle.tN "UNASSIGNED_STACK" Bundle.steD)
  · rw [e1]; exact hU
  · by_cases e2 : w = .isRef (.static Bundle.tN "SUPPRESSED_SENTINEL" Bundle.listD)
    · rw [e2]; exact hN
    · by_cases e3 : w = .laysStatic Bundle.tN "UNASSIGNED_STACK" Bundle.steD
      · rw [e3]; exact lU
      · by_cases e4 : w = .laysStatic Bundle.tN "SUPPRESSED_SENTINEL" Bundle.listD
        · rw [e4]; exact lN
        · exact h1 w (List.mem_filter.mpr ⟨hw, by unfold vx_no; rw [decide_eq_true e1, decide_eq_true e2, decide_eq_true e3, decide_eq_true e4]; rfl⟩)
/-- where a static field lies, its class's statics cell in H -/
def vx_L (C n d : String) (A : Nat → Prop) (U : State) (H : Heap) : Prop := ∃ (c : ClassId) (k : Class) (i : Nat) (f : Field) (a : Nat) (cell : Cell), U.vm.findClass C = some c ∧ U.fieldFound? C n d = some (c, k, i, f) ∧ f.isStatic = true ∧ k.statics = some a ∧ H[a]? = some cell ∧ cell.vm.isStatics = true ∧ cell.cls = c ∧ f.slot < cell.slots.size ∧ k.staticTypes[f.slot]? = some f.type ∧ ¬ A a
theorem vx_L.moved {C n d : String} {A : Nat → Prop} {u U : State} {H : Heap} (hvm : u.vm.Alike U.vm) (h : vx_L C n d A u H) : vx_L C n d A U H := by
  obtain ⟨c, k, i, f, a, cell, h1, h2, h3, h4, h5, h6, h7, h8, h9, h10⟩ := h
  obtain ⟨k', hi', he⟩ := State.fieldFound?_setVm hvm h2
  exact ⟨c, k', i, f, a, cell, by rw [hvm.findClass]; exact h1, hi', h3, by rw [he]; exact h4, h5, h6, h7, h8, by rw [he]; exact h9, h10⟩
theorem vx_L.kept {C n d : String} {A : Nat → Prop} {U : State} {H H1 : Heap} (h : vx_L C n d A U H) (hq : ∀ a : Nat, a < H.size → ¬ A a → H1[a]? = H[a]?) : vx_L C n d A U H1 := by
  obtain ⟨c, k, i, f, a, cell, h1, h2, h3, h4, h5, h6, h7, h8, h9, h10⟩ := h
  exact ⟨c, k, i, f, a, cell, h1, h2, h3, h4, by rw [hq a (Array.getElem?_eq_some_iff.mp h5).1 h10]; exact h5, h6, h7, h8, h9, h10⟩
theorem vx_L.narrow {C n d : String} {A B : Nat → Prop} {U : State} {H : Heap} (h : vx_L C n d A U H) (hAB : ∀ q, B q → A q) : vx_L C n d B U H := by
  obtain ⟨c, k, i, f, a, cell, h1, h2, h3, h4, h5, h6, h7, h8, h9, h10⟩ := h
  exact ⟨c, k, i, f, a, cell, h1, h2, h3, h4, h5, h6, h7, h8, h9, fun z => h10 (hAB _ z)⟩
theorem vx_L.word {C n d : String} {A : Nat → Prop} {s : State} {args : Array Value} (h : vx_L C n d A s s.heap) : (Cond.laysStatic C n d).before args s = true := by
  obtain ⟨c, k, i, f, a, cell, h1, h2, h3, h4, h5, h6, h7, h8, h9, -⟩ := h
  show (Cond.laysStatic C n d).holds args s none s [] = true
  exact Cond.laysStatic_of h1 h2 h3 h4 h5 h6 h7 h8 h9
/-- .. and what it holds: null or some reference -/
def vx_Zq (C n d : String) (A : Nat → Prop) (U : State) (H : Heap) : Prop := va_Zq C n d A U H ∧ vx_L C n d A U H
theorem vx_Zq.moved {C n d : String} {A : Nat → Prop} {u U : State} {H : Heap} (hvm : u.vm.Alike U.vm) (h : vx_Zq C n d A u H) : vx_Zq C n d A U H := ⟨va_Zq.moved hvm h.1, vx_L.moved hvm h.2⟩
theorem vx_Zq.kept {C n d : String} {A : Nat → Prop} {U : State} {H H1 : Heap} (h : vx_Zq C n d A U H) (hq : ∀ a : Nat, a < H.size → ¬ A a → H1[a]? = H[a]?) : vx_Zq C n d A U H1 := ⟨va_Zq.kept h.1 hq, vx_L.kept h.2 hq⟩
theorem vx_Zq.narrow {C n d : String} {A B : Nat → Prop} {U : State} {H : Heap} (h : vx_Zq C n d A U H) (hAB : ∀ q, B q → A q) : vx_Zq C n d B U H := ⟨va_Zq.narrow h.1 hAB, vx_L.narrow h.2 hAB⟩
theorem vx_Zqof {args : Array Value} {s : State} {C n d : String} {A : Nat → Prop} (hl : (Cond.laysStatic C n d).before args s = true) (hini : (Cond.initialized C).before args s = true) (h : (Cond.isRef (.static C n d)).before args s = true) (hA : ∀ a : Nat, a < s.heap.size → ¬ A a) : vx_Zq C n d A s s.heap := by
  refine ⟨va_Zqof hl hini h hA, ?_⟩
  obtain ⟨c, k, i, f, a, cell, h1, h2, h3, h4, h5, h6, h7, h8, h9⟩ := Cond.laysStatic_spec hl
  exact ⟨c, k, i, f, a, cell, h1, h2, h3, h4, h5, h6, h7, h8, h9, hA a (Array.getElem?_eq_some_iff.mp h5).1⟩
theorem vx_isRef {C n d : String} {v : Value} {A : Nat → Prop} {s : State} {args : Array Value} (h : va_Z C n d v A s s.heap) (hv : v.isRef = true) : (Cond.isRef (.static C n d)).before args s = true := by
  obtain ⟨cf, kf, fi, f, a, cell, h1, h2, h3, h4, h5, h6, h7, -⟩ := h
  have he : (Term.static C n d).eval args s none [] s = some v := by
    simp [Term.eval, State.fieldNamed?, h1, h2, h4, h5, h6, h7]
  simp only [Cond.before, Cond.holds, Cond.value, he]
  cases v <;> simp_all [Value.isRef]
theorem vx_isRefq {C n d : String} {A : Nat → Prop} {s : State} {args : Array Value} (h : va_Zq C n d A s s.heap) : (Cond.isRef (.static C n d)).before args s = true := by
  rcases h with h | ⟨t, h⟩
  · exact vx_isRef h rfl
  · exact vx_isRef h rfl
/-- the same frame, seen from here: as if the method were called anew in this heap -/
theorem vx_rebase {T : State} (X : Stand p l e R s m args below meth c T locs cells slots) {R' : Room} (hf : R'.frames ≤ R.frames) (hl : R'.locals ≤ R.locals) (hc : cells + R'.cells ≤ R.cells) (hs : slots + R'.slots ≤ R.slots) :
    Stand p l e R' ((T.setVm s.vm).setFrames (.invoking m args :: below)) m args below meth c T [] 0 0 := by
  have htop : (T.setVm s.vm).topJava?.isSome := X.here.top
  have hF : ((T.setVm s.vm).setFrames (.invoking m args :: below)).frames = .invoking m args :: below := State.frames_setFrames _ (State.cur_lt_of_top htop)
  obtain ⟨g₀, hg0⟩ := Option.isSome_iff_exists.mp htop
  obtain ⟨r, hr⟩ := State.topJava?_eq_some.mp hg0
  have hl9 : e.platform.stackLimits (T.setVm s.vm).me = e.platform.stackLimits s.me := X.limits
  have hb9 : (T.setVm s.vm).me.stackBytes = s.me.stackBytes := X.bytes
  refine ⟨X.admits, X.cas, X.clock, hF, ?_, X.hears, X.method, X.code, X.here, X.tail, X.warmed, ?_, ?_, ?_⟩
  · have h := X.room
    have hU : ((T.setVm s.vm).setFrames (.invoking m args :: below)).localsInUse = s.localsInUse := by
      rw [State.localsInUse_invoking hF (meth := meth) (c := c) X.method X.code, State.localsInUse_invoking X.frames X.method X.code]
    simp only [State.hasRoom, Bool.and_eq_true, decide_eq_true_eq] at h ⊢
    obtain ⟨⟨⟨⟨h1, h2, h3, h4, h5, h6⟩, h7⟩, h8⟩, h9⟩ := h
    rw [X.frames, List.length_cons] at h2 h3
    have q1 := X.heapSize
    have q2 := X.used
    simp only [hF, hU, List.length_cons, State.stackLimits_setFrames, State.stackBytes_setFrames, hl9, hb9]
    refine ⟨⟨⟨⟨by omega, by omega, by omega, by omega, by omega, h6⟩, ?_⟩, ?_⟩, X.book⟩
    · show T.heap.size + R'.cells ≤ e.platform.maxCells
      omega
    · show T.slotsUsed + R'.slots ≤ e.platform.maxSlots
      omega
  · rw [State.stackLimits_setFrames]; rfl
  · rw [State.stackBytes_setFrames]; rfl
  · refine ⟨?_, Nat.le_refl _, Nat.le_refl _, ?_, ?_, fun a c9 h9 => ⟨c9, h9, rfl, rfl, fun _ _ => rfl⟩⟩
    · obtain ⟨t, ht, -⟩ := State.frames_cons hr
      show T.setVm s.vm = { ((T.setVm s.vm).setFrames (.invoking m args :: below)).setFrames (T.setVm s.vm).frames with heap := T.heap, slotsUsed := T.slotsUsed }
      rw [State.setFrames_setFrames, State.setFrames_self ht]
      rfl
    · show T.slotsUsed = T.slotsUsed + ((T.heap.toList.drop T.heap.size).map (·.slots.size)).sum
      rw [List.drop_eq_nil_of_le (Nat.le_of_eq Array.length_toList)]
      rfl
    · show ((T.heap.toList.drop T.heap.size).map (·.slots.size)).sum ≤ 0
      rw [List.drop_eq_nil_of_le (Nat.le_of_eq Array.length_toList)]
      exact Nat.le_refl _
/-- 'throw new E()': new; dup; invokespecial; athrow -/
theorem vx_throw0 {cc : ByteArray} {pc : Nat} (hexec : p.tables.exec = Jvm.exec) (hb : c.code = cc) (hl : l.stackTraces = false) {own cls : String} {names : List String} {ik ic mc ms : Nat} {A : Nat → Prop}
    (hown : s.vm.findClass own = some m.cls) (hcls : Bundle.fit cls = true) (hnames : ∀ n ∈ names, Bundle.fit n = true)
    (hk : (Cond.classLink own ik cls).before args s = true) (hini : (Cond.initialized cls).before args s = true) (hat : ∀ w ∈ vx_at0 own ic cls names, w.before args s = true)
    (hgood : ∀ w ∈ Cond.classLink own ik cls :: Cond.initialized cls :: vx_at0 own ic cls names, vx_ot w = true)
    (hU : vx_Zq Bundle.tN "UNASSIGNED_STACK" Bundle.steD A s s.heap) (hN : vx_Zq Bundle.tN "SUPPRESSED_SENTINEL" Bundle.listD A s s.heap) (hS : va_S A s.heap H locs) (hsize : ls.size = c.maxLocals)
    (d0 : decode cc pc = .ok (.new ik, 3)) (d3 : decode cc (pc + 3) = .ok (.dup, 1)) (d4 : decode cc (pc + 4) = .ok (.invokespecial ic, 3)) (d7 : decode cc (pc + 7) = .ok (.athrow, 1))
    (hout : ∀ x ∈ c.exceptionTable.toList, covers x (pc + 7) = false)
    (hRframes : names.length + 3 < R.frames) (hRlocals : (rest.map fun v => v.category).sum + (13 * (names.length + 1) + 42) ≤ R.locals) (hRcells : cells + 1 ≤ R.cells) (hRslots : slots + 6 ≤ R.slots) (hlocks : meth.locks = false)
    (hx : ∀ t : State, s.vm.Alike t.vm → H.size ≤ t.heap.size → (∀ q : Nat, q < H.size → t.heap[q]? = H[q]?) → XC cls s t)
    (hf : ∀ z ∈ locs, free z.base) (hc : cells + 1 ≤ mc) (hs : slots + 6 ≤ ms) :
    W p l e R s m args below meth c H locs cells slots (vx_MQ below Qc XC args s mc ms free) (F0 m pc ls rest) := by
  intro T hT X
  have htr : e.platform.stackTraces = false := (show e.platform.stackTraces = l.stackTraces by rw [X.admits.platform]).trans hl
  have Y := vx_rebase X (R' := { frames := R.frames, locals := R.locals, cells := 1, slots := 6 }) (Nat.le_refl _) (Nat.le_refl _) hRcells hRslots
  obtain ⟨s', hA⟩ : ∃ z, z = (T.setVm s.vm).setFrames (.invoking m args :: below) := ⟨_, rfl⟩
  rw [← hA] at Y
  have hvm : s'.vm = s.vm := by rw [hA]; rfl
  have hhp : s'.heap = H := by rw [hA]; exact hT
  have hW0 : s.WarmedH s'.vm := by rw [hvm]; exact State.WarmedH.refl s
  have hat' : ∀ w ∈ vx_at0 own ic cls names, w.before args s' = true := fun w hw => vx_ot_at hW0 hvm.symm (hgood w (List.mem_cons_of_mem _ (List.mem_cons_of_mem _ hw))) (hat w hw)
  have hk' : (Cond.classLink own ik cls).before args s' = true := vx_ot_at hW0 hvm.symm (hgood _ List.mem_cons_self) hk
  have hini' : (Cond.initialized cls).before args s' = true := vx_ot_at hW0 hvm.symm (hgood _ (List.mem_cons_of_mem _ List.mem_cons_self)) hini
  have hU' : vx_Zq Bundle.tN "UNASSIGNED_STACK" Bundle.steD A s' s'.heap := by rw [hhp]; exact vx_Zq.moved hW0.alike (hU.kept hS.2.1)
  have hN' : vx_Zq Bundle.tN "SUPPRESSED_SENTINEL" Bundle.listD A s' s'.heap := by rw [hhp]; exact vx_Zq.moved hW0.alike (hN.kept hS.2.1)
  have h : ∀ w ∈ Bundle.ownAtoms0 own ic cls names, w.before args s' = true := vx_own hat' (vx_isRefq hU'.1) (vx_isRefq hN'.1) hU'.2.word hN'.2.word
  have hown' : s'.vm.findClass own = some m.cls := by rw [hvm]; exact hown
  have hins : (Cond.instantiable cls 6).before args s' = true := h _ (by simp [Bundle.ownAtoms0])
  obtain ⟨vm₁, cX, kX, hfX, hkX, -, -, X₁, st1⟩ := Y.newCold hexec (own := own) (C := cls) (index := ik) (n := 6) hown' hk' hins hini'
    (g := F0 m pc ls rest) rfl (by rw [hb]; exact d0) (Nat.le_refl _) (Nat.le_refl _)
  generalize hT1 : (T.setVm vm₁).pushCell { cls := cX, slots := kX.instanceTypes.map defaultValue, vm := .none } = T1 at X₁ st1
  have hcat : (Value.ref T.heap.size).category = 1 := rfl
  have hcellA : T1.heap[T.heap.size]? = some (freshCell cX kX) := by rw [← hT1]; exact State.heap_pushCell_size _ _
  have d3' : decode c.code (pc + 3) = .ok (.dup, 1) := by rw [hb]; exact d3
  obtain ⟨U, hsteps, hrun, hend, hW, hsame, ce, hce, hO⟩ := X₁.ctorThrow0 hexec htr (own := own) (cls := cls) (names := names) (ic := ic) hown' hcls hnames h (fun x hx => nomatch hx) hfX hkX hcellA (by rw [hhp, hT]; exact Nat.le_refl _)
    (g := { method := m, pc := pc + 4, locals := ls, stack := .ref T.heap.size :: .ref T.heap.size :: rest, locked := none }) rfl hsize rfl rfl (rest := rest) rfl
    (by rw [hb]; exact d4) (by rw [hb]; exact d7) hout hRframes (by simp only [List.map_cons, List.sum_cons, hcat]; omega) hlocks
  obtain ⟨f1, f2⟩ := vx_frame hsame
  rw [hhp] at f1 f2
  have hWs : s.WarmedH U.vm := State.WarmedH.trans hW0 hW
  have hcl : s.vm.findClass cls = some ce.cls := by
    have h9 := hO.cls
    rw [hvm] at h9
    exact h9
  have hall : s.sameButNew ({ U with vm := s.vm } : State) locs mc ms := by
    subst hA
    obtain ⟨e1, e2⟩ := hsame
    rw [State.setFrames_setFrames] at e1
    have h2 : (T.setVm s.vm).sameButNew ({ U with vm := s.vm } : State) [] (0 + 1) (0 + 6) := ⟨e1, e2⟩
    have h3 := X.same.trans h2
    rw [List.append_nil] at h3
    exact h3.mono hc hs
  refine ⟨U, ?_, .threw T.heap.size, hrun, hend, Or.inr ⟨T.heap.size, rfl, cls, ce, locs, hx U hWs.alike f1 (fun q hq => f2 q hq (fun z hz => nomatch hz)), hce, hO.vm, hcl, hWs, hall, hf⟩⟩
  refine st1 _ ?_
  show Steps p.tables e below (T1.setTop { method := m, pc := pc + 3, locals := ls, stack := .ref T.heap.size :: rest, locked := none }) _
  jvm_step X₁.here [X₁.here.top, hexec, d3', Value.category]
  exact hsteps
/-- 'throw new E("text")': new; dup; ldc; invokespecial; athrow -/
theorem vx_throwS {cc : ByteArray} {pc : Nat} (hexec : p.tables.exec = Jvm.exec) (hb : c.code = cc) (hl : l.stackTraces = false) {own cls text : String} {names : List String} {ik is ic mc ms sa : Nat} {A : Nat → Prop}
    (hown : s.vm.findClass own = some m.cls) (hcls : Bundle.fit cls = true) (hnames : ∀ n ∈ names, Bundle.fit n = true)
    (hk : (Cond.classLink own ik cls).before args s = true) (hini : (Cond.initialized cls).before args s = true) (hstr : vk_R own is text sa s) (hat : ∀ w ∈ vx_atS own ic cls names, w.before args s = true)
    (hgood : ∀ w ∈ Cond.classLink own ik cls :: Cond.initialized cls :: vx_atS own ic cls names, vx_ot w = true)
    (hU : vx_Zq Bundle.tN "UNASSIGNED_STACK" Bundle.steD A s s.heap) (hN : vx_Zq Bundle.tN "SUPPRESSED_SENTINEL" Bundle.listD A s s.heap) (hS : va_S A s.heap H locs) (hsize : ls.size = c.maxLocals)
    (d0 : decode cc pc = .ok (.new ik, 3)) (d3 : decode cc (pc + 3) = .ok (.dup, 1)) (d4 : decode cc (pc + 4) = .ok (.ldc is, 2)) (d6 : decode cc (pc + 6) = .ok (.invokespecial ic, 3)) (d9 : decode cc (pc + 9) = .ok (.athrow, 1))
    (hout : ∀ x ∈ c.exceptionTable.toList, covers x (pc + 9) = false)
    (hRframes : names.length + 3 < R.frames) (hRlocals : (rest.map fun v => v.category).sum + (13 * (names.length + 1) + 43) ≤ R.locals) (hRcells : cells + 1 ≤ R.cells) (hRslots : slots + 6 ≤ R.slots) (hlocks : meth.locks = false)
    (hx : ∀ t : State, s.vm.Alike t.vm → H.size ≤ t.heap.size → (∀ q : Nat, q < H.size → t.heap[q]? = H[q]?) → XC cls s t)
    (hf : ∀ z ∈ locs, free z.base) (hc : cells + 1 ≤ mc) (hs : slots + 6 ≤ ms) :
    W p l e R s m args below meth c H locs cells slots (vx_MQ below Qc XC args s mc ms free) (F0 m pc ls rest) := by
  intro T hT X
  have htr : e.platform.stackTraces = false := (show e.platform.stackTraces = l.stackTraces by rw [X.admits.platform]).trans hl
  have Y := vx_rebase X (R' := { frames := R.frames, locals := R.locals, cells := 1, slots := 6 }) (Nat.le_refl _) (Nat.le_refl _) hRcells hRslots
  obtain ⟨s', hA⟩ : ∃ z, z = (T.setVm s.vm).setFrames (.invoking m args :: below) := ⟨_, rfl⟩
  rw [← hA] at Y
  have hvm : s'.vm = s.vm := by rw [hA]; rfl
  have hhp : s'.heap = H := by rw [hA]; exact hT
  have hW0 : s.WarmedH s'.vm := by rw [hvm]; exact State.WarmedH.refl s
  have hat' : ∀ w ∈ vx_atS own ic cls names, w.before args s' = true := fun w hw => vx_ot_at hW0 hvm.symm (hgood w (List.mem_cons_of_mem _ (List.mem_cons_of_mem _ hw))) (hat w hw)
  have hk' : (Cond.classLink own ik cls).before args s' = true := vx_ot_at hW0 hvm.symm (hgood _ List.mem_cons_self) hk
  have hini' : (Cond.initialized cls).before args s' = true := vx_ot_at hW0 hvm.symm (hgood _ (List.mem_cons_of_mem _ List.mem_cons_self)) hini
  have hU' : vx_Zq Bundle.tN "UNASSIGNED_STACK" Bundle.steD A s' s'.heap := by rw [hhp]; exact vx_Zq.moved hW0.alike (hU.kept hS.2.1)
  have hN' : vx_Zq Bundle.tN "SUPPRESSED_SENTINEL" Bundle.listD A s' s'.heap := by rw [hhp]; exact vx_Zq.moved hW0.alike (hN.kept hS.2.1)
  have h : ∀ w ∈ Bundle.ownAtoms own ic cls names, w.before args s' = true := vx_own hat' (vx_isRefq hU'.1) (vx_isRefq hN'.1) hU'.2.word hN'.2.word
  have hown' : s'.vm.findClass own = some m.cls := by rw [hvm]; exact hown
  have hins : (Cond.instantiable cls 6).before args s' = true := h _ (by simp [Bundle.ownAtoms])
  obtain ⟨vm₁, cX, kX, hfX, hkX, -, -, X₁, st1⟩ := Y.newCold hexec (own := own) (C := cls) (index := ik) (n := 6) hown' hk' hins hini'
    (g := F0 m pc ls rest) rfl (by rw [hb]; exact d0) (Nat.le_refl _) (Nat.le_refl _)
  generalize hT1 : (T.setVm vm₁).pushCell { cls := cX, slots := kX.instanceTypes.map defaultValue, vm := .none } = T1 at X₁ st1
  have hcat : (Value.ref T.heap.size).category = 1 := rfl
  have hcellA : T1.heap[T.heap.size]? = some (freshCell cX kX) := by rw [← hT1]; exact State.heap_pushCell_size _ _
  have d3' : decode c.code (pc + 3) = .ok (.dup, 1) := by rw [hb]; exact d3
  have d4' : decode c.code (pc + 4) = .ok (.ldc is, 2) := by rw [hb]; exact d4
  have hstr' : vk_R own is text sa s' := vk_R.warm hW0 hstr
  obtain ⟨U, hsteps, hrun, hend, hW, hsame, ce, hce, hO⟩ := X₁.ctorThrowS hexec htr (own := own) (cls := cls) (names := names) (ic := ic) hown' hcls hnames h (fun x hx => nomatch hx) hfX hkX hcellA (by rw [hhp, hT]; exact Nat.le_refl _) (msg := .ref sa) rfl
    (g := { method := m, pc := pc + 6, locals := ls, stack := .ref sa :: .ref T.heap.size :: .ref T.heap.size :: rest, locked := none }) rfl hsize rfl rfl (rest := rest) rfl
    (by rw [hb]; exact d6) (by rw [hb]; exact d9) hout hRframes (by simp only [List.map_cons, List.sum_cons, hcat]; omega) hlocks
  obtain ⟨f1, f2⟩ := vx_frame hsame
  rw [hhp] at f1 f2
  have hWs : s.WarmedH U.vm := State.WarmedH.trans hW0 hW
  have hcl : s.vm.findClass cls = some ce.cls := by
    have h9 := hO.cls
    rw [hvm] at h9
    exact h9
  have hall : s.sameButNew ({ U with vm := s.vm } : State) locs mc ms := by
    subst hA
    obtain ⟨e1, e2⟩ := hsame
    rw [State.setFrames_setFrames] at e1
    have h2 : (T.setVm s.vm).sameButNew ({ U with vm := s.vm } : State) [] (0 + 1) (0 + 6) := ⟨e1, e2⟩
    have h3 := X.same.trans h2
    rw [List.append_nil] at h3
    exact h3.mono hc hs
  refine ⟨U, ?_, .threw T.heap.size, hrun, hend, Or.inr ⟨T.heap.size, rfl, cls, ce, locs, hx U hWs.alike f1 (fun q hq => f2 q hq (fun z hz => nomatch hz)), hce, hO.vm, hcl, hWs, hall, hf⟩⟩
  refine st1 _ ?_
  show Steps p.tables e below (T1.setTop { method := m, pc := pc + 3, locals := ls, stack := .ref T.heap.size :: rest, locked := none }) _
  jvm_step X₁.here [X₁.here.top, hexec, d3', Value.category]
  exact X₁.ldcString hexec (own := own) (text := text) (index := is) (a := sa) hown' hstr'.1 hstr'.2
    (g := { method := m, pc := pc + 4, locals := ls, stack := .ref T.heap.size :: .ref T.heap.size :: rest, locked := none }) rfl d4' _ hsteps
/-- 'throw new E("text")', the text by a wide index -/
theorem vx_throwSW {cc : ByteArray} {pc : Nat} (hexec : p.tables.exec = Jvm.exec) (hb : c.code = cc) (hl : l.stackTraces = false) {own cls text : String} {names : List String} {ik is ic mc ms sa : Nat} {A : Nat → Prop}
    (hown : s.vm.findClass own = some m.cls) (hcls : Bundle.fit cls = true) (hnames : ∀ n ∈ names, Bundle.fit n = true)
    (hk : (Cond.classLink own ik cls).before args s = true) (hini : (Cond.initialized cls).before args s = true) (hstr : vk_R own is text sa s) (hat : ∀ w ∈ vx_atS own ic cls names, w.before args s = true)
    (hgood : ∀ w ∈ Cond.classLink own ik cls :: Cond.initialized cls :: vx_atS own ic cls names, vx_ot w = true)
    (hU : vx_Zq Bundle.tN "UNASSIGNED_STACK" Bundle.steD A s s.heap) (hN : vx_Zq Bundle.tN "SUPPRESSED_SENTINEL" Bundle.listD A s s.heap) (hS : va_S A s.heap H locs) (hsize : ls.size = c.maxLocals)
    (d0 : decode cc pc = .ok (.new ik, 3)) (d3 : decode cc (pc + 3) = .ok (.dup, 1)) (d4 : decode cc (pc + 4) = .ok (.ldc_w is, 3)) (d7 : decode cc (pc + 7) = .ok (.invokespecial ic, 3)) (d10 : decode cc (pc + 10) = .ok (.athrow, 1))
    (hout : ∀ x ∈ c.exceptionTable.toList, covers x (pc + 10) = false)
    (hRframes : names.length + 3 < R.frames) (hRlocals : (rest.map fun v => v.category).sum + (13 * (names.length + 1) + 43) ≤ R.locals) (hRcells : cells + 1 ≤ R.cells) (hRslots : slots + 6 ≤ R.slots) (hlocks : meth.locks = false)
    (hx : ∀ t : State, s.vm.Alike t.vm → H.size ≤ t.heap.size → (∀ q : Nat, q < H.size → t.heap[q]? = H[q]?) → XC cls s t)
    (hf : ∀ z ∈ locs, free z.base) (hc : cells + 1 ≤ mc) (hs : slots + 6 ≤ ms) :
    W p l e R s m args below meth c H locs cells slots (vx_MQ below Qc XC args s mc ms free) (F0 m pc ls rest) := by
  intro T hT X
  have htr : e.platform.stackTraces = false := (show e.platform.stackTraces = l.stackTraces by rw [X.admits.platform]).trans hl
  have Y := vx_rebase X (R' := { frames := R.frames, locals := R.locals, cells := 1, slots := 6 }) (Nat.le_refl _) (Nat.le_refl _) hRcells hRslots
  obtain ⟨s', hA⟩ : ∃ z, z = (T.setVm s.vm).setFrames (.invoking m args :: below) := ⟨_, rfl⟩
  rw [← hA] at Y
  have hvm : s'.vm = s.vm := by rw [hA]; rfl
  have hhp : s'.heap = H := by rw [hA]; exact hT
  have hW0 : s.WarmedH s'.vm := by rw [hvm]; exact State.WarmedH.refl s
  have hat' : ∀ w ∈ vx_atS own ic cls names, w.before args s' = true := fun w hw => vx_ot_at hW0 hvm.symm (hgood w (List.mem_cons_of_mem _ (List.mem_cons_of_mem _ hw))) (hat w hw)
  have hk' : (Cond.classLink own ik cls).before args s' = true := vx_ot_at hW0 hvm.symm (hgood _ List.mem_cons_self) hk
  have hini' : (Cond.initialized cls).before args s' = true := vx_ot_at hW0 hvm.symm (hgood _ (List.mem_cons_of_mem _ List.mem_cons_self)) hini
  have hU' : vx_Zq Bundle.tN "UNASSIGNED_STACK" Bundle.steD A s' s'.heap := by rw [hhp]; exact vx_Zq.moved hW0.alike (hU.kept hS.2.1)
  have hN' : vx_Zq Bundle.tN "SUPPRESSED_SENTINEL" Bundle.listD A s' s'.heap := by rw [hhp]; exact vx_Zq.moved hW0.alike (hN.kept hS.2.1)
  have h : ∀ w ∈ Bundle.ownAtoms own ic cls names, w.before args s' = true := vx_own hat' (vx_isRefq hU'.1) (vx_isRefq hN'.1) hU'.2.word hN'.2.word
  have hown' : s'.vm.findClass own = some m.cls := by rw [hvm]; exact hown
  have hins : (Cond.instantiable cls 6).before args s' = true := h _ (by simp [Bundle.ownAtoms])
  obtain ⟨vm₁, cX, kX, hfX, hkX, -, -, X₁, st1⟩ := Y.newCold hexec (own := own) (C := cls) (index := ik) (n := 6) hown' hk' hins hini'
    (g := F0 m pc ls rest) rfl (by rw [hb]; exact d0) (Nat.le_refl _) (Nat.le_refl _)
  generalize hT1 : (T.setVm vm₁).pushCell { cls := cX, slots := kX.instanceTypes.map defaultValue, vm := .none } = T1 at X₁ st1
  have hcat : (Value.ref T.heap.size).category = 1 := rfl
  have hcellA : T1.heap[T.heap.size]? = some (freshCell cX kX) := by rw [← hT1]; exact State.heap_pushCell_size _ _
  have d3' : decode c.code (pc + 3) = .ok (.dup, 1) := by rw [hb]; exact d3
  have d4' : decode c.code (pc + 4) = .ok (.ldc_w is, 3) := by rw [hb]; exact d4
  have hstr' : vk_R own is text sa s' := vk_R.warm hW0 hstr
  obtain ⟨U, hsteps, hrun, hend, hW, hsame, ce, hce, hO⟩ := X₁.ctorThrowS hexec htr (own := own) (cls := cls) (names := names) (ic := ic) hown' hcls hnames h (fun x hx => nomatch hx) hfX hkX hcellA (by rw [hhp, hT]; exact Nat.le_refl _) (msg := .ref sa) rfl
    (g := { method := m, pc := pc + 7, locals := ls, stack := .ref sa :: .ref T.heap.size :: .ref T.heap.size :: rest, locked := none }) rfl hsize rfl rfl (rest := rest) rfl
    (by rw [hb]; exact d7) (by rw [hb]; exact d10) hout hRframes (by simp only [List.map_cons, List.sum_cons, hcat]; omega) hlocks
  obtain ⟨f1, f2⟩ := vx_frame hsame
  rw [hhp] at f1 f2
  have hWs : s.WarmedH U.vm := State.WarmedH.trans hW0 hW
  have hcl : s.vm.findClass cls = some ce.cls := by
    have h9 := hO.cls
    rw [hvm] at h9
    exact h9
  have hall : s.sameButNew ({ U with vm := s.vm } : State) locs mc ms := by
    subst hA
    obtain ⟨e1, e2⟩ := hsame
    rw [State.setFrames_setFrames] at e1
    have h2 : (T.setVm s.vm).sameButNew ({ U with vm := s.vm } : State) [] (0 + 1) (0 + 6) := ⟨e1, e2⟩
    have h3 := X.same.trans h2
    rw [List.append_nil] at h3
    exact h3.mono hc hs
  refine ⟨U, ?_, .threw T.heap.size, hrun, hend, Or.inr ⟨T.heap.size, rfl, cls, ce, locs, hx U hWs.alike f1 (fun q hq => f2 q hq (fun z hz => nomatch hz)), hce, hO.vm, hcl, hWs, hall, hf⟩⟩
  refine st1 _ ?_
  show Steps p.tables e below (T1.setTop { method := m, pc := pc + 3, locals := ls, stack := .ref T.heap.size :: rest, locked := none }) _
  jvm_step X₁.here [X₁.here.top, hexec, d3', Value.category]
  exact X₁.ldcStringW hexec (own := own) (text := text) (index := is) (a := sa) hown' hstr'.1 hstr'.2
    (g := { method := m, pc := pc + 4, locals := ls, stack := .ref T.heap.size :: .ref T.heap.size :: rest, locked := none }) rfl d4' _ hsteps
end Ends
section Bodies
variable {l : Launch}
theorem vx_ofW {y : MethodName} {ws ws' : List Cond} {rm : Room} {Pc : Array Value → State → Prop} {Qc : Array Value → State → Outcome → State → Prop} {XC : String → State → State → Prop} {mc ms : Nat} {free : Addr → Prop} {cc : ByteArray} {maxL : Nat} {ret : Option FieldType}
    (hy : plainName y.cls = true) (hw : ws = Cond.code y cc maxL ret :: ws')
    (body : ∀ p e s m args below meth c s₁, BodyLoose p l y (headSpec ws rm) cc maxL ret e s m args below meth c s₁ → c.maxLocals = maxL → (∀ x ∈ c.exceptionTable.toList, False) → Pc args s →
      W p l e (headSpec ws rm).room s m args below meth c s.heap [] 0 0 (vx_MQ below Qc XC args s mc ms free) (entryFrame m args maxL)) : vx_Met l y ws rm Pc Qc XC mc ms free := by
  refine MetFree.of_bodyS (code := cc) (maxLocals := maxL) (ret := ret) hy ?_ ?_
  · intro args s m h hn
    obtain ⟨meth, c, h1, h2, h3, h4, h5, h6, -, -⟩ := Cond.code_spec hn (atoms_spec (ws := ws) h _ (by rw [hw]; exact List.mem_cons_self))
    exact ⟨meth, c, h1, h2, h3, h4, h5, h6⟩
  · intro p e s m args below meth c s₁ B hml hP _
    have hh0 : s₁.heap = s.heap := by rw [B.state]; rfl
    have ht : ∀ x ∈ c.exceptionTable.toList, False := by
      obtain ⟨meth9, c9, h1, h2, -, -, -, -, h7, -⟩ := Cond.code_spec B.named (atoms_spec (ws := ws) B.pre _ (by rw [hw]; exact List.mem_cons_self))
      cases Option.some.inj (h1.symm.trans B.method)
      cases Option.some.inj (h2.symm.trans (Stand.of_body B).code)
      intro x hx
      rw [Array.isEmpty_iff.mp h7] at hx
      cases hx
    obtain ⟨t, a1, o, b1, b2, b3⟩ := body p e s m args below meth c s₁ B hml ht hP s₁ hh0 (Stand.of_body B)
    exact ⟨t, o, a1, b1, b2, b3⟩
/-- the table of a body with handlers -/
theorem vx_table {p : Program} {x y : MethodName} {S : Spec} {cc bytes : ByteArray} {maxL maxL' : Nat} {ret ret' : Option FieldType} {e : Env} {s s₁ : State} {m : MethodId} {args : Array Value} {below : List Frame} {meth : Method} {c : Code} {hh : List (Nat × Nat × Nat × Nat)}
    (B : BodyLoose p l y S cc maxL ret e s m args below meth c s₁) (h : (Cond.codeWith y bytes maxL' ret' hh).before args s = true) : c.exceptionTable.toList = tableOf hh := by
  obtain ⟨m9, meth9, c9, hn9, h1, h2, -, -, h6, -⟩ := Cond.codeWith_spec h
  cases Option.some.inj (hn9.symm.trans B.named)
  cases Option.some.inj (h1.symm.trans B.method)
  cases Option.some.inj (h2.symm.trans (Stand.of_body B).code)
  rw [← h6, table_eq]
end Bodies
end VXA
/-! ===== END ===== -/
/-! ===== BEGIN a static call of a method with an exception table ===== -/
section VXS
variable {p : Program} {l : Launch} {e : Env} {R : Room} {s : State} {m : MethodId} {args : Array Value} {below : List Frame} {meth : Method} {c : Code} {T : State} {H : Heap} {locs : List Loc} {cells slots : Nat}
abbrev vx_CSW (R : Room) (s : State) (args : Array Value) (own : String) (index : Nat) (y : MethodName) (bytes : ByteArray) (maxL : Nat) (ret : Option FieldType) (hh : List (Nat × Nat × Nat × Nat)) (ws : List Cond) (rm : Room) (mc ms n : Nat) : Prop :=
  (rm.cells = mc ∧ rm.slots = ms ∧ rm.frames + 1 ≤ R.frames ∧ 8 + (maxL + 11) + rm.locals ≤ R.locals ∧ (∀ w ∈ ws, ∀ (a' : Array Value) (U : State), s.WarmedH U.vm → w.before a' U = true) ∧ Cond.codeWith y bytes maxL ret hh ∈ ws) ∧
  (Cond.codeWith y bytes maxL ret hh).before args s = true ∧ (Cond.initialized y.cls).before args s = true ∧ (y.cls ≠ "java/lang/invoke/MethodHandle" ∧ y.cls ≠ "java/lang/invoke/VarHandle") ∧
  (∀ sig, parseMethodDescriptor y.desc = some sig → n = sig.parameters.length) ∧ (Cond.methodLink own index y).before args s = true ∧ (Cond.static y).before args s = true
theorem vx_cwSW {own : String} {index maxL mc ms : Nat} {y : MethodName} {bytes : ByteArray} {ret : Option FieldType} {hh : List (Nat × Nat × Nat × Nat)} {Ts ws ws' : List Cond} {rm : Room} (n : Nat) (ht : ∀ w ∈ Ts, w.before args s = true) (hT : GoodIn Ts (va_wsS own index y ws)) (hw : ws = Cond.codeWith y bytes maxL ret hh :: ws') (hrc : rm.cells = mc) (hrs : rm.slots = ms)
    (hd : y.cls ≠ "java/lang/invoke/MethodHandle" ∧ y.cls ≠ "java/lang/invoke/VarHandle" ∧ (parseMethodDescriptor y.desc).map (fun d => d.parameters.length) = some n) (hR : rm.frames + 1 ≤ R.frames ∧ 8 + (maxL + 11) + rm.locals ≤ R.locals) :
    vx_CSW R s args own index y bytes maxL ret hh ws rm mc ms n := by
  have ok : ∀ w ∈ va_wsS own index y ws, w.before args s = true := fun w h => ht w (hT w h).1
  have hG : GoodIn Ts ws := fun w h => hT w (by unfold va_wsS; exact List.mem_append_right _ h)
  have hc : Cond.codeWith y bytes maxL ret hh ∈ ws := by rw [hw]; exact List.mem_cons_self
  refine ⟨⟨hrc, hrs, hR.1, hR.2, pay_in ht hG, hc⟩, ht _ (hG _ hc).1, ok _ (by simp [va_wsS]), ⟨hd.1, hd.2.1⟩, fun sig h => ?_, ok _ (by simp [va_wsS]), ok _ (by simp [va_wsS])⟩
  have h2 := hd.2.2
  rw [h] at h2
  exact (Option.some.inj h2).symm
theorem vx_callSW (X : Stand p l e R s m args below meth c T locs cells slots) (hexec : p.tables.exec = Jvm.exec) {own : String} {index : Nat} {y : MethodName} {bytes : ByteArray} {maxL : Nat} {ret : Option FieldType} {hh : List (Nat × Nat × Nat × Nat)}
    (hown : s.vm.findClass own = some m.cls) (hlink : (Cond.methodLink own index y).before args s = true) (hstat : (Cond.static y).before args s = true) (hinit : (Cond.initialized y.cls).before args s = true)
    (hcode : (Cond.codeWith y bytes maxL ret hh).before args s = true) (hy : y.cls ≠ "java/lang/invoke/MethodHandle" ∧ y.cls ≠ "java/lang/invoke/VarHandle")
    {W9 : Nat} {Pre : Pt → Array Value → Prop} {Post : Pt → Array Value → Option Value → Pt → Prop} (hK : Back l R p e below s args y 3 W9 Pre Post)
    {g : JFrame} (hg : g.method = m) (hsize : g.locals.size = c.maxLocals) {argsL rest : List Value} (hlen : ∀ sig, parseMethodDescriptor y.desc = some sig → argsL.length = sig.parameters.length)
    (hstack : g.stack = argsL.reverse ++ rest) (hW : 2 * g.monitorRoom + (rest.map fun v => v.category).sum ≤ W9) (hdg : decode c.code g.pc = .ok (.invokestatic index, 3))
    (hpre : ∀ vm₁, s.WarmedH vm₁ → Pre ⟨T.setVm vm₁, locs, cells, slots⟩ argsL.toArray) :
    ∃ (v : Option Value) (vm₁ : Vm) (B : Pt), s.WarmedH vm₁ ∧ Stand p l e R s m args below meth c B.U B.locs B.cells B.slots ∧ Post ⟨T.setVm vm₁, locs, cells, slots⟩ argsL.toArray v B ∧
      ∀ target, Steps p.tables e below (B.U.setTop { g with pc := g.pc + 3, stack := v.toList ++ rest }) target → Steps p.tables e below (T.setTop g) target := by
  obtain ⟨mk, methM, cM, hnamed, hmethM, -, -, -, -, -, -, hsigM⟩ := Cond.codeWith_spec hcode
  have hstatic : methM.isStatic = true := Cond.static_spec hnamed hmethM hstat
  obtain ⟨kP, hkP, -⟩ := className_of_methodNamed hnamed
  have hinitP : kP.init = .initialized := Cond.initialized_spec (findClass_of_methodNamed hnamed) hkP hinit
  obtain ⟨vm₁, X₁, hstep₁⟩ := X.invokestatic hexec hown hlink hnamed hmethM hstatic hkP hinitP hy (g := g) hg (argsL := argsL) (rest := rest) (hlen _ hsigM) hstack hdg
  obtain ⟨v, B, X', hpost, hsteps⟩ := hK m meth c ⟨T.setVm vm₁, locs, cells, slots⟩ { g with stack := rest } (.invokestatic index) mk argsL.toArray X₁ hg hsize hdg hW (X₁.named hnamed) (hpre vm₁ X₁.warmed)
  exact ⟨v, vm₁, B, X₁.warmed, X', hpost, fun target h => hstep₁ _ fun acts => by rw [doInvoke_state]; exact hsteps.trans h⟩
theorem vx_runSW {y : MethodName} {bytes cc : ByteArray} {maxL nL mc ms n index : Nat} {ret : Option FieldType} {hh : List (Nat × Nat × Nat × Nat)} {ws : List Cond} {rm : Room} {Pc : Array Value → State → Prop} {Qc : Array Value → State → Outcome → State → Prop} {free : Addr → Prop} {Ts : List Cond} {own : String} {As rest : List Value} {g : JFrame}
    (S : CallFix p m c cc nL s args Ts own) (hM : Met l y ws rm Pc Qc mc ms free) (cw : vx_CSW R s args own index y bytes maxL ret hh ws rm mc ms n) (hp : PreS s H Pc As)
    (hg : g.method = m) (hn : As.length = n) (hsize : g.locals.size = nL) (hstack : g.stack = As.reverse ++ rest) (hW : 2 * g.monitorRoom + (rest.map fun v => v.category).sum ≤ 8) (hdg : decode cc g.pc = .ok (.invokestatic index, 3)) (hf : cells + mc ≤ R.cells ∧ slots + ms ≤ R.slots) :
    va_Run p l e R s m args below meth c H locs cells slots mc ms g rest (Qc As.toArray) (free) := by
  obtain ⟨⟨hrc, hrs, hfr, hlo, hws, hcw⟩, hcode, hini, hy, hlen, hl, hstt⟩ := cw
  have hK : Back l R p e below s args y 3 8 (PreOf R mc ms Pc) (PostOf Qc mc ms free) := va_backW (hh := hh) (bytes := bytes) (maxL := maxL) (ret := ret) hM hp.1 hrc hrs hfr hlo hws hcw (fun a' U hW => word_at hW (Or.inl (by first | rfl | simp [Cond.onTables, Cond.keeps, Cond.steady])) hini)
  obtain ⟨hx, hb, hml, ho, -⟩ := S
  intro T hT X
  obtain ⟨v, vm₁, ⟨U', l2, c2, s2⟩, hW₁, X', ⟨g', mk, t, L, e1, e2, hq, h1, hL, h2, h3⟩, st⟩ := vx_callSW X hx (hh := hh) (bytes := bytes) (maxL := maxL) (ret := ret) ho hl hstt hini hcode hy hK hg (hsize.trans hml.symm) (argsL := As) (rest := rest) (fun sig h => hn.trans (hlen sig h)) hstack hW (by rw [hb]; exact hdg)
    (fun vm₁ hW₁ => ⟨hf.1, hf.2, hp.2 (T.setVm vm₁) hT hW₁⟩)
  dsimp only [Pt.U, Pt.locs, Pt.cells, Pt.slots] at X' e1 e2 h1 h2 h3 st
  subst h1; subst h2; subst h3
  exact ⟨v, (T.setVm vm₁).calling g' mk As.toArray, t, U', L, hT, X', hL, e1, e2, hq, st⟩
/-- not caught here, past rows that name other classes: it goes on to the caller -/
theorem vx_outP {p : Program} {l : Launch} {e : Env} {R : Room} {s : State} {m : MethodId} {args : Array Value} {below : List Frame} {meth : Method} {c : Code} {H : Heap} {locs : List Loc} {cells slots : Nat} {free : Addr → Prop} {ls : Array Slot} {rest : List Value} {Qc : Array Value → State → Outcome → State → Prop} {XC : String → State → State → Prop}
    {pc : Nat} {own E : String} {ce : Cell} {q : Addr} {mc ms : Nat} (hown : s.vm.findClass own = some m.cls) (hlocks : meth.locks = false)
    (hpass : ∀ z ∈ c.exceptionTable.toList, covers z pc = false ∨ (z.catchType ≠ 0 ∧ ∃ nm : String, (Cond.classLink own z.catchType nm).before args s = true ∧ va_Nc E nm s)) (hcell : H[q]? = some ce) (hv : ce.vm = .none) (hcl : s.vm.findClass E = some ce.cls)
    (hx : ∀ t : State, t.heap = H → s.vm.Alike t.vm → XC E s t) (hf : ∀ z ∈ locs, free z.base) (hc : cells ≤ mc) (hs : slots ≤ ms) :
    vx_W p l e R s m args below meth c H locs cells slots (vx_MQ below Qc XC args s mc ms free) (F0 m pc ls rest) q := by
  intro T hT X
  have hpl : e.platform.magicAccessors = ({} : Platform).magicAccessors := by rw [X.admits.platform]
  obtain ⟨vm', hW', X', st⟩ := X.outThrough hlocks q (g := F0 m pc ls rest) rfl rfl rfl (cell := ce) (by rw [hT]; exact hcell) (by rw [hv]; rfl)
    (by obtain ⟨k9, h9, -⟩ := Vm.findClass_spec hcl; exact ⟨k9, h9⟩) (fun z hz => by
      rcases hpass z hz with h | ⟨hz0, nm, hl1, hn1⟩
      · exact Or.inl h
      · obtain ⟨c6, hc6, hcl6⟩ := Cond.classLink_spec hown hl1 e.platform hpl
        obtain ⟨a8, b8, h1, h2, h3⟩ := hn1
        cases Option.some.inj (h1.symm.trans hcl)
        cases Option.some.inj (h2.symm.trans hc6)
        exact Or.inr ⟨hz0, _, hcl6, h3⟩)
  obtain ⟨g₀, hfr⟩ := X'.frames_eq
  have hcell9 : ((T.setVm vm').setFrames (.throwing q :: below)).heap[q]? = some ce := by
    show T.heap[q]? = some ce
    rw [hT]; exact hcell
  have hend : Ended ((T.setVm vm').setFrames (.throwing q :: below)) below (.threw q) := State.frames_setFrames _ (State.cur_lt_of_frames hfr)
  refine ⟨(T.setVm vm').setFrames (.throwing q :: below), ?_, .threw q, X'.here.running, hend, Or.inr ⟨q, rfl, E, ce, locs, hx _ hT (X'.ends _).1.alike, hcell9, hv, hcl, (X'.ends _).1, (X'.ends _).2.mono hc hs, hf⟩⟩
  rw [X.pushThrowing_eq]
  exact st
/-- a thing of a world lies in the heap -/
theorem vx_lt {D : va_G} {cl : List vw_C} {ws : va_W} {H1 : Heap} (h : va_P D cl ws H1) {k : Nat} {q : Nat × va_E} (hk : ws[k]? = some q) : q.1 < H1.size := (h k q hk).lt
end VXS
/-! ===== END ===== -/
/-! ===== BEGIN methods with a table of their own: called by a name, returning or throwing ===== -/
section VXH
/-! vx_backW, vx_callVX, vx_callSX, vx_callVW, vx_runVW, vx_runVX, vx_runSX, vx_ofWH follow the same proofs as their sisters above (Free/Laws.lean, Shelf42/LK1.lean); vx_outP calls Shelf42/NT130.lean (outThrough). -/
section
variable {l : Launch} {R : Room} {p : Program} {e : Env} {below : List Frame} {s : State} {sargs : Array Value} {y : MethodName} {len W9 : Nat}
theorem vx_backW {ws : List Cond} {rm : Room} {Pc : Array Value → State → Prop} {Qc : Array Value → State → Outcome → State → Prop} {XC : String → State → State → Prop} {mc ms : Nat} {free : Addr → Prop} {bytes : ByteArray} {maxL : Nat} {ret : Option FieldType} {hh : List (Nat × Nat × Nat × Nat)}
    (hM : vx_Met l y ws rm Pc Qc XC mc ms free) (hblind : FrameBlind Pc) (hrc : rm.cells = mc) (hrs : rm.slots = ms)
    (hframes : rm.frames + 1 ≤ R.frames) (hlocals : W9 + (maxL + 11) + rm.locals ≤ R.locals)
    (hws : ∀ w ∈ ws, ∀ a' U, s.WarmedH U.vm → w.before a' U = true) (hcode : Cond.codeWith y bytes maxL ret hh ∈ ws) (hinit : ∀ a' U, s.WarmedH U.vm → (Cond.initialized y.cls).before a' U = true) :
    vx_Back l R p e below s sargs y len W9 (PreOf R mc ms Pc) (PostOf Qc mc ms free) (vx_Post XC mc ms free) := by
  intro m meth c A g ig mk a X hg hsize hdg hW hn hp
  have h1 : (headSpec ws rm).pre.before a A.U = true := atoms_intro fun w hw => hws w hw _ _ X.warmed
  have h2 : (Cond.codeWith y bytes maxL ret hh).before a A.U = true := hws _ hcode _ _ X.warmed
  have h3 : (Cond.initialized y.cls).before a A.U = true := hinit _ _ X.warmed
  have h4 : A.cells + (headSpec ws rm).room.cells ≤ R.cells := by rw [show (headSpec ws rm).room.cells = mc from hrc]; exact hp.1
  have h5 : A.slots + (headSpec ws rm).room.slots ≤ R.slots := by rw [show (headSpec ws rm).room.slots = ms from hrs]; exact hp.2.1
  have hPc : Pc a (A.U.calling g mk a) := hblind _ _ _ _ hp.2.2
  obtain ⟨U, Ls, c0, s0⟩ := A
  dsimp only [Pt.U, Pt.locs, Pt.cells, Pt.slots] at h1 h2 h3 h4 h5 X hn hPc ⊢
  obtain ⟨m9, methY, cY, hn9, hmY, hcY, -, hlY, -⟩ := Cond.codeWith_spec h2
  cases Option.some.inj (hn9.symm.trans hn)
  obtain ⟨kY, hkY, -⟩ := className_of_methodNamed hn
  have hinitY : kY.init = .initialized := Cond.initialized_spec (findClass_of_methodNamed hn) hkY h3
  have h : At U g.method c below := by rw [hg]; exact X.here
  have hlocals9 : W9 + (maxL + 11) + (headSpec ws rm).room.locals ≤ R.locals := hlocals
  have happ : (headSpec ws rm).appliesLoose y e.platform (U.calling g mk a) = true :=
    Spec.appliesLoose_calling (g := g) h hdg hn hkY hinitY
      (X.room_calling (g := g) (R' := (headSpec ws rm).room) hsize hmY hcY hframes (by rw [hlY]; omega) h4 h5) h1
  obtain ⟨mid, hmid⟩ := h.above
  have hfr : (U.setTop g).frames = (.java g :: mid) ++ below := by rw [State.frames_setTop' g h.top, hmid]; rfl
  obtain ⟨o, s₂, hsteps, -, hend, hq⟩ := Steps.callFree hM p X.admits X.cas X.clock (acts := []) hfr happ hPc trivial
  have hq' : vx_Q Qc XC mc ms free a (U.calling g mk a) o s₂ := hq
  rw [State.frames_setTop' g h.top] at hend
  obtain ⟨g₀, hg0⟩ := Option.isSome_iff_exists.mp h.top
  obtain ⟨r, hr⟩ := State.topJava?_eq_some.mp hg0
  have hr' : (({ U with heap := s₂.heap, slotsUsed := s₂.slotsUsed } : State).setVm s₂.vm).frames = .java g₀ :: r := hr
  rcases hq' with ⟨hqc, L, hfe, hL⟩ | ⟨q, rfl, E, ce, L, hx, hce, hcv, hcl, hW₂, hsm, hL⟩
  · obtain ⟨⟨v, rfl⟩, hW₂, e2, q2, q3, q4, q5, q6⟩ := id hfe
    have e3 : s₂ = ({ (U.calling g mk a).setFrames s₂.frames with heap := s₂.heap, slotsUsed := s₂.slotsUsed } : State).setVm s₂.vm := by
      have : s₂ = ({ s₂ with vm := (U.calling g mk a).vm } : State).setVm s₂.vm := rfl
      rw [e2] at this
      exact this
    obtain ⟨c₂, i₂, len₂, hc₂, hd₂, hf₂⟩ := hend
    have hW' : U.WarmedH s₂.vm := hW₂
    have hcc : c₂ = c := by
      have h1 : s₂.code? g.method = U.code? g.method := by
        rw [State.code?_eq, State.code?_eq, hW'.alike.method?]
      exact Option.some.inj (hc₂.symm.trans (h1.trans h.code))
    subst hcc
    have hlen : len₂ = len := by rw [hdg] at hd₂; cases hd₂; rfl
    subst hlen
    have hs₂ : s₂ = (({ U with heap := s₂.heap, slotsUsed := s₂.slotsUsed } : State).setVm s₂.vm).setTop { g with pc := g.pc + len₂, stack := v.toList ++ g.stack } := by
      refine e3.trans ?_
      rw [hf₂, State.calling_eq h.top, State.setFrames_setFrames, State.setTop_of_frames _ hr', hr]
      rfl
    have hsame : U.sameButNew ({ U with heap := s₂.heap, slotsUsed := s₂.slotsUsed } : State) L mc ms := by
      refine ⟨?_, q2, q3, q4, q5, q6⟩
      obtain ⟨t, ht, -⟩ := State.frames_cons hr
      show ({ U with heap := s₂.heap, slotsUsed := s₂.slotsUsed } : State) = { U.setFrames U.frames with heap := s₂.heap, slotsUsed := s₂.slotsUsed }
      rw [State.setFrames_self ht]
    subst hg
    refine Or.inl ⟨v, ⟨(({ U with heap := s₂.heap, slotsUsed := s₂.slotsUsed } : State).setVm s₂.vm), Ls ++ L, c0 + mc, s0 + ms⟩,
      ⟨X.admits, X.cas, X.clock, X.frames, X.room, X.hears, X.method, X.code, (X.here.setHeapUsed s₂.heap s₂.slotsUsed).setVm hW'.alike, X.tail, State.WarmedH.trans X.warmed hW', X.limits, X.bytes, X.same.trans (hsame.setVm s.vm)⟩,
      ⟨g, mk, s₂, L, rfl, rfl, hqc, rfl, hL, rfl, rfl⟩, ?_⟩
    show Steps p.tables e below _ ((({ U with heap := s₂.heap, slotsUsed := s₂.slotsUsed } : State).setVm s₂.vm).setTop { g with pc := g.pc + len₂, stack := v.toList ++ g.stack })
    rw [← hs₂]
    exact hsteps
  · obtain ⟨e2, q2, q3, q4, q5, q6⟩ := id hsm
    have e3 : s₂ = ({ (U.calling g mk a).setFrames s₂.frames with heap := s₂.heap, slotsUsed := s₂.slotsUsed } : State).setVm s₂.vm := by
      have : s₂ = ({ s₂ with vm := (U.calling g mk a).vm } : State).setVm s₂.vm := rfl
      rw [e2] at this
      exact this
    have hf₂ : s₂.frames = .throwing q :: .java g :: U.frames.tail := hend
    have hW' : U.WarmedH s₂.vm := hW₂
    have hs₂ : s₂ = ((({ U with heap := s₂.heap, slotsUsed := s₂.slotsUsed } : State).setVm s₂.vm).setTop g).pushFrame (.throwing q) := by
      refine e3.trans ?_
      rw [hf₂, State.calling_eq h.top, State.setFrames_setFrames, State.pushFrame, State.frames_setTop _ hr', State.setTop_of_frames _ hr', State.setFrames_setFrames, hr]
      rfl
    have hsame : U.sameButNew ({ U with heap := s₂.heap, slotsUsed := s₂.slotsUsed } : State) L mc ms := by
      refine ⟨?_, q2, q3, q4, q5, q6⟩
      obtain ⟨t, ht, -⟩ := State.frames_cons hr
      show ({ U with heap := s₂.heap, slotsUsed := s₂.slotsUsed } : State) = { U.setFrames U.frames with heap := s₂.heap, slotsUsed := s₂.slotsUsed }
      rw [State.setFrames_self ht]
    subst hg
    refine Or.inr ⟨q, ⟨(({ U with heap := s₂.heap, slotsUsed := s₂.slotsUsed } : State).setVm s₂.vm), Ls ++ L, c0 + mc, s0 + ms⟩,
      ⟨X.admits, X.cas, X.clock, X.frames, X.room, X.hears, X.method, X.code, (X.here.setHeapUsed s₂.heap s₂.slotsUsed).setVm hW'.alike, X.tail, State.WarmedH.trans X.warmed hW', X.limits, X.bytes, X.same.trans (hsame.setVm s.vm)⟩,
      ⟨g, mk, s₂, L, E, ce, rfl, rfl, hx, hce, hcv, hcl, rfl, hL, rfl, rfl⟩, ?_⟩
    show Steps p.tables e below _ (((({ U with heap := s₂.heap, slotsUsed := s₂.slotsUsed } : State).setVm s₂.vm).setTop g).pushFrame (.throwing q))
    rw [← hs₂]
    exact hsteps
end
variable {p : Program} {l : Launch} {e : Env} {R : Room} {s : State} {m : MethodId} {args : Array Value} {below : List Frame} {meth : Method} {c : Code} {T : State} {H : Heap} {locs : List Loc} {cells slots : Nat}
theorem vx_callVX (X : Stand p l e R s m args below meth c T locs cells slots) (hexec : p.tables.exec = Jvm.exec) {own C : String} {index : Nat} {y : MethodName} {bytes : ByteArray} {maxL : Nat} {ret : Option FieldType} {hh : List (Nat × Nat × Nat × Nat)}
    (hown : s.vm.findClass own = some m.cls) (hlink : (Cond.methodLink own index y).before args s = true) (hinst : (Cond.instanceMethod y).before args s = true) (hsel : (Cond.selects C y y).before args s = true)
    (hcode : (Cond.codeWith y bytes maxL ret hh).before args s = true) (hy : y.cls ≠ "java/lang/invoke/MethodHandle" ∧ y.cls ≠ "java/lang/invoke/VarHandle")
    {W9 : Nat} {Pre : Pt → Array Value → Prop} {Post : Pt → Array Value → Option Value → Pt → Prop} {PostX : Pt → Array Value → Addr → Pt → Prop} (hK : vx_Back l R p e below s args y 3 W9 Pre Post PostX)
    {b : Addr} {cellB : Cell} (hcell : T.heap[b]? = some cellB) (hobj : cellB.vm.isStatics = false) (hcls : s.vm.findClass C = some cellB.cls)
    {g : JFrame} (hg : g.method = m) (hsize : g.locals.size = c.maxLocals) {argsL rest : List Value} (hlen : ∀ sig, parseMethodDescriptor y.desc = some sig → argsL.length = sig.parameters.length)
    (hstack : g.stack = argsL.reverse ++ .ref b :: rest) (hW : 2 * g.monitorRoom + (rest.map fun v => v.category).sum ≤ W9) (hdg : decode c.code g.pc = .ok (.invokevirtual index, 3))
    (hpre : ∀ vm₁, s.WarmedH vm₁ → Pre ⟨T.setVm vm₁, locs, cells, slots⟩ (Value.ref b :: argsL).toArray) :
    (∃ (v : Option Value) (vm₁ : Vm) (B : Pt), s.WarmedH vm₁ ∧ Stand p l e R s m args below meth c B.U B.locs B.cells B.slots ∧ Post ⟨T.setVm vm₁, locs, cells, slots⟩ (Value.ref b :: argsL).toArray v B ∧
      ∀ target, Steps p.tables e below (B.U.setTop { g with pc := g.pc + 3, stack := v.toList ++ rest }) target → Steps p.tables e below (T.setTop g) target) ∨
    (∃ (q : Addr) (vm₁ : Vm) (B : Pt), s.WarmedH vm₁ ∧ Stand p l e R s m args below meth c B.U B.locs B.cells B.slots ∧ PostX ⟨T.setVm vm₁, locs, cells, slots⟩ (Value.ref b :: argsL).toArray q B ∧
      Steps p.tables e below (T.setTop g) ((B.U.setTop { g with stack := rest }).pushFrame (.throwing q))) := by
  obtain ⟨mk, methM, hnamed, hmethM, hstM, habM⟩ := Cond.instanceMethod_spec hinst
  obtain ⟨m8, methM', cM, hn8, hmethM', -, -, -, -, -, -, hsigM⟩ := Cond.codeWith_spec hcode
  cases Option.some.inj (hn8.symm.trans hnamed)
  cases hmethM.symm.trans hmethM'
  obtain ⟨c2, r2, m2, q1, q2, q3, q4, kP, hkP, hkPi⟩ := Cond.selects_spec hsel
  cases hcls.symm.trans q1
  cases (State.methodFound?_of_named hnamed hy).symm.trans q2
  cases hnamed.symm.trans q3
  have hselP : selectMethod e.platform s.vm cellB.cls mk = .method mk := by rw [Launch.admits_selectMethod X.admits]; exact q4
  obtain ⟨vm₁, X₁, hstep₁⟩ := X.invokevirtual hexec hown hlink hnamed hmethM hstM hkP hkPi hy (a := b) (cell := cellB) hcell
    (fun z h => by rw [h] at hobj; cases hobj) hselP hmethM habM hkP hkPi (g := g) hg (argsL := argsL) (rest := rest) (hlen _ hsigM) hstack hdg
  rcases hK m meth c ⟨T.setVm vm₁, locs, cells, slots⟩ { g with stack := rest } (.invokevirtual index) mk (Value.ref b :: argsL).toArray X₁ hg hsize hdg hW (X₁.named hnamed) (hpre vm₁ X₁.warmed) with ⟨v, B, X', hpost, hsteps⟩ | ⟨q, B, X', hpost, hsteps⟩
  · exact Or.inl ⟨v, vm₁, B, X₁.warmed, X', hpost, fun target h => hstep₁ _ fun acts => by rw [doInvoke_state]; exact hsteps.trans h⟩
  · exact Or.inr ⟨q, vm₁, B, X₁.warmed, X', hpost, hstep₁ _ fun acts => by rw [doInvoke_state]; exact hsteps⟩
theorem vx_callSX (X : Stand p l e R s m args below meth c T locs cells slots) (hexec : p.tables.exec = Jvm.exec) {own : String} {index : Nat} {y : MethodName} {bytes : ByteArray} {maxL : Nat} {ret : Option FieldType} {hh : List (Nat × Nat × Nat × Nat)}
    (hown : s.vm.findClass own = some m.cls) (hlink : (Cond.methodLink own index y).before args s = true) (hstat : (Cond.static y).before args s = true) (hinit : (Cond.initialized y.cls).before args s = true)
    (hcode : (Cond.codeWith y bytes maxL ret hh).before args s = true) (hy : y.cls ≠ "java/lang/invoke/MethodHandle" ∧ y.cls ≠ "java/lang/invoke/VarHandle")
    {W9 : Nat} {Pre : Pt → Array Value → Prop} {Post : Pt → Array Value → Option Value → Pt → Prop} {PostX : Pt → Array Value → Addr → Pt → Prop} (hK : vx_Back l R p e below s args y 3 W9 Pre Post PostX)
    {g : JFrame} (hg : g.method = m) (hsize : g.locals.size = c.maxLocals) {argsL rest : List Value} (hlen : ∀ sig, parseMethodDescriptor y.desc = some sig → argsL.length = sig.parameters.length)
    (hstack : g.stack = argsL.reverse ++ rest) (hW : 2 * g.monitorRoom + (rest.map fun v => v.category).sum ≤ W9) (hdg : decode c.code g.pc = .ok (.invokestatic index, 3))
    (hpre : ∀ vm₁, s.WarmedH vm₁ → Pre ⟨T.setVm vm₁, locs, cells, slots⟩ argsL.toArray) :
    (∃ (v : Option Value) (vm₁ : Vm) (B : Pt), s.WarmedH vm₁ ∧ Stand p l e R s m args below meth c B.U B.locs B.cells B.slots ∧ Post ⟨T.setVm vm₁, locs, cells, slots⟩ argsL.toArray v B ∧
      ∀ target, Steps p.tables e below (B.U.setTop { g with pc := g.pc + 3, stack := v.toList ++ rest }) target → Steps p.tables e below (T.setTop g) target) ∨
    (∃ (q : Addr) (vm₁ : Vm) (B : Pt), s.WarmedH vm₁ ∧ Stand p l e R s m args below meth c B.U B.locs B.cells B.slots ∧ PostX ⟨T.setVm vm₁, locs, cells, slots⟩ argsL.toArray q B ∧
      Steps p.tables e below (T.setTop g) ((B.U.setTop { g with stack := rest }).pushFrame (.throwing q))) := by
  obtain ⟨mk, methM, cM, hnamed, hmethM, -, -, -, -, -, -, hsigM⟩ := Cond.codeWith_spec hcode
  have hstatic : methM.isStatic = true := Cond.static_spec hnamed hmethM hstat
  obtain ⟨kP, hkP, -⟩ := className_of_methodNamed hnamed
  have hinitP : kP.init = .initialized := Cond.initialized_spec (findClass_of_methodNamed hnamed) hkP hinit
  obtain ⟨vm₁, X₁, hstep₁⟩ := X.invokestatic hexec hown hlink hnamed hmethM hstatic hkP hinitP hy (g := g) hg (argsL := argsL) (rest := rest) (hlen _ hsigM) hstack hdg
  rcases hK m meth c ⟨T.setVm vm₁, locs, cells, slots⟩ { g with stack := rest } (.invokestatic index) mk argsL.toArray X₁ hg hsize hdg hW (X₁.named hnamed) (hpre vm₁ X₁.warmed) with ⟨v, B, X', hpost, hsteps⟩ | ⟨q, B, X', hpost, hsteps⟩
  · exact Or.inl ⟨v, vm₁, B, X₁.warmed, X', hpost, fun target h => hstep₁ _ fun acts => by rw [doInvoke_state]; exact hsteps.trans h⟩
  · exact Or.inr ⟨q, vm₁, B, X₁.warmed, X', hpost, hstep₁ _ fun acts => by rw [doInvoke_state]; exact hsteps⟩
theorem vx_callVW (X : Stand p l e R s m args below meth c T locs cells slots) (hexec : p.tables.exec = Jvm.exec) {own C : String} {index : Nat} {y : MethodName} {bytes : ByteArray} {maxL : Nat} {ret : Option FieldType} {hh : List (Nat × Nat × Nat × Nat)}
    (hown : s.vm.findClass own = some m.cls) (hlink : (Cond.methodLink own index y).before args s = true) (hinst : (Cond.instanceMethod y).before args s = true) (hsel : (Cond.selects C y y).before args s = true)
    (hcode : (Cond.codeWith y bytes maxL ret hh).before args s = true) (hy : y.cls ≠ "java/lang/invoke/MethodHandle" ∧ y.cls ≠ "java/lang/invoke/VarHandle")
    {W9 : Nat} {Pre : Pt → Array Value → Prop} {Post : Pt → Array Value → Option Value → Pt → Prop} (hK : Back l R p e below s args y 3 W9 Pre Post)
    {b : Addr} {cellB : Cell} (hcell : T.heap[b]? = some cellB) (hobj : cellB.vm.isStatics = false) (hcls : s.vm.findClass C = some cellB.cls)
    {g : JFrame} (hg : g.method = m) (hsize : g.locals.size = c.maxLocals) {argsL rest : List Value} (hlen : ∀ sig, parseMethodDescriptor y.desc = some sig → argsL.length = sig.parameters.length)
    (hstack : g.stack = argsL.reverse ++ .ref b :: rest) (hW : 2 * g.monitorRoom + (rest.map fun v => v.category).sum ≤ W9) (hdg : decode c.code g.pc = .ok (.invokevirtual index, 3))
    (hpre : ∀ vm₁, s.WarmedH vm₁ → Pre ⟨T.setVm vm₁, locs, cells, slots⟩ (Value.ref b :: argsL).toArray) :
    ∃ (v : Option Value) (vm₁ : Vm) (B : Pt), s.WarmedH vm₁ ∧ Stand p l e R s m args below meth c B.U B.locs B.cells B.slots ∧ Post ⟨T.setVm vm₁, locs, cells, slots⟩ (Value.ref b :: argsL).toArray v B ∧
      ∀ target, Steps p.tables e below (B.U.setTop { g with pc := g.pc + 3, stack := v.toList ++ rest }) target → Steps p.tables e below (T.setTop g) target := by
  obtain ⟨mk, methM, hnamed, hmethM, hstM, habM⟩ := Cond.instanceMethod_spec hinst
  obtain ⟨m8, methM', cM, hn8, hmethM', -, -, -, -, -, -, hsigM⟩ := Cond.codeWith_spec hcode
  cases Option.some.inj (hn8.symm.trans hnamed)
  cases hmethM.symm.trans hmethM'
  obtain ⟨c2, r2, m2, q1, q2, q3, q4, kP, hkP, hkPi⟩ := Cond.selects_spec hsel
  cases hcls.symm.trans q1
  cases (State.methodFound?_of_named hnamed hy).symm.trans q2
  cases hnamed.symm.trans q3
  have hselP : selectMethod e.platform s.vm cellB.cls mk = .method mk := by rw [Launch.admits_selectMethod X.admits]; exact q4
  obtain ⟨vm₁, X₁, hstep₁⟩ := X.invokevirtual hexec hown hlink hnamed hmethM hstM hkP hkPi hy (a := b) (cell := cellB) hcell
    (fun z h => by rw [h] at hobj; cases hobj) hselP hmethM habM hkP hkPi (g := g) hg (argsL := argsL) (rest := rest) (hlen _ hsigM) hstack hdg
  obtain ⟨v, B, X', hpost, hsteps⟩ := hK m meth c ⟨T.setVm vm₁, locs, cells, slots⟩ { g with stack := rest } (.invokevirtual index) mk (Value.ref b :: argsL).toArray X₁ hg hsize hdg hW (X₁.named hnamed) (hpre vm₁ X₁.warmed)
  exact ⟨v, vm₁, B, X₁.warmed, X', hpost, fun target h => hstep₁ _ fun acts => by rw [doInvoke_state]; exact hsteps.trans h⟩
abbrev vx_CVW (R : Room) (s : State) (args : Array Value) (own C : String) (index : Nat) (y : MethodName) (bytes : ByteArray) (maxL : Nat) (ret : Option FieldType) (hh : List (Nat × Nat × Nat × Nat)) (ws : List Cond) (rm : Room) (mc ms n : Nat) : Prop :=
  (rm.cells = mc ∧ rm.slots = ms ∧ rm.frames + 1 ≤ R.frames ∧ 8 + (maxL + 11) + rm.locals ≤ R.locals ∧ (∀ w ∈ ws, ∀ (a' : Array Value) (U : State), s.WarmedH U.vm → w.before a' U = true) ∧ Cond.codeWith y bytes maxL ret hh ∈ ws) ∧
  (Cond.codeWith y bytes maxL ret hh).before args s = true ∧ (Cond.initialized y.cls).before args s = true ∧ (y.cls ≠ "java/lang/invoke/MethodHandle" ∧ y.cls ≠ "java/lang/invoke/VarHandle") ∧
  (∀ sig, parseMethodDescriptor y.desc = some sig → n = sig.parameters.length) ∧ (Cond.methodLink own index y).before args s = true ∧ (Cond.instanceMethod y).before args s = true ∧ (Cond.selects C y y).before args s = true
theorem vx_cwVW {own C : String} {index maxL mc ms : Nat} {y : MethodName} {bytes : ByteArray} {ret : Option FieldType} {hh : List (Nat × Nat × Nat × Nat)} {Ts ws ws' : List Cond} {rm : Room} (n : Nat) (ht : ∀ w ∈ Ts, w.before args s = true) (hT : GoodIn Ts (wsV own index C y ws)) (hw : ws = Cond.codeWith y bytes maxL ret hh :: ws') (hrc : rm.cells = mc) (hrs : rm.slots = ms)
    (hd : y.cls = C ∧ y.cls ≠ "java/lang/invoke/MethodHandle" ∧ y.cls ≠ "java/lang/invoke/VarHandle" ∧ (parseMethodDescriptor y.desc).map (fun d => d.parameters.length) = some n) (hR : rm.frames + 1 ≤ R.frames ∧ 8 + (maxL + 11) + rm.locals ≤ R.locals) :
    vx_CVW R s args own C index y bytes maxL ret hh ws rm mc ms n := by
  obtain ⟨hC, hd⟩ := hd
  subst hC
  have ok : ∀ w ∈ wsV own index y.cls y ws, w.before args s = true := fun w h => ht w (hT w h).1
  have hG : GoodIn Ts ws := fun w h => hT w (by unfold wsV; exact List.mem_append_right _ h)
  have hc : Cond.codeWith y bytes maxL ret hh ∈ ws := by rw [hw]; exact List.mem_cons_self
  refine ⟨⟨hrc, hrs, hR.1, hR.2, pay_in ht hG, hc⟩, ht _ (hG _ hc).1, ok _ (by simp [wsV]), ⟨hd.1, hd.2.1⟩, fun sig h => ?_, ok _ (by simp [wsV]), ok _ (by simp [wsV]), ok _ (by simp [wsV])⟩
  have h2 := hd.2.2
  rw [h] at h2
  exact (Option.some.inj h2).symm
theorem vx_runVW {y : MethodName} {bytes cc : ByteArray} {maxL nL mc ms n index : Nat} {ret : Option FieldType} {hh : List (Nat × Nat × Nat × Nat)} {ws : List Cond} {rm : Room} {Pc : Array Value → State → Prop} {Qc : Array Value → State → Outcome → State → Prop} {free : Addr → Prop} {Ts : List Cond} {own C : String} {b : Addr} {As rest : List Value} {g : JFrame}
    (S : CallFix p m c cc nL s args Ts own) (hM : Met l y ws rm Pc Qc mc ms free) (cw : vx_CVW R s args own C index y bytes maxL ret hh ws rm mc ms n) (hp : PreV s H C b Pc As)
    (hg : g.method = m) (hn : As.length = n) (hsize : g.locals.size = nL) (hstack : g.stack = As.reverse ++ .ref b :: rest) (hW : 2 * g.monitorRoom + (rest.map fun v => v.category).sum ≤ 8) (hdg : decode cc g.pc = .ok (.invokevirtual index, 3)) (hf : cells + mc ≤ R.cells ∧ slots + ms ≤ R.slots) :
    va_Run p l e R s m args below meth c H locs cells slots mc ms g rest (Qc (Value.ref b :: As).toArray) free := by
  obtain ⟨⟨hrc, hrs, hfr, hlo, hws, hcw⟩, hcode, hini, hy, hlen, hl, hin, hse⟩ := cw
  have hK : Back l R p e below s args y 3 8 (PreOf R mc ms Pc) (PostOf Qc mc ms free) := va_backW (hh := hh) (bytes := bytes) (maxL := maxL) (ret := ret) hM hp.1 hrc hrs hfr hlo hws hcw (fun a' U hW => word_at hW (Or.inl (by first | rfl | simp [Cond.onTables, Cond.keeps, Cond.steady])) hini)
  obtain ⟨hx, hb, hml, ho, -⟩ := S
  obtain ⟨-, ⟨cellB, hcB, hoB, hclB⟩, hPc⟩ := hp
  intro T hT X
  obtain ⟨v, vm₁, ⟨U', l2, c2, s2⟩, hW₁, X', ⟨g', mk, t, L, e1, e2, hq, h1, hL, h2, h3⟩, st⟩ := vx_callVW X hx (C := C) (hh := hh) (bytes := bytes) (maxL := maxL) (ret := ret) ho hl hin hse hcode hy hK (by rw [hT]; exact hcB) hoB hclB hg (hsize.trans hml.symm) (argsL := As) (rest := rest) (fun sig h => hn.trans (hlen sig h)) hstack hW (by rw [hb]; exact hdg)
    (fun vm₁ hW₁ => ⟨hf.1, hf.2, hPc (T.setVm vm₁) hT hW₁⟩)
  dsimp only [Pt.U, Pt.locs, Pt.cells, Pt.slots] at X' e1 e2 h1 h2 h3 st
  subst h1; subst h2; subst h3
  exact ⟨v, (T.setVm vm₁).calling g' mk (Value.ref b :: As).toArray, t, U', L, hT, X', hL, e1, e2, hq, st⟩
section
variable {y : MethodName} {bytes cc : ByteArray} {maxL nL mc ms n index : Nat} {ret : Option FieldType} {ws : List Cond} {rm : Room} {Pc : Array Value → State → Prop} {Qc : Array Value → State → Outcome → State → Prop} {XC : String → State → State → Prop} {free : Addr → Prop} {Ts : List Cond} {own C : String} {b : Addr} {As rest : List Value} {g : JFrame}
theorem vx_runVX {hh : List (Nat × Nat × Nat × Nat)} (S : CallFix p m c cc nL s args Ts own) (hM : vx_Met l y ws rm Pc Qc XC mc ms free) (cw : vx_CVW R s args own C index y bytes maxL ret hh ws rm mc ms n) (hp : PreV s H C b Pc As)
    (hg : g.method = m) (hn : As.length = n) (hsize : g.locals.size = nL) (hstack : g.stack = As.reverse ++ .ref b :: rest) (hW : 2 * g.monitorRoom + (rest.map fun v => v.category).sum ≤ 8) (hdg : decode cc g.pc = .ok (.invokevirtual index, 3)) (hf : cells + mc ≤ R.cells ∧ slots + ms ≤ R.slots) :
    vx_Run p l e R s m args below meth c H locs cells slots mc ms g rest (Qc (Value.ref b :: As).toArray) XC free := by
  obtain ⟨⟨hrc, hrs, hfr, hlo, hws, hcw⟩, hcode, hini, hy, hlen, hl, hin, hse⟩ := cw
  have hK : vx_Back l R p e below s args y 3 8 (PreOf R mc ms Pc) (PostOf Qc mc ms free) (vx_Post XC mc ms free) := vx_backW (hh := hh) (bytes := bytes) (maxL := maxL) (ret := ret) hM hp.1 hrc hrs hfr hlo hws hcw (fun a' U hW => word_at hW (Or.inl (by first | rfl | simp [Cond.onTables, Cond.keeps, Cond.steady])) hini)
  obtain ⟨hx, hb, hml, ho, -⟩ := S
  obtain ⟨-, ⟨cellB, hcB, hoB, hclB⟩, hPc⟩ := hp
  intro T hT X
  rcases vx_callVX X hx (C := C) (hh := hh) (bytes := bytes) (maxL := maxL) (ret := ret) ho hl hin hse hcode hy hK (by rw [hT]; exact hcB) hoB hclB hg (hsize.trans hml.symm) (argsL := As) (rest := rest) (fun sig h => hn.trans (hlen sig h)) hstack hW (by rw [hb]; exact hdg)
    (fun vm₁ hW₁ => ⟨hf.1, hf.2, hPc (T.setVm vm₁) hT hW₁⟩) with ⟨v, vm₁, ⟨U', l2, c2, s2⟩, hW₁, X', ⟨g', mk, t, L, e1, e2, hq, h1, hL, h2, h3⟩, st⟩ | ⟨q, vm₁, ⟨U', l2, c2, s2⟩, hW₁, X', ⟨g', mk, t, L, E, ce, e1, e2, hq, hce, hcv, hcl, h1, hL, h2, h3⟩, st⟩
  · dsimp only [Pt.U, Pt.locs, Pt.cells, Pt.slots] at X' e1 e2 h1 h2 h3 st
    subst h1; subst h2; subst h3
    exact Or.inl ⟨v, (T.setVm vm₁).calling g' mk (Value.ref b :: As).toArray, t, U', L, hT, X', hL, e1, e2, hq, st⟩
  · dsimp only [Pt.U, Pt.locs, Pt.cells, Pt.slots] at X' e1 e2 h1 h2 h3 st hcl
    subst h1; subst h2; subst h3
    exact Or.inr ⟨q, (T.setVm vm₁).calling g' mk (Value.ref b :: As).toArray, t, U', L, E, ce, hT, X', hL, e1, e2, hq, hce, hcv, vx_cls hW₁ hcl, st⟩
theorem vx_runSX {hh : List (Nat × Nat × Nat × Nat)} (S : CallFix p m c cc nL s args Ts own) (hM : vx_Met l y ws rm Pc Qc XC mc ms free) (cw : vx_CSW R s args own index y bytes maxL ret hh ws rm mc ms n) (hp : PreS s H Pc As)
    (hg : g.method = m) (hn : As.length = n) (hsize : g.locals.size = nL) (hstack : g.stack = As.reverse ++ rest) (hW : 2 * g.monitorRoom + (rest.map fun v => v.category).sum ≤ 8) (hdg : decode cc g.pc = .ok (.invokestatic index, 3)) (hf : cells + mc ≤ R.cells ∧ slots + ms ≤ R.slots) :
    vx_Run p l e R s m args below meth c H locs cells slots mc ms g rest (Qc As.toArray) XC free := by
  obtain ⟨⟨hrc, hrs, hfr, hlo, hws, hcw⟩, hcode, hini, hy, hlen, hl, hstt⟩ := cw
  have hK : vx_Back l R p e below s args y 3 8 (PreOf R mc ms Pc) (PostOf Qc mc ms free) (vx_Post XC mc ms free) := vx_backW (hh := hh) (bytes := bytes) (maxL := maxL) (ret := ret) hM hp.1 hrc hrs hfr hlo hws hcw (fun a' U hW => word_at hW (Or.inl (by first | rfl | simp [Cond.onTables, Cond.keeps, Cond.steady])) hini)
  obtain ⟨hx, hb, hml, ho, -⟩ := S
  intro T hT X
  rcases vx_callSX X hx (hh := hh) (bytes := bytes) (maxL := maxL) (ret := ret) ho hl hstt hini hcode hy hK hg (hsize.trans hml.symm) (argsL := As) (rest := rest) (fun sig h => hn.trans (hlen sig h)) hstack hW (by rw [hb]; exact hdg)
    (fun vm₁ hW₁ => ⟨hf.1, hf.2, hp.2 (T.setVm vm₁) hT hW₁⟩) with ⟨v, vm₁, ⟨U', l2, c2, s2⟩, hW₁, X', ⟨g', mk, t, L, e1, e2, hq, h1, hL, h2, h3⟩, st⟩ | ⟨q, vm₁, ⟨U', l2, c2, s2⟩, hW₁, X', ⟨g', mk, t, L, E, ce, e1, e2, hq, hce, hcv, hcl, h1, hL, h2, h3⟩, st⟩
  · dsimp only [Pt.U, Pt.locs, Pt.cells, Pt.slots] at X' e1 e2 h1 h2 h3 st
    subst h1; subst h2; subst h3
    exact Or.inl ⟨v, (T.setVm vm₁).calling g' mk As.toArray, t, U', L, hT, X', hL, e1, e2, hq, st⟩
  · dsimp only [Pt.U, Pt.locs, Pt.cells, Pt.slots] at X' e1 e2 h1 h2 h3 st hcl
    subst h1; subst h2; subst h3
    exact Or.inr ⟨q, (T.setVm vm₁).calling g' mk As.toArray, t, U', L, E, ce, hT, X', hL, e1, e2, hq, hce, hcv, vx_cls hW₁ hcl, st⟩
end
end VXH
theorem vx_ofWH {l : Launch} {y : MethodName} {ws ws' : List Cond} {rm : Room} {Pc : Array Value → State → Prop} {Qc : Array Value → State → Outcome → State → Prop} {XC : String → State → State → Prop} {mc ms : Nat} {free : Addr → Prop} {cc : ByteArray} {maxL : Nat} {ret : Option FieldType} {hh : List (Nat × Nat × Nat × Nat)}
    (hy : plainName y.cls = true) (hw : ws = Cond.codeWith y cc maxL ret hh :: ws')
    (body : ∀ p e s m args below meth c s₁, BodyLoose p l y (headSpec ws rm) cc maxL ret e s m args below meth c s₁ → c.maxLocals = maxL → Pc args s →
      W p l e (headSpec ws rm).room s m args below meth c s.heap [] 0 0 (vx_MQ below Qc XC args s mc ms free) (entryFrame m args maxL)) : vx_Met l y ws rm Pc Qc XC mc ms free := by
  refine MetFree.of_bodyS (code := cc) (maxLocals := maxL) (ret := ret) hy ?_ ?_
  · intro args s m h hn
    obtain ⟨m9, meth, c, hn9, h1, h2, h3, h4, -, h5, h6, -⟩ := Cond.codeWith_spec (atoms_spec (ws := ws) h _ (by rw [hw]; exact List.mem_cons_self))
    cases hn.symm.trans hn9
    exact ⟨meth, c, h1, h2, h3, h4, h5, h6⟩
  · intro p e s m args below meth c s₁ B hml hP _
    have hh0 : s₁.heap = s.heap := by rw [B.state]; rfl
    obtain ⟨t, a1, o, b1, b2, b3⟩ := body p e s m args below meth c s₁ B hml hP s₁ hh0 (Stand.of_body B)
    exact ⟨t, o, a1, b1, b2, b3⟩
/-! ===== END ===== -/
end
section
/-! ===== BEGIN printed: names, fields, word lists, decode rows ===== -/
def RX0 : String := "Gasvault$Customer"
def TX0 : u_T := fun k => match k with
  | 0 => ("Gasvault$Customer", "volume", "I", true)
  | 1 => ("Gasvault$Customer", "in", "I", true)
  | 2 => ("Gasvault$Customer", "out", "I", true)
  | 3 => ("Gasvault$Customer", "rank", "I", true)
  | 4 => ("Gasvault$Customer", "nominations", "LGasvault$Hours;", true)
  | 5 => ("Gasvault$Customer", "inventory", "I", false)
  | 6 => ("Gasvault$Customer", "brought", "J", false)
  | 7 => ("Gasvault$Customer", "taken", "J", false)
  | 8 => ("Gasvault$Customer", "curtailed", "J", false)
  | 9 => ("Gasvault$Customer", "planned", "I", false)
  | 10 => ("Gasvault$Customer", "cut", "I", false)
  | _ => ("Gasvault$Customer", "cause", "I", false)
def tyX0 : Nat → FieldType := fun k => match k with
  | 0 => .int
  | 1 => .int
  | 2 => .int
  | 3 => .int
  | 4 => .object "Gasvault$Hours"
  | 5 => .int
  | 6 => .long
  | 7 => .long
  | 8 => .long
  | 9 => .int
  | 10 => .int
  | _ => .int
abbrev wsX00 : List Cond := u_ws RX0 TX0 12
theorem nmX0 : ∀ a, a < 12 → ∀ b, b < 12 → a ≠ b → (TX0 a).2.1 ≠ (TX0 b).2.1 := by decide +kernel
theorem tyX0_ok : ∀ k, k < 12 → parseFieldDescriptor (TX0 k).2.2.1 = some (tyX0 k) := by decide +kernel
abbrev cX0_init : ByteArray := prog_2_method_1_code
def yX0_init : MethodName := ⟨RX0, "<init>", "(IIII)V"⟩
abbrev cX0_rateInWith : ByteArray := prog_2_method_2_code
def yX0_rateInWith : MethodName := ⟨RX0, "rateInWith", "(I)I"⟩
abbrev cX0_rateOutWith : ByteArray := prog_2_method_3_code
def yX0_rateOutWith : MethodName := ⟨RX0, "rateOutWith", "(I)I"⟩
abbrev cX0_mostIn : ByteArray := prog_2_method_4_code
def yX0_mostIn : MethodName := ⟨RX0, "mostIn", "(I)I"⟩
abbrev cX0_mostOut : ByteArray := prog_2_method_5_code
def yX0_mostOut : MethodName := ⟨RX0, "mostOut", "(I)I"⟩
abbrev cX0_planByRates : ByteArray := prog_2_method_6_code
def yX0_planByRates : MethodName := ⟨RX0, "planByRates", "(I)V"⟩
abbrev cX0_sizeOfPlan : ByteArray := prog_2_method_7_code
def yX0_sizeOfPlan : MethodName := ⟨RX0, "sizeOfPlan", "(Z)I"⟩
abbrev cX0_cutBack : ByteArray := prog_2_method_8_code
def yX0_cutBack : MethodName := ⟨RX0, "cutBack", "(ZII)I"⟩
abbrev cX0_settle : ByteArray := prog_2_method_9_code
def yX0_settle : MethodName := ⟨RX0, "settle", "(I)V"⟩
def RX1 : String := "Gasvault$Hours"
def TX1 : u_T := fun k => match k with
  | _ => ("Gasvault$Hours", "values", "[I", true)
def tyX1 : Nat → FieldType := fun k => match k with
  | _ => .array .int
abbrev wsX10 : List Cond := u_ws RX1 TX1 1
theorem nmX1 : ∀ a, a < 1 → ∀ b, b < 1 → a ≠ b → (TX1 a).2.1 ≠ (TX1 b).2.1 := by decide +kernel
theorem tyX1_ok : ∀ k, k < 1 → parseFieldDescriptor (TX1 k).2.2.1 = some (tyX1 k) := by decide +kernel
abbrev cX1_init : ByteArray := prog_3_method_1_code
def yX1_init : MethodName := ⟨RX1, "<init>", "()V"⟩
abbrev cX1_at : ByteArray := prog_3_method_2_code
def yX1_at : MethodName := ⟨RX1, "at", "(I)I"⟩
abbrev cX1_put : ByteArray := prog_3_method_3_code
def yX1_put : MethodName := ⟨RX1, "put", "(II)I"⟩
def RX2 : String := "Gasvault$Law"
def TX2 : u_T := fun k => match k with
  | 0 => ("Gasvault$Law", "from", "I", true)
  | 1 => ("Gasvault$Law", "to", "I", true)
  | _ => ("Gasvault$Law", "least", "I", true)
def tyX2 : Nat → FieldType := fun k => match k with
  | 0 => .int
  | 1 => .int
  | _ => .int
abbrev wsX20 : List Cond := u_ws RX2 TX2 3
theorem nmX2 : ∀ a, a < 3 → ∀ b, b < 3 → a ≠ b → (TX2 a).2.1 ≠ (TX2 b).2.1 := by decide +kernel
theorem tyX2_ok : ∀ k, k < 3 → parseFieldDescriptor (TX2 k).2.2.1 = some (tyX2 k) := by decide +kernel
abbrev cX2_init : ByteArray := prog_4_method_1_code
def yX2_init : MethodName := ⟨RX2, "<init>", "(III)V"⟩
def RX3 : String := "Gasvault$Store"
def TX3 : u_T := fun k => match k with
  | 0 => ("Gasvault$Store", "kind", "I", true)
  | 1 => ("Gasvault$Store", "least", "I", true)
  | 2 => ("Gasvault$Store", "greatest", "I", true)
  | 3 => ("Gasvault$Store", "mark", "I", true)
  | 4 => ("Gasvault$Store", "volume", "I", false)
  | 5 => ("Gasvault$Store", "water", "I", false)
  | 6 => ("Gasvault$Store", "gas", "I", false)
  | 7 => ("Gasvault$Store", "heat", "J", false)
  | 8 => ("Gasvault$Store", "wells", "I", false)
  | 9 => ("Gasvault$Store", "strength", "I", false)
  | _ => ("Gasvault$Store", "leak", "I", false)
def tyX3 : Nat → FieldType := fun k => match k with
  | 0 => .int
  | 1 => .int
  | 2 => .int
  | 3 => .int
  | 4 => .int
  | 5 => .int
  | 6 => .int
  | 7 => .long
  | 8 => .int
  | 9 => .int
  | _ => .int
abbrev wsX30 : List Cond := u_ws RX3 TX3 11
theorem nmX3 : ∀ a, a < 11 → ∀ b, b < 11 → a ≠ b → (TX3 a).2.1 ≠ (TX3 b).2.1 := by decide +kernel
theorem tyX3_ok : ∀ k, k < 11 → parseFieldDescriptor (TX3 k).2.2.1 = some (tyX3 k) := by decide +kernel
abbrev cX3_init : ByteArray := prog_5_method_1_code
def yX3_init : MethodName := ⟨RX3, "<init>", "(IIIII)V"⟩
abbrev cX3_leastGasFor : ByteArray := prog_5_method_2_code
def yX3_leastGasFor : MethodName := ⟨RX3, "leastGasFor", "(II)I"⟩
abbrev cX3_mostGasFor : ByteArray := prog_5_method_3_code
def yX3_mostGasFor : MethodName := ⟨RX3, "mostGasFor", "(II)I"⟩
abbrev cX3_room : ByteArray := prog_5_method_4_code
def yX3_room : MethodName := ⟨RX3, "room", "()I"⟩
abbrev cX3_pressureNow : ByteArray := prog_5_method_5_code
def yX3_pressureNow : MethodName := ⟨RX3, "pressureNow", "()I"⟩
abbrev cX3_leastGas : ByteArray := prog_5_method_6_code
def yX3_leastGas : MethodName := ⟨RX3, "leastGas", "()I"⟩
abbrev cX3_mostGas : ByteArray := prog_5_method_7_code
def yX3_mostGas : MethodName := ⟨RX3, "mostGas", "()I"⟩
abbrev cX3_rateIn : ByteArray := prog_5_method_8_code
def yX3_rateIn : MethodName := ⟨RX3, "rateIn", "()I"⟩
abbrev cX3_rateOut : ByteArray := prog_5_method_9_code
def yX3_rateOut : MethodName := ⟨RX3, "rateOut", "()I"⟩
abbrev cX3_rateBy : ByteArray := prog_5_method_10_code
def yX3_rateBy : MethodName := ⟨RX3, "rateBy", "(II)I"⟩
abbrev cX3_takeIn : ByteArray := prog_5_method_11_code
def yX3_takeIn : MethodName := ⟨RX3, "takeIn", "(II)V"⟩
abbrev cX3_giveAway : ByteArray := prog_5_method_12_code
def yX3_giveAway : MethodName := ⟨RX3, "giveAway", "(I)I"⟩
abbrev cX3_loseInAnHour : ByteArray := prog_5_method_13_code
def yX3_loseInAnHour : MethodName := ⟨RX3, "loseInAnHour", "()I"⟩
abbrev cX3_loseAtDaysEnd : ByteArray := prog_5_method_14_code
def yX3_loseAtDaysEnd : MethodName := ⟨RX3, "loseAtDaysEnd", "()I"⟩
abbrev cX3_moveWater : ByteArray := prog_5_method_15_code
def yX3_moveWater : MethodName := ⟨RX3, "moveWater", "()V"⟩
abbrev cX3_creep : ByteArray := prog_5_method_16_code
def yX3_creep : MethodName := ⟨RX3, "creep", "()V"⟩
def RX4 : String := "Gasvault"
def TX4 : u_T := fun k => match k with
  | 0 => ("Gasvault", "stores", "Ljava/util/ArrayList;", true)
  | 1 => ("Gasvault", "customers", "Ljava/util/ArrayList;", true)
  | 2 => ("Gasvault", "laws", "Ljava/util/ArrayList;", true)
  | 3 => ("Gasvault", "prices", "LGasvault$Hours;", true)
  | 4 => ("Gasvault", "hour", "I", false)
  | 5 => ("Gasvault", "heatOfWhatComes", "I", false)
  | 6 => ("Gasvault", "lastHourIn", "I", false)
  | 7 => ("Gasvault", "lastHourOut", "I", false)
  | 8 => ("Gasvault", "came", "J", false)
  | 9 => ("Gasvault", "wentOut", "J", false)
  | _ => ("Gasvault", "lost", "J", false)
def tyX4 : Nat → FieldType := fun k => match k with
  | 0 => .object "java/util/ArrayList"
  | 1 => .object "java/util/ArrayList"
  | 2 => .object "java/util/ArrayList"
  | 3 => .object "Gasvault$Hours"
  | 4 => .int
  | 5 => .int
  | 6 => .int
  | 7 => .int
  | 8 => .long
  | 9 => .long
  | _ => .long
abbrev wsX40 : List Cond := u_ws RX4 TX4 11
theorem nmX4 : ∀ a, a < 11 → ∀ b, b < 11 → a ≠ b → (TX4 a).2.1 ≠ (TX4 b).2.1 := by decide +kernel
theorem tyX4_ok : ∀ k, k < 11 → parseFieldDescriptor (TX4 k).2.2.1 = some (tyX4 k) := by decide +kernel
abbrev cX4_init : ByteArray := prog_1_method_1_code
def yX4_init : MethodName := ⟨RX4, "<init>", "()V"⟩
abbrev cX4_store : ByteArray := prog_1_method_2_code
def yX4_store : MethodName := ⟨RX4, "store", "(IIIIII)I"⟩
abbrev cX4_wells : ByteArray := prog_1_method_3_code
def yX4_wells : MethodName := ⟨RX4, "wells", "(III)I"⟩
abbrev cX4_leak : ByteArray := prog_1_method_4_code
def yX4_leak : MethodName := ⟨RX4, "leak", "(II)I"⟩
abbrev cX4_leach : ByteArray := prog_1_method_5_code
def yX4_leach : MethodName := ⟨RX4, "leach", "(II)I"⟩
abbrev cX4_heat : ByteArray := prog_1_method_6_code
def yX4_heat : MethodName := ⟨RX4, "heat", "(I)I"⟩
abbrev cX4_customer : ByteArray := prog_1_method_7_code
def yX4_customer : MethodName := ⟨RX4, "customer", "(IIII)I"⟩
abbrev cX4_nominate : ByteArray := prog_1_method_8_code
def yX4_nominate : MethodName := ⟨RX4, "nominate", "(III)I"⟩
abbrev cX4_transfer : ByteArray := prog_1_method_9_code
def yX4_transfer : MethodName := ⟨RX4, "transfer", "(III)I"⟩
abbrev cX4_law : ByteArray := prog_1_method_10_code
def yX4_law : MethodName := ⟨RX4, "law", "(III)I"⟩
abbrev cX4_price : ByteArray := prog_1_method_11_code
def yX4_price : MethodName := ⟨RX4, "price", "(II)I"⟩
abbrev cX4_pass : ByteArray := prog_1_method_12_code
def yX4_pass : MethodName := ⟨RX4, "pass", "(I)I"⟩
abbrev cX4_pressure : ByteArray := prog_1_method_13_code
def yX4_pressure : MethodName := ⟨RX4, "pressure", "(I)I"⟩
abbrev cX4_rate : ByteArray := prog_1_method_14_code
def yX4_rate : MethodName := ⟨RX4, "rate", "(IZ)I"⟩
abbrev cX4_mix : ByteArray := prog_1_method_15_code
def yX4_mix : MethodName := ⟨RX4, "mix", "(I)I"⟩
abbrev cX4_ofStore : ByteArray := prog_1_method_16_code
def yX4_ofStore : MethodName := ⟨RX4, "ofStore", "(II)J"⟩
abbrev cX4_ofCustomer : ByteArray := prog_1_method_17_code
def yX4_ofCustomer : MethodName := ⟨RX4, "ofCustomer", "(II)J"⟩
abbrev cX4_flow : ByteArray := prog_1_method_18_code
def yX4_flow : MethodName := ⟨RX4, "flow", "(I)I"⟩
abbrev cX4_why : ByteArray := prog_1_method_19_code
def yX4_why : MethodName := ⟨RX4, "why", "(I)I"⟩
abbrev cX4_worth : ByteArray := prog_1_method_20_code
def yX4_worth : MethodName := ⟨RX4, "worth", "(II)J"⟩
abbrev cX4_worthAnew : ByteArray := prog_1_method_21_code
def yX4_worthAnew : MethodName := ⟨RX4, "worthAnew", "(II)J"⟩
abbrev cX4_of : ByteArray := prog_1_method_22_code
def yX4_of : MethodName := ⟨RX4, "of", "(I)J"⟩
abbrev cX4_isWithin : ByteArray := prog_1_method_23_code
def yX4_isWithin : MethodName := ⟨RX4, "isWithin", "(III)Z"⟩
abbrev cX4_storeNumbered : ByteArray := prog_1_method_24_code
def yX4_storeNumbered : MethodName := ⟨RX4, "storeNumbered", "(I)LGasvault$Store;"⟩
abbrev cX4_customerNumbered : ByteArray := prog_1_method_25_code
def yX4_customerNumbered : MethodName := ⟨RX4, "customerNumbered", "(I)LGasvault$Customer;"⟩
abbrev cX4_gasInAllStores : ByteArray := prog_1_method_26_code
def yX4_gasInAllStores : MethodName := ⟨RX4, "gasInAllStores", "()I"⟩
abbrev cX4_allInventories : ByteArray := prog_1_method_27_code
def yX4_allInventories : MethodName := ⟨RX4, "allInventories", "()I"⟩
abbrev cX4_leastByLaw : ByteArray := prog_1_method_28_code
def yX4_leastByLaw : MethodName := ⟨RX4, "leastByLaw", "()I"⟩
abbrev cX4_planTheHour : ByteArray := prog_1_method_29_code
def yX4_planTheHour : MethodName := ⟨RX4, "planTheHour", "()V"⟩
abbrev cX4_plannedAboveTheLaw : ByteArray := prog_1_method_30_code
def yX4_plannedAboveTheLaw : MethodName := ⟨RX4, "plannedAboveTheLaw", "()I"⟩
abbrev cX4_plannedNet : ByteArray := prog_1_method_31_code
def yX4_plannedNet : MethodName := ⟨RX4, "plannedNet", "()I"⟩
abbrev cX4_capacityOfPlant : ByteArray := prog_1_method_32_code
def yX4_capacityOfPlant : MethodName := ⟨RX4, "capacityOfPlant", "(Z)I"⟩
abbrev cX4_curtail : ByteArray := prog_1_method_33_code
def yX4_curtail : MethodName := ⟨RX4, "curtail", "(ZII)V"⟩
abbrev cX4_goOneHour : ByteArray := prog_1_method_34_code
def yX4_goOneHour : MethodName := ⟨RX4, "goOneHour", "()V"⟩
abbrev cX4_flowIn : ByteArray := prog_1_method_35_code
def yX4_flowIn : MethodName := ⟨RX4, "flowIn", "(I)V"⟩
abbrev cX4_flowOut : ByteArray := prog_1_method_36_code
def yX4_flowOut : MethodName := ⟨RX4, "flowOut", "(I)V"⟩
abbrev cX4_endTheDay : ByteArray := prog_1_method_37_code
def yX4_endTheDay : MethodName := ⟨RX4, "endTheDay", "()V"⟩
abbrev cX4_bestSum : ByteArray := prog_1_method_38_code
def yX4_bestSum : MethodName := ⟨RX4, "bestSum", "(LGasvault$Customer;III)J"⟩
abbrev cX4_sumOfWay : ByteArray := prog_1_method_39_code
def yX4_sumOfWay : MethodName := ⟨RX4, "sumOfWay", "(LGasvault$Customer;II)J"⟩
def RX5 : String := "GasvaultModel"
def TX5 : u_T := fun k => match k with
  | 0 => ("GasvaultModel", "thrown", "I", false)
  | 1 => ("GasvaultModel", "now", "I", false)
  | 2 => ("GasvaultModel", "stores", "I", false)
  | 3 => ("GasvaultModel", "kind", "[I", true)
  | 4 => ("GasvaultModel", "volume", "[I", true)
  | 5 => ("GasvaultModel", "water", "[I", true)
  | 6 => ("GasvaultModel", "gas", "[I", true)
  | 7 => ("GasvaultModel", "least", "[I", true)
  | 8 => ("GasvaultModel", "greatest", "[I", true)
  | 9 => ("GasvaultModel", "mark", "[I", true)
  | 10 => ("GasvaultModel", "wells", "[I", true)
  | 11 => ("GasvaultModel", "strength", "[I", true)
  | 12 => ("GasvaultModel", "leak", "[I", true)
  | 13 => ("GasvaultModel", "heat", "[J", true)
  | 14 => ("GasvaultModel", "rateThen", "[I", true)
  | 15 => ("GasvaultModel", "comes", "I", false)
  | 16 => ("GasvaultModel", "customers", "I", false)
  | 17 => ("GasvaultModel", "holds", "[I", true)
  | 18 => ("GasvaultModel", "rateIn", "[I", true)
  | 19 => ("GasvaultModel", "rateOut", "[I", true)
  | 20 => ("GasvaultModel", "rank", "[I", true)
  | 21 => ("GasvaultModel", "inventory", "[I", true)
  | 22 => ("GasvaultModel", "brought", "[J", true)
  | 23 => ("GasvaultModel", "taken", "[J", true)
  | 24 => ("GasvaultModel", "curtailed", "[J", true)
  | 25 => ("GasvaultModel", "nominated", "[I", true)
  | 26 => ("GasvaultModel", "price", "[I", true)
  | 27 => ("GasvaultModel", "laws", "I", false)
  | 28 => ("GasvaultModel", "lawFrom", "[I", true)
  | 29 => ("GasvaultModel", "lawTo", "[I", true)
  | 30 => ("GasvaultModel", "lawLeast", "[I", true)
  | 31 => ("GasvaultModel", "flowed", "I", false)
  | 32 => ("GasvaultModel", "flowedAhead", "I", false)
  | 33 => ("GasvaultModel", "came", "J", false)
  | 34 => ("GasvaultModel", "went", "J", false)
  | 35 => ("GasvaultModel", "lost", "J", false)
  | 36 => ("GasvaultModel", "bring", "[I", true)
  | 37 => ("GasvaultModel", "take", "[I", true)
  | 38 => ("GasvaultModel", "less", "[I", true)
  | _ => ("GasvaultModel", "first", "[I", true)
def tyX5 : Nat → FieldType := fun k => match k with
  | 0 => .int
  | 1 => .int
  | 2 => .int
  | 3 => .array .int
  | 4 => .array .int
  | 5 => .array .int
  | 6 => .array .int
  | 7 => .array .int
  | 8 => .array .int
  | 9 => .array .int
  | 10 => .array .int
  | 11 => .array .int
  | 12 => .array .int
  | 13 => .array .long
  | 14 => .array .int
  | 15 => .int
  | 16 => .int
  | 17 => .array .int
  | 18 => .array .int
  | 19 => .array .int
  | 20 => .array .int
  | 21 => .array .int
  | 22 => .array .long
  | 23 => .array .long
  | 24 => .array .long
  | 25 => .array .int
  | 26 => .array .int
  | 27 => .int
  | 28 => .array .int
  | 29 => .array .int
  | 30 => .array .int
  | 31 => .int
  | 32 => .int
  | 33 => .long
  | 34 => .long
  | 35 => .long
  | 36 => .array .int
  | 37 => .array .int
  | 38 => .array .int
  | _ => .array .int
abbrev wsX50 : List Cond := u_ws RX5 TX5 40
theorem nmX5 : ∀ a, a < 40 → ∀ b, b < 40 → a ≠ b → (TX5 a).2.1 ≠ (TX5 b).2.1 := by decide +kernel
theorem tyX5_ok : ∀ k, k < 40 → parseFieldDescriptor (TX5 k).2.2.1 = some (tyX5 k) := by decide +kernel
abbrev cX5_init : ByteArray := prog_7_method_1_code
def yX5_init : MethodName := ⟨RX5, "<init>", "()V"⟩
abbrev cX5_thrown : ByteArray := prog_7_method_2_code
def yX5_thrown : MethodName := ⟨RX5, "thrown", "()I"⟩
abbrev cX5_holds : ByteArray := prog_7_method_3_code
def yX5_holds : MethodName := ⟨RX5, "holds", "(I)Z"⟩
abbrev cX5_isIn : ByteArray := prog_7_method_4_code
def yX5_isIn : MethodName := ⟨RX5, "isIn", "(III)Z"⟩
abbrev cX5_isStore : ByteArray := prog_7_method_5_code
def yX5_isStore : MethodName := ⟨RX5, "isStore", "(I)Z"⟩
abbrev cX5_isCustomer : ByteArray := prog_7_method_6_code
def yX5_isCustomer : MethodName := ⟨RX5, "isCustomer", "(I)Z"⟩
abbrev cX5_lesser : ByteArray := prog_7_method_7_code
def yX5_lesser : MethodName := ⟨RX5, "lesser", "(II)I"⟩
abbrev cX5_roomOf : ByteArray := prog_7_method_8_code
def yX5_roomOf : MethodName := ⟨RX5, "roomOf", "(I)I"⟩
abbrev cX5_leastGas : ByteArray := prog_7_method_9_code
def yX5_leastGas : MethodName := ⟨RX5, "leastGas", "(II)I"⟩
abbrev cX5_mostGas : ByteArray := prog_7_method_10_code
def yX5_mostGas : MethodName := ⟨RX5, "mostGas", "(II)I"⟩
abbrev cX5_pressureOf : ByteArray := prog_7_method_11_code
def yX5_pressureOf : MethodName := ⟨RX5, "pressureOf", "(I)I"⟩
abbrev cX5_rateOf : ByteArray := prog_7_method_12_code
def yX5_rateOf : MethodName := ⟨RX5, "rateOf", "(IZ)I"⟩
abbrev cX5_store : ByteArray := prog_7_method_13_code
def yX5_store : MethodName := ⟨RX5, "store", "(IIIIII)I"⟩
abbrev cX5_wells : ByteArray := prog_7_method_14_code
def yX5_wells : MethodName := ⟨RX5, "wells", "(III)I"⟩
abbrev cX5_leak : ByteArray := prog_7_method_15_code
def yX5_leak : MethodName := ⟨RX5, "leak", "(II)I"⟩
abbrev cX5_leach : ByteArray := prog_7_method_16_code
def yX5_leach : MethodName := ⟨RX5, "leach", "(II)I"⟩
abbrev cX5_heat : ByteArray := prog_7_method_17_code
def yX5_heat : MethodName := ⟨RX5, "heat", "(I)I"⟩
abbrev cX5_customer : ByteArray := prog_7_method_18_code
def yX5_customer : MethodName := ⟨RX5, "customer", "(IIII)I"⟩
abbrev cX5_rateWith : ByteArray := prog_7_method_19_code
def yX5_rateWith : MethodName := ⟨RX5, "rateWith", "(IIZ)I"⟩
abbrev cX5_nominate : ByteArray := prog_7_method_20_code
def yX5_nominate : MethodName := ⟨RX5, "nominate", "(III)I"⟩
abbrev cX5_transfer : ByteArray := prog_7_method_21_code
def yX5_transfer : MethodName := ⟨RX5, "transfer", "(III)I"⟩
abbrev cX5_law : ByteArray := prog_7_method_22_code
def yX5_law : MethodName := ⟨RX5, "law", "(III)I"⟩
abbrev cX5_lawNow : ByteArray := prog_7_method_23_code
def yX5_lawNow : MethodName := ⟨RX5, "lawNow", "()I"⟩
abbrev cX5_price : ByteArray := prog_7_method_24_code
def yX5_price : MethodName := ⟨RX5, "price", "(II)I"⟩
abbrev cX5_all : ByteArray := prog_7_method_25_code
def yX5_all : MethodName := ⟨RX5, "all", "()J"⟩
abbrev cX5_sum : ByteArray := prog_7_method_26_code
def yX5_sum : MethodName := ⟨RX5, "sum", "(Z)I"⟩
abbrev cX5_curtails : ByteArray := prog_7_method_27_code
def yX5_curtails : MethodName := ⟨RX5, "curtails", "(ZII)V"⟩
abbrev cX5_laysFirst : ByteArray := prog_7_method_28_code
def yX5_laysFirst : MethodName := ⟨RX5, "laysFirst", "(I)V"⟩
abbrev cX5_can : ByteArray := prog_7_method_29_code
def yX5_can : MethodName := ⟨RX5, "can", "(Z)J"⟩
abbrev cX5_lays : ByteArray := prog_7_method_30_code
def yX5_lays : MethodName := ⟨RX5, "lays", "()V"⟩
abbrev cX5_loses : ByteArray := prog_7_method_31_code
def yX5_loses : MethodName := ⟨RX5, "loses", "(II)V"⟩
abbrev cX5_gets : ByteArray := prog_7_method_32_code
def yX5_gets : MethodName := ⟨RX5, "gets", "(II)V"⟩
abbrev cX5_isLost : ByteArray := prog_7_method_33_code
def yX5_isLost : MethodName := ⟨RX5, "isLost", "(II)V"⟩
abbrev cX5_flows : ByteArray := prog_7_method_34_code
def yX5_flows : MethodName := ⟨RX5, "flows", "(I)V"⟩
abbrev cX5_leaks : ByteArray := prog_7_method_35_code
def yX5_leaks : MethodName := ⟨RX5, "leaks", "(I)V"⟩
abbrev cX5_endsDay : ByteArray := prog_7_method_36_code
def yX5_endsDay : MethodName := ⟨RX5, "endsDay", "(I)V"⟩
abbrev cX5_goesBy : ByteArray := prog_7_method_37_code
def yX5_goesBy : MethodName := ⟨RX5, "goesBy", "()V"⟩
abbrev cX5_pass : ByteArray := prog_7_method_38_code
def yX5_pass : MethodName := ⟨RX5, "pass", "(I)I"⟩
abbrev cX5_pressure : ByteArray := prog_7_method_39_code
def yX5_pressure : MethodName := ⟨RX5, "pressure", "(I)I"⟩
abbrev cX5_rate : ByteArray := prog_7_method_40_code
def yX5_rate : MethodName := ⟨RX5, "rate", "(IZ)I"⟩
abbrev cX5_mix : ByteArray := prog_7_method_41_code
def yX5_mix : MethodName := ⟨RX5, "mix", "(I)I"⟩
abbrev cX5_ofStore : ByteArray := prog_7_method_42_code
def yX5_ofStore : MethodName := ⟨RX5, "ofStore", "(II)J"⟩
abbrev cX5_ofCustomer : ByteArray := prog_7_method_43_code
def yX5_ofCustomer : MethodName := ⟨RX5, "ofCustomer", "(II)J"⟩
abbrev cX5_flow : ByteArray := prog_7_method_44_code
def yX5_flow : MethodName := ⟨RX5, "flow", "(I)I"⟩
abbrev cX5_why : ByteArray := prog_7_method_45_code
def yX5_why : MethodName := ⟨RX5, "why", "(I)I"⟩
abbrev cX5_bestOf : ByteArray := prog_7_method_46_code
def yX5_bestOf : MethodName := ⟨RX5, "bestOf", "(III)J"⟩
abbrev cX5_worth : ByteArray := prog_7_method_47_code
def yX5_worth : MethodName := ⟨RX5, "worth", "(II)J"⟩
abbrev cX5_worthAnew : ByteArray := prog_7_method_48_code
def yX5_worthAnew : MethodName := ⟨RX5, "worthAnew", "(II)J"⟩
abbrev cX5_of : ByteArray := prog_7_method_49_code
def yX5_of : MethodName := ⟨RX5, "of", "(I)J"⟩
def RJx145de : String := "java/io/Serializable"
def TJx145de : u_T := fun k => match k with
  | _ => ("", "", "", false)
def tyJx145de : Nat → FieldType := fun k => match k with
  | _ => .int
abbrev wsJx145de0 : List Cond := u_ws RJx145de TJx145de 0
theorem nmJx145de : ∀ a, a < 0 → ∀ b, b < 0 → a ≠ b → (TJx145de a).2.1 ≠ (TJx145de b).2.1 := by decide +kernel
theorem tyJx145de_ok : ∀ k, k < 0 → parseFieldDescriptor (TJx145de k).2.2.1 = some (tyJx145de k) := by decide +kernel
def RJx8e188 : String := "java/lang/Cloneable"
def TJx8e188 : u_T := fun k => match k with
  | _ => ("", "", "", false)
def tyJx8e188 : Nat → FieldType := fun k => match k with
  | _ => .int
abbrev wsJx8e1880 : List Cond := u_ws RJx8e188 TJx8e188 0
theorem nmJx8e188 : ∀ a, a < 0 → ∀ b, b < 0 → a ≠ b → (TJx8e188 a).2.1 ≠ (TJx8e188 b).2.1 := by decide +kernel
theorem tyJx8e188_ok : ∀ k, k < 0 → parseFieldDescriptor (TJx8e188 k).2.2.1 = some (tyJx8e188 k) := by decide +kernel
def RJxab1ab : String := "java/lang/Iterable"
def TJxab1ab : u_T := fun k => match k with
  | _ => ("", "", "", false)
def tyJxab1ab : Nat → FieldType := fun k => match k with
  | _ => .int
abbrev wsJxab1ab0 : List Cond := u_ws RJxab1ab TJxab1ab 0
theorem nmJxab1ab : ∀ a, a < 0 → ∀ b, b < 0 → a ≠ b → (TJxab1ab a).2.1 ≠ (TJxab1ab b).2.1 := by decide +kernel
theorem tyJxab1ab_ok : ∀ k, k < 0 → parseFieldDescriptor (TJxab1ab k).2.2.1 = some (tyJxab1ab k) := by decide +kernel
def RJ9 : String := "java/lang/Math"
def TJ9 : u_T := fun k => match k with
  | _ => ("", "", "", false)
def tyJ9 : Nat → FieldType := fun k => match k with
  | _ => .int
abbrev wsJ90 : List Cond := u_ws RJ9 TJ9 0
theorem nmJ9 : ∀ a, a < 0 → ∀ b, b < 0 → a ≠ b → (TJ9 a).2.1 ≠ (TJ9 b).2.1 := by decide +kernel
theorem tyJ9_ok : ∀ k, k < 0 → parseFieldDescriptor (TJ9 k).2.2.1 = some (tyJ9 k) := by decide +kernel
abbrev cJ9_floorMod_7cf53 : ByteArray := prog_15_method_50_code
def yJ9_floorMod_7cf53 : MethodName := ⟨RJ9, "floorMod", "(II)I"⟩
abbrev cJ9_abs_0f7a4 : ByteArray := prog_15_method_59_code
def yJ9_abs_0f7a4 : MethodName := ⟨RJ9, "abs", "(I)I"⟩
abbrev cJ9_max_7cf53 : ByteArray := prog_15_method_65_code
def yJ9_max_7cf53 : MethodName := ⟨RJ9, "max", "(II)I"⟩
abbrev cJ9_max_f86c9 : ByteArray := prog_15_method_66_code
def yJ9_max_f86c9 : MethodName := ⟨RJ9, "max", "(JJ)J"⟩
abbrev cJ9_min_7cf53 : ByteArray := prog_15_method_69_code
def yJ9_min_7cf53 : MethodName := ⟨RJ9, "min", "(II)I"⟩
def RJ0 : String := "java/lang/String"
def TJ0 : u_T := fun k => match k with
  | _ => ("", "", "", false)
def tyJ0 : Nat → FieldType := fun k => match k with
  | _ => .int
abbrev wsJ00 : List Cond := u_ws RJ0 TJ0 0
theorem nmJ0 : ∀ a, a < 0 → ∀ b, b < 0 → a ≠ b → (TJ0 a).2.1 ≠ (TJ0 b).2.1 := by decide +kernel
theorem tyJ0_ok : ∀ k, k < 0 → parseFieldDescriptor (TJ0 k).2.2.1 = some (tyJ0 k) := by decide +kernel
def RJ10 : String := "java/lang/System"
def TJ10 : u_T := fun k => match k with
  | _ => ("", "", "", false)
def tyJ10 : Nat → FieldType := fun k => match k with
  | _ => .int
abbrev wsJ100 : List Cond := u_ws RJ10 TJ10 0
theorem nmJ10 : ∀ a, a < 0 → ∀ b, b < 0 → a ≠ b → (TJ10 a).2.1 ≠ (TJ10 b).2.1 := by decide +kernel
theorem tyJ10_ok : ∀ k, k < 0 → parseFieldDescriptor (TJ10 k).2.2.1 = some (tyJ10 k) := by decide +kernel
def RJxa1e45 : String := "java/util/AbstractCollection"
def TJxa1e45 : u_T := fun k => match k with
  | _ => ("", "", "", false)
def tyJxa1e45 : Nat → FieldType := fun k => match k with
  | _ => .int
abbrev wsJxa1e450 : List Cond := u_ws RJxa1e45 TJxa1e45 0
theorem nmJxa1e45 : ∀ a, a < 0 → ∀ b, b < 0 → a ≠ b → (TJxa1e45 a).2.1 ≠ (TJxa1e45 b).2.1 := by decide +kernel
theorem tyJxa1e45_ok : ∀ k, k < 0 → parseFieldDescriptor (TJxa1e45 k).2.2.1 = some (tyJxa1e45 k) := by decide +kernel
abbrev cJxa1e45_init_da8c8 : ByteArray := prog_20_method_1_code
def yJxa1e45_init_da8c8 : MethodName := ⟨RJxa1e45, "<init>", "()V"⟩
def RJxc12de : String := "java/util/AbstractList"
def TJxc12de : u_T := fun k => match k with
  | _ => ("", "", "", false)
def tyJxc12de : Nat → FieldType := fun k => match k with
  | _ => .int
abbrev wsJxc12de0 : List Cond := u_ws RJxc12de TJxc12de 0
theorem nmJxc12de : ∀ a, a < 0 → ∀ b, b < 0 → a ≠ b → (TJxc12de a).2.1 ≠ (TJxc12de b).2.1 := by decide +kernel
theorem tyJxc12de_ok : ∀ k, k < 0 → parseFieldDescriptor (TJxc12de k).2.2.1 = some (tyJxc12de k) := by decide +kernel
abbrev cJxc12de_init_da8c8 : ByteArray := prog_21_method_1_code
def yJxc12de_init_da8c8 : MethodName := ⟨RJxc12de, "<init>", "()V"⟩
def RJx4a65c : String := "java/util/ArrayList"
def TJx4a65c : u_T := fun k => match k with
  | 0 => ("java/util/AbstractList", "modCount", "I", false)
  | 1 => ("java/util/ArrayList", "elementData", "[Ljava/lang/Object;", false)
  | _ => ("java/util/ArrayList", "size", "I", false)
def tyJx4a65c : Nat → FieldType := fun k => match k with
  | 0 => .int
  | 1 => .array (.object "java/lang/Object")
  | _ => .int
abbrev wsJx4a65c0 : List Cond := u_ws RJx4a65c TJx4a65c 3
theorem nmJx4a65c : ∀ a, a < 3 → ∀ b, b < 3 → a ≠ b → (TJx4a65c a).2.1 ≠ (TJx4a65c b).2.1 := by decide +kernel
theorem tyJx4a65c_ok : ∀ k, k < 3 → parseFieldDescriptor (TJx4a65c k).2.2.1 = some (tyJx4a65c k) := by decide +kernel
abbrev cJx4a65c_init_da8c8 : ByteArray := prog_22_method_2_code
def yJx4a65c_init_da8c8 : MethodName := ⟨RJx4a65c, "<init>", "()V"⟩
abbrev cJx4a65c_grow_92f84 : ByteArray := prog_22_method_6_code
def yJx4a65c_grow_92f84 : MethodName := ⟨RJx4a65c, "grow", "(I)[Ljava/lang/Object;"⟩
abbrev cJx4a65c_grow_d5877 : ByteArray := prog_22_method_7_code
def yJx4a65c_grow_d5877 : MethodName := ⟨RJx4a65c, "grow", "()[Ljava/lang/Object;"⟩
abbrev cJx4a65c_size_8abf5 : ByteArray := prog_22_method_8_code
def yJx4a65c_size_8abf5 : MethodName := ⟨RJx4a65c, "size", "()I"⟩
abbrev cJx4a65c_elementData_915e3 : ByteArray := prog_22_method_18_code
def yJx4a65c_elementData_915e3 : MethodName := ⟨RJx4a65c, "elementData", "(I)Ljava/lang/Object;"⟩
abbrev cJx4a65c_get_915e3 : ByteArray := prog_22_method_20_code
def yJx4a65c_get_915e3 : MethodName := ⟨RJx4a65c, "get", "(I)Ljava/lang/Object;"⟩
abbrev cJx4a65c_add_72be8 : ByteArray := prog_22_method_24_code
def yJx4a65c_add_72be8 : MethodName := ⟨RJx4a65c, "add", "(Ljava/lang/Object;[Ljava/lang/Object;I)V"⟩
abbrev cJx4a65c_add_9ea2d : ByteArray := prog_22_method_25_code
def yJx4a65c_add_9ea2d : MethodName := ⟨RJx4a65c, "add", "(Ljava/lang/Object;)Z"⟩
def RJ7 : String := "java/util/Arrays"
def TJ7 : u_T := fun k => match k with
  | _ => ("", "", "", false)
def tyJ7 : Nat → FieldType := fun k => match k with
  | _ => .int
abbrev wsJ70 : List Cond := u_ws RJ7 TJ7 0
theorem nmJ7 : ∀ a, a < 0 → ∀ b, b < 0 → a ≠ b → (TJ7 a).2.1 ≠ (TJ7 b).2.1 := by decide +kernel
theorem tyJ7_ok : ∀ k, k < 0 → parseFieldDescriptor (TJ7 k).2.2.1 = some (tyJ7 k) := by decide +kernel
abbrev cJ7_copyOf_1904c : ByteArray := prog_23_method_119_code
def yJ7_copyOf_1904c : MethodName := ⟨RJ7, "copyOf", "([Ljava/lang/Object;I)[Ljava/lang/Object;"⟩
abbrev cJ7_copyOf_6403c : ByteArray := prog_23_method_120_code
def yJ7_copyOf_6403c : MethodName := ⟨RJ7, "copyOf", "([Ljava/lang/Object;ILjava/lang/Class;)[Ljava/lang/Object;"⟩
def RJx5ef63 : String := "java/util/Collection"
def TJx5ef63 : u_T := fun k => match k with
  | _ => ("", "", "", false)
def tyJx5ef63 : Nat → FieldType := fun k => match k with
  | _ => .int
abbrev wsJx5ef630 : List Cond := u_ws RJx5ef63 TJx5ef63 0
theorem nmJx5ef63 : ∀ a, a < 0 → ∀ b, b < 0 → a ≠ b → (TJx5ef63 a).2.1 ≠ (TJx5ef63 b).2.1 := by decide +kernel
theorem tyJx5ef63_ok : ∀ k, k < 0 → parseFieldDescriptor (TJx5ef63 k).2.2.1 = some (tyJx5ef63 k) := by decide +kernel
def RJxbd725 : String := "java/util/List"
def TJxbd725 : u_T := fun k => match k with
  | _ => ("", "", "", false)
def tyJxbd725 : Nat → FieldType := fun k => match k with
  | _ => .int
abbrev wsJxbd7250 : List Cond := u_ws RJxbd725 TJxbd725 0
theorem nmJxbd725 : ∀ a, a < 0 → ∀ b, b < 0 → a ≠ b → (TJxbd725 a).2.1 ≠ (TJxbd725 b).2.1 := by decide +kernel
theorem tyJxbd725_ok : ∀ k, k < 0 → parseFieldDescriptor (TJxbd725 k).2.2.1 = some (tyJxbd725 k) := by decide +kernel
def RJ15 : String := "java/util/Objects"
def TJ15 : u_T := fun k => match k with
  | _ => ("", "", "", false)
def tyJ15 : Nat → FieldType := fun k => match k with
  | _ => .int
abbrev wsJ150 : List Cond := u_ws RJ15 TJ15 0
theorem nmJ15 : ∀ a, a < 0 → ∀ b, b < 0 → a ≠ b → (TJ15 a).2.1 ≠ (TJ15 b).2.1 := by decide +kernel
theorem tyJ15_ok : ∀ k, k < 0 → parseFieldDescriptor (TJ15 k).2.2.1 = some (tyJ15 k) := by decide +kernel
abbrev cJ15_checkIndex_7cf53 : ByteArray := prog_26_method_17_code
def yJ15_checkIndex_7cf53 : MethodName := ⟨RJ15, "checkIndex", "(II)I"⟩
def RJxf0a74 : String := "java/util/RandomAccess"
def TJxf0a74 : u_T := fun k => match k with
  | _ => ("", "", "", false)
def tyJxf0a74 : Nat → FieldType := fun k => match k with
  | _ => .int
abbrev wsJxf0a740 : List Cond := u_ws RJxf0a74 TJxf0a74 0
theorem nmJxf0a74 : ∀ a, a < 0 → ∀ b, b < 0 → a ≠ b → (TJxf0a74 a).2.1 ≠ (TJxf0a74 b).2.1 := by decide +kernel
theorem tyJxf0a74_ok : ∀ k, k < 0 → parseFieldDescriptor (TJxf0a74 k).2.2.1 = some (tyJxf0a74 k) := by decide +kernel
def RJxa66e6 : String := "java/util/SequencedCollection"
def TJxa66e6 : u_T := fun k => match k with
  | _ => ("", "", "", false)
def tyJxa66e6 : Nat → FieldType := fun k => match k with
  | _ => .int
abbrev wsJxa66e60 : List Cond := u_ws RJxa66e6 TJxa66e6 0
theorem nmJxa66e6 : ∀ a, a < 0 → ∀ b, b < 0 → a ≠ b → (TJxa66e6 a).2.1 ≠ (TJxa66e6 b).2.1 := by decide +kernel
theorem tyJxa66e6_ok : ∀ k, k < 0 → parseFieldDescriptor (TJxa66e6 k).2.2.1 = some (tyJxa66e6 k) := by decide +kernel
def RJ8 : String := "jdk/internal/util/ArraysSupport"
def TJ8 : u_T := fun k => match k with
  | _ => ("", "", "", false)
def tyJ8 : Nat → FieldType := fun k => match k with
  | _ => .int
abbrev wsJ80 : List Cond := u_ws RJ8 TJ8 0
theorem nmJ8 : ∀ a, a < 0 → ∀ b, b < 0 → a ≠ b → (TJ8 a).2.1 ≠ (TJ8 b).2.1 := by decide +kernel
theorem tyJ8_ok : ∀ k, k < 0 → parseFieldDescriptor (TJ8 k).2.2.1 = some (tyJ8 k) := by decide +kernel
abbrev cJ8_newLength_cabcc : ByteArray := prog_29_method_27_code
def yJ8_newLength_cabcc : MethodName := ⟨RJ8, "newLength", "(III)I"⟩
abbrev cJ8_hugeLength_7cf53 : ByteArray := prog_29_method_28_code
def yJ8_hugeLength_7cf53 : MethodName := ⟨RJ8, "hugeLength", "(II)I"⟩
def RJ3 : String := "jdk/internal/util/Preconditions"
def TJ3 : u_T := fun k => match k with
  | _ => ("", "", "", false)
def tyJ3 : Nat → FieldType := fun k => match k with
  | _ => .int
abbrev wsJ30 : List Cond := u_ws RJ3 TJ3 0
theorem nmJ3 : ∀ a, a < 0 → ∀ b, b < 0 → a ≠ b → (TJ3 a).2.1 ≠ (TJ3 b).2.1 := by decide +kernel
theorem tyJ3_ok : ∀ k, k < 0 → parseFieldDescriptor (TJ3 k).2.2.1 = some (tyJ3 k) := by decide +kernel
abbrev cJ3_checkIndex_8e157 : ByteArray := prog_30_method_11_code
def yJ3_checkIndex_8e157 : MethodName := ⟨RJ3, "checkIndex", "(IILjava/util/function/BiFunction;)I"⟩
def RL : String := "GasvaultLaw"
abbrev cL_store : ByteArray := method_3_code
def yL_store : MethodName := ⟨RL, "store", "(LGasvault;IIIIII[J)I"⟩
abbrev cL_wells : ByteArray := method_4_code
def yL_wells : MethodName := ⟨RL, "wells", "(LGasvault;III[J)I"⟩
abbrev cL_leak : ByteArray := method_5_code
def yL_leak : MethodName := ⟨RL, "leak", "(LGasvault;II[J)I"⟩
abbrev cL_leach : ByteArray := method_6_code
def yL_leach : MethodName := ⟨RL, "leach", "(LGasvault;II[J)I"⟩
abbrev cL_heat : ByteArray := method_7_code
def yL_heat : MethodName := ⟨RL, "heat", "(LGasvault;I[J)I"⟩
abbrev cL_customer : ByteArray := method_8_code
def yL_customer : MethodName := ⟨RL, "customer", "(LGasvault;IIII[J)I"⟩
abbrev cL_nominate : ByteArray := method_9_code
def yL_nominate : MethodName := ⟨RL, "nominate", "(LGasvault;III[J)I"⟩
abbrev cL_transfer : ByteArray := method_10_code
def yL_transfer : MethodName := ⟨RL, "transfer", "(LGasvault;III[J)I"⟩
abbrev cL_law : ByteArray := method_11_code
def yL_law : MethodName := ⟨RL, "law", "(LGasvault;III[J)I"⟩
abbrev cL_price : ByteArray := method_12_code
def yL_price : MethodName := ⟨RL, "price", "(LGasvault;II[J)I"⟩
abbrev cL_pass : ByteArray := method_13_code
def yL_pass : MethodName := ⟨RL, "pass", "(LGasvault;I[J)I"⟩
abbrev cL_pressure : ByteArray := method_14_code
def yL_pressure : MethodName := ⟨RL, "pressure", "(LGasvault;I[J)I"⟩
abbrev cL_rate : ByteArray := method_15_code
def yL_rate : MethodName := ⟨RL, "rate", "(LGasvault;IZ[J)I"⟩
abbrev cL_mix : ByteArray := method_16_code
def yL_mix : MethodName := ⟨RL, "mix", "(LGasvault;I[J)I"⟩
abbrev cL_ofStore : ByteArray := method_17_code
def yL_ofStore : MethodName := ⟨RL, "ofStore", "(LGasvault;II[J)I"⟩
abbrev cL_ofCustomer : ByteArray := method_18_code
def yL_ofCustomer : MethodName := ⟨RL, "ofCustomer", "(LGasvault;II[J)I"⟩
abbrev cL_flow : ByteArray := method_19_code
def yL_flow : MethodName := ⟨RL, "flow", "(LGasvault;I[J)I"⟩
abbrev cL_why : ByteArray := method_20_code
def yL_why : MethodName := ⟨RL, "why", "(LGasvault;I[J)I"⟩
abbrev cL_worth : ByteArray := method_21_code
def yL_worth : MethodName := ⟨RL, "worth", "(LGasvault;II[J)I"⟩
abbrev cL_worthAnew : ByteArray := method_22_code
def yL_worthAnew : MethodName := ⟨RL, "worthAnew", "(LGasvault;II[J)I"⟩
abbrev cL_of : ByteArray := method_23_code
def yL_of : MethodName := ⟨RL, "of", "(LGasvault;I[J)I"⟩
abbrev cL_law_ : ByteArray := code
def yL_law_ : MethodName := ⟨RL, "law", "([I)Z"⟩
abbrev vwCl : List vw_C := [(RJx4a65c, TJx4a65c, 3), (RX0, TX0, 12), (RX1, TX1, 1), (RX2, TX2, 3), (RX3, TX3, 11), (RX4, TX4, 11), (RX5, TX5, 40)]
end
section
theorem dX0_init_0 : decode cX0_init 0 = .ok (.aload_n 0, 1) := by decide +kernel
theorem dX0_init_1 : decode cX0_init 1 = .ok (.invokespecial 3, 3) := by decide +kernel
theorem dX0_init_4 : decode cX0_init 4 = .ok (.aload_n 0, 1) := by decide +kernel
theorem dX0_init_5 : decode cX0_init 5 = .ok (.new 9, 3) := by decide +kernel
theorem dX0_init_8 : decode cX0_init 8 = .ok (.dup, 1) := by decide +kernel
theorem dX0_init_9 : decode cX0_init 9 = .ok (.invokespecial 11, 3) := by decide +kernel
theorem dX0_init_12 : decode cX0_init 12 = .ok (.putfield 12, 3) := by decide +kernel
theorem dX0_init_15 : decode cX0_init 15 = .ok (.aload_n 0, 1) := by decide +kernel
theorem dX0_init_16 : decode cX0_init 16 = .ok (.iconst 0, 1) := by decide +kernel
theorem dX0_init_17 : decode cX0_init 17 = .ok (.putfield 18, 3) := by decide +kernel
theorem dX0_init_20 : decode cX0_init 20 = .ok (.aload_n 0, 1) := by decide +kernel
theorem dX0_init_21 : decode cX0_init 21 = .ok (.lconst 0, 1) := by decide +kernel
theorem dX0_init_22 : decode cX0_init 22 = .ok (.putfield 22, 3) := by decide +kernel
theorem dX0_init_25 : decode cX0_init 25 = .ok (.aload_n 0, 1) := by decide +kernel
theorem dX0_init_26 : decode cX0_init 26 = .ok (.lconst 0, 1) := by decide +kernel
theorem dX0_init_27 : decode cX0_init 27 = .ok (.putfield 26, 3) := by decide +kernel
theorem dX0_init_30 : decode cX0_init 30 = .ok (.aload_n 0, 1) := by decide +kernel
theorem dX0_init_31 : decode cX0_init 31 = .ok (.lconst 0, 1) := by decide +kernel
theorem dX0_init_32 : decode cX0_init 32 = .ok (.putfield 29, 3) := by decide +kernel
theorem dX0_init_35 : decode cX0_init 35 = .ok (.aload_n 0, 1) := by decide +kernel
theorem dX0_init_36 : decode cX0_init 36 = .ok (.iconst 0, 1) := by decide +kernel
theorem dX0_init_37 : decode cX0_init 37 = .ok (.putfield 32, 3) := by decide +kernel
theorem dX0_init_40 : decode cX0_init 40 = .ok (.aload_n 0, 1) := by decide +kernel
theorem dX0_init_41 : decode cX0_init 41 = .ok (.iconst 0, 1) := by decide +kernel
theorem dX0_init_42 : decode cX0_init 42 = .ok (.putfield 35, 3) := by decide +kernel
theorem dX0_init_45 : decode cX0_init 45 = .ok (.aload_n 0, 1) := by decide +kernel
theorem dX0_init_46 : decode cX0_init 46 = .ok (.iconst 0, 1) := by decide +kernel
theorem dX0_init_47 : decode cX0_init 47 = .ok (.putfield 38, 3) := by decide +kernel
theorem dX0_init_50 : decode cX0_init 50 = .ok (.aload_n 0, 1) := by decide +kernel
theorem dX0_init_51 : decode cX0_init 51 = .ok (.iload_n 1, 1) := by decide +kernel
theorem dX0_init_52 : decode cX0_init 52 = .ok (.putfield 41, 3) := by decide +kernel
theorem dX0_init_55 : decode cX0_init 55 = .ok (.aload_n 0, 1) := by decide +kernel
theorem dX0_init_56 : decode cX0_init 56 = .ok (.iload_n 2, 1) := by decide +kernel
theorem dX0_init_57 : decode cX0_init 57 = .ok (.putfield 44, 3) := by decide +kernel
theorem dX0_init_60 : decode cX0_init 60 = .ok (.aload_n 0, 1) := by decide +kernel
theorem dX0_init_61 : decode cX0_init 61 = .ok (.iload_n 3, 1) := by decide +kernel
theorem dX0_init_62 : decode cX0_init 62 = .ok (.putfield 47, 3) := by decide +kernel
theorem dX0_init_65 : decode cX0_init 65 = .ok (.aload_n 0, 1) := by decide +kernel
theorem dX0_init_66 : decode cX0_init 66 = .ok (.iload 4, 2) := by decide +kernel
theorem dX0_init_68 : decode cX0_init 68 = .ok (.putfield 50, 3) := by decide +kernel
theorem dX0_init_71 : decode cX0_init 71 = .ok (.return_, 1) := by decide +kernel
theorem dX0_rateInWith_0 : decode cX0_rateInWith 0 = .ok (.iconst 3, 1) := by decide +kernel
theorem dX0_rateInWith_1 : decode cX0_rateInWith 1 = .ok (.iload_n 1, 1) := by decide +kernel
theorem dX0_rateInWith_2 : decode cX0_rateInWith 2 = .ok (.imul, 1) := by decide +kernel
theorem dX0_rateInWith_3 : decode cX0_rateInWith 3 = .ok (.iconst 2, 1) := by decide +kernel
theorem dX0_rateInWith_4 : decode cX0_rateInWith 4 = .ok (.aload_n 0, 1) := by decide +kernel
theorem dX0_rateInWith_5 : decode cX0_rateInWith 5 = .ok (.getfield 41, 3) := by decide +kernel
theorem dX0_rateInWith_8 : decode cX0_rateInWith 8 = .ok (.imul, 1) := by decide +kernel
theorem dX0_rateInWith_9 : decode cX0_rateInWith 9 = .ok (.if_icmp .le 12, 3) := by decide +kernel
theorem dX0_rateInWith_12 : decode cX0_rateInWith 12 = .ok (.aload_n 0, 1) := by decide +kernel
theorem dX0_rateInWith_13 : decode cX0_rateInWith 13 = .ok (.getfield 44, 3) := by decide +kernel
theorem dX0_rateInWith_16 : decode cX0_rateInWith 16 = .ok (.iconst 2, 1) := by decide +kernel
theorem dX0_rateInWith_17 : decode cX0_rateInWith 17 = .ok (.idiv, 1) := by decide +kernel
theorem dX0_rateInWith_18 : decode cX0_rateInWith 18 = .ok (.goto 7, 3) := by decide +kernel
theorem dX0_rateInWith_21 : decode cX0_rateInWith 21 = .ok (.aload_n 0, 1) := by decide +kernel
theorem dX0_rateInWith_22 : decode cX0_rateInWith 22 = .ok (.getfield 44, 3) := by decide +kernel
theorem dX0_rateInWith_25 : decode cX0_rateInWith 25 = .ok (.ireturn, 1) := by decide +kernel
theorem dX0_rateOutWith_0 : decode cX0_rateOutWith 0 = .ok (.iconst 3, 1) := by decide +kernel
theorem dX0_rateOutWith_1 : decode cX0_rateOutWith 1 = .ok (.iload_n 1, 1) := by decide +kernel
theorem dX0_rateOutWith_2 : decode cX0_rateOutWith 2 = .ok (.imul, 1) := by decide +kernel
theorem dX0_rateOutWith_3 : decode cX0_rateOutWith 3 = .ok (.aload_n 0, 1) := by decide +kernel
theorem dX0_rateOutWith_4 : decode cX0_rateOutWith 4 = .ok (.getfield 41, 3) := by decide +kernel
theorem dX0_rateOutWith_7 : decode cX0_rateOutWith 7 = .ok (.if_icmp .ge 12, 3) := by decide +kernel
theorem dX0_rateOutWith_10 : decode cX0_rateOutWith 10 = .ok (.aload_n 0, 1) := by decide +kernel
theorem dX0_rateOutWith_11 : decode cX0_rateOutWith 11 = .ok (.getfield 47, 3) := by decide +kernel
theorem dX0_rateOutWith_14 : decode cX0_rateOutWith 14 = .ok (.iconst 2, 1) := by decide +kernel
theorem dX0_rateOutWith_15 : decode cX0_rateOutWith 15 = .ok (.idiv, 1) := by decide +kernel
theorem dX0_rateOutWith_16 : decode cX0_rateOutWith 16 = .ok (.goto 7, 3) := by decide +kernel
theorem dX0_rateOutWith_19 : decode cX0_rateOutWith 19 = .ok (.aload_n 0, 1) := by decide +kernel
theorem dX0_rateOutWith_20 : decode cX0_rateOutWith 20 = .ok (.getfield 47, 3) := by decide +kernel
theorem dX0_rateOutWith_23 : decode cX0_rateOutWith 23 = .ok (.ireturn, 1) := by decide +kernel
theorem dX0_mostIn_0 : decode cX0_mostIn 0 = .ok (.aload_n 0, 1) := by decide +kernel
theorem dX0_mostIn_1 : decode cX0_mostIn 1 = .ok (.iload_n 1, 1) := by decide +kernel
theorem dX0_mostIn_2 : decode cX0_mostIn 2 = .ok (.invokevirtual 53, 3) := by decide +kernel
theorem dX0_mostIn_5 : decode cX0_mostIn 5 = .ok (.aload_n 0, 1) := by decide +kernel
theorem dX0_mostIn_6 : decode cX0_mostIn 6 = .ok (.getfield 41, 3) := by decide +kernel
theorem dX0_mostIn_9 : decode cX0_mostIn 9 = .ok (.iload_n 1, 1) := by decide +kernel
theorem dX0_mostIn_10 : decode cX0_mostIn 10 = .ok (.isub, 1) := by decide +kernel
theorem dX0_mostIn_11 : decode cX0_mostIn 11 = .ok (.invokestatic 57, 3) := by decide +kernel
theorem dX0_mostIn_14 : decode cX0_mostIn 14 = .ok (.ireturn, 1) := by decide +kernel
theorem dX0_mostOut_0 : decode cX0_mostOut 0 = .ok (.aload_n 0, 1) := by decide +kernel
theorem dX0_mostOut_1 : decode cX0_mostOut 1 = .ok (.iload_n 1, 1) := by decide +kernel
theorem dX0_mostOut_2 : decode cX0_mostOut 2 = .ok (.invokevirtual 63, 3) := by decide +kernel
theorem dX0_mostOut_5 : decode cX0_mostOut 5 = .ok (.iload_n 1, 1) := by decide +kernel
theorem dX0_mostOut_6 : decode cX0_mostOut 6 = .ok (.invokestatic 57, 3) := by decide +kernel
theorem dX0_mostOut_9 : decode cX0_mostOut 9 = .ok (.ireturn, 1) := by decide +kernel
theorem dX0_planByRates_0 : decode cX0_planByRates 0 = .ok (.aload_n 0, 1) := by decide +kernel
theorem dX0_planByRates_1 : decode cX0_planByRates 1 = .ok (.getfield 12, 3) := by decide +kernel
theorem dX0_planByRates_4 : decode cX0_planByRates 4 = .ok (.iload_n 1, 1) := by decide +kernel
theorem dX0_planByRates_5 : decode cX0_planByRates 5 = .ok (.invokevirtual 66, 3) := by decide +kernel
theorem dX0_planByRates_8 : decode cX0_planByRates 8 = .ok (.istore_n 2, 1) := by decide +kernel
theorem dX0_planByRates_9 : decode cX0_planByRates 9 = .ok (.aload_n 0, 1) := by decide +kernel
theorem dX0_planByRates_10 : decode cX0_planByRates 10 = .ok (.aload_n 0, 1) := by decide +kernel
theorem dX0_planByRates_11 : decode cX0_planByRates 11 = .ok (.aload_n 0, 1) := by decide +kernel
theorem dX0_planByRates_12 : decode cX0_planByRates 12 = .ok (.getfield 18, 3) := by decide +kernel
theorem dX0_planByRates_15 : decode cX0_planByRates 15 = .ok (.invokevirtual 69, 3) := by decide +kernel
theorem dX0_planByRates_18 : decode cX0_planByRates 18 = .ok (.ineg, 1) := by decide +kernel
theorem dX0_planByRates_19 : decode cX0_planByRates 19 = .ok (.iload_n 2, 1) := by decide +kernel
theorem dX0_planByRates_20 : decode cX0_planByRates 20 = .ok (.aload_n 0, 1) := by decide +kernel
theorem dX0_planByRates_21 : decode cX0_planByRates 21 = .ok (.aload_n 0, 1) := by decide +kernel
theorem dX0_planByRates_22 : decode cX0_planByRates 22 = .ok (.getfield 18, 3) := by decide +kernel
theorem dX0_planByRates_25 : decode cX0_planByRates 25 = .ok (.invokevirtual 72, 3) := by decide +kernel
theorem dX0_planByRates_28 : decode cX0_planByRates 28 = .ok (.invokestatic 57, 3) := by decide +kernel
theorem dX0_planByRates_31 : decode cX0_planByRates 31 = .ok (.invokestatic 75, 3) := by decide +kernel
theorem dX0_planByRates_34 : decode cX0_planByRates 34 = .ok (.putfield 32, 3) := by decide +kernel
theorem dX0_planByRates_37 : decode cX0_planByRates 37 = .ok (.aload_n 0, 1) := by decide +kernel
theorem dX0_planByRates_38 : decode cX0_planByRates 38 = .ok (.iconst 0, 1) := by decide +kernel
theorem dX0_planByRates_39 : decode cX0_planByRates 39 = .ok (.putfield 35, 3) := by decide +kernel
theorem dX0_planByRates_42 : decode cX0_planByRates 42 = .ok (.aload_n 0, 1) := by decide +kernel
theorem dX0_planByRates_43 : decode cX0_planByRates 43 = .ok (.aload_n 0, 1) := by decide +kernel
theorem dX0_planByRates_44 : decode cX0_planByRates 44 = .ok (.getfield 32, 3) := by decide +kernel
theorem dX0_planByRates_47 : decode cX0_planByRates 47 = .ok (.iload_n 2, 1) := by decide +kernel
theorem dX0_planByRates_48 : decode cX0_planByRates 48 = .ok (.if_icmp .ne 7, 3) := by decide +kernel
theorem dX0_planByRates_51 : decode cX0_planByRates 51 = .ok (.iconst 0, 1) := by decide +kernel
theorem dX0_planByRates_52 : decode cX0_planByRates 52 = .ok (.goto 4, 3) := by decide +kernel
theorem dX0_planByRates_55 : decode cX0_planByRates 55 = .ok (.iconst 1, 1) := by decide +kernel
theorem dX0_planByRates_56 : decode cX0_planByRates 56 = .ok (.putfield 38, 3) := by decide +kernel
theorem dX0_planByRates_59 : decode cX0_planByRates 59 = .ok (.return_, 1) := by decide +kernel
theorem dX0_sizeOfPlan_0 : decode cX0_sizeOfPlan 0 = .ok (.iconst 0, 1) := by decide +kernel
theorem dX0_sizeOfPlan_1 : decode cX0_sizeOfPlan 1 = .ok (.iload_n 1, 1) := by decide +kernel
theorem dX0_sizeOfPlan_2 : decode cX0_sizeOfPlan 2 = .ok (.ifCond .eq 10, 3) := by decide +kernel
theorem dX0_sizeOfPlan_5 : decode cX0_sizeOfPlan 5 = .ok (.aload_n 0, 1) := by decide +kernel
theorem dX0_sizeOfPlan_6 : decode cX0_sizeOfPlan 6 = .ok (.getfield 32, 3) := by decide +kernel
theorem dX0_sizeOfPlan_9 : decode cX0_sizeOfPlan 9 = .ok (.goto 8, 3) := by decide +kernel
theorem dX0_sizeOfPlan_12 : decode cX0_sizeOfPlan 12 = .ok (.aload_n 0, 1) := by decide +kernel
theorem dX0_sizeOfPlan_13 : decode cX0_sizeOfPlan 13 = .ok (.getfield 32, 3) := by decide +kernel
theorem dX0_sizeOfPlan_16 : decode cX0_sizeOfPlan 16 = .ok (.ineg, 1) := by decide +kernel
theorem dX0_sizeOfPlan_17 : decode cX0_sizeOfPlan 17 = .ok (.invokestatic 75, 3) := by decide +kernel
theorem dX0_sizeOfPlan_20 : decode cX0_sizeOfPlan 20 = .ok (.ireturn, 1) := by decide +kernel
theorem dX0_cutBack_0 : decode cX0_cutBack 0 = .ok (.aload_n 0, 1) := by decide +kernel
theorem dX0_cutBack_1 : decode cX0_cutBack 1 = .ok (.iload_n 1, 1) := by decide +kernel
theorem dX0_cutBack_2 : decode cX0_cutBack 2 = .ok (.invokevirtual 78, 3) := by decide +kernel
theorem dX0_cutBack_5 : decode cX0_cutBack 5 = .ok (.iload_n 2, 1) := by decide +kernel
theorem dX0_cutBack_6 : decode cX0_cutBack 6 = .ok (.invokestatic 57, 3) := by decide +kernel
theorem dX0_cutBack_9 : decode cX0_cutBack 9 = .ok (.istore 4, 2) := by decide +kernel
theorem dX0_cutBack_11 : decode cX0_cutBack 11 = .ok (.iload 4, 2) := by decide +kernel
theorem dX0_cutBack_13 : decode cX0_cutBack 13 = .ok (.ifCond .gt 5, 3) := by decide +kernel
theorem dX0_cutBack_16 : decode cX0_cutBack 16 = .ok (.iconst 0, 1) := by decide +kernel
theorem dX0_cutBack_17 : decode cX0_cutBack 17 = .ok (.ireturn, 1) := by decide +kernel
theorem dX0_cutBack_18 : decode cX0_cutBack 18 = .ok (.aload_n 0, 1) := by decide +kernel
theorem dX0_cutBack_19 : decode cX0_cutBack 19 = .ok (.dup, 1) := by decide +kernel
theorem dX0_cutBack_20 : decode cX0_cutBack 20 = .ok (.getfield 32, 3) := by decide +kernel
theorem dX0_cutBack_23 : decode cX0_cutBack 23 = .ok (.iload_n 1, 1) := by decide +kernel
theorem dX0_cutBack_24 : decode cX0_cutBack 24 = .ok (.ifCond .eq 9, 3) := by decide +kernel
theorem dX0_cutBack_27 : decode cX0_cutBack 27 = .ok (.iload 4, 2) := by decide +kernel
theorem dX0_cutBack_29 : decode cX0_cutBack 29 = .ok (.ineg, 1) := by decide +kernel
theorem dX0_cutBack_30 : decode cX0_cutBack 30 = .ok (.goto 5, 3) := by decide +kernel
theorem dX0_cutBack_33 : decode cX0_cutBack 33 = .ok (.iload 4, 2) := by decide +kernel
theorem dX0_cutBack_35 : decode cX0_cutBack 35 = .ok (.iadd, 1) := by decide +kernel
theorem dX0_cutBack_36 : decode cX0_cutBack 36 = .ok (.putfield 32, 3) := by decide +kernel
theorem dX0_cutBack_39 : decode cX0_cutBack 39 = .ok (.aload_n 0, 1) := by decide +kernel
theorem dX0_cutBack_40 : decode cX0_cutBack 40 = .ok (.dup, 1) := by decide +kernel
theorem dX0_cutBack_41 : decode cX0_cutBack 41 = .ok (.getfield 35, 3) := by decide +kernel
theorem dX0_cutBack_44 : decode cX0_cutBack 44 = .ok (.iload 4, 2) := by decide +kernel
theorem dX0_cutBack_46 : decode cX0_cutBack 46 = .ok (.iadd, 1) := by decide +kernel
theorem dX0_cutBack_47 : decode cX0_cutBack 47 = .ok (.putfield 35, 3) := by decide +kernel
theorem dX0_cutBack_50 : decode cX0_cutBack 50 = .ok (.aload_n 0, 1) := by decide +kernel
theorem dX0_cutBack_51 : decode cX0_cutBack 51 = .ok (.getfield 38, 3) := by decide +kernel
theorem dX0_cutBack_54 : decode cX0_cutBack 54 = .ok (.ifCond .ne 8, 3) := by decide +kernel
theorem dX0_cutBack_57 : decode cX0_cutBack 57 = .ok (.aload_n 0, 1) := by decide +kernel
theorem dX0_cutBack_58 : decode cX0_cutBack 58 = .ok (.iload_n 3, 1) := by decide +kernel
theorem dX0_cutBack_59 : decode cX0_cutBack 59 = .ok (.putfield 38, 3) := by decide +kernel
theorem dX0_cutBack_62 : decode cX0_cutBack 62 = .ok (.iload 4, 2) := by decide +kernel
theorem dX0_cutBack_64 : decode cX0_cutBack 64 = .ok (.ireturn, 1) := by decide +kernel
theorem dX0_settle_0 : decode cX0_settle 0 = .ok (.aload_n 0, 1) := by decide +kernel
theorem dX0_settle_1 : decode cX0_settle 1 = .ok (.dup, 1) := by decide +kernel
theorem dX0_settle_2 : decode cX0_settle 2 = .ok (.getfield 18, 3) := by decide +kernel
theorem dX0_settle_5 : decode cX0_settle 5 = .ok (.aload_n 0, 1) := by decide +kernel
theorem dX0_settle_6 : decode cX0_settle 6 = .ok (.getfield 32, 3) := by decide +kernel
theorem dX0_settle_9 : decode cX0_settle 9 = .ok (.iadd, 1) := by decide +kernel
theorem dX0_settle_10 : decode cX0_settle 10 = .ok (.putfield 18, 3) := by decide +kernel
theorem dX0_settle_13 : decode cX0_settle 13 = .ok (.aload_n 0, 1) := by decide +kernel
theorem dX0_settle_14 : decode cX0_settle 14 = .ok (.dup, 1) := by decide +kernel
theorem dX0_settle_15 : decode cX0_settle 15 = .ok (.getfield 22, 3) := by decide +kernel
theorem dX0_settle_18 : decode cX0_settle 18 = .ok (.aload_n 0, 1) := by decide +kernel
theorem dX0_settle_19 : decode cX0_settle 19 = .ok (.iconst 1, 1) := by decide +kernel
theorem dX0_settle_20 : decode cX0_settle 20 = .ok (.invokevirtual 78, 3) := by decide +kernel
theorem dX0_settle_23 : decode cX0_settle 23 = .ok (.i2l, 1) := by decide +kernel
theorem dX0_settle_24 : decode cX0_settle 24 = .ok (.ladd, 1) := by decide +kernel
theorem dX0_settle_25 : decode cX0_settle 25 = .ok (.putfield 22, 3) := by decide +kernel
theorem dX0_settle_28 : decode cX0_settle 28 = .ok (.aload_n 0, 1) := by decide +kernel
theorem dX0_settle_29 : decode cX0_settle 29 = .ok (.dup, 1) := by decide +kernel
theorem dX0_settle_30 : decode cX0_settle 30 = .ok (.getfield 26, 3) := by decide +kernel
theorem dX0_settle_33 : decode cX0_settle 33 = .ok (.aload_n 0, 1) := by decide +kernel
theorem dX0_settle_34 : decode cX0_settle 34 = .ok (.iconst 0, 1) := by decide +kernel
theorem dX0_settle_35 : decode cX0_settle 35 = .ok (.invokevirtual 78, 3) := by decide +kernel
theorem dX0_settle_38 : decode cX0_settle 38 = .ok (.i2l, 1) := by decide +kernel
theorem dX0_settle_39 : decode cX0_settle 39 = .ok (.ladd, 1) := by decide +kernel
theorem dX0_settle_40 : decode cX0_settle 40 = .ok (.putfield 26, 3) := by decide +kernel
theorem dX0_settle_43 : decode cX0_settle 43 = .ok (.aload_n 0, 1) := by decide +kernel
theorem dX0_settle_44 : decode cX0_settle 44 = .ok (.dup, 1) := by decide +kernel
theorem dX0_settle_45 : decode cX0_settle 45 = .ok (.getfield 29, 3) := by decide +kernel
theorem dX0_settle_48 : decode cX0_settle 48 = .ok (.aload_n 0, 1) := by decide +kernel
theorem dX0_settle_49 : decode cX0_settle 49 = .ok (.getfield 35, 3) := by decide +kernel
theorem dX0_settle_52 : decode cX0_settle 52 = .ok (.i2l, 1) := by decide +kernel
theorem dX0_settle_53 : decode cX0_settle 53 = .ok (.ladd, 1) := by decide +kernel
theorem dX0_settle_54 : decode cX0_settle 54 = .ok (.putfield 29, 3) := by decide +kernel
theorem dX0_settle_57 : decode cX0_settle 57 = .ok (.aload_n 0, 1) := by decide +kernel
theorem dX0_settle_58 : decode cX0_settle 58 = .ok (.getfield 12, 3) := by decide +kernel
theorem dX0_settle_61 : decode cX0_settle 61 = .ok (.iload_n 1, 1) := by decide +kernel
theorem dX0_settle_62 : decode cX0_settle 62 = .ok (.iconst 0, 1) := by decide +kernel
theorem dX0_settle_63 : decode cX0_settle 63 = .ok (.invokevirtual 82, 3) := by decide +kernel
theorem dX0_settle_66 : decode cX0_settle 66 = .ok (.pop, 1) := by decide +kernel
theorem dX0_settle_67 : decode cX0_settle 67 = .ok (.return_, 1) := by decide +kernel
theorem dX1_init_0 : decode cX1_init 0 = .ok (.aload_n 0, 1) := by decide +kernel
theorem dX1_init_1 : decode cX1_init 1 = .ok (.invokespecial 1, 3) := by decide +kernel
theorem dX1_init_4 : decode cX1_init 4 = .ok (.aload_n 0, 1) := by decide +kernel
theorem dX1_init_5 : decode cX1_init 5 = .ok (.bipush 64, 2) := by decide +kernel
theorem dX1_init_7 : decode cX1_init 7 = .ok (.newarray .int, 2) := by decide +kernel
theorem dX1_init_9 : decode cX1_init 9 = .ok (.putfield 9, 3) := by decide +kernel
theorem dX1_init_12 : decode cX1_init 12 = .ok (.return_, 1) := by decide +kernel
theorem dX1_at_0 : decode cX1_at 0 = .ok (.aload_n 0, 1) := by decide +kernel
theorem dX1_at_1 : decode cX1_at 1 = .ok (.getfield 9, 3) := by decide +kernel
theorem dX1_at_4 : decode cX1_at 4 = .ok (.iload_n 1, 1) := by decide +kernel
theorem dX1_at_5 : decode cX1_at 5 = .ok (.bipush 64, 2) := by decide +kernel
theorem dX1_at_7 : decode cX1_at 7 = .ok (.invokestatic 13, 3) := by decide +kernel
theorem dX1_at_10 : decode cX1_at 10 = .ok (.iaload, 1) := by decide +kernel
theorem dX1_at_11 : decode cX1_at 11 = .ok (.ireturn, 1) := by decide +kernel
theorem dX1_put_0 : decode cX1_put 0 = .ok (.iload_n 1, 1) := by decide +kernel
theorem dX1_put_1 : decode cX1_put 1 = .ok (.bipush 64, 2) := by decide +kernel
theorem dX1_put_3 : decode cX1_put 3 = .ok (.invokestatic 13, 3) := by decide +kernel
theorem dX1_put_6 : decode cX1_put 6 = .ok (.istore_n 3, 1) := by decide +kernel
theorem dX1_put_7 : decode cX1_put 7 = .ok (.aload_n 0, 1) := by decide +kernel
theorem dX1_put_8 : decode cX1_put 8 = .ok (.getfield 9, 3) := by decide +kernel
theorem dX1_put_11 : decode cX1_put 11 = .ok (.iload_n 3, 1) := by decide +kernel
theorem dX1_put_12 : decode cX1_put 12 = .ok (.iaload, 1) := by decide +kernel
theorem dX1_put_13 : decode cX1_put 13 = .ok (.istore 4, 2) := by decide +kernel
theorem dX1_put_15 : decode cX1_put 15 = .ok (.aload_n 0, 1) := by decide +kernel
theorem dX1_put_16 : decode cX1_put 16 = .ok (.getfield 9, 3) := by decide +kernel
theorem dX1_put_19 : decode cX1_put 19 = .ok (.iload_n 3, 1) := by decide +kernel
theorem dX1_put_20 : decode cX1_put 20 = .ok (.iload_n 2, 1) := by decide +kernel
theorem dX1_put_21 : decode cX1_put 21 = .ok (.iastore, 1) := by decide +kernel
theorem dX1_put_22 : decode cX1_put 22 = .ok (.iload 4, 2) := by decide +kernel
theorem dX1_put_24 : decode cX1_put 24 = .ok (.ireturn, 1) := by decide +kernel
theorem dX2_init_0 : decode cX2_init 0 = .ok (.aload_n 0, 1) := by decide +kernel
theorem dX2_init_1 : decode cX2_init 1 = .ok (.invokespecial 1, 3) := by decide +kernel
theorem dX2_init_4 : decode cX2_init 4 = .ok (.aload_n 0, 1) := by decide +kernel
theorem dX2_init_5 : decode cX2_init 5 = .ok (.iload_n 1, 1) := by decide +kernel
theorem dX2_init_6 : decode cX2_init 6 = .ok (.putfield 7, 3) := by decide +kernel
theorem dX2_init_9 : decode cX2_init 9 = .ok (.aload_n 0, 1) := by decide +kernel
theorem dX2_init_10 : decode cX2_init 10 = .ok (.iload_n 2, 1) := by decide +kernel
theorem dX2_init_11 : decode cX2_init 11 = .ok (.putfield 13, 3) := by decide +kernel
theorem dX2_init_14 : decode cX2_init 14 = .ok (.aload_n 0, 1) := by decide +kernel
theorem dX2_init_15 : decode cX2_init 15 = .ok (.iload_n 3, 1) := by decide +kernel
theorem dX2_init_16 : decode cX2_init 16 = .ok (.putfield 16, 3) := by decide +kernel
theorem dX2_init_19 : decode cX2_init 19 = .ok (.return_, 1) := by decide +kernel
theorem dX3_init_0 : decode cX3_init 0 = .ok (.aload_n 0, 1) := by decide +kernel
theorem dX3_init_1 : decode cX3_init 1 = .ok (.invokespecial 3, 3) := by decide +kernel
theorem dX3_init_4 : decode cX3_init 4 = .ok (.aload_n 0, 1) := by decide +kernel
theorem dX3_init_5 : decode cX3_init 5 = .ok (.iconst 0, 1) := by decide +kernel
theorem dX3_init_6 : decode cX3_init 6 = .ok (.putfield 9, 3) := by decide +kernel
theorem dX3_init_9 : decode cX3_init 9 = .ok (.aload_n 0, 1) := by decide +kernel
theorem dX3_init_10 : decode cX3_init 10 = .ok (.iconst 0, 1) := by decide +kernel
theorem dX3_init_11 : decode cX3_init 11 = .ok (.putfield 15, 3) := by decide +kernel
theorem dX3_init_14 : decode cX3_init 14 = .ok (.aload_n 0, 1) := by decide +kernel
theorem dX3_init_15 : decode cX3_init 15 = .ok (.lconst 0, 1) := by decide +kernel
theorem dX3_init_16 : decode cX3_init 16 = .ok (.putfield 18, 3) := by decide +kernel
theorem dX3_init_19 : decode cX3_init 19 = .ok (.aload_n 0, 1) := by decide +kernel
theorem dX3_init_20 : decode cX3_init 20 = .ok (.iconst 0, 1) := by decide +kernel
theorem dX3_init_21 : decode cX3_init 21 = .ok (.putfield 22, 3) := by decide +kernel
theorem dX3_init_24 : decode cX3_init 24 = .ok (.aload_n 0, 1) := by decide +kernel
theorem dX3_init_25 : decode cX3_init 25 = .ok (.iconst 0, 1) := by decide +kernel
theorem dX3_init_26 : decode cX3_init 26 = .ok (.putfield 25, 3) := by decide +kernel
theorem dX3_init_29 : decode cX3_init 29 = .ok (.aload_n 0, 1) := by decide +kernel
theorem dX3_init_30 : decode cX3_init 30 = .ok (.iconst 0, 1) := by decide +kernel
theorem dX3_init_31 : decode cX3_init 31 = .ok (.putfield 28, 3) := by decide +kernel
theorem dX3_init_34 : decode cX3_init 34 = .ok (.aload_n 0, 1) := by decide +kernel
theorem dX3_init_35 : decode cX3_init 35 = .ok (.iload_n 1, 1) := by decide +kernel
theorem dX3_init_36 : decode cX3_init 36 = .ok (.putfield 31, 3) := by decide +kernel
theorem dX3_init_39 : decode cX3_init 39 = .ok (.aload_n 0, 1) := by decide +kernel
theorem dX3_init_40 : decode cX3_init 40 = .ok (.iload_n 2, 1) := by decide +kernel
theorem dX3_init_41 : decode cX3_init 41 = .ok (.putfield 34, 3) := by decide +kernel
theorem dX3_init_44 : decode cX3_init 44 = .ok (.aload_n 0, 1) := by decide +kernel
theorem dX3_init_45 : decode cX3_init 45 = .ok (.iload_n 3, 1) := by decide +kernel
theorem dX3_init_46 : decode cX3_init 46 = .ok (.putfield 37, 3) := by decide +kernel
theorem dX3_init_49 : decode cX3_init 49 = .ok (.aload_n 0, 1) := by decide +kernel
theorem dX3_init_50 : decode cX3_init 50 = .ok (.iload 4, 2) := by decide +kernel
theorem dX3_init_52 : decode cX3_init 52 = .ok (.putfield 40, 3) := by decide +kernel
theorem dX3_init_55 : decode cX3_init 55 = .ok (.aload_n 0, 1) := by decide +kernel
theorem dX3_init_56 : decode cX3_init 56 = .ok (.iload 5, 2) := by decide +kernel
theorem dX3_init_58 : decode cX3_init 58 = .ok (.putfield 43, 3) := by decide +kernel
theorem dX3_init_61 : decode cX3_init 61 = .ok (.return_, 1) := by decide +kernel
theorem dX3_leastGasFor_0 : decode cX3_leastGasFor 0 = .ok (.iload_n 0, 1) := by decide +kernel
theorem dX3_leastGasFor_1 : decode cX3_leastGasFor 1 = .ok (.iload_n 1, 1) := by decide +kernel
theorem dX3_leastGasFor_2 : decode cX3_leastGasFor 2 = .ok (.imul, 1) := by decide +kernel
theorem dX3_leastGasFor_3 : decode cX3_leastGasFor 3 = .ok (.bipush 99, 2) := by decide +kernel
theorem dX3_leastGasFor_5 : decode cX3_leastGasFor 5 = .ok (.iadd, 1) := by decide +kernel
theorem dX3_leastGasFor_6 : decode cX3_leastGasFor 6 = .ok (.bipush 100, 2) := by decide +kernel
theorem dX3_leastGasFor_8 : decode cX3_leastGasFor 8 = .ok (.idiv, 1) := by decide +kernel
theorem dX3_leastGasFor_9 : decode cX3_leastGasFor 9 = .ok (.ireturn, 1) := by decide +kernel
theorem dX3_mostGasFor_0 : decode cX3_mostGasFor 0 = .ok (.iload_n 0, 1) := by decide +kernel
theorem dX3_mostGasFor_1 : decode cX3_mostGasFor 1 = .ok (.iload_n 1, 1) := by decide +kernel
theorem dX3_mostGasFor_2 : decode cX3_mostGasFor 2 = .ok (.imul, 1) := by decide +kernel
theorem dX3_mostGasFor_3 : decode cX3_mostGasFor 3 = .ok (.bipush 100, 2) := by decide +kernel
theorem dX3_mostGasFor_5 : decode cX3_mostGasFor 5 = .ok (.idiv, 1) := by decide +kernel
theorem dX3_mostGasFor_6 : decode cX3_mostGasFor 6 = .ok (.ireturn, 1) := by decide +kernel
theorem dX3_room_0 : decode cX3_room 0 = .ok (.aload_n 0, 1) := by decide +kernel
theorem dX3_room_1 : decode cX3_room 1 = .ok (.getfield 34, 3) := by decide +kernel
theorem dX3_room_4 : decode cX3_room 4 = .ok (.aload_n 0, 1) := by decide +kernel
theorem dX3_room_5 : decode cX3_room 5 = .ok (.getfield 9, 3) := by decide +kernel
theorem dX3_room_8 : decode cX3_room 8 = .ok (.isub, 1) := by decide +kernel
theorem dX3_room_9 : decode cX3_room 9 = .ok (.ireturn, 1) := by decide +kernel
theorem dX3_pressureNow_0 : decode cX3_pressureNow 0 = .ok (.aload_n 0, 1) := by decide +kernel
theorem dX3_pressureNow_1 : decode cX3_pressureNow 1 = .ok (.invokevirtual 46, 3) := by decide +kernel
theorem dX3_pressureNow_4 : decode cX3_pressureNow 4 = .ok (.istore_n 1, 1) := by decide +kernel
theorem dX3_pressureNow_5 : decode cX3_pressureNow 5 = .ok (.iload_n 1, 1) := by decide +kernel
theorem dX3_pressureNow_6 : decode cX3_pressureNow 6 = .ok (.ifCond .le 15, 3) := by decide +kernel
theorem dX3_pressureNow_9 : decode cX3_pressureNow 9 = .ok (.bipush 100, 2) := by decide +kernel
theorem dX3_pressureNow_11 : decode cX3_pressureNow 11 = .ok (.aload_n 0, 1) := by decide +kernel
theorem dX3_pressureNow_12 : decode cX3_pressureNow 12 = .ok (.getfield 15, 3) := by decide +kernel
theorem dX3_pressureNow_15 : decode cX3_pressureNow 15 = .ok (.imul, 1) := by decide +kernel
theorem dX3_pressureNow_16 : decode cX3_pressureNow 16 = .ok (.iload_n 1, 1) := by decide +kernel
theorem dX3_pressureNow_17 : decode cX3_pressureNow 17 = .ok (.idiv, 1) := by decide +kernel
theorem dX3_pressureNow_18 : decode cX3_pressureNow 18 = .ok (.goto 4, 3) := by decide +kernel
theorem dX3_pressureNow_21 : decode cX3_pressureNow 21 = .ok (.iconst 0, 1) := by decide +kernel
theorem dX3_pressureNow_22 : decode cX3_pressureNow 22 = .ok (.ireturn, 1) := by decide +kernel
theorem dX3_leastGas_0 : decode cX3_leastGas 0 = .ok (.aload_n 0, 1) := by decide +kernel
theorem dX3_leastGas_1 : decode cX3_leastGas 1 = .ok (.getfield 37, 3) := by decide +kernel
theorem dX3_leastGas_4 : decode cX3_leastGas 4 = .ok (.aload_n 0, 1) := by decide +kernel
theorem dX3_leastGas_5 : decode cX3_leastGas 5 = .ok (.invokevirtual 46, 3) := by decide +kernel
theorem dX3_leastGas_8 : decode cX3_leastGas 8 = .ok (.invokestatic 50, 3) := by decide +kernel
theorem dX3_leastGas_11 : decode cX3_leastGas 11 = .ok (.ireturn, 1) := by decide +kernel
theorem dX3_mostGas_0 : decode cX3_mostGas 0 = .ok (.aload_n 0, 1) := by decide +kernel
theorem dX3_mostGas_1 : decode cX3_mostGas 1 = .ok (.getfield 40, 3) := by decide +kernel
theorem dX3_mostGas_4 : decode cX3_mostGas 4 = .ok (.aload_n 0, 1) := by decide +kernel
theorem dX3_mostGas_5 : decode cX3_mostGas 5 = .ok (.invokevirtual 46, 3) := by decide +kernel
theorem dX3_mostGas_8 : decode cX3_mostGas 8 = .ok (.invokestatic 54, 3) := by decide +kernel
theorem dX3_mostGas_11 : decode cX3_mostGas 11 = .ok (.ireturn, 1) := by decide +kernel
theorem dX3_rateIn_0 : decode cX3_rateIn 0 = .ok (.aload_n 0, 1) := by decide +kernel
theorem dX3_rateIn_1 : decode cX3_rateIn 1 = .ok (.aload_n 0, 1) := by decide +kernel
theorem dX3_rateIn_2 : decode cX3_rateIn 2 = .ok (.getfield 40, 3) := by decide +kernel
theorem dX3_rateIn_5 : decode cX3_rateIn 5 = .ok (.aload_n 0, 1) := by decide +kernel
theorem dX3_rateIn_6 : decode cX3_rateIn 6 = .ok (.invokevirtual 57, 3) := by decide +kernel
theorem dX3_rateIn_9 : decode cX3_rateIn 9 = .ok (.isub, 1) := by decide +kernel
theorem dX3_rateIn_10 : decode cX3_rateIn 10 = .ok (.aload_n 0, 1) := by decide +kernel
theorem dX3_rateIn_11 : decode cX3_rateIn 11 = .ok (.invokevirtual 60, 3) := by decide +kernel
theorem dX3_rateIn_14 : decode cX3_rateIn 14 = .ok (.aload_n 0, 1) := by decide +kernel
theorem dX3_rateIn_15 : decode cX3_rateIn 15 = .ok (.getfield 15, 3) := by decide +kernel
theorem dX3_rateIn_18 : decode cX3_rateIn 18 = .ok (.isub, 1) := by decide +kernel
theorem dX3_rateIn_19 : decode cX3_rateIn 19 = .ok (.invokevirtual 63, 3) := by decide +kernel
theorem dX3_rateIn_22 : decode cX3_rateIn 22 = .ok (.ireturn, 1) := by decide +kernel
theorem dX3_rateOut_0 : decode cX3_rateOut 0 = .ok (.aload_n 0, 1) := by decide +kernel
theorem dX3_rateOut_1 : decode cX3_rateOut 1 = .ok (.aload_n 0, 1) := by decide +kernel
theorem dX3_rateOut_2 : decode cX3_rateOut 2 = .ok (.invokevirtual 57, 3) := by decide +kernel
theorem dX3_rateOut_5 : decode cX3_rateOut 5 = .ok (.aload_n 0, 1) := by decide +kernel
theorem dX3_rateOut_6 : decode cX3_rateOut 6 = .ok (.getfield 37, 3) := by decide +kernel
theorem dX3_rateOut_9 : decode cX3_rateOut 9 = .ok (.isub, 1) := by decide +kernel
theorem dX3_rateOut_10 : decode cX3_rateOut 10 = .ok (.aload_n 0, 1) := by decide +kernel
theorem dX3_rateOut_11 : decode cX3_rateOut 11 = .ok (.getfield 15, 3) := by decide +kernel
theorem dX3_rateOut_14 : decode cX3_rateOut 14 = .ok (.aload_n 0, 1) := by decide +kernel
theorem dX3_rateOut_15 : decode cX3_rateOut 15 = .ok (.invokevirtual 66, 3) := by decide +kernel
theorem dX3_rateOut_18 : decode cX3_rateOut 18 = .ok (.isub, 1) := by decide +kernel
theorem dX3_rateOut_19 : decode cX3_rateOut 19 = .ok (.invokevirtual 63, 3) := by decide +kernel
theorem dX3_rateOut_22 : decode cX3_rateOut 22 = .ok (.ireturn, 1) := by decide +kernel
theorem dX3_rateBy_0 : decode cX3_rateBy 0 = .ok (.iconst 0, 1) := by decide +kernel
theorem dX3_rateBy_1 : decode cX3_rateBy 1 = .ok (.aload_n 0, 1) := by decide +kernel
theorem dX3_rateBy_2 : decode cX3_rateBy 2 = .ok (.getfield 22, 3) := by decide +kernel
theorem dX3_rateBy_5 : decode cX3_rateBy 5 = .ok (.aload_n 0, 1) := by decide +kernel
theorem dX3_rateBy_6 : decode cX3_rateBy 6 = .ok (.getfield 25, 3) := by decide +kernel
theorem dX3_rateBy_9 : decode cX3_rateBy 9 = .ok (.imul, 1) := by decide +kernel
theorem dX3_rateBy_10 : decode cX3_rateBy 10 = .ok (.iload_n 1, 1) := by decide +kernel
theorem dX3_rateBy_11 : decode cX3_rateBy 11 = .ok (.imul, 1) := by decide +kernel
theorem dX3_rateBy_12 : decode cX3_rateBy 12 = .ok (.bipush 100, 2) := by decide +kernel
theorem dX3_rateBy_14 : decode cX3_rateBy 14 = .ok (.idiv, 1) := by decide +kernel
theorem dX3_rateBy_15 : decode cX3_rateBy 15 = .ok (.iload_n 2, 1) := by decide +kernel
theorem dX3_rateBy_16 : decode cX3_rateBy 16 = .ok (.invokestatic 69, 3) := by decide +kernel
theorem dX3_rateBy_19 : decode cX3_rateBy 19 = .ok (.invokestatic 74, 3) := by decide +kernel
theorem dX3_rateBy_22 : decode cX3_rateBy 22 = .ok (.ireturn, 1) := by decide +kernel
theorem dX3_takeIn_0 : decode cX3_takeIn 0 = .ok (.aload_n 0, 1) := by decide +kernel
theorem dX3_takeIn_1 : decode cX3_takeIn 1 = .ok (.dup, 1) := by decide +kernel
theorem dX3_takeIn_2 : decode cX3_takeIn 2 = .ok (.getfield 15, 3) := by decide +kernel
theorem dX3_takeIn_5 : decode cX3_takeIn 5 = .ok (.iload_n 1, 1) := by decide +kernel
theorem dX3_takeIn_6 : decode cX3_takeIn 6 = .ok (.iadd, 1) := by decide +kernel
theorem dX3_takeIn_7 : decode cX3_takeIn 7 = .ok (.putfield 15, 3) := by decide +kernel
theorem dX3_takeIn_10 : decode cX3_takeIn 10 = .ok (.aload_n 0, 1) := by decide +kernel
theorem dX3_takeIn_11 : decode cX3_takeIn 11 = .ok (.dup, 1) := by decide +kernel
theorem dX3_takeIn_12 : decode cX3_takeIn 12 = .ok (.getfield 18, 3) := by decide +kernel
theorem dX3_takeIn_15 : decode cX3_takeIn 15 = .ok (.iload_n 1, 1) := by decide +kernel
theorem dX3_takeIn_16 : decode cX3_takeIn 16 = .ok (.i2l, 1) := by decide +kernel
theorem dX3_takeIn_17 : decode cX3_takeIn 17 = .ok (.iload_n 2, 1) := by decide +kernel
theorem dX3_takeIn_18 : decode cX3_takeIn 18 = .ok (.i2l, 1) := by decide +kernel
theorem dX3_takeIn_19 : decode cX3_takeIn 19 = .ok (.lmul, 1) := by decide +kernel
theorem dX3_takeIn_20 : decode cX3_takeIn 20 = .ok (.ladd, 1) := by decide +kernel
theorem dX3_takeIn_21 : decode cX3_takeIn 21 = .ok (.putfield 18, 3) := by decide +kernel
theorem dX3_takeIn_24 : decode cX3_takeIn 24 = .ok (.return_, 1) := by decide +kernel
theorem dX3_giveAway_0 : decode cX3_giveAway 0 = .ok (.iload_n 1, 1) := by decide +kernel
theorem dX3_giveAway_1 : decode cX3_giveAway 1 = .ok (.aload_n 0, 1) := by decide +kernel
theorem dX3_giveAway_2 : decode cX3_giveAway 2 = .ok (.getfield 15, 3) := by decide +kernel
theorem dX3_giveAway_5 : decode cX3_giveAway 5 = .ok (.invokestatic 69, 3) := by decide +kernel
theorem dX3_giveAway_8 : decode cX3_giveAway 8 = .ok (.istore_n 2, 1) := by decide +kernel
theorem dX3_giveAway_9 : decode cX3_giveAway 9 = .ok (.iload_n 2, 1) := by decide +kernel
theorem dX3_giveAway_10 : decode cX3_giveAway 10 = .ok (.ifCond .gt 5, 3) := by decide +kernel
theorem dX3_giveAway_13 : decode cX3_giveAway 13 = .ok (.iconst 0, 1) := by decide +kernel
theorem dX3_giveAway_14 : decode cX3_giveAway 14 = .ok (.ireturn, 1) := by decide +kernel
theorem dX3_giveAway_15 : decode cX3_giveAway 15 = .ok (.aload_n 0, 1) := by decide +kernel
theorem dX3_giveAway_16 : decode cX3_giveAway 16 = .ok (.dup, 1) := by decide +kernel
theorem dX3_giveAway_17 : decode cX3_giveAway 17 = .ok (.getfield 18, 3) := by decide +kernel
theorem dX3_giveAway_20 : decode cX3_giveAway 20 = .ok (.iload_n 2, 1) := by decide +kernel
theorem dX3_giveAway_21 : decode cX3_giveAway 21 = .ok (.i2l, 1) := by decide +kernel
theorem dX3_giveAway_22 : decode cX3_giveAway 22 = .ok (.aload_n 0, 1) := by decide +kernel
theorem dX3_giveAway_23 : decode cX3_giveAway 23 = .ok (.getfield 18, 3) := by decide +kernel
theorem dX3_giveAway_26 : decode cX3_giveAway 26 = .ok (.lmul, 1) := by decide +kernel
theorem dX3_giveAway_27 : decode cX3_giveAway 27 = .ok (.aload_n 0, 1) := by decide +kernel
theorem dX3_giveAway_28 : decode cX3_giveAway 28 = .ok (.getfield 15, 3) := by decide +kernel
theorem dX3_giveAway_31 : decode cX3_giveAway 31 = .ok (.i2l, 1) := by decide +kernel
theorem dX3_giveAway_32 : decode cX3_giveAway 32 = .ok (.ldiv, 1) := by decide +kernel
theorem dX3_giveAway_33 : decode cX3_giveAway 33 = .ok (.lsub, 1) := by decide +kernel
theorem dX3_giveAway_34 : decode cX3_giveAway 34 = .ok (.putfield 18, 3) := by decide +kernel
theorem dX3_giveAway_37 : decode cX3_giveAway 37 = .ok (.aload_n 0, 1) := by decide +kernel
theorem dX3_giveAway_38 : decode cX3_giveAway 38 = .ok (.dup, 1) := by decide +kernel
theorem dX3_giveAway_39 : decode cX3_giveAway 39 = .ok (.getfield 15, 3) := by decide +kernel
theorem dX3_giveAway_42 : decode cX3_giveAway 42 = .ok (.iload_n 2, 1) := by decide +kernel
theorem dX3_giveAway_43 : decode cX3_giveAway 43 = .ok (.isub, 1) := by decide +kernel
theorem dX3_giveAway_44 : decode cX3_giveAway 44 = .ok (.putfield 15, 3) := by decide +kernel
theorem dX3_giveAway_47 : decode cX3_giveAway 47 = .ok (.iload_n 2, 1) := by decide +kernel
theorem dX3_giveAway_48 : decode cX3_giveAway 48 = .ok (.ireturn, 1) := by decide +kernel
theorem dX3_loseInAnHour_0 : decode cX3_loseInAnHour 0 = .ok (.aload_n 0, 1) := by decide +kernel
theorem dX3_loseInAnHour_1 : decode cX3_loseInAnHour 1 = .ok (.aload_n 0, 1) := by decide +kernel
theorem dX3_loseInAnHour_2 : decode cX3_loseInAnHour 2 = .ok (.getfield 28, 3) := by decide +kernel
theorem dX3_loseInAnHour_5 : decode cX3_loseInAnHour 5 = .ok (.invokevirtual 77, 3) := by decide +kernel
theorem dX3_loseInAnHour_8 : decode cX3_loseInAnHour 8 = .ok (.istore_n 1, 1) := by decide +kernel
theorem dX3_loseInAnHour_9 : decode cX3_loseInAnHour 9 = .ok (.aload_n 0, 1) := by decide +kernel
theorem dX3_loseInAnHour_10 : decode cX3_loseInAnHour 10 = .ok (.getfield 31, 3) := by decide +kernel
theorem dX3_loseInAnHour_13 : decode cX3_loseInAnHour 13 = .ok (.iconst 2, 1) := by decide +kernel
theorem dX3_loseInAnHour_14 : decode cX3_loseInAnHour 14 = .ok (.if_icmp .ne 21, 3) := by decide +kernel
theorem dX3_loseInAnHour_17 : decode cX3_loseInAnHour 17 = .ok (.iload_n 1, 1) := by decide +kernel
theorem dX3_loseInAnHour_18 : decode cX3_loseInAnHour 18 = .ok (.aload_n 0, 1) := by decide +kernel
theorem dX3_loseInAnHour_19 : decode cX3_loseInAnHour 19 = .ok (.aload_n 0, 1) := by decide +kernel
theorem dX3_loseInAnHour_20 : decode cX3_loseInAnHour 20 = .ok (.getfield 15, 3) := by decide +kernel
theorem dX3_loseInAnHour_23 : decode cX3_loseInAnHour 23 = .ok (.aload_n 0, 1) := by decide +kernel
theorem dX3_loseInAnHour_24 : decode cX3_loseInAnHour 24 = .ok (.getfield 43, 3) := by decide +kernel
theorem dX3_loseInAnHour_27 : decode cX3_loseInAnHour 27 = .ok (.isub, 1) := by decide +kernel
theorem dX3_loseInAnHour_28 : decode cX3_loseInAnHour 28 = .ok (.invokevirtual 77, 3) := by decide +kernel
theorem dX3_loseInAnHour_31 : decode cX3_loseInAnHour 31 = .ok (.iadd, 1) := by decide +kernel
theorem dX3_loseInAnHour_32 : decode cX3_loseInAnHour 32 = .ok (.goto 4, 3) := by decide +kernel
theorem dX3_loseInAnHour_35 : decode cX3_loseInAnHour 35 = .ok (.iload_n 1, 1) := by decide +kernel
theorem dX3_loseInAnHour_36 : decode cX3_loseInAnHour 36 = .ok (.ireturn, 1) := by decide +kernel
theorem dX3_loseAtDaysEnd_0 : decode cX3_loseAtDaysEnd 0 = .ok (.aload_n 0, 1) := by decide +kernel
theorem dX3_loseAtDaysEnd_1 : decode cX3_loseAtDaysEnd 1 = .ok (.getfield 31, 3) := by decide +kernel
theorem dX3_loseAtDaysEnd_4 : decode cX3_loseAtDaysEnd 4 = .ok (.ifCond .ne 10, 3) := by decide +kernel
theorem dX3_loseAtDaysEnd_7 : decode cX3_loseAtDaysEnd 7 = .ok (.aload_n 0, 1) := by decide +kernel
theorem dX3_loseAtDaysEnd_8 : decode cX3_loseAtDaysEnd 8 = .ok (.invokevirtual 81, 3) := by decide +kernel
theorem dX3_loseAtDaysEnd_11 : decode cX3_loseAtDaysEnd 11 = .ok (.goto 15, 3) := by decide +kernel
theorem dX3_loseAtDaysEnd_14 : decode cX3_loseAtDaysEnd 14 = .ok (.aload_n 0, 1) := by decide +kernel
theorem dX3_loseAtDaysEnd_15 : decode cX3_loseAtDaysEnd 15 = .ok (.getfield 31, 3) := by decide +kernel
theorem dX3_loseAtDaysEnd_18 : decode cX3_loseAtDaysEnd 18 = .ok (.iconst 1, 1) := by decide +kernel
theorem dX3_loseAtDaysEnd_19 : decode cX3_loseAtDaysEnd 19 = .ok (.if_icmp .ne 7, 3) := by decide +kernel
theorem dX3_loseAtDaysEnd_22 : decode cX3_loseAtDaysEnd 22 = .ok (.aload_n 0, 1) := by decide +kernel
theorem dX3_loseAtDaysEnd_23 : decode cX3_loseAtDaysEnd 23 = .ok (.invokevirtual 84, 3) := by decide +kernel
theorem dX3_loseAtDaysEnd_26 : decode cX3_loseAtDaysEnd 26 = .ok (.aload_n 0, 1) := by decide +kernel
theorem dX3_loseAtDaysEnd_27 : decode cX3_loseAtDaysEnd 27 = .ok (.aload_n 0, 1) := by decide +kernel
theorem dX3_loseAtDaysEnd_28 : decode cX3_loseAtDaysEnd 28 = .ok (.getfield 15, 3) := by decide +kernel
theorem dX3_loseAtDaysEnd_31 : decode cX3_loseAtDaysEnd 31 = .ok (.aload_n 0, 1) := by decide +kernel
theorem dX3_loseAtDaysEnd_32 : decode cX3_loseAtDaysEnd 32 = .ok (.invokevirtual 60, 3) := by decide +kernel
theorem dX3_loseAtDaysEnd_35 : decode cX3_loseAtDaysEnd 35 = .ok (.isub, 1) := by decide +kernel
theorem dX3_loseAtDaysEnd_36 : decode cX3_loseAtDaysEnd 36 = .ok (.invokevirtual 77, 3) := by decide +kernel
theorem dX3_loseAtDaysEnd_39 : decode cX3_loseAtDaysEnd 39 = .ok (.ireturn, 1) := by decide +kernel
theorem dX3_moveWater_0 : decode cX3_moveWater 0 = .ok (.aload_n 0, 1) := by decide +kernel
theorem dX3_moveWater_1 : decode cX3_moveWater 1 = .ok (.invokevirtual 57, 3) := by decide +kernel
theorem dX3_moveWater_4 : decode cX3_moveWater 4 = .ok (.istore_n 1, 1) := by decide +kernel
theorem dX3_moveWater_5 : decode cX3_moveWater 5 = .ok (.iload_n 1, 1) := by decide +kernel
theorem dX3_moveWater_6 : decode cX3_moveWater 6 = .ok (.aload_n 0, 1) := by decide +kernel
theorem dX3_moveWater_7 : decode cX3_moveWater 7 = .ok (.getfield 43, 3) := by decide +kernel
theorem dX3_moveWater_10 : decode cX3_moveWater 10 = .ok (.if_icmp .ge 23, 3) := by decide +kernel
theorem dX3_moveWater_13 : decode cX3_moveWater 13 = .ok (.aload_n 0, 1) := by decide +kernel
theorem dX3_moveWater_14 : decode cX3_moveWater 14 = .ok (.dup, 1) := by decide +kernel
theorem dX3_moveWater_15 : decode cX3_moveWater 15 = .ok (.getfield 9, 3) := by decide +kernel
theorem dX3_moveWater_18 : decode cX3_moveWater 18 = .ok (.aload_n 0, 1) := by decide +kernel
theorem dX3_moveWater_19 : decode cX3_moveWater 19 = .ok (.invokevirtual 46, 3) := by decide +kernel
theorem dX3_moveWater_22 : decode cX3_moveWater 22 = .ok (.sipush 200, 3) := by decide +kernel
theorem dX3_moveWater_25 : decode cX3_moveWater 25 = .ok (.idiv, 1) := by decide +kernel
theorem dX3_moveWater_26 : decode cX3_moveWater 26 = .ok (.iadd, 1) := by decide +kernel
theorem dX3_moveWater_27 : decode cX3_moveWater 27 = .ok (.putfield 9, 3) := by decide +kernel
theorem dX3_moveWater_30 : decode cX3_moveWater 30 = .ok (.goto 32, 3) := by decide +kernel
theorem dX3_moveWater_33 : decode cX3_moveWater 33 = .ok (.iload_n 1, 1) := by decide +kernel
theorem dX3_moveWater_34 : decode cX3_moveWater 34 = .ok (.aload_n 0, 1) := by decide +kernel
theorem dX3_moveWater_35 : decode cX3_moveWater 35 = .ok (.getfield 43, 3) := by decide +kernel
theorem dX3_moveWater_38 : decode cX3_moveWater 38 = .ok (.if_icmp .le 24, 3) := by decide +kernel
theorem dX3_moveWater_41 : decode cX3_moveWater 41 = .ok (.aload_n 0, 1) := by decide +kernel
theorem dX3_moveWater_42 : decode cX3_moveWater 42 = .ok (.dup, 1) := by decide +kernel
theorem dX3_moveWater_43 : decode cX3_moveWater 43 = .ok (.getfield 9, 3) := by decide +kernel
theorem dX3_moveWater_46 : decode cX3_moveWater 46 = .ok (.aload_n 0, 1) := by decide +kernel
theorem dX3_moveWater_47 : decode cX3_moveWater 47 = .ok (.getfield 9, 3) := by decide +kernel
theorem dX3_moveWater_50 : decode cX3_moveWater 50 = .ok (.sipush 199, 3) := by decide +kernel
theorem dX3_moveWater_53 : decode cX3_moveWater 53 = .ok (.iadd, 1) := by decide +kernel
theorem dX3_moveWater_54 : decode cX3_moveWater 54 = .ok (.sipush 200, 3) := by decide +kernel
theorem dX3_moveWater_57 : decode cX3_moveWater 57 = .ok (.idiv, 1) := by decide +kernel
theorem dX3_moveWater_58 : decode cX3_moveWater 58 = .ok (.isub, 1) := by decide +kernel
theorem dX3_moveWater_59 : decode cX3_moveWater 59 = .ok (.putfield 9, 3) := by decide +kernel
theorem dX3_moveWater_62 : decode cX3_moveWater 62 = .ok (.return_, 1) := by decide +kernel
theorem dX3_creep_0 : decode cX3_creep 0 = .ok (.aload_n 0, 1) := by decide +kernel
theorem dX3_creep_1 : decode cX3_creep 1 = .ok (.getfield 43, 3) := by decide +kernel
theorem dX3_creep_4 : decode cX3_creep 4 = .ok (.aload_n 0, 1) := by decide +kernel
theorem dX3_creep_5 : decode cX3_creep 5 = .ok (.invokevirtual 57, 3) := by decide +kernel
theorem dX3_creep_8 : decode cX3_creep 8 = .ok (.isub, 1) := by decide +kernel
theorem dX3_creep_9 : decode cX3_creep 9 = .ok (.i2l, 1) := by decide +kernel
theorem dX3_creep_10 : decode cX3_creep 10 = .ok (.lstore_n 1, 1) := by decide +kernel
theorem dX3_creep_11 : decode cX3_creep 11 = .ok (.lload_n 1, 1) := by decide +kernel
theorem dX3_creep_12 : decode cX3_creep 12 = .ok (.lconst 0, 1) := by decide +kernel
theorem dX3_creep_13 : decode cX3_creep 13 = .ok (.lcmp, 1) := by decide +kernel
theorem dX3_creep_14 : decode cX3_creep 14 = .ok (.ifCond .le 29, 3) := by decide +kernel
theorem dX3_creep_17 : decode cX3_creep 17 = .ok (.aload_n 0, 1) := by decide +kernel
theorem dX3_creep_18 : decode cX3_creep 18 = .ok (.lconst 1, 1) := by decide +kernel
theorem dX3_creep_19 : decode cX3_creep 19 = .ok (.aload_n 0, 1) := by decide +kernel
theorem dX3_creep_20 : decode cX3_creep 20 = .ok (.getfield 34, 3) := by decide +kernel
theorem dX3_creep_23 : decode cX3_creep 23 = .ok (.i2l, 1) := by decide +kernel
theorem dX3_creep_24 : decode cX3_creep 24 = .ok (.aload_n 0, 1) := by decide +kernel
theorem dX3_creep_25 : decode cX3_creep 25 = .ok (.getfield 34, 3) := by decide +kernel
theorem dX3_creep_28 : decode cX3_creep 28 = .ok (.i2l, 1) := by decide +kernel
theorem dX3_creep_29 : decode cX3_creep 29 = .ok (.lload_n 1, 1) := by decide +kernel
theorem dX3_creep_30 : decode cX3_creep 30 = .ok (.lmul, 1) := by decide +kernel
theorem dX3_creep_31 : decode cX3_creep 31 = .ok (.ldc2_w 87, 3) := by decide +kernel
theorem dX3_creep_34 : decode cX3_creep 34 = .ok (.ldiv, 1) := by decide +kernel
theorem dX3_creep_35 : decode cX3_creep 35 = .ok (.lsub, 1) := by decide +kernel
theorem dX3_creep_36 : decode cX3_creep 36 = .ok (.invokestatic 89, 3) := by decide +kernel
theorem dX3_creep_39 : decode cX3_creep 39 = .ok (.l2i, 1) := by decide +kernel
theorem dX3_creep_40 : decode cX3_creep 40 = .ok (.putfield 34, 3) := by decide +kernel
theorem dX3_creep_43 : decode cX3_creep 43 = .ok (.return_, 1) := by decide +kernel
theorem dX4_init_0 : decode cX4_init 0 = .ok (.aload_n 0, 1) := by decide +kernel
theorem dX4_init_1 : decode cX4_init 1 = .ok (.invokespecial 1, 3) := by decide +kernel
theorem dX4_init_4 : decode cX4_init 4 = .ok (.aload_n 0, 1) := by decide +kernel
theorem dX4_init_5 : decode cX4_init 5 = .ok (.new 7, 3) := by decide +kernel
theorem dX4_init_8 : decode cX4_init 8 = .ok (.dup, 1) := by decide +kernel
theorem dX4_init_9 : decode cX4_init 9 = .ok (.invokespecial 9, 3) := by decide +kernel
theorem dX4_init_12 : decode cX4_init 12 = .ok (.putfield 10, 3) := by decide +kernel
theorem dX4_init_15 : decode cX4_init 15 = .ok (.aload_n 0, 1) := by decide +kernel
theorem dX4_init_16 : decode cX4_init 16 = .ok (.new 7, 3) := by decide +kernel
theorem dX4_init_19 : decode cX4_init 19 = .ok (.dup, 1) := by decide +kernel
theorem dX4_init_20 : decode cX4_init 20 = .ok (.invokespecial 9, 3) := by decide +kernel
theorem dX4_init_23 : decode cX4_init 23 = .ok (.putfield 16, 3) := by decide +kernel
theorem dX4_init_26 : decode cX4_init 26 = .ok (.aload_n 0, 1) := by decide +kernel
theorem dX4_init_27 : decode cX4_init 27 = .ok (.new 7, 3) := by decide +kernel
theorem dX4_init_30 : decode cX4_init 30 = .ok (.dup, 1) := by decide +kernel
theorem dX4_init_31 : decode cX4_init 31 = .ok (.invokespecial 9, 3) := by decide +kernel
theorem dX4_init_34 : decode cX4_init 34 = .ok (.putfield 19, 3) := by decide +kernel
theorem dX4_init_37 : decode cX4_init 37 = .ok (.aload_n 0, 1) := by decide +kernel
theorem dX4_init_38 : decode cX4_init 38 = .ok (.new 22, 3) := by decide +kernel
theorem dX4_init_41 : decode cX4_init 41 = .ok (.dup, 1) := by decide +kernel
theorem dX4_init_42 : decode cX4_init 42 = .ok (.invokespecial 24, 3) := by decide +kernel
theorem dX4_init_45 : decode cX4_init 45 = .ok (.putfield 25, 3) := by decide +kernel
theorem dX4_init_48 : decode cX4_init 48 = .ok (.aload_n 0, 1) := by decide +kernel
theorem dX4_init_49 : decode cX4_init 49 = .ok (.iconst 0, 1) := by decide +kernel
theorem dX4_init_50 : decode cX4_init 50 = .ok (.putfield 29, 3) := by decide +kernel
theorem dX4_init_53 : decode cX4_init 53 = .ok (.aload_n 0, 1) := by decide +kernel
theorem dX4_init_54 : decode cX4_init 54 = .ok (.sipush 10000, 3) := by decide +kernel
theorem dX4_init_57 : decode cX4_init 57 = .ok (.putfield 33, 3) := by decide +kernel
theorem dX4_init_60 : decode cX4_init 60 = .ok (.aload_n 0, 1) := by decide +kernel
theorem dX4_init_61 : decode cX4_init 61 = .ok (.sipush (-1000), 3) := by decide +kernel
theorem dX4_init_64 : decode cX4_init 64 = .ok (.putfield 36, 3) := by decide +kernel
theorem dX4_init_67 : decode cX4_init 67 = .ok (.aload_n 0, 1) := by decide +kernel
theorem dX4_init_68 : decode cX4_init 68 = .ok (.sipush (-1000), 3) := by decide +kernel
theorem dX4_init_71 : decode cX4_init 71 = .ok (.putfield 39, 3) := by decide +kernel
theorem dX4_init_74 : decode cX4_init 74 = .ok (.aload_n 0, 1) := by decide +kernel
theorem dX4_init_75 : decode cX4_init 75 = .ok (.lconst 0, 1) := by decide +kernel
theorem dX4_init_76 : decode cX4_init 76 = .ok (.putfield 42, 3) := by decide +kernel
theorem dX4_init_79 : decode cX4_init 79 = .ok (.aload_n 0, 1) := by decide +kernel
theorem dX4_init_80 : decode cX4_init 80 = .ok (.lconst 0, 1) := by decide +kernel
theorem dX4_init_81 : decode cX4_init 81 = .ok (.putfield 46, 3) := by decide +kernel
theorem dX4_init_84 : decode cX4_init 84 = .ok (.aload_n 0, 1) := by decide +kernel
theorem dX4_init_85 : decode cX4_init 85 = .ok (.lconst 0, 1) := by decide +kernel
theorem dX4_init_86 : decode cX4_init 86 = .ok (.putfield 49, 3) := by decide +kernel
theorem dX4_init_89 : decode cX4_init 89 = .ok (.return_, 1) := by decide +kernel
theorem dX4_store_0 : decode cX4_store 0 = .ok (.iload_n 1, 1) := by decide +kernel
theorem dX4_store_1 : decode cX4_store 1 = .ok (.iconst 0, 1) := by decide +kernel
theorem dX4_store_2 : decode cX4_store 2 = .ok (.iconst 2, 1) := by decide +kernel
theorem dX4_store_3 : decode cX4_store 3 = .ok (.invokestatic 52, 3) := by decide +kernel
theorem dX4_store_6 : decode cX4_store 6 = .ok (.ifCond .eq 68, 3) := by decide +kernel
theorem dX4_store_9 : decode cX4_store 9 = .ok (.iload_n 2, 1) := by decide +kernel
theorem dX4_store_10 : decode cX4_store 10 = .ok (.iconst 1, 1) := by decide +kernel
theorem dX4_store_11 : decode cX4_store 11 = .ok (.ldc 56, 2) := by decide +kernel
theorem dX4_store_13 : decode cX4_store 13 = .ok (.invokestatic 52, 3) := by decide +kernel
theorem dX4_store_16 : decode cX4_store 16 = .ok (.ifCond .eq 58, 3) := by decide +kernel
theorem dX4_store_19 : decode cX4_store 19 = .ok (.iload 4, 2) := by decide +kernel
theorem dX4_store_21 : decode cX4_store 21 = .ok (.iconst 0, 1) := by decide +kernel
theorem dX4_store_22 : decode cX4_store 22 = .ok (.sipush 1000, 3) := by decide +kernel
theorem dX4_store_25 : decode cX4_store 25 = .ok (.invokestatic 52, 3) := by decide +kernel
theorem dX4_store_28 : decode cX4_store 28 = .ok (.ifCond .eq 46, 3) := by decide +kernel
theorem dX4_store_31 : decode cX4_store 31 = .ok (.iload 5, 2) := by decide +kernel
theorem dX4_store_33 : decode cX4_store 33 = .ok (.iload 4, 2) := by decide +kernel
theorem dX4_store_35 : decode cX4_store 35 = .ok (.sipush 1000, 3) := by decide +kernel
theorem dX4_store_38 : decode cX4_store 38 = .ok (.invokestatic 52, 3) := by decide +kernel
theorem dX4_store_41 : decode cX4_store 41 = .ok (.ifCond .eq 33, 3) := by decide +kernel
theorem dX4_store_44 : decode cX4_store 44 = .ok (.iload 6, 2) := by decide +kernel
theorem dX4_store_46 : decode cX4_store 46 = .ok (.iconst 0, 1) := by decide +kernel
theorem dX4_store_47 : decode cX4_store 47 = .ok (.ldc 57, 2) := by decide +kernel
theorem dX4_store_49 : decode cX4_store 49 = .ok (.invokestatic 52, 3) := by decide +kernel
theorem dX4_store_52 : decode cX4_store 52 = .ok (.ifCond .eq 22, 3) := by decide +kernel
theorem dX4_store_55 : decode cX4_store 55 = .ok (.iload_n 3, 1) := by decide +kernel
theorem dX4_store_56 : decode cX4_store 56 = .ok (.iload 4, 2) := by decide +kernel
theorem dX4_store_58 : decode cX4_store 58 = .ok (.iload_n 2, 1) := by decide +kernel
theorem dX4_store_59 : decode cX4_store 59 = .ok (.invokestatic 58, 3) := by decide +kernel
theorem dX4_store_62 : decode cX4_store 62 = .ok (.iload 5, 2) := by decide +kernel
theorem dX4_store_64 : decode cX4_store 64 = .ok (.iload_n 2, 1) := by decide +kernel
theorem dX4_store_65 : decode cX4_store 65 = .ok (.invokestatic 64, 3) := by decide +kernel
theorem dX4_store_68 : decode cX4_store 68 = .ok (.invokestatic 52, 3) := by decide +kernel
theorem dX4_store_71 : decode cX4_store 71 = .ok (.ifCond .ne 13, 3) := by decide +kernel
theorem dX4_store_74 : decode cX4_store 74 = .ok (.new 67, 3) := by decide +kernel
theorem dX4_store_77 : decode cX4_store 77 = .ok (.dup, 1) := by decide +kernel
theorem dX4_store_78 : decode cX4_store 78 = .ok (.ldc 69, 2) := by decide +kernel
theorem dX4_store_80 : decode cX4_store 80 = .ok (.invokespecial 71, 3) := by decide +kernel
theorem dX4_store_83 : decode cX4_store 83 = .ok (.athrow, 1) := by decide +kernel
theorem dX4_store_84 : decode cX4_store 84 = .ok (.aload_n 0, 1) := by decide +kernel
theorem dX4_store_85 : decode cX4_store 85 = .ok (.getfield 10, 3) := by decide +kernel
theorem dX4_store_88 : decode cX4_store 88 = .ok (.invokevirtual 74, 3) := by decide +kernel
theorem dX4_store_91 : decode cX4_store 91 = .ok (.iconst 5, 1) := by decide +kernel
theorem dX4_store_92 : decode cX4_store 92 = .ok (.if_icmp .lt 13, 3) := by decide +kernel
theorem dX4_store_95 : decode cX4_store 95 = .ok (.new 78, 3) := by decide +kernel
theorem dX4_store_98 : decode cX4_store 98 = .ok (.dup, 1) := by decide +kernel
theorem dX4_store_99 : decode cX4_store 99 = .ok (.ldc 80, 2) := by decide +kernel
theorem dX4_store_101 : decode cX4_store 101 = .ok (.invokespecial 82, 3) := by decide +kernel
theorem dX4_store_104 : decode cX4_store 104 = .ok (.athrow, 1) := by decide +kernel
theorem dX4_store_105 : decode cX4_store 105 = .ok (.new 59, 3) := by decide +kernel
theorem dX4_store_108 : decode cX4_store 108 = .ok (.dup, 1) := by decide +kernel
theorem dX4_store_109 : decode cX4_store 109 = .ok (.iload_n 1, 1) := by decide +kernel
theorem dX4_store_110 : decode cX4_store 110 = .ok (.iload_n 2, 1) := by decide +kernel
theorem dX4_store_111 : decode cX4_store 111 = .ok (.iload 4, 2) := by decide +kernel
theorem dX4_store_113 : decode cX4_store 113 = .ok (.iload 5, 2) := by decide +kernel
theorem dX4_store_115 : decode cX4_store 115 = .ok (.iload 6, 2) := by decide +kernel
theorem dX4_store_117 : decode cX4_store 117 = .ok (.invokespecial 83, 3) := by decide +kernel
theorem dX4_store_120 : decode cX4_store 120 = .ok (.astore 7, 2) := by decide +kernel
theorem dX4_store_122 : decode cX4_store 122 = .ok (.aload 7, 2) := by decide +kernel
theorem dX4_store_124 : decode cX4_store 124 = .ok (.iload_n 3, 1) := by decide +kernel
theorem dX4_store_125 : decode cX4_store 125 = .ok (.aload_n 0, 1) := by decide +kernel
theorem dX4_store_126 : decode cX4_store 126 = .ok (.getfield 33, 3) := by decide +kernel
theorem dX4_store_129 : decode cX4_store 129 = .ok (.invokevirtual 86, 3) := by decide +kernel
theorem dX4_store_132 : decode cX4_store 132 = .ok (.aload_n 0, 1) := by decide +kernel
theorem dX4_store_133 : decode cX4_store 133 = .ok (.getfield 10, 3) := by decide +kernel
theorem dX4_store_136 : decode cX4_store 136 = .ok (.aload 7, 2) := by decide +kernel
theorem dX4_store_138 : decode cX4_store 138 = .ok (.invokevirtual 90, 3) := by decide +kernel
theorem dX4_store_141 : decode cX4_store 141 = .ok (.pop, 1) := by decide +kernel
theorem dX4_store_142 : decode cX4_store 142 = .ok (.aload_n 0, 1) := by decide +kernel
theorem dX4_store_143 : decode cX4_store 143 = .ok (.dup, 1) := by decide +kernel
theorem dX4_store_144 : decode cX4_store 144 = .ok (.getfield 42, 3) := by decide +kernel
theorem dX4_store_147 : decode cX4_store 147 = .ok (.iload_n 3, 1) := by decide +kernel
theorem dX4_store_148 : decode cX4_store 148 = .ok (.i2l, 1) := by decide +kernel
theorem dX4_store_149 : decode cX4_store 149 = .ok (.ladd, 1) := by decide +kernel
theorem dX4_store_150 : decode cX4_store 150 = .ok (.putfield 42, 3) := by decide +kernel
theorem dX4_store_153 : decode cX4_store 153 = .ok (.aload_n 0, 1) := by decide +kernel
theorem dX4_store_154 : decode cX4_store 154 = .ok (.getfield 10, 3) := by decide +kernel
theorem dX4_store_157 : decode cX4_store 157 = .ok (.invokevirtual 74, 3) := by decide +kernel
theorem dX4_store_160 : decode cX4_store 160 = .ok (.iconst 1, 1) := by decide +kernel
theorem dX4_store_161 : decode cX4_store 161 = .ok (.isub, 1) := by decide +kernel
theorem dX4_store_162 : decode cX4_store 162 = .ok (.ireturn, 1) := by decide +kernel
theorem dX4_wells_0 : decode cX4_wells 0 = .ok (.aload_n 0, 1) := by decide +kernel
theorem dX4_wells_1 : decode cX4_wells 1 = .ok (.iload_n 1, 1) := by decide +kernel
theorem dX4_wells_2 : decode cX4_wells 2 = .ok (.invokevirtual 94, 3) := by decide +kernel
theorem dX4_wells_5 : decode cX4_wells 5 = .ok (.astore 4, 2) := by decide +kernel
theorem dX4_wells_7 : decode cX4_wells 7 = .ok (.iload_n 2, 1) := by decide +kernel
theorem dX4_wells_8 : decode cX4_wells 8 = .ok (.iconst 0, 1) := by decide +kernel
theorem dX4_wells_9 : decode cX4_wells 9 = .ok (.bipush 100, 2) := by decide +kernel
theorem dX4_wells_11 : decode cX4_wells 11 = .ok (.invokestatic 52, 3) := by decide +kernel
theorem dX4_wells_14 : decode cX4_wells 14 = .ok (.ifCond .eq 14, 3) := by decide +kernel
theorem dX4_wells_17 : decode cX4_wells 17 = .ok (.iload_n 3, 1) := by decide +kernel
theorem dX4_wells_18 : decode cX4_wells 18 = .ok (.iconst 0, 1) := by decide +kernel
theorem dX4_wells_19 : decode cX4_wells 19 = .ok (.sipush 1000, 3) := by decide +kernel
theorem dX4_wells_22 : decode cX4_wells 22 = .ok (.invokestatic 52, 3) := by decide +kernel
theorem dX4_wells_25 : decode cX4_wells 25 = .ok (.ifCond .ne 13, 3) := by decide +kernel
theorem dX4_wells_28 : decode cX4_wells 28 = .ok (.new 67, 3) := by decide +kernel
theorem dX4_wells_31 : decode cX4_wells 31 = .ok (.dup, 1) := by decide +kernel
theorem dX4_wells_32 : decode cX4_wells 32 = .ok (.ldc 98, 2) := by decide +kernel
theorem dX4_wells_34 : decode cX4_wells 34 = .ok (.invokespecial 71, 3) := by decide +kernel
theorem dX4_wells_37 : decode cX4_wells 37 = .ok (.athrow, 1) := by decide +kernel
theorem dX4_wells_38 : decode cX4_wells 38 = .ok (.aload 4, 2) := by decide +kernel
theorem dX4_wells_40 : decode cX4_wells 40 = .ok (.iload_n 2, 1) := by decide +kernel
theorem dX4_wells_41 : decode cX4_wells 41 = .ok (.putfield 100, 3) := by decide +kernel
theorem dX4_wells_44 : decode cX4_wells 44 = .ok (.aload 4, 2) := by decide +kernel
theorem dX4_wells_46 : decode cX4_wells 46 = .ok (.iload_n 3, 1) := by decide +kernel
theorem dX4_wells_47 : decode cX4_wells 47 = .ok (.putfield 103, 3) := by decide +kernel
theorem dX4_wells_50 : decode cX4_wells 50 = .ok (.aload 4, 2) := by decide +kernel
theorem dX4_wells_52 : decode cX4_wells 52 = .ok (.invokevirtual 106, 3) := by decide +kernel
theorem dX4_wells_55 : decode cX4_wells 55 = .ok (.ireturn, 1) := by decide +kernel
theorem dX4_leak_0 : decode cX4_leak 0 = .ok (.aload_n 0, 1) := by decide +kernel
theorem dX4_leak_1 : decode cX4_leak 1 = .ok (.iload_n 1, 1) := by decide +kernel
theorem dX4_leak_2 : decode cX4_leak 2 = .ok (.invokevirtual 94, 3) := by decide +kernel
theorem dX4_leak_5 : decode cX4_leak 5 = .ok (.astore_n 3, 1) := by decide +kernel
theorem dX4_leak_6 : decode cX4_leak 6 = .ok (.iload_n 2, 1) := by decide +kernel
theorem dX4_leak_7 : decode cX4_leak 7 = .ok (.iconst 0, 1) := by decide +kernel
theorem dX4_leak_8 : decode cX4_leak 8 = .ok (.sipush 1000, 3) := by decide +kernel
theorem dX4_leak_11 : decode cX4_leak 11 = .ok (.invokestatic 52, 3) := by decide +kernel
theorem dX4_leak_14 : decode cX4_leak 14 = .ok (.ifCond .ne 13, 3) := by decide +kernel
theorem dX4_leak_17 : decode cX4_leak 17 = .ok (.new 67, 3) := by decide +kernel
theorem dX4_leak_20 : decode cX4_leak 20 = .ok (.dup, 1) := by decide +kernel
theorem dX4_leak_21 : decode cX4_leak 21 = .ok (.ldc 109, 2) := by decide +kernel
theorem dX4_leak_23 : decode cX4_leak 23 = .ok (.invokespecial 71, 3) := by decide +kernel
theorem dX4_leak_26 : decode cX4_leak 26 = .ok (.athrow, 1) := by decide +kernel
theorem dX4_leak_27 : decode cX4_leak 27 = .ok (.aload_n 3, 1) := by decide +kernel
theorem dX4_leak_28 : decode cX4_leak 28 = .ok (.getfield 111, 3) := by decide +kernel
theorem dX4_leak_31 : decode cX4_leak 31 = .ok (.istore 4, 2) := by decide +kernel
theorem dX4_leak_33 : decode cX4_leak 33 = .ok (.aload_n 3, 1) := by decide +kernel
theorem dX4_leak_34 : decode cX4_leak 34 = .ok (.iload_n 2, 1) := by decide +kernel
theorem dX4_leak_35 : decode cX4_leak 35 = .ok (.putfield 111, 3) := by decide +kernel
theorem dX4_leak_38 : decode cX4_leak 38 = .ok (.iload 4, 2) := by decide +kernel
theorem dX4_leak_40 : decode cX4_leak 40 = .ok (.ireturn, 1) := by decide +kernel
theorem dX4_leach_0 : decode cX4_leach 0 = .ok (.aload_n 0, 1) := by decide +kernel
theorem dX4_leach_1 : decode cX4_leach 1 = .ok (.iload_n 1, 1) := by decide +kernel
theorem dX4_leach_2 : decode cX4_leach 2 = .ok (.invokevirtual 94, 3) := by decide +kernel
theorem dX4_leach_5 : decode cX4_leach 5 = .ok (.astore_n 3, 1) := by decide +kernel
theorem dX4_leach_6 : decode cX4_leach 6 = .ok (.iload_n 2, 1) := by decide +kernel
theorem dX4_leach_7 : decode cX4_leach 7 = .ok (.iconst 1, 1) := by decide +kernel
theorem dX4_leach_8 : decode cX4_leach 8 = .ok (.ldc 56, 2) := by decide +kernel
theorem dX4_leach_10 : decode cX4_leach 10 = .ok (.invokestatic 52, 3) := by decide +kernel
theorem dX4_leach_13 : decode cX4_leach 13 = .ok (.ifCond .ne 13, 3) := by decide +kernel
theorem dX4_leach_16 : decode cX4_leach 16 = .ok (.new 67, 3) := by decide +kernel
theorem dX4_leach_19 : decode cX4_leach 19 = .ok (.dup, 1) := by decide +kernel
theorem dX4_leach_20 : decode cX4_leach 20 = .ok (.ldc 114, 2) := by decide +kernel
theorem dX4_leach_22 : decode cX4_leach 22 = .ok (.invokespecial 71, 3) := by decide +kernel
theorem dX4_leach_25 : decode cX4_leach 25 = .ok (.athrow, 1) := by decide +kernel
theorem dX4_leach_26 : decode cX4_leach 26 = .ok (.aload_n 3, 1) := by decide +kernel
theorem dX4_leach_27 : decode cX4_leach 27 = .ok (.getfield 116, 3) := by decide +kernel
theorem dX4_leach_30 : decode cX4_leach 30 = .ok (.iconst 1, 1) := by decide +kernel
theorem dX4_leach_31 : decode cX4_leach 31 = .ok (.if_icmp .ne 21, 3) := by decide +kernel
theorem dX4_leach_34 : decode cX4_leach 34 = .ok (.aload_n 3, 1) := by decide +kernel
theorem dX4_leach_35 : decode cX4_leach 35 = .ok (.getfield 119, 3) := by decide +kernel
theorem dX4_leach_38 : decode cX4_leach 38 = .ok (.ifCond .gt 14, 3) := by decide +kernel
theorem dX4_leach_41 : decode cX4_leach 41 = .ok (.aload_n 3, 1) := by decide +kernel
theorem dX4_leach_42 : decode cX4_leach 42 = .ok (.getfield 122, 3) := by decide +kernel
theorem dX4_leach_45 : decode cX4_leach 45 = .ok (.iload_n 2, 1) := by decide +kernel
theorem dX4_leach_46 : decode cX4_leach 46 = .ok (.iadd, 1) := by decide +kernel
theorem dX4_leach_47 : decode cX4_leach 47 = .ok (.ldc 56, 2) := by decide +kernel
theorem dX4_leach_49 : decode cX4_leach 49 = .ok (.if_icmp .le 13, 3) := by decide +kernel
theorem dX4_leach_52 : decode cX4_leach 52 = .ok (.new 78, 3) := by decide +kernel
theorem dX4_leach_55 : decode cX4_leach 55 = .ok (.dup, 1) := by decide +kernel
theorem dX4_leach_56 : decode cX4_leach 56 = .ok (.ldc 125, 2) := by decide +kernel
theorem dX4_leach_58 : decode cX4_leach 58 = .ok (.invokespecial 82, 3) := by decide +kernel
theorem dX4_leach_61 : decode cX4_leach 61 = .ok (.athrow, 1) := by decide +kernel
theorem dX4_leach_62 : decode cX4_leach 62 = .ok (.aload_n 3, 1) := by decide +kernel
theorem dX4_leach_63 : decode cX4_leach 63 = .ok (.dup, 1) := by decide +kernel
theorem dX4_leach_64 : decode cX4_leach 64 = .ok (.getfield 122, 3) := by decide +kernel
theorem dX4_leach_67 : decode cX4_leach 67 = .ok (.iload_n 2, 1) := by decide +kernel
theorem dX4_leach_68 : decode cX4_leach 68 = .ok (.iadd, 1) := by decide +kernel
theorem dX4_leach_69 : decode cX4_leach 69 = .ok (.putfield 122, 3) := by decide +kernel
theorem dX4_leach_72 : decode cX4_leach 72 = .ok (.aload_n 3, 1) := by decide +kernel
theorem dX4_leach_73 : decode cX4_leach 73 = .ok (.getfield 122, 3) := by decide +kernel
theorem dX4_leach_76 : decode cX4_leach 76 = .ok (.ireturn, 1) := by decide +kernel
theorem dX4_heat_0 : decode cX4_heat 0 = .ok (.iload_n 1, 1) := by decide +kernel
theorem dX4_heat_1 : decode cX4_heat 1 = .ok (.iconst 0, 1) := by decide +kernel
theorem dX4_heat_2 : decode cX4_heat 2 = .ok (.sipush 20000, 3) := by decide +kernel
theorem dX4_heat_5 : decode cX4_heat 5 = .ok (.invokestatic 52, 3) := by decide +kernel
theorem dX4_heat_8 : decode cX4_heat 8 = .ok (.ifCond .ne 13, 3) := by decide +kernel
theorem dX4_heat_11 : decode cX4_heat 11 = .ok (.new 67, 3) := by decide +kernel
theorem dX4_heat_14 : decode cX4_heat 14 = .ok (.dup, 1) := by decide +kernel
theorem dX4_heat_15 : decode cX4_heat 15 = .ok (.ldc 127, 2) := by decide +kernel
theorem dX4_heat_17 : decode cX4_heat 17 = .ok (.invokespecial 71, 3) := by decide +kernel
theorem dX4_heat_20 : decode cX4_heat 20 = .ok (.athrow, 1) := by decide +kernel
theorem dX4_heat_21 : decode cX4_heat 21 = .ok (.aload_n 0, 1) := by decide +kernel
theorem dX4_heat_22 : decode cX4_heat 22 = .ok (.getfield 33, 3) := by decide +kernel
theorem dX4_heat_25 : decode cX4_heat 25 = .ok (.istore_n 2, 1) := by decide +kernel
theorem dX4_heat_26 : decode cX4_heat 26 = .ok (.aload_n 0, 1) := by decide +kernel
theorem dX4_heat_27 : decode cX4_heat 27 = .ok (.iload_n 1, 1) := by decide +kernel
theorem dX4_heat_28 : decode cX4_heat 28 = .ok (.putfield 33, 3) := by decide +kernel
theorem dX4_heat_31 : decode cX4_heat 31 = .ok (.iload_n 2, 1) := by decide +kernel
theorem dX4_heat_32 : decode cX4_heat 32 = .ok (.ireturn, 1) := by decide +kernel
theorem dX4_customer_0 : decode cX4_customer 0 = .ok (.iload_n 1, 1) := by decide +kernel
theorem dX4_customer_1 : decode cX4_customer 1 = .ok (.iconst 1, 1) := by decide +kernel
theorem dX4_customer_2 : decode cX4_customer 2 = .ok (.ldc 57, 2) := by decide +kernel
theorem dX4_customer_4 : decode cX4_customer 4 = .ok (.invokestatic 52, 3) := by decide +kernel
theorem dX4_customer_7 : decode cX4_customer 7 = .ok (.ifCond .eq 33, 3) := by decide +kernel
theorem dX4_customer_10 : decode cX4_customer 10 = .ok (.iload_n 2, 1) := by decide +kernel
theorem dX4_customer_11 : decode cX4_customer 11 = .ok (.iconst 0, 1) := by decide +kernel
theorem dX4_customer_12 : decode cX4_customer 12 = .ok (.ldc 56, 2) := by decide +kernel
theorem dX4_customer_14 : decode cX4_customer 14 = .ok (.invokestatic 52, 3) := by decide +kernel
theorem dX4_customer_17 : decode cX4_customer 17 = .ok (.ifCond .eq 23, 3) := by decide +kernel
theorem dX4_customer_20 : decode cX4_customer 20 = .ok (.iload_n 3, 1) := by decide +kernel
theorem dX4_customer_21 : decode cX4_customer 21 = .ok (.iconst 0, 1) := by decide +kernel
theorem dX4_customer_22 : decode cX4_customer 22 = .ok (.ldc 56, 2) := by decide +kernel
theorem dX4_customer_24 : decode cX4_customer 24 = .ok (.invokestatic 52, 3) := by decide +kernel
theorem dX4_customer_27 : decode cX4_customer 27 = .ok (.ifCond .eq 13, 3) := by decide +kernel
theorem dX4_customer_30 : decode cX4_customer 30 = .ok (.iload 4, 2) := by decide +kernel
theorem dX4_customer_32 : decode cX4_customer 32 = .ok (.iconst 0, 1) := by decide +kernel
theorem dX4_customer_33 : decode cX4_customer 33 = .ok (.iconst 3, 1) := by decide +kernel
theorem dX4_customer_34 : decode cX4_customer 34 = .ok (.invokestatic 52, 3) := by decide +kernel
theorem dX4_customer_37 : decode cX4_customer 37 = .ok (.ifCond .ne 13, 3) := by decide +kernel
theorem dX4_customer_40 : decode cX4_customer 40 = .ok (.new 67, 3) := by decide +kernel
theorem dX4_customer_43 : decode cX4_customer 43 = .ok (.dup, 1) := by decide +kernel
theorem dX4_customer_44 : decode cX4_customer 44 = .ok (.ldc 129, 2) := by decide +kernel
theorem dX4_customer_46 : decode cX4_customer 46 = .ok (.invokespecial 71, 3) := by decide +kernel
theorem dX4_customer_49 : decode cX4_customer 49 = .ok (.athrow, 1) := by decide +kernel
theorem dX4_customer_50 : decode cX4_customer 50 = .ok (.aload_n 0, 1) := by decide +kernel
theorem dX4_customer_51 : decode cX4_customer 51 = .ok (.getfield 16, 3) := by decide +kernel
theorem dX4_customer_54 : decode cX4_customer 54 = .ok (.invokevirtual 74, 3) := by decide +kernel
theorem dX4_customer_57 : decode cX4_customer 57 = .ok (.bipush 6, 2) := by decide +kernel
theorem dX4_customer_59 : decode cX4_customer 59 = .ok (.if_icmp .lt 13, 3) := by decide +kernel
theorem dX4_customer_62 : decode cX4_customer 62 = .ok (.new 78, 3) := by decide +kernel
theorem dX4_customer_65 : decode cX4_customer 65 = .ok (.dup, 1) := by decide +kernel
theorem dX4_customer_66 : decode cX4_customer 66 = .ok (.ldc 131, 2) := by decide +kernel
theorem dX4_customer_68 : decode cX4_customer 68 = .ok (.invokespecial 82, 3) := by decide +kernel
theorem dX4_customer_71 : decode cX4_customer 71 = .ok (.athrow, 1) := by decide +kernel
theorem dX4_customer_72 : decode cX4_customer 72 = .ok (.aload_n 0, 1) := by decide +kernel
theorem dX4_customer_73 : decode cX4_customer 73 = .ok (.getfield 16, 3) := by decide +kernel
theorem dX4_customer_76 : decode cX4_customer 76 = .ok (.new 133, 3) := by decide +kernel
theorem dX4_customer_79 : decode cX4_customer 79 = .ok (.dup, 1) := by decide +kernel
theorem dX4_customer_80 : decode cX4_customer 80 = .ok (.iload_n 1, 1) := by decide +kernel
theorem dX4_customer_81 : decode cX4_customer 81 = .ok (.iload_n 2, 1) := by decide +kernel
theorem dX4_customer_82 : decode cX4_customer 82 = .ok (.iload_n 3, 1) := by decide +kernel
theorem dX4_customer_83 : decode cX4_customer 83 = .ok (.iload 4, 2) := by decide +kernel
theorem dX4_customer_85 : decode cX4_customer 85 = .ok (.invokespecial 135, 3) := by decide +kernel
theorem dX4_customer_88 : decode cX4_customer 88 = .ok (.invokevirtual 90, 3) := by decide +kernel
theorem dX4_customer_91 : decode cX4_customer 91 = .ok (.pop, 1) := by decide +kernel
theorem dX4_customer_92 : decode cX4_customer 92 = .ok (.aload_n 0, 1) := by decide +kernel
theorem dX4_customer_93 : decode cX4_customer 93 = .ok (.getfield 16, 3) := by decide +kernel
theorem dX4_customer_96 : decode cX4_customer 96 = .ok (.invokevirtual 74, 3) := by decide +kernel
theorem dX4_customer_99 : decode cX4_customer 99 = .ok (.iconst 1, 1) := by decide +kernel
theorem dX4_customer_100 : decode cX4_customer 100 = .ok (.isub, 1) := by decide +kernel
theorem dX4_customer_101 : decode cX4_customer 101 = .ok (.ireturn, 1) := by decide +kernel
theorem dX4_nominate_0 : decode cX4_nominate 0 = .ok (.aload_n 0, 1) := by decide +kernel
theorem dX4_nominate_1 : decode cX4_nominate 1 = .ok (.iload_n 1, 1) := by decide +kernel
theorem dX4_nominate_2 : decode cX4_nominate 2 = .ok (.invokevirtual 138, 3) := by decide +kernel
theorem dX4_nominate_5 : decode cX4_nominate 5 = .ok (.astore 4, 2) := by decide +kernel
theorem dX4_nominate_7 : decode cX4_nominate 7 = .ok (.iload_n 2, 1) := by decide +kernel
theorem dX4_nominate_8 : decode cX4_nominate 8 = .ok (.aload_n 0, 1) := by decide +kernel
theorem dX4_nominate_9 : decode cX4_nominate 9 = .ok (.getfield 29, 3) := by decide +kernel
theorem dX4_nominate_12 : decode cX4_nominate 12 = .ok (.iconst 2, 1) := by decide +kernel
theorem dX4_nominate_13 : decode cX4_nominate 13 = .ok (.iadd, 1) := by decide +kernel
theorem dX4_nominate_14 : decode cX4_nominate 14 = .ok (.aload_n 0, 1) := by decide +kernel
theorem dX4_nominate_15 : decode cX4_nominate 15 = .ok (.getfield 29, 3) := by decide +kernel
theorem dX4_nominate_18 : decode cX4_nominate 18 = .ok (.bipush 60, 2) := by decide +kernel
theorem dX4_nominate_20 : decode cX4_nominate 20 = .ok (.iadd, 1) := by decide +kernel
theorem dX4_nominate_21 : decode cX4_nominate 21 = .ok (.invokestatic 52, 3) := by decide +kernel
theorem dX4_nominate_24 : decode cX4_nominate 24 = .ok (.ifCond .eq 14, 3) := by decide +kernel
theorem dX4_nominate_27 : decode cX4_nominate 27 = .ok (.iload_n 3, 1) := by decide +kernel
theorem dX4_nominate_28 : decode cX4_nominate 28 = .ok (.ldc 142, 2) := by decide +kernel
theorem dX4_nominate_30 : decode cX4_nominate 30 = .ok (.ldc 57, 2) := by decide +kernel
theorem dX4_nominate_32 : decode cX4_nominate 32 = .ok (.invokestatic 52, 3) := by decide +kernel
theorem dX4_nominate_35 : decode cX4_nominate 35 = .ok (.ifCond .ne 13, 3) := by decide +kernel
theorem dX4_nominate_38 : decode cX4_nominate 38 = .ok (.new 67, 3) := by decide +kernel
theorem dX4_nominate_41 : decode cX4_nominate 41 = .ok (.dup, 1) := by decide +kernel
theorem dX4_nominate_42 : decode cX4_nominate 42 = .ok (.ldc 143, 2) := by decide +kernel
theorem dX4_nominate_44 : decode cX4_nominate 44 = .ok (.invokespecial 71, 3) := by decide +kernel
theorem dX4_nominate_47 : decode cX4_nominate 47 = .ok (.athrow, 1) := by decide +kernel
theorem dX4_nominate_48 : decode cX4_nominate 48 = .ok (.aload 4, 2) := by decide +kernel
theorem dX4_nominate_50 : decode cX4_nominate 50 = .ok (.getfield 145, 3) := by decide +kernel
theorem dX4_nominate_53 : decode cX4_nominate 53 = .ok (.iload_n 2, 1) := by decide +kernel
theorem dX4_nominate_54 : decode cX4_nominate 54 = .ok (.iload_n 3, 1) := by decide +kernel
theorem dX4_nominate_55 : decode cX4_nominate 55 = .ok (.invokevirtual 148, 3) := by decide +kernel
theorem dX4_nominate_58 : decode cX4_nominate 58 = .ok (.ireturn, 1) := by decide +kernel
theorem dX4_transfer_0 : decode cX4_transfer 0 = .ok (.aload_n 0, 1) := by decide +kernel
theorem dX4_transfer_1 : decode cX4_transfer 1 = .ok (.iload_n 1, 1) := by decide +kernel
theorem dX4_transfer_2 : decode cX4_transfer 2 = .ok (.invokevirtual 138, 3) := by decide +kernel
theorem dX4_transfer_5 : decode cX4_transfer 5 = .ok (.astore 4, 2) := by decide +kernel
theorem dX4_transfer_7 : decode cX4_transfer 7 = .ok (.aload_n 0, 1) := by decide +kernel
theorem dX4_transfer_8 : decode cX4_transfer 8 = .ok (.iload_n 2, 1) := by decide +kernel
theorem dX4_transfer_9 : decode cX4_transfer 9 = .ok (.invokevirtual 138, 3) := by decide +kernel
theorem dX4_transfer_12 : decode cX4_transfer 12 = .ok (.astore 5, 2) := by decide +kernel
theorem dX4_transfer_14 : decode cX4_transfer 14 = .ok (.iload_n 1, 1) := by decide +kernel
theorem dX4_transfer_15 : decode cX4_transfer 15 = .ok (.iload_n 2, 1) := by decide +kernel
theorem dX4_transfer_16 : decode cX4_transfer 16 = .ok (.if_icmp .eq 13, 3) := by decide +kernel
theorem dX4_transfer_19 : decode cX4_transfer 19 = .ok (.iload_n 3, 1) := by decide +kernel
theorem dX4_transfer_20 : decode cX4_transfer 20 = .ok (.iconst 1, 1) := by decide +kernel
theorem dX4_transfer_21 : decode cX4_transfer 21 = .ok (.ldc 57, 2) := by decide +kernel
theorem dX4_transfer_23 : decode cX4_transfer 23 = .ok (.invokestatic 52, 3) := by decide +kernel
theorem dX4_transfer_26 : decode cX4_transfer 26 = .ok (.ifCond .ne 13, 3) := by decide +kernel
theorem dX4_transfer_29 : decode cX4_transfer 29 = .ok (.new 67, 3) := by decide +kernel
theorem dX4_transfer_32 : decode cX4_transfer 32 = .ok (.dup, 1) := by decide +kernel
theorem dX4_transfer_33 : decode cX4_transfer 33 = .ok (.ldc 151, 2) := by decide +kernel
theorem dX4_transfer_35 : decode cX4_transfer 35 = .ok (.invokespecial 71, 3) := by decide +kernel
theorem dX4_transfer_38 : decode cX4_transfer 38 = .ok (.athrow, 1) := by decide +kernel
theorem dX4_transfer_39 : decode cX4_transfer 39 = .ok (.aload 4, 2) := by decide +kernel
theorem dX4_transfer_41 : decode cX4_transfer 41 = .ok (.getfield 153, 3) := by decide +kernel
theorem dX4_transfer_44 : decode cX4_transfer 44 = .ok (.iload_n 3, 1) := by decide +kernel
theorem dX4_transfer_45 : decode cX4_transfer 45 = .ok (.if_icmp .lt 18, 3) := by decide +kernel
theorem dX4_transfer_48 : decode cX4_transfer 48 = .ok (.aload 5, 2) := by decide +kernel
theorem dX4_transfer_50 : decode cX4_transfer 50 = .ok (.getfield 156, 3) := by decide +kernel
theorem dX4_transfer_53 : decode cX4_transfer 53 = .ok (.aload 5, 2) := by decide +kernel
theorem dX4_transfer_55 : decode cX4_transfer 55 = .ok (.getfield 153, 3) := by decide +kernel
theorem dX4_transfer_58 : decode cX4_transfer 58 = .ok (.isub, 1) := by decide +kernel
theorem dX4_transfer_59 : decode cX4_transfer 59 = .ok (.iload_n 3, 1) := by decide +kernel
theorem dX4_transfer_60 : decode cX4_transfer 60 = .ok (.if_icmp .ge 13, 3) := by decide +kernel
theorem dX4_transfer_63 : decode cX4_transfer 63 = .ok (.new 78, 3) := by decide +kernel
theorem dX4_transfer_66 : decode cX4_transfer 66 = .ok (.dup, 1) := by decide +kernel
theorem dX4_transfer_67 : decode cX4_transfer 67 = .ok (.ldc 157, 2) := by decide +kernel
theorem dX4_transfer_69 : decode cX4_transfer 69 = .ok (.invokespecial 82, 3) := by decide +kernel
theorem dX4_transfer_72 : decode cX4_transfer 72 = .ok (.athrow, 1) := by decide +kernel
theorem dX4_transfer_73 : decode cX4_transfer 73 = .ok (.aload 4, 2) := by decide +kernel
theorem dX4_transfer_75 : decode cX4_transfer 75 = .ok (.dup, 1) := by decide +kernel
theorem dX4_transfer_76 : decode cX4_transfer 76 = .ok (.getfield 153, 3) := by decide +kernel
theorem dX4_transfer_79 : decode cX4_transfer 79 = .ok (.iload_n 3, 1) := by decide +kernel
theorem dX4_transfer_80 : decode cX4_transfer 80 = .ok (.isub, 1) := by decide +kernel
theorem dX4_transfer_81 : decode cX4_transfer 81 = .ok (.putfield 153, 3) := by decide +kernel
theorem dX4_transfer_84 : decode cX4_transfer 84 = .ok (.aload 5, 2) := by decide +kernel
theorem dX4_transfer_86 : decode cX4_transfer 86 = .ok (.dup, 1) := by decide +kernel
theorem dX4_transfer_87 : decode cX4_transfer 87 = .ok (.getfield 153, 3) := by decide +kernel
theorem dX4_transfer_90 : decode cX4_transfer 90 = .ok (.iload_n 3, 1) := by decide +kernel
theorem dX4_transfer_91 : decode cX4_transfer 91 = .ok (.iadd, 1) := by decide +kernel
theorem dX4_transfer_92 : decode cX4_transfer 92 = .ok (.putfield 153, 3) := by decide +kernel
theorem dX4_transfer_95 : decode cX4_transfer 95 = .ok (.aload 5, 2) := by decide +kernel
theorem dX4_transfer_97 : decode cX4_transfer 97 = .ok (.getfield 153, 3) := by decide +kernel
theorem dX4_transfer_100 : decode cX4_transfer 100 = .ok (.ireturn, 1) := by decide +kernel
theorem dX4_law_0 : decode cX4_law 0 = .ok (.iload_n 1, 1) := by decide +kernel
theorem dX4_law_1 : decode cX4_law 1 = .ok (.aload_n 0, 1) := by decide +kernel
theorem dX4_law_2 : decode cX4_law 2 = .ok (.getfield 29, 3) := by decide +kernel
theorem dX4_law_5 : decode cX4_law 5 = .ok (.sipush 10000, 3) := by decide +kernel
theorem dX4_law_8 : decode cX4_law 8 = .ok (.invokestatic 52, 3) := by decide +kernel
theorem dX4_law_11 : decode cX4_law 11 = .ok (.ifCond .eq 24, 3) := by decide +kernel
theorem dX4_law_14 : decode cX4_law 14 = .ok (.iload_n 2, 1) := by decide +kernel
theorem dX4_law_15 : decode cX4_law 15 = .ok (.iload_n 1, 1) := by decide +kernel
theorem dX4_law_16 : decode cX4_law 16 = .ok (.sipush 10000, 3) := by decide +kernel
theorem dX4_law_19 : decode cX4_law 19 = .ok (.invokestatic 52, 3) := by decide +kernel
theorem dX4_law_22 : decode cX4_law 22 = .ok (.ifCond .eq 13, 3) := by decide +kernel
theorem dX4_law_25 : decode cX4_law 25 = .ok (.iload_n 3, 1) := by decide +kernel
theorem dX4_law_26 : decode cX4_law 26 = .ok (.iconst 0, 1) := by decide +kernel
theorem dX4_law_27 : decode cX4_law 27 = .ok (.ldc 159, 2) := by decide +kernel
theorem dX4_law_29 : decode cX4_law 29 = .ok (.invokestatic 52, 3) := by decide +kernel
theorem dX4_law_32 : decode cX4_law 32 = .ok (.ifCond .ne 13, 3) := by decide +kernel
theorem dX4_law_35 : decode cX4_law 35 = .ok (.new 67, 3) := by decide +kernel
theorem dX4_law_38 : decode cX4_law 38 = .ok (.dup, 1) := by decide +kernel
theorem dX4_law_39 : decode cX4_law 39 = .ok (.ldc 160, 2) := by decide +kernel
theorem dX4_law_41 : decode cX4_law 41 = .ok (.invokespecial 71, 3) := by decide +kernel
theorem dX4_law_44 : decode cX4_law 44 = .ok (.athrow, 1) := by decide +kernel
theorem dX4_law_45 : decode cX4_law 45 = .ok (.aload_n 0, 1) := by decide +kernel
theorem dX4_law_46 : decode cX4_law 46 = .ok (.getfield 19, 3) := by decide +kernel
theorem dX4_law_49 : decode cX4_law 49 = .ok (.invokevirtual 74, 3) := by decide +kernel
theorem dX4_law_52 : decode cX4_law 52 = .ok (.bipush 20, 2) := by decide +kernel
theorem dX4_law_54 : decode cX4_law 54 = .ok (.if_icmp .lt 13, 3) := by decide +kernel
theorem dX4_law_57 : decode cX4_law 57 = .ok (.new 78, 3) := by decide +kernel
theorem dX4_law_60 : decode cX4_law 60 = .ok (.dup, 1) := by decide +kernel
theorem dX4_law_61 : decode cX4_law 61 = .ok (.ldc 162, 2) := by decide +kernel
theorem dX4_law_63 : decode cX4_law 63 = .ok (.invokespecial 82, 3) := by decide +kernel
theorem dX4_law_66 : decode cX4_law 66 = .ok (.athrow, 1) := by decide +kernel
theorem dX4_law_67 : decode cX4_law 67 = .ok (.aload_n 0, 1) := by decide +kernel
theorem dX4_law_68 : decode cX4_law 68 = .ok (.getfield 19, 3) := by decide +kernel
theorem dX4_law_71 : decode cX4_law 71 = .ok (.new 164, 3) := by decide +kernel
theorem dX4_law_74 : decode cX4_law 74 = .ok (.dup, 1) := by decide +kernel
theorem dX4_law_75 : decode cX4_law 75 = .ok (.iload_n 1, 1) := by decide +kernel
theorem dX4_law_76 : decode cX4_law 76 = .ok (.iload_n 2, 1) := by decide +kernel
theorem dX4_law_77 : decode cX4_law 77 = .ok (.iload_n 3, 1) := by decide +kernel
theorem dX4_law_78 : decode cX4_law 78 = .ok (.invokespecial 166, 3) := by decide +kernel
theorem dX4_law_81 : decode cX4_law 81 = .ok (.invokevirtual 90, 3) := by decide +kernel
theorem dX4_law_84 : decode cX4_law 84 = .ok (.pop, 1) := by decide +kernel
theorem dX4_law_85 : decode cX4_law 85 = .ok (.aload_n 0, 1) := by decide +kernel
theorem dX4_law_86 : decode cX4_law 86 = .ok (.getfield 19, 3) := by decide +kernel
theorem dX4_law_89 : decode cX4_law 89 = .ok (.invokevirtual 74, 3) := by decide +kernel
theorem dX4_law_92 : decode cX4_law 92 = .ok (.ireturn, 1) := by decide +kernel
theorem dX4_price_0 : decode cX4_price 0 = .ok (.iload_n 1, 1) := by decide +kernel
theorem dX4_price_1 : decode cX4_price 1 = .ok (.aload_n 0, 1) := by decide +kernel
theorem dX4_price_2 : decode cX4_price 2 = .ok (.getfield 29, 3) := by decide +kernel
theorem dX4_price_5 : decode cX4_price 5 = .ok (.aload_n 0, 1) := by decide +kernel
theorem dX4_price_6 : decode cX4_price 6 = .ok (.getfield 29, 3) := by decide +kernel
theorem dX4_price_9 : decode cX4_price 9 = .ok (.bipush 60, 2) := by decide +kernel
theorem dX4_price_11 : decode cX4_price 11 = .ok (.iadd, 1) := by decide +kernel
theorem dX4_price_12 : decode cX4_price 12 = .ok (.invokestatic 52, 3) := by decide +kernel
theorem dX4_price_15 : decode cX4_price 15 = .ok (.ifCond .eq 16, 3) := by decide +kernel
theorem dX4_price_18 : decode cX4_price 18 = .ok (.iload_n 2, 1) := by decide +kernel
theorem dX4_price_19 : decode cX4_price 19 = .ok (.sipush (-1000), 3) := by decide +kernel
theorem dX4_price_22 : decode cX4_price 22 = .ok (.sipush 1000, 3) := by decide +kernel
theorem dX4_price_25 : decode cX4_price 25 = .ok (.invokestatic 52, 3) := by decide +kernel
theorem dX4_price_28 : decode cX4_price 28 = .ok (.ifCond .ne 13, 3) := by decide +kernel
theorem dX4_price_31 : decode cX4_price 31 = .ok (.new 67, 3) := by decide +kernel
theorem dX4_price_34 : decode cX4_price 34 = .ok (.dup, 1) := by decide +kernel
theorem dX4_price_35 : decode cX4_price 35 = .ok (.ldc 169, 2) := by decide +kernel
theorem dX4_price_37 : decode cX4_price 37 = .ok (.invokespecial 71, 3) := by decide +kernel
theorem dX4_price_40 : decode cX4_price 40 = .ok (.athrow, 1) := by decide +kernel
theorem dX4_price_41 : decode cX4_price 41 = .ok (.aload_n 0, 1) := by decide +kernel
theorem dX4_price_42 : decode cX4_price 42 = .ok (.getfield 25, 3) := by decide +kernel
theorem dX4_price_45 : decode cX4_price 45 = .ok (.iload_n 1, 1) := by decide +kernel
theorem dX4_price_46 : decode cX4_price 46 = .ok (.iload_n 2, 1) := by decide +kernel
theorem dX4_price_47 : decode cX4_price 47 = .ok (.invokevirtual 148, 3) := by decide +kernel
theorem dX4_price_50 : decode cX4_price 50 = .ok (.ireturn, 1) := by decide +kernel
theorem dX4_pass_0 : decode cX4_pass 0 = .ok (.iload_n 1, 1) := by decide +kernel
theorem dX4_pass_1 : decode cX4_pass 1 = .ok (.iconst 1, 1) := by decide +kernel
theorem dX4_pass_2 : decode cX4_pass 2 = .ok (.sipush 240, 3) := by decide +kernel
theorem dX4_pass_5 : decode cX4_pass 5 = .ok (.invokestatic 52, 3) := by decide +kernel
theorem dX4_pass_8 : decode cX4_pass 8 = .ok (.ifCond .ne 13, 3) := by decide +kernel
theorem dX4_pass_11 : decode cX4_pass 11 = .ok (.new 67, 3) := by decide +kernel
theorem dX4_pass_14 : decode cX4_pass 14 = .ok (.dup, 1) := by decide +kernel
theorem dX4_pass_15 : decode cX4_pass 15 = .ok (.ldc 171, 2) := by decide +kernel
theorem dX4_pass_17 : decode cX4_pass 17 = .ok (.invokespecial 71, 3) := by decide +kernel
theorem dX4_pass_20 : decode cX4_pass 20 = .ok (.athrow, 1) := by decide +kernel
theorem dX4_pass_21 : decode cX4_pass 21 = .ok (.aload_n 0, 1) := by decide +kernel
theorem dX4_pass_22 : decode cX4_pass 22 = .ok (.getfield 29, 3) := by decide +kernel
theorem dX4_pass_25 : decode cX4_pass 25 = .ok (.iload_n 1, 1) := by decide +kernel
theorem dX4_pass_26 : decode cX4_pass 26 = .ok (.iadd, 1) := by decide +kernel
theorem dX4_pass_27 : decode cX4_pass 27 = .ok (.sipush 9900, 3) := by decide +kernel
theorem dX4_pass_30 : decode cX4_pass 30 = .ok (.if_icmp .le 13, 3) := by decide +kernel
theorem dX4_pass_33 : decode cX4_pass 33 = .ok (.new 78, 3) := by decide +kernel
theorem dX4_pass_36 : decode cX4_pass 36 = .ok (.dup, 1) := by decide +kernel
theorem dX4_pass_37 : decode cX4_pass 37 = .ok (.ldc 173, 2) := by decide +kernel
theorem dX4_pass_39 : decode cX4_pass 39 = .ok (.invokespecial 82, 3) := by decide +kernel
theorem dX4_pass_42 : decode cX4_pass 42 = .ok (.athrow, 1) := by decide +kernel
theorem dX4_pass_43 : decode cX4_pass 43 = .ok (.iconst 0, 1) := by decide +kernel
theorem dX4_pass_44 : decode cX4_pass 44 = .ok (.istore_n 2, 1) := by decide +kernel
theorem dX4_pass_45 : decode cX4_pass 45 = .ok (.iload_n 2, 1) := by decide +kernel
theorem dX4_pass_46 : decode cX4_pass 46 = .ok (.iload_n 1, 1) := by decide +kernel
theorem dX4_pass_47 : decode cX4_pass 47 = .ok (.if_icmp .ge 13, 3) := by decide +kernel
theorem dX4_pass_50 : decode cX4_pass 50 = .ok (.aload_n 0, 1) := by decide +kernel
theorem dX4_pass_51 : decode cX4_pass 51 = .ok (.invokevirtual 175, 3) := by decide +kernel
theorem dX4_pass_54 : decode cX4_pass 54 = .ok (.iinc 2 1, 3) := by decide +kernel
theorem dX4_pass_57 : decode cX4_pass 57 = .ok (.goto (-12), 3) := by decide +kernel
theorem dX4_pass_60 : decode cX4_pass 60 = .ok (.aload_n 0, 1) := by decide +kernel
theorem dX4_pass_61 : decode cX4_pass 61 = .ok (.getfield 29, 3) := by decide +kernel
theorem dX4_pass_64 : decode cX4_pass 64 = .ok (.ireturn, 1) := by decide +kernel
theorem dX4_pressure_0 : decode cX4_pressure 0 = .ok (.aload_n 0, 1) := by decide +kernel
theorem dX4_pressure_1 : decode cX4_pressure 1 = .ok (.iload_n 1, 1) := by decide +kernel
theorem dX4_pressure_2 : decode cX4_pressure 2 = .ok (.invokevirtual 94, 3) := by decide +kernel
theorem dX4_pressure_5 : decode cX4_pressure 5 = .ok (.invokevirtual 178, 3) := by decide +kernel
theorem dX4_pressure_8 : decode cX4_pressure 8 = .ok (.ireturn, 1) := by decide +kernel
theorem dX4_rate_0 : decode cX4_rate 0 = .ok (.aload_n 0, 1) := by decide +kernel
theorem dX4_rate_1 : decode cX4_rate 1 = .ok (.iload_n 1, 1) := by decide +kernel
theorem dX4_rate_2 : decode cX4_rate 2 = .ok (.invokevirtual 94, 3) := by decide +kernel
theorem dX4_rate_5 : decode cX4_rate 5 = .ok (.astore_n 3, 1) := by decide +kernel
theorem dX4_rate_6 : decode cX4_rate 6 = .ok (.iload_n 2, 1) := by decide +kernel
theorem dX4_rate_7 : decode cX4_rate 7 = .ok (.ifCond .eq 10, 3) := by decide +kernel
theorem dX4_rate_10 : decode cX4_rate 10 = .ok (.aload_n 3, 1) := by decide +kernel
theorem dX4_rate_11 : decode cX4_rate 11 = .ok (.invokevirtual 181, 3) := by decide +kernel
theorem dX4_rate_14 : decode cX4_rate 14 = .ok (.goto 7, 3) := by decide +kernel
theorem dX4_rate_17 : decode cX4_rate 17 = .ok (.aload_n 3, 1) := by decide +kernel
theorem dX4_rate_18 : decode cX4_rate 18 = .ok (.invokevirtual 106, 3) := by decide +kernel
theorem dX4_rate_21 : decode cX4_rate 21 = .ok (.ireturn, 1) := by decide +kernel
theorem dX4_mix_0 : decode cX4_mix 0 = .ok (.aload_n 0, 1) := by decide +kernel
theorem dX4_mix_1 : decode cX4_mix 1 = .ok (.iload_n 1, 1) := by decide +kernel
theorem dX4_mix_2 : decode cX4_mix 2 = .ok (.invokevirtual 94, 3) := by decide +kernel
theorem dX4_mix_5 : decode cX4_mix 5 = .ok (.astore_n 2, 1) := by decide +kernel
theorem dX4_mix_6 : decode cX4_mix 6 = .ok (.aload_n 2, 1) := by decide +kernel
theorem dX4_mix_7 : decode cX4_mix 7 = .ok (.getfield 119, 3) := by decide +kernel
theorem dX4_mix_10 : decode cX4_mix 10 = .ok (.ifCond .le 18, 3) := by decide +kernel
theorem dX4_mix_13 : decode cX4_mix 13 = .ok (.aload_n 2, 1) := by decide +kernel
theorem dX4_mix_14 : decode cX4_mix 14 = .ok (.getfield 184, 3) := by decide +kernel
theorem dX4_mix_17 : decode cX4_mix 17 = .ok (.l2f, 1) := by decide +kernel
theorem dX4_mix_18 : decode cX4_mix 18 = .ok (.aload_n 2, 1) := by decide +kernel
theorem dX4_mix_19 : decode cX4_mix 19 = .ok (.getfield 119, 3) := by decide +kernel
theorem dX4_mix_22 : decode cX4_mix 22 = .ok (.i2f, 1) := by decide +kernel
theorem dX4_mix_23 : decode cX4_mix 23 = .ok (.fdiv, 1) := by decide +kernel
theorem dX4_mix_24 : decode cX4_mix 24 = .ok (.f2i, 1) := by decide +kernel
theorem dX4_mix_25 : decode cX4_mix 25 = .ok (.goto 4, 3) := by decide +kernel
theorem dX4_mix_28 : decode cX4_mix 28 = .ok (.iconst 0, 1) := by decide +kernel
theorem dX4_mix_29 : decode cX4_mix 29 = .ok (.ireturn, 1) := by decide +kernel
theorem dX4_ofStore_0 : decode cX4_ofStore 0 = .ok (.aload_n 0, 1) := by decide +kernel
theorem dX4_ofStore_1 : decode cX4_ofStore 1 = .ok (.iload_n 1, 1) := by decide +kernel
theorem dX4_ofStore_2 : decode cX4_ofStore 2 = .ok (.invokevirtual 94, 3) := by decide +kernel
theorem dX4_ofStore_5 : decode cX4_ofStore 5 = .ok (.astore_n 3, 1) := by decide +kernel
theorem dX4_ofStore_6 : decode cX4_ofStore 6 = .ok (.iload_n 2, 1) := by decide +kernel
theorem dX4_ofStore_7 : decode cX4_ofStore 7 = .ok (.tableswitch 82 0 6 #[41, 47, 53, 59, 65, 70, 76], 41) := by decide +kernel
theorem dX4_ofStore_48 : decode cX4_ofStore 48 = .ok (.aload_n 3, 1) := by decide +kernel
theorem dX4_ofStore_49 : decode cX4_ofStore 49 = .ok (.getfield 119, 3) := by decide +kernel
theorem dX4_ofStore_52 : decode cX4_ofStore 52 = .ok (.i2l, 1) := by decide +kernel
theorem dX4_ofStore_53 : decode cX4_ofStore 53 = .ok (.lreturn, 1) := by decide +kernel
theorem dX4_ofStore_54 : decode cX4_ofStore 54 = .ok (.aload_n 3, 1) := by decide +kernel
theorem dX4_ofStore_55 : decode cX4_ofStore 55 = .ok (.invokevirtual 187, 3) := by decide +kernel
theorem dX4_ofStore_58 : decode cX4_ofStore 58 = .ok (.i2l, 1) := by decide +kernel
theorem dX4_ofStore_59 : decode cX4_ofStore 59 = .ok (.lreturn, 1) := by decide +kernel
theorem dX4_ofStore_60 : decode cX4_ofStore 60 = .ok (.aload_n 3, 1) := by decide +kernel
theorem dX4_ofStore_61 : decode cX4_ofStore 61 = .ok (.getfield 122, 3) := by decide +kernel
theorem dX4_ofStore_64 : decode cX4_ofStore 64 = .ok (.i2l, 1) := by decide +kernel
theorem dX4_ofStore_65 : decode cX4_ofStore 65 = .ok (.lreturn, 1) := by decide +kernel
theorem dX4_ofStore_66 : decode cX4_ofStore 66 = .ok (.aload_n 3, 1) := by decide +kernel
theorem dX4_ofStore_67 : decode cX4_ofStore 67 = .ok (.getfield 190, 3) := by decide +kernel
theorem dX4_ofStore_70 : decode cX4_ofStore 70 = .ok (.i2l, 1) := by decide +kernel
theorem dX4_ofStore_71 : decode cX4_ofStore 71 = .ok (.lreturn, 1) := by decide +kernel
theorem dX4_ofStore_72 : decode cX4_ofStore 72 = .ok (.aload_n 3, 1) := by decide +kernel
theorem dX4_ofStore_73 : decode cX4_ofStore 73 = .ok (.getfield 184, 3) := by decide +kernel
theorem dX4_ofStore_76 : decode cX4_ofStore 76 = .ok (.lreturn, 1) := by decide +kernel
theorem dX4_ofStore_77 : decode cX4_ofStore 77 = .ok (.aload_n 3, 1) := by decide +kernel
theorem dX4_ofStore_78 : decode cX4_ofStore 78 = .ok (.invokevirtual 193, 3) := by decide +kernel
theorem dX4_ofStore_81 : decode cX4_ofStore 81 = .ok (.i2l, 1) := by decide +kernel
theorem dX4_ofStore_82 : decode cX4_ofStore 82 = .ok (.lreturn, 1) := by decide +kernel
theorem dX4_ofStore_83 : decode cX4_ofStore 83 = .ok (.aload_n 3, 1) := by decide +kernel
theorem dX4_ofStore_84 : decode cX4_ofStore 84 = .ok (.invokevirtual 196, 3) := by decide +kernel
theorem dX4_ofStore_87 : decode cX4_ofStore 87 = .ok (.i2l, 1) := by decide +kernel
theorem dX4_ofStore_88 : decode cX4_ofStore 88 = .ok (.lreturn, 1) := by decide +kernel
theorem dX4_ofStore_89 : decode cX4_ofStore 89 = .ok (.new 67, 3) := by decide +kernel
theorem dX4_ofStore_92 : decode cX4_ofStore 92 = .ok (.dup, 1) := by decide +kernel
theorem dX4_ofStore_93 : decode cX4_ofStore 93 = .ok (.ldc 199, 2) := by decide +kernel
theorem dX4_ofStore_95 : decode cX4_ofStore 95 = .ok (.invokespecial 71, 3) := by decide +kernel
theorem dX4_ofStore_98 : decode cX4_ofStore 98 = .ok (.athrow, 1) := by decide +kernel
theorem dX4_ofCustomer_0 : decode cX4_ofCustomer 0 = .ok (.aload_n 0, 1) := by decide +kernel
theorem dX4_ofCustomer_1 : decode cX4_ofCustomer 1 = .ok (.iload_n 1, 1) := by decide +kernel
theorem dX4_ofCustomer_2 : decode cX4_ofCustomer 2 = .ok (.invokevirtual 138, 3) := by decide +kernel
theorem dX4_ofCustomer_5 : decode cX4_ofCustomer 5 = .ok (.astore_n 3, 1) := by decide +kernel
theorem dX4_ofCustomer_6 : decode cX4_ofCustomer 6 = .ok (.iload_n 2, 1) := by decide +kernel
theorem dX4_ofCustomer_7 : decode cX4_ofCustomer 7 = .ok (.tableswitch 78 0 5 #[37, 43, 53, 63, 68, 73], 37) := by decide +kernel
theorem dX4_ofCustomer_44 : decode cX4_ofCustomer 44 = .ok (.aload_n 3, 1) := by decide +kernel
theorem dX4_ofCustomer_45 : decode cX4_ofCustomer 45 = .ok (.getfield 153, 3) := by decide +kernel
theorem dX4_ofCustomer_48 : decode cX4_ofCustomer 48 = .ok (.i2l, 1) := by decide +kernel
theorem dX4_ofCustomer_49 : decode cX4_ofCustomer 49 = .ok (.lreturn, 1) := by decide +kernel
theorem dX4_ofCustomer_50 : decode cX4_ofCustomer 50 = .ok (.aload_n 3, 1) := by decide +kernel
theorem dX4_ofCustomer_51 : decode cX4_ofCustomer 51 = .ok (.aload_n 3, 1) := by decide +kernel
theorem dX4_ofCustomer_52 : decode cX4_ofCustomer 52 = .ok (.getfield 153, 3) := by decide +kernel
theorem dX4_ofCustomer_55 : decode cX4_ofCustomer 55 = .ok (.invokevirtual 201, 3) := by decide +kernel
theorem dX4_ofCustomer_58 : decode cX4_ofCustomer 58 = .ok (.i2l, 1) := by decide +kernel
theorem dX4_ofCustomer_59 : decode cX4_ofCustomer 59 = .ok (.lreturn, 1) := by decide +kernel
theorem dX4_ofCustomer_60 : decode cX4_ofCustomer 60 = .ok (.aload_n 3, 1) := by decide +kernel
theorem dX4_ofCustomer_61 : decode cX4_ofCustomer 61 = .ok (.aload_n 3, 1) := by decide +kernel
theorem dX4_ofCustomer_62 : decode cX4_ofCustomer 62 = .ok (.getfield 153, 3) := by decide +kernel
theorem dX4_ofCustomer_65 : decode cX4_ofCustomer 65 = .ok (.invokevirtual 205, 3) := by decide +kernel
theorem dX4_ofCustomer_68 : decode cX4_ofCustomer 68 = .ok (.i2l, 1) := by decide +kernel
theorem dX4_ofCustomer_69 : decode cX4_ofCustomer 69 = .ok (.lreturn, 1) := by decide +kernel
theorem dX4_ofCustomer_70 : decode cX4_ofCustomer 70 = .ok (.aload_n 3, 1) := by decide +kernel
theorem dX4_ofCustomer_71 : decode cX4_ofCustomer 71 = .ok (.getfield 208, 3) := by decide +kernel
theorem dX4_ofCustomer_74 : decode cX4_ofCustomer 74 = .ok (.lreturn, 1) := by decide +kernel
theorem dX4_ofCustomer_75 : decode cX4_ofCustomer 75 = .ok (.aload_n 3, 1) := by decide +kernel
theorem dX4_ofCustomer_76 : decode cX4_ofCustomer 76 = .ok (.getfield 211, 3) := by decide +kernel
theorem dX4_ofCustomer_79 : decode cX4_ofCustomer 79 = .ok (.lreturn, 1) := by decide +kernel
theorem dX4_ofCustomer_80 : decode cX4_ofCustomer 80 = .ok (.aload_n 3, 1) := by decide +kernel
theorem dX4_ofCustomer_81 : decode cX4_ofCustomer 81 = .ok (.getfield 214, 3) := by decide +kernel
theorem dX4_ofCustomer_84 : decode cX4_ofCustomer 84 = .ok (.lreturn, 1) := by decide +kernel
theorem dX4_ofCustomer_85 : decode cX4_ofCustomer 85 = .ok (.new 67, 3) := by decide +kernel
theorem dX4_ofCustomer_88 : decode cX4_ofCustomer 88 = .ok (.dup, 1) := by decide +kernel
theorem dX4_ofCustomer_89 : decode cX4_ofCustomer 89 = .ok (.ldc 199, 2) := by decide +kernel
theorem dX4_ofCustomer_91 : decode cX4_ofCustomer 91 = .ok (.invokespecial 71, 3) := by decide +kernel
theorem dX4_ofCustomer_94 : decode cX4_ofCustomer 94 = .ok (.athrow, 1) := by decide +kernel
theorem dX4_flow_0 : decode cX4_flow 0 = .ok (.aload_n 0, 1) := by decide +kernel
theorem dX4_flow_1 : decode cX4_flow 1 = .ok (.iload_n 1, 1) := by decide +kernel
theorem dX4_flow_2 : decode cX4_flow 2 = .ok (.invokevirtual 138, 3) := by decide +kernel
theorem dX4_flow_5 : decode cX4_flow 5 = .ok (.astore_n 2, 1) := by decide +kernel
theorem dX4_flow_6 : decode cX4_flow 6 = .ok (.aload_n 0, 1) := by decide +kernel
theorem dX4_flow_7 : decode cX4_flow 7 = .ok (.invokevirtual 217, 3) := by decide +kernel
theorem dX4_flow_10 : decode cX4_flow 10 = .ok (.aload_n 2, 1) := by decide +kernel
theorem dX4_flow_11 : decode cX4_flow 11 = .ok (.getfield 220, 3) := by decide +kernel
theorem dX4_flow_14 : decode cX4_flow 14 = .ok (.ireturn, 1) := by decide +kernel
theorem dX4_why_0 : decode cX4_why 0 = .ok (.aload_n 0, 1) := by decide +kernel
theorem dX4_why_1 : decode cX4_why 1 = .ok (.iload_n 1, 1) := by decide +kernel
theorem dX4_why_2 : decode cX4_why 2 = .ok (.invokevirtual 138, 3) := by decide +kernel
theorem dX4_why_5 : decode cX4_why 5 = .ok (.astore_n 2, 1) := by decide +kernel
theorem dX4_why_6 : decode cX4_why 6 = .ok (.aload_n 0, 1) := by decide +kernel
theorem dX4_why_7 : decode cX4_why 7 = .ok (.invokevirtual 217, 3) := by decide +kernel
theorem dX4_why_10 : decode cX4_why 10 = .ok (.aload_n 2, 1) := by decide +kernel
theorem dX4_why_11 : decode cX4_why 11 = .ok (.getfield 223, 3) := by decide +kernel
theorem dX4_why_14 : decode cX4_why 14 = .ok (.ireturn, 1) := by decide +kernel
theorem dX4_worth_0 : decode cX4_worth 0 = .ok (.aload_n 0, 1) := by decide +kernel
theorem dX4_worth_1 : decode cX4_worth 1 = .ok (.iload_n 1, 1) := by decide +kernel
theorem dX4_worth_2 : decode cX4_worth 2 = .ok (.invokevirtual 138, 3) := by decide +kernel
theorem dX4_worth_5 : decode cX4_worth 5 = .ok (.astore_n 3, 1) := by decide +kernel
theorem dX4_worth_6 : decode cX4_worth 6 = .ok (.iload_n 2, 1) := by decide +kernel
theorem dX4_worth_7 : decode cX4_worth 7 = .ok (.iconst 1, 1) := by decide +kernel
theorem dX4_worth_8 : decode cX4_worth 8 = .ok (.bipush 8, 2) := by decide +kernel
theorem dX4_worth_10 : decode cX4_worth 10 = .ok (.invokestatic 52, 3) := by decide +kernel
theorem dX4_worth_13 : decode cX4_worth 13 = .ok (.ifCond .ne 13, 3) := by decide +kernel
theorem dX4_worth_16 : decode cX4_worth 16 = .ok (.new 67, 3) := by decide +kernel
theorem dX4_worth_19 : decode cX4_worth 19 = .ok (.dup, 1) := by decide +kernel
theorem dX4_worth_20 : decode cX4_worth 20 = .ok (.ldc 171, 2) := by decide +kernel
theorem dX4_worth_22 : decode cX4_worth 22 = .ok (.invokespecial 71, 3) := by decide +kernel
theorem dX4_worth_25 : decode cX4_worth 25 = .ok (.athrow, 1) := by decide +kernel
theorem dX4_worth_26 : decode cX4_worth 26 = .ok (.aload_n 0, 1) := by decide +kernel
theorem dX4_worth_27 : decode cX4_worth 27 = .ok (.aload_n 3, 1) := by decide +kernel
theorem dX4_worth_28 : decode cX4_worth 28 = .ok (.aload_n 3, 1) := by decide +kernel
theorem dX4_worth_29 : decode cX4_worth 29 = .ok (.getfield 153, 3) := by decide +kernel
theorem dX4_worth_32 : decode cX4_worth 32 = .ok (.aload_n 0, 1) := by decide +kernel
theorem dX4_worth_33 : decode cX4_worth 33 = .ok (.getfield 29, 3) := by decide +kernel
theorem dX4_worth_36 : decode cX4_worth 36 = .ok (.iload_n 2, 1) := by decide +kernel
theorem dX4_worth_37 : decode cX4_worth 37 = .ok (.invokevirtual 226, 3) := by decide +kernel
theorem dX4_worth_40 : decode cX4_worth 40 = .ok (.lreturn, 1) := by decide +kernel
theorem dX4_worthAnew_0 : decode cX4_worthAnew 0 = .ok (.aload_n 0, 1) := by decide +kernel
theorem dX4_worthAnew_1 : decode cX4_worthAnew 1 = .ok (.iload_n 1, 1) := by decide +kernel
theorem dX4_worthAnew_2 : decode cX4_worthAnew 2 = .ok (.invokevirtual 138, 3) := by decide +kernel
theorem dX4_worthAnew_5 : decode cX4_worthAnew 5 = .ok (.astore_n 3, 1) := by decide +kernel
theorem dX4_worthAnew_6 : decode cX4_worthAnew 6 = .ok (.iload_n 2, 1) := by decide +kernel
theorem dX4_worthAnew_7 : decode cX4_worthAnew 7 = .ok (.iconst 1, 1) := by decide +kernel
theorem dX4_worthAnew_8 : decode cX4_worthAnew 8 = .ok (.bipush 8, 2) := by decide +kernel
theorem dX4_worthAnew_10 : decode cX4_worthAnew 10 = .ok (.invokestatic 52, 3) := by decide +kernel
theorem dX4_worthAnew_13 : decode cX4_worthAnew 13 = .ok (.ifCond .ne 13, 3) := by decide +kernel
theorem dX4_worthAnew_16 : decode cX4_worthAnew 16 = .ok (.new 67, 3) := by decide +kernel
theorem dX4_worthAnew_19 : decode cX4_worthAnew 19 = .ok (.dup, 1) := by decide +kernel
theorem dX4_worthAnew_20 : decode cX4_worthAnew 20 = .ok (.ldc 171, 2) := by decide +kernel
theorem dX4_worthAnew_22 : decode cX4_worthAnew 22 = .ok (.invokespecial 71, 3) := by decide +kernel
theorem dX4_worthAnew_25 : decode cX4_worthAnew 25 = .ok (.athrow, 1) := by decide +kernel
theorem dX4_worthAnew_26 : decode cX4_worthAnew 26 = .ok (.iconst 1, 1) := by decide +kernel
theorem dX4_worthAnew_27 : decode cX4_worthAnew 27 = .ok (.istore 4, 2) := by decide +kernel
theorem dX4_worthAnew_29 : decode cX4_worthAnew 29 = .ok (.iconst 0, 1) := by decide +kernel
theorem dX4_worthAnew_30 : decode cX4_worthAnew 30 = .ok (.istore 5, 2) := by decide +kernel
theorem dX4_worthAnew_32 : decode cX4_worthAnew 32 = .ok (.iload 5, 2) := by decide +kernel
theorem dX4_worthAnew_34 : decode cX4_worthAnew 34 = .ok (.iload_n 2, 1) := by decide +kernel
theorem dX4_worthAnew_35 : decode cX4_worthAnew 35 = .ok (.if_icmp .ge 15, 3) := by decide +kernel
theorem dX4_worthAnew_38 : decode cX4_worthAnew 38 = .ok (.iload 4, 2) := by decide +kernel
theorem dX4_worthAnew_40 : decode cX4_worthAnew 40 = .ok (.iconst 3, 1) := by decide +kernel
theorem dX4_worthAnew_41 : decode cX4_worthAnew 41 = .ok (.imul, 1) := by decide +kernel
theorem dX4_worthAnew_42 : decode cX4_worthAnew 42 = .ok (.istore 4, 2) := by decide +kernel
theorem dX4_worthAnew_44 : decode cX4_worthAnew 44 = .ok (.iinc 5 1, 3) := by decide +kernel
theorem dX4_worthAnew_47 : decode cX4_worthAnew 47 = .ok (.goto (-15), 3) := by decide +kernel
theorem dX4_worthAnew_50 : decode cX4_worthAnew 50 = .ok (.lconst 0, 1) := by decide +kernel
theorem dX4_worthAnew_51 : decode cX4_worthAnew 51 = .ok (.lstore 5, 2) := by decide +kernel
theorem dX4_worthAnew_53 : decode cX4_worthAnew 53 = .ok (.iconst 0, 1) := by decide +kernel
theorem dX4_worthAnew_54 : decode cX4_worthAnew 54 = .ok (.istore 7, 2) := by decide +kernel
theorem dX4_worthAnew_56 : decode cX4_worthAnew 56 = .ok (.iload 7, 2) := by decide +kernel
theorem dX4_worthAnew_58 : decode cX4_worthAnew 58 = .ok (.iload 4, 2) := by decide +kernel
theorem dX4_worthAnew_60 : decode cX4_worthAnew 60 = .ok (.if_icmp .ge 24, 3) := by decide +kernel
theorem dX4_worthAnew_63 : decode cX4_worthAnew 63 = .ok (.lload 5, 2) := by decide +kernel
theorem dX4_worthAnew_65 : decode cX4_worthAnew 65 = .ok (.aload_n 0, 1) := by decide +kernel
theorem dX4_worthAnew_66 : decode cX4_worthAnew 66 = .ok (.aload_n 3, 1) := by decide +kernel
theorem dX4_worthAnew_67 : decode cX4_worthAnew 67 = .ok (.iload 7, 2) := by decide +kernel
theorem dX4_worthAnew_69 : decode cX4_worthAnew 69 = .ok (.iload_n 2, 1) := by decide +kernel
theorem dX4_worthAnew_70 : decode cX4_worthAnew 70 = .ok (.invokevirtual 230, 3) := by decide +kernel
theorem dX4_worthAnew_73 : decode cX4_worthAnew 73 = .ok (.invokestatic 234, 3) := by decide +kernel
theorem dX4_worthAnew_76 : decode cX4_worthAnew 76 = .ok (.lstore 5, 2) := by decide +kernel
theorem dX4_worthAnew_78 : decode cX4_worthAnew 78 = .ok (.iinc 7 1, 3) := by decide +kernel
theorem dX4_worthAnew_81 : decode cX4_worthAnew 81 = .ok (.goto (-25), 3) := by decide +kernel
theorem dX4_worthAnew_84 : decode cX4_worthAnew 84 = .ok (.lload 5, 2) := by decide +kernel
theorem dX4_worthAnew_86 : decode cX4_worthAnew 86 = .ok (.lreturn, 1) := by decide +kernel
theorem dX4_of_0 : decode cX4_of 0 = .ok (.iload_n 1, 1) := by decide +kernel
theorem dX4_of_1 : decode cX4_of 1 = .ok (.tableswitch 101 0 7 #[47, 53, 58, 63, 68, 74, 80, 91], 47) := by decide +kernel
theorem dX4_of_48 : decode cX4_of 48 = .ok (.aload_n 0, 1) := by decide +kernel
theorem dX4_of_49 : decode cX4_of 49 = .ok (.getfield 29, 3) := by decide +kernel
theorem dX4_of_52 : decode cX4_of 52 = .ok (.i2l, 1) := by decide +kernel
theorem dX4_of_53 : decode cX4_of 53 = .ok (.lreturn, 1) := by decide +kernel
theorem dX4_of_54 : decode cX4_of 54 = .ok (.aload_n 0, 1) := by decide +kernel
theorem dX4_of_55 : decode cX4_of 55 = .ok (.getfield 42, 3) := by decide +kernel
theorem dX4_of_58 : decode cX4_of 58 = .ok (.lreturn, 1) := by decide +kernel
theorem dX4_of_59 : decode cX4_of 59 = .ok (.aload_n 0, 1) := by decide +kernel
theorem dX4_of_60 : decode cX4_of 60 = .ok (.getfield 46, 3) := by decide +kernel
theorem dX4_of_63 : decode cX4_of 63 = .ok (.lreturn, 1) := by decide +kernel
theorem dX4_of_64 : decode cX4_of 64 = .ok (.aload_n 0, 1) := by decide +kernel
theorem dX4_of_65 : decode cX4_of 65 = .ok (.getfield 49, 3) := by decide +kernel
theorem dX4_of_68 : decode cX4_of 68 = .ok (.lreturn, 1) := by decide +kernel
theorem dX4_of_69 : decode cX4_of 69 = .ok (.aload_n 0, 1) := by decide +kernel
theorem dX4_of_70 : decode cX4_of 70 = .ok (.invokevirtual 240, 3) := by decide +kernel
theorem dX4_of_73 : decode cX4_of 73 = .ok (.i2l, 1) := by decide +kernel
theorem dX4_of_74 : decode cX4_of 74 = .ok (.lreturn, 1) := by decide +kernel
theorem dX4_of_75 : decode cX4_of 75 = .ok (.aload_n 0, 1) := by decide +kernel
theorem dX4_of_76 : decode cX4_of 76 = .ok (.invokevirtual 243, 3) := by decide +kernel
theorem dX4_of_79 : decode cX4_of 79 = .ok (.i2l, 1) := by decide +kernel
theorem dX4_of_80 : decode cX4_of 80 = .ok (.lreturn, 1) := by decide +kernel
theorem dX4_of_81 : decode cX4_of 81 = .ok (.aload_n 0, 1) := by decide +kernel
theorem dX4_of_82 : decode cX4_of 82 = .ok (.invokevirtual 240, 3) := by decide +kernel
theorem dX4_of_85 : decode cX4_of 85 = .ok (.aload_n 0, 1) := by decide +kernel
theorem dX4_of_86 : decode cX4_of 86 = .ok (.invokevirtual 243, 3) := by decide +kernel
theorem dX4_of_89 : decode cX4_of 89 = .ok (.isub, 1) := by decide +kernel
theorem dX4_of_90 : decode cX4_of 90 = .ok (.i2l, 1) := by decide +kernel
theorem dX4_of_91 : decode cX4_of 91 = .ok (.lreturn, 1) := by decide +kernel
theorem dX4_of_92 : decode cX4_of 92 = .ok (.iconst 0, 1) := by decide +kernel
theorem dX4_of_93 : decode cX4_of 93 = .ok (.aload_n 0, 1) := by decide +kernel
theorem dX4_of_94 : decode cX4_of 94 = .ok (.invokevirtual 246, 3) := by decide +kernel
theorem dX4_of_97 : decode cX4_of 97 = .ok (.invokestatic 249, 3) := by decide +kernel
theorem dX4_of_100 : decode cX4_of 100 = .ok (.i2l, 1) := by decide +kernel
theorem dX4_of_101 : decode cX4_of 101 = .ok (.lreturn, 1) := by decide +kernel
theorem dX4_of_102 : decode cX4_of 102 = .ok (.new 67, 3) := by decide +kernel
theorem dX4_of_105 : decode cX4_of 105 = .ok (.dup, 1) := by decide +kernel
theorem dX4_of_106 : decode cX4_of 106 = .ok (.ldc 199, 2) := by decide +kernel
theorem dX4_of_108 : decode cX4_of 108 = .ok (.invokespecial 71, 3) := by decide +kernel
theorem dX4_of_111 : decode cX4_of 111 = .ok (.athrow, 1) := by decide +kernel
theorem dX4_isWithin_0 : decode cX4_isWithin 0 = .ok (.iload_n 0, 1) := by decide +kernel
theorem dX4_isWithin_1 : decode cX4_isWithin 1 = .ok (.iload_n 1, 1) := by decide +kernel
theorem dX4_isWithin_2 : decode cX4_isWithin 2 = .ok (.if_icmp .lt 12, 3) := by decide +kernel
theorem dX4_isWithin_5 : decode cX4_isWithin 5 = .ok (.iload_n 0, 1) := by decide +kernel
theorem dX4_isWithin_6 : decode cX4_isWithin 6 = .ok (.iload_n 2, 1) := by decide +kernel
theorem dX4_isWithin_7 : decode cX4_isWithin 7 = .ok (.if_icmp .gt 7, 3) := by decide +kernel
theorem dX4_isWithin_10 : decode cX4_isWithin 10 = .ok (.iconst 1, 1) := by decide +kernel
theorem dX4_isWithin_11 : decode cX4_isWithin 11 = .ok (.goto 4, 3) := by decide +kernel
theorem dX4_isWithin_14 : decode cX4_isWithin 14 = .ok (.iconst 0, 1) := by decide +kernel
theorem dX4_isWithin_15 : decode cX4_isWithin 15 = .ok (.ireturn, 1) := by decide +kernel
theorem dX4_storeNumbered_0 : decode cX4_storeNumbered 0 = .ok (.iload_n 1, 1) := by decide +kernel
theorem dX4_storeNumbered_1 : decode cX4_storeNumbered 1 = .ok (.ifCond .lt 14, 3) := by decide +kernel
theorem dX4_storeNumbered_4 : decode cX4_storeNumbered 4 = .ok (.iload_n 1, 1) := by decide +kernel
theorem dX4_storeNumbered_5 : decode cX4_storeNumbered 5 = .ok (.aload_n 0, 1) := by decide +kernel
theorem dX4_storeNumbered_6 : decode cX4_storeNumbered 6 = .ok (.getfield 10, 3) := by decide +kernel
theorem dX4_storeNumbered_9 : decode cX4_storeNumbered 9 = .ok (.invokevirtual 74, 3) := by decide +kernel
theorem dX4_storeNumbered_12 : decode cX4_storeNumbered 12 = .ok (.if_icmp .lt 13, 3) := by decide +kernel
theorem dX4_storeNumbered_15 : decode cX4_storeNumbered 15 = .ok (.new 251, 3) := by decide +kernel
theorem dX4_storeNumbered_18 : decode cX4_storeNumbered 18 = .ok (.dup, 1) := by decide +kernel
theorem dX4_storeNumbered_19 : decode cX4_storeNumbered 19 = .ok (.ldc 253, 2) := by decide +kernel
theorem dX4_storeNumbered_21 : decode cX4_storeNumbered 21 = .ok (.invokespecial 255, 3) := by decide +kernel
theorem dX4_storeNumbered_24 : decode cX4_storeNumbered 24 = .ok (.athrow, 1) := by decide +kernel
theorem dX4_storeNumbered_25 : decode cX4_storeNumbered 25 = .ok (.aload_n 0, 1) := by decide +kernel
theorem dX4_storeNumbered_26 : decode cX4_storeNumbered 26 = .ok (.getfield 10, 3) := by decide +kernel
theorem dX4_storeNumbered_29 : decode cX4_storeNumbered 29 = .ok (.iload_n 1, 1) := by decide +kernel
theorem dX4_storeNumbered_30 : decode cX4_storeNumbered 30 = .ok (.invokevirtual 256, 3) := by decide +kernel
theorem dX4_storeNumbered_33 : decode cX4_storeNumbered 33 = .ok (.checkcast 59, 3) := by decide +kernel
theorem dX4_storeNumbered_36 : decode cX4_storeNumbered 36 = .ok (.areturn, 1) := by decide +kernel
theorem dX4_customerNumbered_0 : decode cX4_customerNumbered 0 = .ok (.iload_n 1, 1) := by decide +kernel
theorem dX4_customerNumbered_1 : decode cX4_customerNumbered 1 = .ok (.ifCond .lt 14, 3) := by decide +kernel
theorem dX4_customerNumbered_4 : decode cX4_customerNumbered 4 = .ok (.iload_n 1, 1) := by decide +kernel
theorem dX4_customerNumbered_5 : decode cX4_customerNumbered 5 = .ok (.aload_n 0, 1) := by decide +kernel
theorem dX4_customerNumbered_6 : decode cX4_customerNumbered 6 = .ok (.getfield 16, 3) := by decide +kernel
theorem dX4_customerNumbered_9 : decode cX4_customerNumbered 9 = .ok (.invokevirtual 74, 3) := by decide +kernel
theorem dX4_customerNumbered_12 : decode cX4_customerNumbered 12 = .ok (.if_icmp .lt 14, 3) := by decide +kernel
theorem dX4_customerNumbered_15 : decode cX4_customerNumbered 15 = .ok (.new 251, 3) := by decide +kernel
theorem dX4_customerNumbered_18 : decode cX4_customerNumbered 18 = .ok (.dup, 1) := by decide +kernel
theorem dX4_customerNumbered_19 : decode cX4_customerNumbered 19 = .ok (.ldc_w 260, 3) := by decide +kernel
theorem dX4_customerNumbered_22 : decode cX4_customerNumbered 22 = .ok (.invokespecial 255, 3) := by decide +kernel
theorem dX4_customerNumbered_25 : decode cX4_customerNumbered 25 = .ok (.athrow, 1) := by decide +kernel
theorem dX4_customerNumbered_26 : decode cX4_customerNumbered 26 = .ok (.aload_n 0, 1) := by decide +kernel
theorem dX4_customerNumbered_27 : decode cX4_customerNumbered 27 = .ok (.getfield 16, 3) := by decide +kernel
theorem dX4_customerNumbered_30 : decode cX4_customerNumbered 30 = .ok (.iload_n 1, 1) := by decide +kernel
theorem dX4_customerNumbered_31 : decode cX4_customerNumbered 31 = .ok (.invokevirtual 256, 3) := by decide +kernel
theorem dX4_customerNumbered_34 : decode cX4_customerNumbered 34 = .ok (.checkcast 133, 3) := by decide +kernel
theorem dX4_customerNumbered_37 : decode cX4_customerNumbered 37 = .ok (.areturn, 1) := by decide +kernel
theorem dX4_gasInAllStores_0 : decode cX4_gasInAllStores 0 = .ok (.iconst 0, 1) := by decide +kernel
theorem dX4_gasInAllStores_1 : decode cX4_gasInAllStores 1 = .ok (.istore_n 1, 1) := by decide +kernel
theorem dX4_gasInAllStores_2 : decode cX4_gasInAllStores 2 = .ok (.iconst 0, 1) := by decide +kernel
theorem dX4_gasInAllStores_3 : decode cX4_gasInAllStores 3 = .ok (.istore_n 2, 1) := by decide +kernel
theorem dX4_gasInAllStores_4 : decode cX4_gasInAllStores 4 = .ok (.iload_n 2, 1) := by decide +kernel
theorem dX4_gasInAllStores_5 : decode cX4_gasInAllStores 5 = .ok (.aload_n 0, 1) := by decide +kernel
theorem dX4_gasInAllStores_6 : decode cX4_gasInAllStores 6 = .ok (.getfield 10, 3) := by decide +kernel
theorem dX4_gasInAllStores_9 : decode cX4_gasInAllStores 9 = .ok (.invokevirtual 74, 3) := by decide +kernel
theorem dX4_gasInAllStores_12 : decode cX4_gasInAllStores 12 = .ok (.if_icmp .ge 26, 3) := by decide +kernel
theorem dX4_gasInAllStores_15 : decode cX4_gasInAllStores 15 = .ok (.iload_n 1, 1) := by decide +kernel
theorem dX4_gasInAllStores_16 : decode cX4_gasInAllStores 16 = .ok (.aload_n 0, 1) := by decide +kernel
theorem dX4_gasInAllStores_17 : decode cX4_gasInAllStores 17 = .ok (.getfield 10, 3) := by decide +kernel
theorem dX4_gasInAllStores_20 : decode cX4_gasInAllStores 20 = .ok (.iload_n 2, 1) := by decide +kernel
theorem dX4_gasInAllStores_21 : decode cX4_gasInAllStores 21 = .ok (.invokevirtual 256, 3) := by decide +kernel
theorem dX4_gasInAllStores_24 : decode cX4_gasInAllStores 24 = .ok (.checkcast 59, 3) := by decide +kernel
theorem dX4_gasInAllStores_27 : decode cX4_gasInAllStores 27 = .ok (.getfield 119, 3) := by decide +kernel
theorem dX4_gasInAllStores_30 : decode cX4_gasInAllStores 30 = .ok (.iadd, 1) := by decide +kernel
theorem dX4_gasInAllStores_31 : decode cX4_gasInAllStores 31 = .ok (.istore_n 1, 1) := by decide +kernel
theorem dX4_gasInAllStores_32 : decode cX4_gasInAllStores 32 = .ok (.iinc 2 1, 3) := by decide +kernel
theorem dX4_gasInAllStores_35 : decode cX4_gasInAllStores 35 = .ok (.goto (-31), 3) := by decide +kernel
theorem dX4_gasInAllStores_38 : decode cX4_gasInAllStores 38 = .ok (.iload_n 1, 1) := by decide +kernel
theorem dX4_gasInAllStores_39 : decode cX4_gasInAllStores 39 = .ok (.ireturn, 1) := by decide +kernel
theorem dX4_allInventories_0 : decode cX4_allInventories 0 = .ok (.iconst 0, 1) := by decide +kernel
theorem dX4_allInventories_1 : decode cX4_allInventories 1 = .ok (.istore_n 1, 1) := by decide +kernel
theorem dX4_allInventories_2 : decode cX4_allInventories 2 = .ok (.iconst 0, 1) := by decide +kernel
theorem dX4_allInventories_3 : decode cX4_allInventories 3 = .ok (.istore_n 2, 1) := by decide +kernel
theorem dX4_allInventories_4 : decode cX4_allInventories 4 = .ok (.iload_n 2, 1) := by decide +kernel
theorem dX4_allInventories_5 : decode cX4_allInventories 5 = .ok (.aload_n 0, 1) := by decide +kernel
theorem dX4_allInventories_6 : decode cX4_allInventories 6 = .ok (.getfield 16, 3) := by decide +kernel
theorem dX4_allInventories_9 : decode cX4_allInventories 9 = .ok (.invokevirtual 74, 3) := by decide +kernel
theorem dX4_allInventories_12 : decode cX4_allInventories 12 = .ok (.if_icmp .ge 26, 3) := by decide +kernel
theorem dX4_allInventories_15 : decode cX4_allInventories 15 = .ok (.iload_n 1, 1) := by decide +kernel
theorem dX4_allInventories_16 : decode cX4_allInventories 16 = .ok (.aload_n 0, 1) := by decide +kernel
theorem dX4_allInventories_17 : decode cX4_allInventories 17 = .ok (.getfield 16, 3) := by decide +kernel
theorem dX4_allInventories_20 : decode cX4_allInventories 20 = .ok (.iload_n 2, 1) := by decide +kernel
theorem dX4_allInventories_21 : decode cX4_allInventories 21 = .ok (.invokevirtual 256, 3) := by decide +kernel
theorem dX4_allInventories_24 : decode cX4_allInventories 24 = .ok (.checkcast 133, 3) := by decide +kernel
theorem dX4_allInventories_27 : decode cX4_allInventories 27 = .ok (.getfield 153, 3) := by decide +kernel
theorem dX4_allInventories_30 : decode cX4_allInventories 30 = .ok (.iadd, 1) := by decide +kernel
theorem dX4_allInventories_31 : decode cX4_allInventories 31 = .ok (.istore_n 1, 1) := by decide +kernel
theorem dX4_allInventories_32 : decode cX4_allInventories 32 = .ok (.iinc 2 1, 3) := by decide +kernel
theorem dX4_allInventories_35 : decode cX4_allInventories 35 = .ok (.goto (-31), 3) := by decide +kernel
theorem dX4_allInventories_38 : decode cX4_allInventories 38 = .ok (.iload_n 1, 1) := by decide +kernel
theorem dX4_allInventories_39 : decode cX4_allInventories 39 = .ok (.ireturn, 1) := by decide +kernel
theorem dX4_leastByLaw_0 : decode cX4_leastByLaw 0 = .ok (.aload_n 0, 1) := by decide +kernel
theorem dX4_leastByLaw_1 : decode cX4_leastByLaw 1 = .ok (.getfield 19, 3) := by decide +kernel
theorem dX4_leastByLaw_4 : decode cX4_leastByLaw 4 = .ok (.invokevirtual 74, 3) := by decide +kernel
theorem dX4_leastByLaw_7 : decode cX4_leastByLaw 7 = .ok (.iconst 1, 1) := by decide +kernel
theorem dX4_leastByLaw_8 : decode cX4_leastByLaw 8 = .ok (.isub, 1) := by decide +kernel
theorem dX4_leastByLaw_9 : decode cX4_leastByLaw 9 = .ok (.istore_n 1, 1) := by decide +kernel
theorem dX4_leastByLaw_10 : decode cX4_leastByLaw 10 = .ok (.iload_n 1, 1) := by decide +kernel
theorem dX4_leastByLaw_11 : decode cX4_leastByLaw 11 = .ok (.ifCond .lt 44, 3) := by decide +kernel
theorem dX4_leastByLaw_14 : decode cX4_leastByLaw 14 = .ok (.aload_n 0, 1) := by decide +kernel
theorem dX4_leastByLaw_15 : decode cX4_leastByLaw 15 = .ok (.getfield 19, 3) := by decide +kernel
theorem dX4_leastByLaw_18 : decode cX4_leastByLaw 18 = .ok (.iload_n 1, 1) := by decide +kernel
theorem dX4_leastByLaw_19 : decode cX4_leastByLaw 19 = .ok (.invokevirtual 256, 3) := by decide +kernel
theorem dX4_leastByLaw_22 : decode cX4_leastByLaw 22 = .ok (.checkcast 164, 3) := by decide +kernel
theorem dX4_leastByLaw_25 : decode cX4_leastByLaw 25 = .ok (.astore_n 2, 1) := by decide +kernel
theorem dX4_leastByLaw_26 : decode cX4_leastByLaw 26 = .ok (.aload_n 0, 1) := by decide +kernel
theorem dX4_leastByLaw_27 : decode cX4_leastByLaw 27 = .ok (.getfield 29, 3) := by decide +kernel
theorem dX4_leastByLaw_30 : decode cX4_leastByLaw 30 = .ok (.aload_n 2, 1) := by decide +kernel
theorem dX4_leastByLaw_31 : decode cX4_leastByLaw 31 = .ok (.getfield 262, 3) := by decide +kernel
theorem dX4_leastByLaw_34 : decode cX4_leastByLaw 34 = .ok (.aload_n 2, 1) := by decide +kernel
theorem dX4_leastByLaw_35 : decode cX4_leastByLaw 35 = .ok (.getfield 265, 3) := by decide +kernel
theorem dX4_leastByLaw_38 : decode cX4_leastByLaw 38 = .ok (.invokestatic 52, 3) := by decide +kernel
theorem dX4_leastByLaw_41 : decode cX4_leastByLaw 41 = .ok (.ifCond .eq 8, 3) := by decide +kernel
theorem dX4_leastByLaw_44 : decode cX4_leastByLaw 44 = .ok (.aload_n 2, 1) := by decide +kernel
theorem dX4_leastByLaw_45 : decode cX4_leastByLaw 45 = .ok (.getfield 268, 3) := by decide +kernel
theorem dX4_leastByLaw_48 : decode cX4_leastByLaw 48 = .ok (.ireturn, 1) := by decide +kernel
theorem dX4_leastByLaw_49 : decode cX4_leastByLaw 49 = .ok (.iinc 1 (-1), 3) := by decide +kernel
theorem dX4_leastByLaw_52 : decode cX4_leastByLaw 52 = .ok (.goto (-42), 3) := by decide +kernel
theorem dX4_leastByLaw_55 : decode cX4_leastByLaw 55 = .ok (.iconst (-1), 1) := by decide +kernel
theorem dX4_leastByLaw_56 : decode cX4_leastByLaw 56 = .ok (.ireturn, 1) := by decide +kernel
theorem dX4_planTheHour_0 : decode cX4_planTheHour 0 = .ok (.iconst 0, 1) := by decide +kernel
theorem dX4_planTheHour_1 : decode cX4_planTheHour 1 = .ok (.istore_n 1, 1) := by decide +kernel
theorem dX4_planTheHour_2 : decode cX4_planTheHour 2 = .ok (.iload_n 1, 1) := by decide +kernel
theorem dX4_planTheHour_3 : decode cX4_planTheHour 3 = .ok (.aload_n 0, 1) := by decide +kernel
theorem dX4_planTheHour_4 : decode cX4_planTheHour 4 = .ok (.getfield 16, 3) := by decide +kernel
theorem dX4_planTheHour_7 : decode cX4_planTheHour 7 = .ok (.invokevirtual 74, 3) := by decide +kernel
theorem dX4_planTheHour_10 : decode cX4_planTheHour 10 = .ok (.if_icmp .ge 27, 3) := by decide +kernel
theorem dX4_planTheHour_13 : decode cX4_planTheHour 13 = .ok (.aload_n 0, 1) := by decide +kernel
theorem dX4_planTheHour_14 : decode cX4_planTheHour 14 = .ok (.getfield 16, 3) := by decide +kernel
theorem dX4_planTheHour_17 : decode cX4_planTheHour 17 = .ok (.iload_n 1, 1) := by decide +kernel
theorem dX4_planTheHour_18 : decode cX4_planTheHour 18 = .ok (.invokevirtual 256, 3) := by decide +kernel
theorem dX4_planTheHour_21 : decode cX4_planTheHour 21 = .ok (.checkcast 133, 3) := by decide +kernel
theorem dX4_planTheHour_24 : decode cX4_planTheHour 24 = .ok (.aload_n 0, 1) := by decide +kernel
theorem dX4_planTheHour_25 : decode cX4_planTheHour 25 = .ok (.getfield 29, 3) := by decide +kernel
theorem dX4_planTheHour_28 : decode cX4_planTheHour 28 = .ok (.invokevirtual 271, 3) := by decide +kernel
theorem dX4_planTheHour_31 : decode cX4_planTheHour 31 = .ok (.iinc 1 1, 3) := by decide +kernel
theorem dX4_planTheHour_34 : decode cX4_planTheHour 34 = .ok (.goto (-32), 3) := by decide +kernel
theorem dX4_planTheHour_37 : decode cX4_planTheHour 37 = .ok (.aload_n 0, 1) := by decide +kernel
theorem dX4_planTheHour_38 : decode cX4_planTheHour 38 = .ok (.iconst 0, 1) := by decide +kernel
theorem dX4_planTheHour_39 : decode cX4_planTheHour 39 = .ok (.aload_n 0, 1) := by decide +kernel
theorem dX4_planTheHour_40 : decode cX4_planTheHour 40 = .ok (.invokevirtual 275, 3) := by decide +kernel
theorem dX4_planTheHour_43 : decode cX4_planTheHour 43 = .ok (.iconst 2, 1) := by decide +kernel
theorem dX4_planTheHour_44 : decode cX4_planTheHour 44 = .ok (.invokevirtual 278, 3) := by decide +kernel
theorem dX4_planTheHour_47 : decode cX4_planTheHour 47 = .ok (.aload_n 0, 1) := by decide +kernel
theorem dX4_planTheHour_48 : decode cX4_planTheHour 48 = .ok (.invokevirtual 282, 3) := by decide +kernel
theorem dX4_planTheHour_51 : decode cX4_planTheHour 51 = .ok (.istore_n 1, 1) := by decide +kernel
theorem dX4_planTheHour_52 : decode cX4_planTheHour 52 = .ok (.iload_n 1, 1) := by decide +kernel
theorem dX4_planTheHour_53 : decode cX4_planTheHour 53 = .ok (.ifCond .le 7, 3) := by decide +kernel
theorem dX4_planTheHour_56 : decode cX4_planTheHour 56 = .ok (.iconst 1, 1) := by decide +kernel
theorem dX4_planTheHour_57 : decode cX4_planTheHour 57 = .ok (.goto 4, 3) := by decide +kernel
theorem dX4_planTheHour_60 : decode cX4_planTheHour 60 = .ok (.iconst 0, 1) := by decide +kernel
theorem dX4_planTheHour_61 : decode cX4_planTheHour 61 = .ok (.istore_n 2, 1) := by decide +kernel
theorem dX4_planTheHour_62 : decode cX4_planTheHour 62 = .ok (.aload_n 0, 1) := by decide +kernel
theorem dX4_planTheHour_63 : decode cX4_planTheHour 63 = .ok (.iload_n 2, 1) := by decide +kernel
theorem dX4_planTheHour_64 : decode cX4_planTheHour 64 = .ok (.iload_n 1, 1) := by decide +kernel
theorem dX4_planTheHour_65 : decode cX4_planTheHour 65 = .ok (.invokestatic 285, 3) := by decide +kernel
theorem dX4_planTheHour_68 : decode cX4_planTheHour 68 = .ok (.aload_n 0, 1) := by decide +kernel
theorem dX4_planTheHour_69 : decode cX4_planTheHour 69 = .ok (.iload_n 2, 1) := by decide +kernel
theorem dX4_planTheHour_70 : decode cX4_planTheHour 70 = .ok (.invokevirtual 288, 3) := by decide +kernel
theorem dX4_planTheHour_73 : decode cX4_planTheHour 73 = .ok (.isub, 1) := by decide +kernel
theorem dX4_planTheHour_74 : decode cX4_planTheHour 74 = .ok (.iconst 3, 1) := by decide +kernel
theorem dX4_planTheHour_75 : decode cX4_planTheHour 75 = .ok (.invokevirtual 278, 3) := by decide +kernel
theorem dX4_planTheHour_78 : decode cX4_planTheHour 78 = .ok (.return_, 1) := by decide +kernel
theorem dX4_plannedAboveTheLaw_0 : decode cX4_plannedAboveTheLaw 0 = .ok (.aload_n 0, 1) := by decide +kernel
theorem dX4_plannedAboveTheLaw_1 : decode cX4_plannedAboveTheLaw 1 = .ok (.invokevirtual 246, 3) := by decide +kernel
theorem dX4_plannedAboveTheLaw_4 : decode cX4_plannedAboveTheLaw 4 = .ok (.istore_n 1, 1) := by decide +kernel
theorem dX4_plannedAboveTheLaw_5 : decode cX4_plannedAboveTheLaw 5 = .ok (.iload_n 1, 1) := by decide +kernel
theorem dX4_plannedAboveTheLaw_6 : decode cX4_plannedAboveTheLaw 6 = .ok (.iconst (-1), 1) := by decide +kernel
theorem dX4_plannedAboveTheLaw_7 : decode cX4_plannedAboveTheLaw 7 = .ok (.if_icmp .ne 5, 3) := by decide +kernel
theorem dX4_plannedAboveTheLaw_10 : decode cX4_plannedAboveTheLaw 10 = .ok (.iconst 0, 1) := by decide +kernel
theorem dX4_plannedAboveTheLaw_11 : decode cX4_plannedAboveTheLaw 11 = .ok (.ireturn, 1) := by decide +kernel
theorem dX4_plannedAboveTheLaw_12 : decode cX4_plannedAboveTheLaw 12 = .ok (.iconst 0, 1) := by decide +kernel
theorem dX4_plannedAboveTheLaw_13 : decode cX4_plannedAboveTheLaw 13 = .ok (.istore_n 2, 1) := by decide +kernel
theorem dX4_plannedAboveTheLaw_14 : decode cX4_plannedAboveTheLaw 14 = .ok (.iconst 0, 1) := by decide +kernel
theorem dX4_plannedAboveTheLaw_15 : decode cX4_plannedAboveTheLaw 15 = .ok (.istore_n 3, 1) := by decide +kernel
theorem dX4_plannedAboveTheLaw_16 : decode cX4_plannedAboveTheLaw 16 = .ok (.iload_n 3, 1) := by decide +kernel
theorem dX4_plannedAboveTheLaw_17 : decode cX4_plannedAboveTheLaw 17 = .ok (.aload_n 0, 1) := by decide +kernel
theorem dX4_plannedAboveTheLaw_18 : decode cX4_plannedAboveTheLaw 18 = .ok (.getfield 16, 3) := by decide +kernel
theorem dX4_plannedAboveTheLaw_21 : decode cX4_plannedAboveTheLaw 21 = .ok (.invokevirtual 74, 3) := by decide +kernel
theorem dX4_plannedAboveTheLaw_24 : decode cX4_plannedAboveTheLaw 24 = .ok (.if_icmp .ge 27, 3) := by decide +kernel
theorem dX4_plannedAboveTheLaw_27 : decode cX4_plannedAboveTheLaw 27 = .ok (.iload_n 2, 1) := by decide +kernel
theorem dX4_plannedAboveTheLaw_28 : decode cX4_plannedAboveTheLaw 28 = .ok (.aload_n 0, 1) := by decide +kernel
theorem dX4_plannedAboveTheLaw_29 : decode cX4_plannedAboveTheLaw 29 = .ok (.getfield 16, 3) := by decide +kernel
theorem dX4_plannedAboveTheLaw_32 : decode cX4_plannedAboveTheLaw 32 = .ok (.iload_n 3, 1) := by decide +kernel
theorem dX4_plannedAboveTheLaw_33 : decode cX4_plannedAboveTheLaw 33 = .ok (.invokevirtual 256, 3) := by decide +kernel
theorem dX4_plannedAboveTheLaw_36 : decode cX4_plannedAboveTheLaw 36 = .ok (.checkcast 133, 3) := by decide +kernel
theorem dX4_plannedAboveTheLaw_39 : decode cX4_plannedAboveTheLaw 39 = .ok (.iconst 0, 1) := by decide +kernel
theorem dX4_plannedAboveTheLaw_40 : decode cX4_plannedAboveTheLaw 40 = .ok (.invokevirtual 292, 3) := by decide +kernel
theorem dX4_plannedAboveTheLaw_43 : decode cX4_plannedAboveTheLaw 43 = .ok (.iadd, 1) := by decide +kernel
theorem dX4_plannedAboveTheLaw_44 : decode cX4_plannedAboveTheLaw 44 = .ok (.istore_n 2, 1) := by decide +kernel
theorem dX4_plannedAboveTheLaw_45 : decode cX4_plannedAboveTheLaw 45 = .ok (.iinc 3 1, 3) := by decide +kernel
theorem dX4_plannedAboveTheLaw_48 : decode cX4_plannedAboveTheLaw 48 = .ok (.goto (-32), 3) := by decide +kernel
theorem dX4_plannedAboveTheLaw_51 : decode cX4_plannedAboveTheLaw 51 = .ok (.iload_n 2, 1) := by decide +kernel
theorem dX4_plannedAboveTheLaw_52 : decode cX4_plannedAboveTheLaw 52 = .ok (.iconst 0, 1) := by decide +kernel
theorem dX4_plannedAboveTheLaw_53 : decode cX4_plannedAboveTheLaw 53 = .ok (.aload_n 0, 1) := by decide +kernel
theorem dX4_plannedAboveTheLaw_54 : decode cX4_plannedAboveTheLaw 54 = .ok (.invokevirtual 243, 3) := by decide +kernel
theorem dX4_plannedAboveTheLaw_57 : decode cX4_plannedAboveTheLaw 57 = .ok (.iload_n 1, 1) := by decide +kernel
theorem dX4_plannedAboveTheLaw_58 : decode cX4_plannedAboveTheLaw 58 = .ok (.isub, 1) := by decide +kernel
theorem dX4_plannedAboveTheLaw_59 : decode cX4_plannedAboveTheLaw 59 = .ok (.invokestatic 249, 3) := by decide +kernel
theorem dX4_plannedAboveTheLaw_62 : decode cX4_plannedAboveTheLaw 62 = .ok (.isub, 1) := by decide +kernel
theorem dX4_plannedAboveTheLaw_63 : decode cX4_plannedAboveTheLaw 63 = .ok (.ireturn, 1) := by decide +kernel
theorem dX4_plannedNet_0 : decode cX4_plannedNet 0 = .ok (.iconst 0, 1) := by decide +kernel
theorem dX4_plannedNet_1 : decode cX4_plannedNet 1 = .ok (.istore_n 1, 1) := by decide +kernel
theorem dX4_plannedNet_2 : decode cX4_plannedNet 2 = .ok (.iconst 0, 1) := by decide +kernel
theorem dX4_plannedNet_3 : decode cX4_plannedNet 3 = .ok (.istore_n 2, 1) := by decide +kernel
theorem dX4_plannedNet_4 : decode cX4_plannedNet 4 = .ok (.iload_n 2, 1) := by decide +kernel
theorem dX4_plannedNet_5 : decode cX4_plannedNet 5 = .ok (.aload_n 0, 1) := by decide +kernel
theorem dX4_plannedNet_6 : decode cX4_plannedNet 6 = .ok (.getfield 16, 3) := by decide +kernel
theorem dX4_plannedNet_9 : decode cX4_plannedNet 9 = .ok (.invokevirtual 74, 3) := by decide +kernel
theorem dX4_plannedNet_12 : decode cX4_plannedNet 12 = .ok (.if_icmp .ge 26, 3) := by decide +kernel
theorem dX4_plannedNet_15 : decode cX4_plannedNet 15 = .ok (.iload_n 1, 1) := by decide +kernel
theorem dX4_plannedNet_16 : decode cX4_plannedNet 16 = .ok (.aload_n 0, 1) := by decide +kernel
theorem dX4_plannedNet_17 : decode cX4_plannedNet 17 = .ok (.getfield 16, 3) := by decide +kernel
theorem dX4_plannedNet_20 : decode cX4_plannedNet 20 = .ok (.iload_n 2, 1) := by decide +kernel
theorem dX4_plannedNet_21 : decode cX4_plannedNet 21 = .ok (.invokevirtual 256, 3) := by decide +kernel
theorem dX4_plannedNet_24 : decode cX4_plannedNet 24 = .ok (.checkcast 133, 3) := by decide +kernel
theorem dX4_plannedNet_27 : decode cX4_plannedNet 27 = .ok (.getfield 220, 3) := by decide +kernel
theorem dX4_plannedNet_30 : decode cX4_plannedNet 30 = .ok (.iadd, 1) := by decide +kernel
theorem dX4_plannedNet_31 : decode cX4_plannedNet 31 = .ok (.istore_n 1, 1) := by decide +kernel
theorem dX4_plannedNet_32 : decode cX4_plannedNet 32 = .ok (.iinc 2 1, 3) := by decide +kernel
theorem dX4_plannedNet_35 : decode cX4_plannedNet 35 = .ok (.goto (-31), 3) := by decide +kernel
theorem dX4_plannedNet_38 : decode cX4_plannedNet 38 = .ok (.iload_n 1, 1) := by decide +kernel
theorem dX4_plannedNet_39 : decode cX4_plannedNet 39 = .ok (.ireturn, 1) := by decide +kernel
theorem dX4_capacityOfPlant_0 : decode cX4_capacityOfPlant 0 = .ok (.iload_n 1, 1) := by decide +kernel
theorem dX4_capacityOfPlant_1 : decode cX4_capacityOfPlant 1 = .ok (.ifCond .eq 10, 3) := by decide +kernel
theorem dX4_capacityOfPlant_4 : decode cX4_capacityOfPlant 4 = .ok (.aload_n 0, 1) := by decide +kernel
theorem dX4_capacityOfPlant_5 : decode cX4_capacityOfPlant 5 = .ok (.getfield 39, 3) := by decide +kernel
theorem dX4_capacityOfPlant_8 : decode cX4_capacityOfPlant 8 = .ok (.goto 7, 3) := by decide +kernel
theorem dX4_capacityOfPlant_11 : decode cX4_capacityOfPlant 11 = .ok (.aload_n 0, 1) := by decide +kernel
theorem dX4_capacityOfPlant_12 : decode cX4_capacityOfPlant 12 = .ok (.getfield 36, 3) := by decide +kernel
theorem dX4_capacityOfPlant_15 : decode cX4_capacityOfPlant 15 = .ok (.istore_n 2, 1) := by decide +kernel
theorem dX4_capacityOfPlant_16 : decode cX4_capacityOfPlant 16 = .ok (.aload_n 0, 1) := by decide +kernel
theorem dX4_capacityOfPlant_17 : decode cX4_capacityOfPlant 17 = .ok (.getfield 29, 3) := by decide +kernel
theorem dX4_capacityOfPlant_20 : decode cX4_capacityOfPlant 20 = .ok (.iload_n 2, 1) := by decide +kernel
theorem dX4_capacityOfPlant_21 : decode cX4_capacityOfPlant 21 = .ok (.isub, 1) := by decide +kernel
theorem dX4_capacityOfPlant_22 : decode cX4_capacityOfPlant 22 = .ok (.iconst 2, 1) := by decide +kernel
theorem dX4_capacityOfPlant_23 : decode cX4_capacityOfPlant 23 = .ok (.if_icmp .gt 5, 3) := by decide +kernel
theorem dX4_capacityOfPlant_26 : decode cX4_capacityOfPlant 26 = .ok (.iconst 0, 1) := by decide +kernel
theorem dX4_capacityOfPlant_27 : decode cX4_capacityOfPlant 27 = .ok (.ireturn, 1) := by decide +kernel
theorem dX4_capacityOfPlant_28 : decode cX4_capacityOfPlant 28 = .ok (.iconst 0, 1) := by decide +kernel
theorem dX4_capacityOfPlant_29 : decode cX4_capacityOfPlant 29 = .ok (.istore_n 3, 1) := by decide +kernel
theorem dX4_capacityOfPlant_30 : decode cX4_capacityOfPlant 30 = .ok (.iconst 0, 1) := by decide +kernel
theorem dX4_capacityOfPlant_31 : decode cX4_capacityOfPlant 31 = .ok (.istore 4, 2) := by decide +kernel
theorem dX4_capacityOfPlant_33 : decode cX4_capacityOfPlant 33 = .ok (.iload 4, 2) := by decide +kernel
theorem dX4_capacityOfPlant_35 : decode cX4_capacityOfPlant 35 = .ok (.aload_n 0, 1) := by decide +kernel
theorem dX4_capacityOfPlant_36 : decode cX4_capacityOfPlant 36 = .ok (.getfield 10, 3) := by decide +kernel
theorem dX4_capacityOfPlant_39 : decode cX4_capacityOfPlant 39 = .ok (.invokevirtual 74, 3) := by decide +kernel
theorem dX4_capacityOfPlant_42 : decode cX4_capacityOfPlant 42 = .ok (.if_icmp .ge 43, 3) := by decide +kernel
theorem dX4_capacityOfPlant_45 : decode cX4_capacityOfPlant 45 = .ok (.aload_n 0, 1) := by decide +kernel
theorem dX4_capacityOfPlant_46 : decode cX4_capacityOfPlant 46 = .ok (.getfield 10, 3) := by decide +kernel
theorem dX4_capacityOfPlant_49 : decode cX4_capacityOfPlant 49 = .ok (.iload 4, 2) := by decide +kernel
theorem dX4_capacityOfPlant_51 : decode cX4_capacityOfPlant 51 = .ok (.invokevirtual 256, 3) := by decide +kernel
theorem dX4_capacityOfPlant_54 : decode cX4_capacityOfPlant 54 = .ok (.checkcast 59, 3) := by decide +kernel
theorem dX4_capacityOfPlant_57 : decode cX4_capacityOfPlant 57 = .ok (.astore 5, 2) := by decide +kernel
theorem dX4_capacityOfPlant_59 : decode cX4_capacityOfPlant 59 = .ok (.iload_n 3, 1) := by decide +kernel
theorem dX4_capacityOfPlant_60 : decode cX4_capacityOfPlant 60 = .ok (.iload_n 1, 1) := by decide +kernel
theorem dX4_capacityOfPlant_61 : decode cX4_capacityOfPlant 61 = .ok (.ifCond .eq 11, 3) := by decide +kernel
theorem dX4_capacityOfPlant_64 : decode cX4_capacityOfPlant 64 = .ok (.aload 5, 2) := by decide +kernel
theorem dX4_capacityOfPlant_66 : decode cX4_capacityOfPlant 66 = .ok (.invokevirtual 181, 3) := by decide +kernel
theorem dX4_capacityOfPlant_69 : decode cX4_capacityOfPlant 69 = .ok (.goto 8, 3) := by decide +kernel
theorem dX4_capacityOfPlant_72 : decode cX4_capacityOfPlant 72 = .ok (.aload 5, 2) := by decide +kernel
theorem dX4_capacityOfPlant_74 : decode cX4_capacityOfPlant 74 = .ok (.invokevirtual 106, 3) := by decide +kernel
theorem dX4_capacityOfPlant_77 : decode cX4_capacityOfPlant 77 = .ok (.iadd, 1) := by decide +kernel
theorem dX4_capacityOfPlant_78 : decode cX4_capacityOfPlant 78 = .ok (.istore_n 3, 1) := by decide +kernel
theorem dX4_capacityOfPlant_79 : decode cX4_capacityOfPlant 79 = .ok (.iinc 4 1, 3) := by decide +kernel
theorem dX4_capacityOfPlant_82 : decode cX4_capacityOfPlant 82 = .ok (.goto (-49), 3) := by decide +kernel
theorem dX4_capacityOfPlant_85 : decode cX4_capacityOfPlant 85 = .ok (.iload_n 3, 1) := by decide +kernel
theorem dX4_capacityOfPlant_86 : decode cX4_capacityOfPlant 86 = .ok (.ireturn, 1) := by decide +kernel
theorem dX4_curtail_0 : decode cX4_curtail 0 = .ok (.iload_n 2, 1) := by decide +kernel
theorem dX4_curtail_1 : decode cX4_curtail 1 = .ok (.istore 4, 2) := by decide +kernel
theorem dX4_curtail_3 : decode cX4_curtail 3 = .ok (.iconst 3, 1) := by decide +kernel
theorem dX4_curtail_4 : decode cX4_curtail 4 = .ok (.istore 5, 2) := by decide +kernel
theorem dX4_curtail_6 : decode cX4_curtail 6 = .ok (.iload 5, 2) := by decide +kernel
theorem dX4_curtail_8 : decode cX4_curtail 8 = .ok (.ifCond .lt 74, 3) := by decide +kernel
theorem dX4_curtail_11 : decode cX4_curtail 11 = .ok (.aload_n 0, 1) := by decide +kernel
theorem dX4_curtail_12 : decode cX4_curtail 12 = .ok (.getfield 16, 3) := by decide +kernel
theorem dX4_curtail_15 : decode cX4_curtail 15 = .ok (.invokevirtual 74, 3) := by decide +kernel
theorem dX4_curtail_18 : decode cX4_curtail 18 = .ok (.iconst 1, 1) := by decide +kernel
theorem dX4_curtail_19 : decode cX4_curtail 19 = .ok (.isub, 1) := by decide +kernel
theorem dX4_curtail_20 : decode cX4_curtail 20 = .ok (.istore 6, 2) := by decide +kernel
theorem dX4_curtail_22 : decode cX4_curtail 22 = .ok (.iload 6, 2) := by decide +kernel
theorem dX4_curtail_24 : decode cX4_curtail 24 = .ok (.ifCond .lt 52, 3) := by decide +kernel
theorem dX4_curtail_27 : decode cX4_curtail 27 = .ok (.iload 4, 2) := by decide +kernel
theorem dX4_curtail_29 : decode cX4_curtail 29 = .ok (.ifCond .le 47, 3) := by decide +kernel
theorem dX4_curtail_32 : decode cX4_curtail 32 = .ok (.aload_n 0, 1) := by decide +kernel
theorem dX4_curtail_33 : decode cX4_curtail 33 = .ok (.getfield 16, 3) := by decide +kernel
theorem dX4_curtail_36 : decode cX4_curtail 36 = .ok (.iload 6, 2) := by decide +kernel
theorem dX4_curtail_38 : decode cX4_curtail 38 = .ok (.invokevirtual 256, 3) := by decide +kernel
theorem dX4_curtail_41 : decode cX4_curtail 41 = .ok (.checkcast 133, 3) := by decide +kernel
theorem dX4_curtail_44 : decode cX4_curtail 44 = .ok (.astore 7, 2) := by decide +kernel
theorem dX4_curtail_46 : decode cX4_curtail 46 = .ok (.aload 7, 2) := by decide +kernel
theorem dX4_curtail_48 : decode cX4_curtail 48 = .ok (.getfield 295, 3) := by decide +kernel
theorem dX4_curtail_51 : decode cX4_curtail 51 = .ok (.iload 5, 2) := by decide +kernel
theorem dX4_curtail_53 : decode cX4_curtail 53 = .ok (.if_icmp .ne 17, 3) := by decide +kernel
theorem dX4_curtail_56 : decode cX4_curtail 56 = .ok (.iload 4, 2) := by decide +kernel
theorem dX4_curtail_58 : decode cX4_curtail 58 = .ok (.aload 7, 2) := by decide +kernel
theorem dX4_curtail_60 : decode cX4_curtail 60 = .ok (.iload_n 1, 1) := by decide +kernel
theorem dX4_curtail_61 : decode cX4_curtail 61 = .ok (.iload 4, 2) := by decide +kernel
theorem dX4_curtail_63 : decode cX4_curtail 63 = .ok (.iload_n 3, 1) := by decide +kernel
theorem dX4_curtail_64 : decode cX4_curtail 64 = .ok (.invokevirtual 298, 3) := by decide +kernel
theorem dX4_curtail_67 : decode cX4_curtail 67 = .ok (.isub, 1) := by decide +kernel
theorem dX4_curtail_68 : decode cX4_curtail 68 = .ok (.istore 4, 2) := by decide +kernel
theorem dX4_curtail_70 : decode cX4_curtail 70 = .ok (.iinc 6 (-1), 3) := by decide +kernel
theorem dX4_curtail_73 : decode cX4_curtail 73 = .ok (.goto (-51), 3) := by decide +kernel
theorem dX4_curtail_76 : decode cX4_curtail 76 = .ok (.iinc 5 (-1), 3) := by decide +kernel
theorem dX4_curtail_79 : decode cX4_curtail 79 = .ok (.goto (-73), 3) := by decide +kernel
theorem dX4_curtail_82 : decode cX4_curtail 82 = .ok (.return_, 1) := by decide +kernel
theorem dX4_goOneHour_0 : decode cX4_goOneHour 0 = .ok (.aload_n 0, 1) := by decide +kernel
theorem dX4_goOneHour_1 : decode cX4_goOneHour 1 = .ok (.invokevirtual 217, 3) := by decide +kernel
theorem dX4_goOneHour_4 : decode cX4_goOneHour 4 = .ok (.aload_n 0, 1) := by decide +kernel
theorem dX4_goOneHour_5 : decode cX4_goOneHour 5 = .ok (.invokevirtual 282, 3) := by decide +kernel
theorem dX4_goOneHour_8 : decode cX4_goOneHour 8 = .ok (.istore_n 1, 1) := by decide +kernel
theorem dX4_goOneHour_9 : decode cX4_goOneHour 9 = .ok (.iload_n 1, 1) := by decide +kernel
theorem dX4_goOneHour_10 : decode cX4_goOneHour 10 = .ok (.ifCond .le 11, 3) := by decide +kernel
theorem dX4_goOneHour_13 : decode cX4_goOneHour 13 = .ok (.aload_n 0, 1) := by decide +kernel
theorem dX4_goOneHour_14 : decode cX4_goOneHour 14 = .ok (.iload_n 1, 1) := by decide +kernel
theorem dX4_goOneHour_15 : decode cX4_goOneHour 15 = .ok (.invokevirtual 302, 3) := by decide +kernel
theorem dX4_goOneHour_18 : decode cX4_goOneHour 18 = .ok (.goto 13, 3) := by decide +kernel
theorem dX4_goOneHour_21 : decode cX4_goOneHour 21 = .ok (.iload_n 1, 1) := by decide +kernel
theorem dX4_goOneHour_22 : decode cX4_goOneHour 22 = .ok (.ifCond .ge 9, 3) := by decide +kernel
theorem dX4_goOneHour_25 : decode cX4_goOneHour 25 = .ok (.aload_n 0, 1) := by decide +kernel
theorem dX4_goOneHour_26 : decode cX4_goOneHour 26 = .ok (.iload_n 1, 1) := by decide +kernel
theorem dX4_goOneHour_27 : decode cX4_goOneHour 27 = .ok (.ineg, 1) := by decide +kernel
theorem dX4_goOneHour_28 : decode cX4_goOneHour 28 = .ok (.invokevirtual 305, 3) := by decide +kernel
theorem dX4_goOneHour_31 : decode cX4_goOneHour 31 = .ok (.iconst 0, 1) := by decide +kernel
theorem dX4_goOneHour_32 : decode cX4_goOneHour 32 = .ok (.istore_n 2, 1) := by decide +kernel
theorem dX4_goOneHour_33 : decode cX4_goOneHour 33 = .ok (.iload_n 2, 1) := by decide +kernel
theorem dX4_goOneHour_34 : decode cX4_goOneHour 34 = .ok (.aload_n 0, 1) := by decide +kernel
theorem dX4_goOneHour_35 : decode cX4_goOneHour 35 = .ok (.getfield 16, 3) := by decide +kernel
theorem dX4_goOneHour_38 : decode cX4_goOneHour 38 = .ok (.invokevirtual 74, 3) := by decide +kernel
theorem dX4_goOneHour_41 : decode cX4_goOneHour 41 = .ok (.if_icmp .ge 27, 3) := by decide +kernel
theorem dX4_goOneHour_44 : decode cX4_goOneHour 44 = .ok (.aload_n 0, 1) := by decide +kernel
theorem dX4_goOneHour_45 : decode cX4_goOneHour 45 = .ok (.getfield 16, 3) := by decide +kernel
theorem dX4_goOneHour_48 : decode cX4_goOneHour 48 = .ok (.iload_n 2, 1) := by decide +kernel
theorem dX4_goOneHour_49 : decode cX4_goOneHour 49 = .ok (.invokevirtual 256, 3) := by decide +kernel
theorem dX4_goOneHour_52 : decode cX4_goOneHour 52 = .ok (.checkcast 133, 3) := by decide +kernel
theorem dX4_goOneHour_55 : decode cX4_goOneHour 55 = .ok (.aload_n 0, 1) := by decide +kernel
theorem dX4_goOneHour_56 : decode cX4_goOneHour 56 = .ok (.getfield 29, 3) := by decide +kernel
theorem dX4_goOneHour_59 : decode cX4_goOneHour 59 = .ok (.invokevirtual 308, 3) := by decide +kernel
theorem dX4_goOneHour_62 : decode cX4_goOneHour 62 = .ok (.iinc 2 1, 3) := by decide +kernel
theorem dX4_goOneHour_65 : decode cX4_goOneHour 65 = .ok (.goto (-32), 3) := by decide +kernel
theorem dX4_goOneHour_68 : decode cX4_goOneHour 68 = .ok (.iconst 0, 1) := by decide +kernel
theorem dX4_goOneHour_69 : decode cX4_goOneHour 69 = .ok (.istore_n 2, 1) := by decide +kernel
theorem dX4_goOneHour_70 : decode cX4_goOneHour 70 = .ok (.iload_n 2, 1) := by decide +kernel
theorem dX4_goOneHour_71 : decode cX4_goOneHour 71 = .ok (.aload_n 0, 1) := by decide +kernel
theorem dX4_goOneHour_72 : decode cX4_goOneHour 72 = .ok (.getfield 10, 3) := by decide +kernel
theorem dX4_goOneHour_75 : decode cX4_goOneHour 75 = .ok (.invokevirtual 74, 3) := by decide +kernel
theorem dX4_goOneHour_78 : decode cX4_goOneHour 78 = .ok (.if_icmp .ge 33, 3) := by decide +kernel
theorem dX4_goOneHour_81 : decode cX4_goOneHour 81 = .ok (.aload_n 0, 1) := by decide +kernel
theorem dX4_goOneHour_82 : decode cX4_goOneHour 82 = .ok (.dup, 1) := by decide +kernel
theorem dX4_goOneHour_83 : decode cX4_goOneHour 83 = .ok (.getfield 49, 3) := by decide +kernel
theorem dX4_goOneHour_86 : decode cX4_goOneHour 86 = .ok (.aload_n 0, 1) := by decide +kernel
theorem dX4_goOneHour_87 : decode cX4_goOneHour 87 = .ok (.getfield 10, 3) := by decide +kernel
theorem dX4_goOneHour_90 : decode cX4_goOneHour 90 = .ok (.iload_n 2, 1) := by decide +kernel
theorem dX4_goOneHour_91 : decode cX4_goOneHour 91 = .ok (.invokevirtual 256, 3) := by decide +kernel
theorem dX4_goOneHour_94 : decode cX4_goOneHour 94 = .ok (.checkcast 59, 3) := by decide +kernel
theorem dX4_goOneHour_97 : decode cX4_goOneHour 97 = .ok (.invokevirtual 311, 3) := by decide +kernel
theorem dX4_goOneHour_100 : decode cX4_goOneHour 100 = .ok (.i2l, 1) := by decide +kernel
theorem dX4_goOneHour_101 : decode cX4_goOneHour 101 = .ok (.ladd, 1) := by decide +kernel
theorem dX4_goOneHour_102 : decode cX4_goOneHour 102 = .ok (.putfield 49, 3) := by decide +kernel
theorem dX4_goOneHour_105 : decode cX4_goOneHour 105 = .ok (.iinc 2 1, 3) := by decide +kernel
theorem dX4_goOneHour_108 : decode cX4_goOneHour 108 = .ok (.goto (-38), 3) := by decide +kernel
theorem dX4_goOneHour_111 : decode cX4_goOneHour 111 = .ok (.aload_n 0, 1) := by decide +kernel
theorem dX4_goOneHour_112 : decode cX4_goOneHour 112 = .ok (.getfield 25, 3) := by decide +kernel
theorem dX4_goOneHour_115 : decode cX4_goOneHour 115 = .ok (.aload_n 0, 1) := by decide +kernel
theorem dX4_goOneHour_116 : decode cX4_goOneHour 116 = .ok (.getfield 29, 3) := by decide +kernel
theorem dX4_goOneHour_119 : decode cX4_goOneHour 119 = .ok (.iconst 0, 1) := by decide +kernel
theorem dX4_goOneHour_120 : decode cX4_goOneHour 120 = .ok (.invokevirtual 148, 3) := by decide +kernel
theorem dX4_goOneHour_123 : decode cX4_goOneHour 123 = .ok (.pop, 1) := by decide +kernel
theorem dX4_goOneHour_124 : decode cX4_goOneHour 124 = .ok (.aload_n 0, 1) := by decide +kernel
theorem dX4_goOneHour_125 : decode cX4_goOneHour 125 = .ok (.dup, 1) := by decide +kernel
theorem dX4_goOneHour_126 : decode cX4_goOneHour 126 = .ok (.getfield 29, 3) := by decide +kernel
theorem dX4_goOneHour_129 : decode cX4_goOneHour 129 = .ok (.iconst 1, 1) := by decide +kernel
theorem dX4_goOneHour_130 : decode cX4_goOneHour 130 = .ok (.iadd, 1) := by decide +kernel
theorem dX4_goOneHour_131 : decode cX4_goOneHour 131 = .ok (.putfield 29, 3) := by decide +kernel
theorem dX4_goOneHour_134 : decode cX4_goOneHour 134 = .ok (.aload_n 0, 1) := by decide +kernel
theorem dX4_goOneHour_135 : decode cX4_goOneHour 135 = .ok (.getfield 29, 3) := by decide +kernel
theorem dX4_goOneHour_138 : decode cX4_goOneHour 138 = .ok (.bipush 24, 2) := by decide +kernel
theorem dX4_goOneHour_140 : decode cX4_goOneHour 140 = .ok (.irem, 1) := by decide +kernel
theorem dX4_goOneHour_141 : decode cX4_goOneHour 141 = .ok (.ifCond .ne 7, 3) := by decide +kernel
theorem dX4_goOneHour_144 : decode cX4_goOneHour 144 = .ok (.aload_n 0, 1) := by decide +kernel
theorem dX4_goOneHour_145 : decode cX4_goOneHour 145 = .ok (.invokevirtual 314, 3) := by decide +kernel
theorem dX4_goOneHour_148 : decode cX4_goOneHour 148 = .ok (.return_, 1) := by decide +kernel
theorem dX4_flowIn_0 : decode cX4_flowIn 0 = .ok (.iload_n 1, 1) := by decide +kernel
theorem dX4_flowIn_1 : decode cX4_flowIn 1 = .ok (.istore_n 2, 1) := by decide +kernel
theorem dX4_flowIn_2 : decode cX4_flowIn 2 = .ok (.iconst 0, 1) := by decide +kernel
theorem dX4_flowIn_3 : decode cX4_flowIn 3 = .ok (.istore_n 3, 1) := by decide +kernel
theorem dX4_flowIn_4 : decode cX4_flowIn 4 = .ok (.iload_n 3, 1) := by decide +kernel
theorem dX4_flowIn_5 : decode cX4_flowIn 5 = .ok (.aload_n 0, 1) := by decide +kernel
theorem dX4_flowIn_6 : decode cX4_flowIn 6 = .ok (.getfield 10, 3) := by decide +kernel
theorem dX4_flowIn_9 : decode cX4_flowIn 9 = .ok (.invokevirtual 74, 3) := by decide +kernel
theorem dX4_flowIn_12 : decode cX4_flowIn 12 = .ok (.if_icmp .ge 49, 3) := by decide +kernel
theorem dX4_flowIn_15 : decode cX4_flowIn 15 = .ok (.aload_n 0, 1) := by decide +kernel
theorem dX4_flowIn_16 : decode cX4_flowIn 16 = .ok (.getfield 10, 3) := by decide +kernel
theorem dX4_flowIn_19 : decode cX4_flowIn 19 = .ok (.iload_n 3, 1) := by decide +kernel
theorem dX4_flowIn_20 : decode cX4_flowIn 20 = .ok (.invokevirtual 256, 3) := by decide +kernel
theorem dX4_flowIn_23 : decode cX4_flowIn 23 = .ok (.checkcast 59, 3) := by decide +kernel
theorem dX4_flowIn_26 : decode cX4_flowIn 26 = .ok (.astore 4, 2) := by decide +kernel
theorem dX4_flowIn_28 : decode cX4_flowIn 28 = .ok (.iload_n 2, 1) := by decide +kernel
theorem dX4_flowIn_29 : decode cX4_flowIn 29 = .ok (.aload 4, 2) := by decide +kernel
theorem dX4_flowIn_31 : decode cX4_flowIn 31 = .ok (.invokevirtual 181, 3) := by decide +kernel
theorem dX4_flowIn_34 : decode cX4_flowIn 34 = .ok (.invokestatic 317, 3) := by decide +kernel
theorem dX4_flowIn_37 : decode cX4_flowIn 37 = .ok (.istore 5, 2) := by decide +kernel
theorem dX4_flowIn_39 : decode cX4_flowIn 39 = .ok (.aload 4, 2) := by decide +kernel
theorem dX4_flowIn_41 : decode cX4_flowIn 41 = .ok (.iload 5, 2) := by decide +kernel
theorem dX4_flowIn_43 : decode cX4_flowIn 43 = .ok (.aload_n 0, 1) := by decide +kernel
theorem dX4_flowIn_44 : decode cX4_flowIn 44 = .ok (.getfield 33, 3) := by decide +kernel
theorem dX4_flowIn_47 : decode cX4_flowIn 47 = .ok (.invokevirtual 86, 3) := by decide +kernel
theorem dX4_flowIn_50 : decode cX4_flowIn 50 = .ok (.iload_n 2, 1) := by decide +kernel
theorem dX4_flowIn_51 : decode cX4_flowIn 51 = .ok (.iload 5, 2) := by decide +kernel
theorem dX4_flowIn_53 : decode cX4_flowIn 53 = .ok (.isub, 1) := by decide +kernel
theorem dX4_flowIn_54 : decode cX4_flowIn 54 = .ok (.istore_n 2, 1) := by decide +kernel
theorem dX4_flowIn_55 : decode cX4_flowIn 55 = .ok (.iinc 3 1, 3) := by decide +kernel
theorem dX4_flowIn_58 : decode cX4_flowIn 58 = .ok (.goto (-54), 3) := by decide +kernel
theorem dX4_flowIn_61 : decode cX4_flowIn 61 = .ok (.aload_n 0, 1) := by decide +kernel
theorem dX4_flowIn_62 : decode cX4_flowIn 62 = .ok (.dup, 1) := by decide +kernel
theorem dX4_flowIn_63 : decode cX4_flowIn 63 = .ok (.getfield 42, 3) := by decide +kernel
theorem dX4_flowIn_66 : decode cX4_flowIn 66 = .ok (.iload_n 1, 1) := by decide +kernel
theorem dX4_flowIn_67 : decode cX4_flowIn 67 = .ok (.iload_n 2, 1) := by decide +kernel
theorem dX4_flowIn_68 : decode cX4_flowIn 68 = .ok (.isub, 1) := by decide +kernel
theorem dX4_flowIn_69 : decode cX4_flowIn 69 = .ok (.i2l, 1) := by decide +kernel
theorem dX4_flowIn_70 : decode cX4_flowIn 70 = .ok (.ladd, 1) := by decide +kernel
theorem dX4_flowIn_71 : decode cX4_flowIn 71 = .ok (.putfield 42, 3) := by decide +kernel
theorem dX4_flowIn_74 : decode cX4_flowIn 74 = .ok (.iload_n 2, 1) := by decide +kernel
theorem dX4_flowIn_75 : decode cX4_flowIn 75 = .ok (.iload_n 1, 1) := by decide +kernel
theorem dX4_flowIn_76 : decode cX4_flowIn 76 = .ok (.if_icmp .ge 11, 3) := by decide +kernel
theorem dX4_flowIn_79 : decode cX4_flowIn 79 = .ok (.aload_n 0, 1) := by decide +kernel
theorem dX4_flowIn_80 : decode cX4_flowIn 80 = .ok (.aload_n 0, 1) := by decide +kernel
theorem dX4_flowIn_81 : decode cX4_flowIn 81 = .ok (.getfield 29, 3) := by decide +kernel
theorem dX4_flowIn_84 : decode cX4_flowIn 84 = .ok (.putfield 36, 3) := by decide +kernel
theorem dX4_flowIn_87 : decode cX4_flowIn 87 = .ok (.return_, 1) := by decide +kernel
theorem dX4_flowOut_0 : decode cX4_flowOut 0 = .ok (.iload_n 1, 1) := by decide +kernel
theorem dX4_flowOut_1 : decode cX4_flowOut 1 = .ok (.istore_n 2, 1) := by decide +kernel
theorem dX4_flowOut_2 : decode cX4_flowOut 2 = .ok (.iconst 0, 1) := by decide +kernel
theorem dX4_flowOut_3 : decode cX4_flowOut 3 = .ok (.istore_n 3, 1) := by decide +kernel
theorem dX4_flowOut_4 : decode cX4_flowOut 4 = .ok (.iload_n 3, 1) := by decide +kernel
theorem dX4_flowOut_5 : decode cX4_flowOut 5 = .ok (.aload_n 0, 1) := by decide +kernel
theorem dX4_flowOut_6 : decode cX4_flowOut 6 = .ok (.getfield 10, 3) := by decide +kernel
theorem dX4_flowOut_9 : decode cX4_flowOut 9 = .ok (.invokevirtual 74, 3) := by decide +kernel
theorem dX4_flowOut_12 : decode cX4_flowOut 12 = .ok (.if_icmp .ge 39, 3) := by decide +kernel
theorem dX4_flowOut_15 : decode cX4_flowOut 15 = .ok (.aload_n 0, 1) := by decide +kernel
theorem dX4_flowOut_16 : decode cX4_flowOut 16 = .ok (.getfield 10, 3) := by decide +kernel
theorem dX4_flowOut_19 : decode cX4_flowOut 19 = .ok (.iload_n 3, 1) := by decide +kernel
theorem dX4_flowOut_20 : decode cX4_flowOut 20 = .ok (.invokevirtual 256, 3) := by decide +kernel
theorem dX4_flowOut_23 : decode cX4_flowOut 23 = .ok (.checkcast 59, 3) := by decide +kernel
theorem dX4_flowOut_26 : decode cX4_flowOut 26 = .ok (.astore 4, 2) := by decide +kernel
theorem dX4_flowOut_28 : decode cX4_flowOut 28 = .ok (.iload_n 2, 1) := by decide +kernel
theorem dX4_flowOut_29 : decode cX4_flowOut 29 = .ok (.aload 4, 2) := by decide +kernel
theorem dX4_flowOut_31 : decode cX4_flowOut 31 = .ok (.iload_n 2, 1) := by decide +kernel
theorem dX4_flowOut_32 : decode cX4_flowOut 32 = .ok (.aload 4, 2) := by decide +kernel
theorem dX4_flowOut_34 : decode cX4_flowOut 34 = .ok (.invokevirtual 106, 3) := by decide +kernel
theorem dX4_flowOut_37 : decode cX4_flowOut 37 = .ok (.invokestatic 317, 3) := by decide +kernel
theorem dX4_flowOut_40 : decode cX4_flowOut 40 = .ok (.invokevirtual 320, 3) := by decide +kernel
theorem dX4_flowOut_43 : decode cX4_flowOut 43 = .ok (.isub, 1) := by decide +kernel
theorem dX4_flowOut_44 : decode cX4_flowOut 44 = .ok (.istore_n 2, 1) := by decide +kernel
theorem dX4_flowOut_45 : decode cX4_flowOut 45 = .ok (.iinc 3 1, 3) := by decide +kernel
theorem dX4_flowOut_48 : decode cX4_flowOut 48 = .ok (.goto (-44), 3) := by decide +kernel
theorem dX4_flowOut_51 : decode cX4_flowOut 51 = .ok (.aload_n 0, 1) := by decide +kernel
theorem dX4_flowOut_52 : decode cX4_flowOut 52 = .ok (.dup, 1) := by decide +kernel
theorem dX4_flowOut_53 : decode cX4_flowOut 53 = .ok (.getfield 46, 3) := by decide +kernel
theorem dX4_flowOut_56 : decode cX4_flowOut 56 = .ok (.iload_n 1, 1) := by decide +kernel
theorem dX4_flowOut_57 : decode cX4_flowOut 57 = .ok (.iload_n 2, 1) := by decide +kernel
theorem dX4_flowOut_58 : decode cX4_flowOut 58 = .ok (.isub, 1) := by decide +kernel
theorem dX4_flowOut_59 : decode cX4_flowOut 59 = .ok (.i2l, 1) := by decide +kernel
theorem dX4_flowOut_60 : decode cX4_flowOut 60 = .ok (.ladd, 1) := by decide +kernel
theorem dX4_flowOut_61 : decode cX4_flowOut 61 = .ok (.putfield 46, 3) := by decide +kernel
theorem dX4_flowOut_64 : decode cX4_flowOut 64 = .ok (.iload_n 2, 1) := by decide +kernel
theorem dX4_flowOut_65 : decode cX4_flowOut 65 = .ok (.iload_n 1, 1) := by decide +kernel
theorem dX4_flowOut_66 : decode cX4_flowOut 66 = .ok (.if_icmp .ge 11, 3) := by decide +kernel
theorem dX4_flowOut_69 : decode cX4_flowOut 69 = .ok (.aload_n 0, 1) := by decide +kernel
theorem dX4_flowOut_70 : decode cX4_flowOut 70 = .ok (.aload_n 0, 1) := by decide +kernel
theorem dX4_flowOut_71 : decode cX4_flowOut 71 = .ok (.getfield 29, 3) := by decide +kernel
theorem dX4_flowOut_74 : decode cX4_flowOut 74 = .ok (.putfield 39, 3) := by decide +kernel
theorem dX4_flowOut_77 : decode cX4_flowOut 77 = .ok (.return_, 1) := by decide +kernel
theorem dX4_endTheDay_0 : decode cX4_endTheDay 0 = .ok (.iconst 0, 1) := by decide +kernel
theorem dX4_endTheDay_1 : decode cX4_endTheDay 1 = .ok (.istore_n 1, 1) := by decide +kernel
theorem dX4_endTheDay_2 : decode cX4_endTheDay 2 = .ok (.iload_n 1, 1) := by decide +kernel
theorem dX4_endTheDay_3 : decode cX4_endTheDay 3 = .ok (.aload_n 0, 1) := by decide +kernel
theorem dX4_endTheDay_4 : decode cX4_endTheDay 4 = .ok (.getfield 10, 3) := by decide +kernel
theorem dX4_endTheDay_7 : decode cX4_endTheDay 7 = .ok (.invokevirtual 74, 3) := by decide +kernel
theorem dX4_endTheDay_10 : decode cX4_endTheDay 10 = .ok (.if_icmp .ge 33, 3) := by decide +kernel
theorem dX4_endTheDay_13 : decode cX4_endTheDay 13 = .ok (.aload_n 0, 1) := by decide +kernel
theorem dX4_endTheDay_14 : decode cX4_endTheDay 14 = .ok (.dup, 1) := by decide +kernel
theorem dX4_endTheDay_15 : decode cX4_endTheDay 15 = .ok (.getfield 49, 3) := by decide +kernel
theorem dX4_endTheDay_18 : decode cX4_endTheDay 18 = .ok (.aload_n 0, 1) := by decide +kernel
theorem dX4_endTheDay_19 : decode cX4_endTheDay 19 = .ok (.getfield 10, 3) := by decide +kernel
theorem dX4_endTheDay_22 : decode cX4_endTheDay 22 = .ok (.iload_n 1, 1) := by decide +kernel
theorem dX4_endTheDay_23 : decode cX4_endTheDay 23 = .ok (.invokevirtual 256, 3) := by decide +kernel
theorem dX4_endTheDay_26 : decode cX4_endTheDay 26 = .ok (.checkcast 59, 3) := by decide +kernel
theorem dX4_endTheDay_29 : decode cX4_endTheDay 29 = .ok (.invokevirtual 323, 3) := by decide +kernel
theorem dX4_endTheDay_32 : decode cX4_endTheDay 32 = .ok (.i2l, 1) := by decide +kernel
theorem dX4_endTheDay_33 : decode cX4_endTheDay 33 = .ok (.ladd, 1) := by decide +kernel
theorem dX4_endTheDay_34 : decode cX4_endTheDay 34 = .ok (.putfield 49, 3) := by decide +kernel
theorem dX4_endTheDay_37 : decode cX4_endTheDay 37 = .ok (.iinc 1 1, 3) := by decide +kernel
theorem dX4_endTheDay_40 : decode cX4_endTheDay 40 = .ok (.goto (-38), 3) := by decide +kernel
theorem dX4_endTheDay_43 : decode cX4_endTheDay 43 = .ok (.return_, 1) := by decide +kernel
theorem dX4_bestSum_0 : decode cX4_bestSum 0 = .ok (.iload 4, 2) := by decide +kernel
theorem dX4_bestSum_2 : decode cX4_bestSum 2 = .ok (.ifCond .le 10, 3) := by decide +kernel
theorem dX4_bestSum_5 : decode cX4_bestSum 5 = .ok (.iload 4, 2) := by decide +kernel
theorem dX4_bestSum_7 : decode cX4_bestSum 7 = .ok (.bipush 8, 2) := by decide +kernel
theorem dX4_bestSum_9 : decode cX4_bestSum 9 = .ok (.if_icmp .le 5, 3) := by decide +kernel
theorem dX4_bestSum_12 : decode cX4_bestSum 12 = .ok (.lconst 0, 1) := by decide +kernel
theorem dX4_bestSum_13 : decode cX4_bestSum 13 = .ok (.lreturn, 1) := by decide +kernel
theorem dX4_bestSum_14 : decode cX4_bestSum 14 = .ok (.aload_n 0, 1) := by decide +kernel
theorem dX4_bestSum_15 : decode cX4_bestSum 15 = .ok (.aload_n 1, 1) := by decide +kernel
theorem dX4_bestSum_16 : decode cX4_bestSum 16 = .ok (.iload_n 2, 1) := by decide +kernel
theorem dX4_bestSum_17 : decode cX4_bestSum 17 = .ok (.iload_n 3, 1) := by decide +kernel
theorem dX4_bestSum_18 : decode cX4_bestSum 18 = .ok (.iconst 1, 1) := by decide +kernel
theorem dX4_bestSum_19 : decode cX4_bestSum 19 = .ok (.iadd, 1) := by decide +kernel
theorem dX4_bestSum_20 : decode cX4_bestSum 20 = .ok (.iload 4, 2) := by decide +kernel
theorem dX4_bestSum_22 : decode cX4_bestSum 22 = .ok (.iconst 1, 1) := by decide +kernel
theorem dX4_bestSum_23 : decode cX4_bestSum 23 = .ok (.isub, 1) := by decide +kernel
theorem dX4_bestSum_24 : decode cX4_bestSum 24 = .ok (.invokevirtual 226, 3) := by decide +kernel
theorem dX4_bestSum_27 : decode cX4_bestSum 27 = .ok (.lstore 5, 2) := by decide +kernel
theorem dX4_bestSum_29 : decode cX4_bestSum 29 = .ok (.aload_n 0, 1) := by decide +kernel
theorem dX4_bestSum_30 : decode cX4_bestSum 30 = .ok (.getfield 25, 3) := by decide +kernel
theorem dX4_bestSum_33 : decode cX4_bestSum 33 = .ok (.iload_n 3, 1) := by decide +kernel
theorem dX4_bestSum_34 : decode cX4_bestSum 34 = .ok (.invokevirtual 326, 3) := by decide +kernel
theorem dX4_bestSum_37 : decode cX4_bestSum 37 = .ok (.i2l, 1) := by decide +kernel
theorem dX4_bestSum_38 : decode cX4_bestSum 38 = .ok (.lstore 7, 2) := by decide +kernel
theorem dX4_bestSum_40 : decode cX4_bestSum 40 = .ok (.aload_n 1, 1) := by decide +kernel
theorem dX4_bestSum_41 : decode cX4_bestSum 41 = .ok (.iload_n 2, 1) := by decide +kernel
theorem dX4_bestSum_42 : decode cX4_bestSum 42 = .ok (.invokevirtual 329, 3) := by decide +kernel
theorem dX4_bestSum_45 : decode cX4_bestSum 45 = .ok (.istore 9, 2) := by decide +kernel
theorem dX4_bestSum_47 : decode cX4_bestSum 47 = .ok (.iload 9, 2) := by decide +kernel
theorem dX4_bestSum_49 : decode cX4_bestSum 49 = .ok (.ifCond .le 33, 3) := by decide +kernel
theorem dX4_bestSum_52 : decode cX4_bestSum 52 = .ok (.lload 5, 2) := by decide +kernel
theorem dX4_bestSum_54 : decode cX4_bestSum 54 = .ok (.aload_n 0, 1) := by decide +kernel
theorem dX4_bestSum_55 : decode cX4_bestSum 55 = .ok (.aload_n 1, 1) := by decide +kernel
theorem dX4_bestSum_56 : decode cX4_bestSum 56 = .ok (.iload_n 2, 1) := by decide +kernel
theorem dX4_bestSum_57 : decode cX4_bestSum 57 = .ok (.iload 9, 2) := by decide +kernel
theorem dX4_bestSum_59 : decode cX4_bestSum 59 = .ok (.iadd, 1) := by decide +kernel
theorem dX4_bestSum_60 : decode cX4_bestSum 60 = .ok (.iload_n 3, 1) := by decide +kernel
theorem dX4_bestSum_61 : decode cX4_bestSum 61 = .ok (.iconst 1, 1) := by decide +kernel
theorem dX4_bestSum_62 : decode cX4_bestSum 62 = .ok (.iadd, 1) := by decide +kernel
theorem dX4_bestSum_63 : decode cX4_bestSum 63 = .ok (.iload 4, 2) := by decide +kernel
theorem dX4_bestSum_65 : decode cX4_bestSum 65 = .ok (.iconst 1, 1) := by decide +kernel
theorem dX4_bestSum_66 : decode cX4_bestSum 66 = .ok (.isub, 1) := by decide +kernel
theorem dX4_bestSum_67 : decode cX4_bestSum 67 = .ok (.invokevirtual 226, 3) := by decide +kernel
theorem dX4_bestSum_70 : decode cX4_bestSum 70 = .ok (.iload 9, 2) := by decide +kernel
theorem dX4_bestSum_72 : decode cX4_bestSum 72 = .ok (.i2l, 1) := by decide +kernel
theorem dX4_bestSum_73 : decode cX4_bestSum 73 = .ok (.lload 7, 2) := by decide +kernel
theorem dX4_bestSum_75 : decode cX4_bestSum 75 = .ok (.lmul, 1) := by decide +kernel
theorem dX4_bestSum_76 : decode cX4_bestSum 76 = .ok (.lsub, 1) := by decide +kernel
theorem dX4_bestSum_77 : decode cX4_bestSum 77 = .ok (.invokestatic 234, 3) := by decide +kernel
theorem dX4_bestSum_80 : decode cX4_bestSum 80 = .ok (.lstore 5, 2) := by decide +kernel
theorem dX4_bestSum_82 : decode cX4_bestSum 82 = .ok (.aload_n 1, 1) := by decide +kernel
theorem dX4_bestSum_83 : decode cX4_bestSum 83 = .ok (.iload_n 2, 1) := by decide +kernel
theorem dX4_bestSum_84 : decode cX4_bestSum 84 = .ok (.invokevirtual 332, 3) := by decide +kernel
theorem dX4_bestSum_87 : decode cX4_bestSum 87 = .ok (.istore 10, 2) := by decide +kernel
theorem dX4_bestSum_89 : decode cX4_bestSum 89 = .ok (.iload 10, 2) := by decide +kernel
theorem dX4_bestSum_91 : decode cX4_bestSum 91 = .ok (.ifCond .le 33, 3) := by decide +kernel
theorem dX4_bestSum_94 : decode cX4_bestSum 94 = .ok (.lload 5, 2) := by decide +kernel
theorem dX4_bestSum_96 : decode cX4_bestSum 96 = .ok (.aload_n 0, 1) := by decide +kernel
theorem dX4_bestSum_97 : decode cX4_bestSum 97 = .ok (.aload_n 1, 1) := by decide +kernel
theorem dX4_bestSum_98 : decode cX4_bestSum 98 = .ok (.iload_n 2, 1) := by decide +kernel
theorem dX4_bestSum_99 : decode cX4_bestSum 99 = .ok (.iload 10, 2) := by decide +kernel
theorem dX4_bestSum_101 : decode cX4_bestSum 101 = .ok (.isub, 1) := by decide +kernel
theorem dX4_bestSum_102 : decode cX4_bestSum 102 = .ok (.iload_n 3, 1) := by decide +kernel
theorem dX4_bestSum_103 : decode cX4_bestSum 103 = .ok (.iconst 1, 1) := by decide +kernel
theorem dX4_bestSum_104 : decode cX4_bestSum 104 = .ok (.iadd, 1) := by decide +kernel
theorem dX4_bestSum_105 : decode cX4_bestSum 105 = .ok (.iload 4, 2) := by decide +kernel
theorem dX4_bestSum_107 : decode cX4_bestSum 107 = .ok (.iconst 1, 1) := by decide +kernel
theorem dX4_bestSum_108 : decode cX4_bestSum 108 = .ok (.isub, 1) := by decide +kernel
theorem dX4_bestSum_109 : decode cX4_bestSum 109 = .ok (.invokevirtual 226, 3) := by decide +kernel
theorem dX4_bestSum_112 : decode cX4_bestSum 112 = .ok (.iload 10, 2) := by decide +kernel
theorem dX4_bestSum_114 : decode cX4_bestSum 114 = .ok (.i2l, 1) := by decide +kernel
theorem dX4_bestSum_115 : decode cX4_bestSum 115 = .ok (.lload 7, 2) := by decide +kernel
theorem dX4_bestSum_117 : decode cX4_bestSum 117 = .ok (.lmul, 1) := by decide +kernel
theorem dX4_bestSum_118 : decode cX4_bestSum 118 = .ok (.ladd, 1) := by decide +kernel
theorem dX4_bestSum_119 : decode cX4_bestSum 119 = .ok (.invokestatic 234, 3) := by decide +kernel
theorem dX4_bestSum_122 : decode cX4_bestSum 122 = .ok (.lstore 5, 2) := by decide +kernel
theorem dX4_bestSum_124 : decode cX4_bestSum 124 = .ok (.lload 5, 2) := by decide +kernel
theorem dX4_bestSum_126 : decode cX4_bestSum 126 = .ok (.lreturn, 1) := by decide +kernel
theorem dX4_sumOfWay_0 : decode cX4_sumOfWay 0 = .ok (.aload_n 1, 1) := by decide +kernel
theorem dX4_sumOfWay_1 : decode cX4_sumOfWay 1 = .ok (.getfield 153, 3) := by decide +kernel
theorem dX4_sumOfWay_4 : decode cX4_sumOfWay 4 = .ok (.istore 4, 2) := by decide +kernel
theorem dX4_sumOfWay_6 : decode cX4_sumOfWay 6 = .ok (.iload_n 2, 1) := by decide +kernel
theorem dX4_sumOfWay_7 : decode cX4_sumOfWay 7 = .ok (.istore 5, 2) := by decide +kernel
theorem dX4_sumOfWay_9 : decode cX4_sumOfWay 9 = .ok (.lconst 0, 1) := by decide +kernel
theorem dX4_sumOfWay_10 : decode cX4_sumOfWay 10 = .ok (.lstore 6, 2) := by decide +kernel
theorem dX4_sumOfWay_12 : decode cX4_sumOfWay 12 = .ok (.iconst 0, 1) := by decide +kernel
theorem dX4_sumOfWay_13 : decode cX4_sumOfWay 13 = .ok (.istore 8, 2) := by decide +kernel
theorem dX4_sumOfWay_15 : decode cX4_sumOfWay 15 = .ok (.iload 8, 2) := by decide +kernel
theorem dX4_sumOfWay_17 : decode cX4_sumOfWay 17 = .ok (.iload_n 3, 1) := by decide +kernel
theorem dX4_sumOfWay_18 : decode cX4_sumOfWay 18 = .ok (.if_icmp .ge 86, 3) := by decide +kernel
theorem dX4_sumOfWay_21 : decode cX4_sumOfWay 21 = .ok (.iload 5, 2) := by decide +kernel
theorem dX4_sumOfWay_23 : decode cX4_sumOfWay 23 = .ok (.iconst 3, 1) := by decide +kernel
theorem dX4_sumOfWay_24 : decode cX4_sumOfWay 24 = .ok (.irem, 1) := by decide +kernel
theorem dX4_sumOfWay_25 : decode cX4_sumOfWay 25 = .ok (.istore 9, 2) := by decide +kernel
theorem dX4_sumOfWay_27 : decode cX4_sumOfWay 27 = .ok (.iload 5, 2) := by decide +kernel
theorem dX4_sumOfWay_29 : decode cX4_sumOfWay 29 = .ok (.iconst 3, 1) := by decide +kernel
theorem dX4_sumOfWay_30 : decode cX4_sumOfWay 30 = .ok (.idiv, 1) := by decide +kernel
theorem dX4_sumOfWay_31 : decode cX4_sumOfWay 31 = .ok (.istore 5, 2) := by decide +kernel
theorem dX4_sumOfWay_33 : decode cX4_sumOfWay 33 = .ok (.iload 9, 2) := by decide +kernel
theorem dX4_sumOfWay_35 : decode cX4_sumOfWay 35 = .ok (.iconst 1, 1) := by decide +kernel
theorem dX4_sumOfWay_36 : decode cX4_sumOfWay 36 = .ok (.if_icmp .ne 12, 3) := by decide +kernel
theorem dX4_sumOfWay_39 : decode cX4_sumOfWay 39 = .ok (.aload_n 1, 1) := by decide +kernel
theorem dX4_sumOfWay_40 : decode cX4_sumOfWay 40 = .ok (.iload 4, 2) := by decide +kernel
theorem dX4_sumOfWay_42 : decode cX4_sumOfWay 42 = .ok (.invokevirtual 329, 3) := by decide +kernel
theorem dX4_sumOfWay_45 : decode cX4_sumOfWay 45 = .ok (.goto 20, 3) := by decide +kernel
theorem dX4_sumOfWay_48 : decode cX4_sumOfWay 48 = .ok (.iload 9, 2) := by decide +kernel
theorem dX4_sumOfWay_50 : decode cX4_sumOfWay 50 = .ok (.iconst 2, 1) := by decide +kernel
theorem dX4_sumOfWay_51 : decode cX4_sumOfWay 51 = .ok (.if_icmp .ne 13, 3) := by decide +kernel
theorem dX4_sumOfWay_54 : decode cX4_sumOfWay 54 = .ok (.aload_n 1, 1) := by decide +kernel
theorem dX4_sumOfWay_55 : decode cX4_sumOfWay 55 = .ok (.iload 4, 2) := by decide +kernel
theorem dX4_sumOfWay_57 : decode cX4_sumOfWay 57 = .ok (.invokevirtual 332, 3) := by decide +kernel
theorem dX4_sumOfWay_60 : decode cX4_sumOfWay 60 = .ok (.ineg, 1) := by decide +kernel
theorem dX4_sumOfWay_61 : decode cX4_sumOfWay 61 = .ok (.goto 4, 3) := by decide +kernel
theorem dX4_sumOfWay_64 : decode cX4_sumOfWay 64 = .ok (.iconst 0, 1) := by decide +kernel
theorem dX4_sumOfWay_65 : decode cX4_sumOfWay 65 = .ok (.istore 10, 2) := by decide +kernel
theorem dX4_sumOfWay_67 : decode cX4_sumOfWay 67 = .ok (.iload 4, 2) := by decide +kernel
theorem dX4_sumOfWay_69 : decode cX4_sumOfWay 69 = .ok (.iload 10, 2) := by decide +kernel
theorem dX4_sumOfWay_71 : decode cX4_sumOfWay 71 = .ok (.iadd, 1) := by decide +kernel
theorem dX4_sumOfWay_72 : decode cX4_sumOfWay 72 = .ok (.istore 4, 2) := by decide +kernel
theorem dX4_sumOfWay_74 : decode cX4_sumOfWay 74 = .ok (.lload 6, 2) := by decide +kernel
theorem dX4_sumOfWay_76 : decode cX4_sumOfWay 76 = .ok (.iload 10, 2) := by decide +kernel
theorem dX4_sumOfWay_78 : decode cX4_sumOfWay 78 = .ok (.i2l, 1) := by decide +kernel
theorem dX4_sumOfWay_79 : decode cX4_sumOfWay 79 = .ok (.aload_n 0, 1) := by decide +kernel
theorem dX4_sumOfWay_80 : decode cX4_sumOfWay 80 = .ok (.getfield 25, 3) := by decide +kernel
theorem dX4_sumOfWay_83 : decode cX4_sumOfWay 83 = .ok (.aload_n 0, 1) := by decide +kernel
theorem dX4_sumOfWay_84 : decode cX4_sumOfWay 84 = .ok (.getfield 29, 3) := by decide +kernel
theorem dX4_sumOfWay_87 : decode cX4_sumOfWay 87 = .ok (.iload 8, 2) := by decide +kernel
theorem dX4_sumOfWay_89 : decode cX4_sumOfWay 89 = .ok (.iadd, 1) := by decide +kernel
theorem dX4_sumOfWay_90 : decode cX4_sumOfWay 90 = .ok (.invokevirtual 326, 3) := by decide +kernel
theorem dX4_sumOfWay_93 : decode cX4_sumOfWay 93 = .ok (.i2l, 1) := by decide +kernel
theorem dX4_sumOfWay_94 : decode cX4_sumOfWay 94 = .ok (.lmul, 1) := by decide +kernel
theorem dX4_sumOfWay_95 : decode cX4_sumOfWay 95 = .ok (.lsub, 1) := by decide +kernel
theorem dX4_sumOfWay_96 : decode cX4_sumOfWay 96 = .ok (.lstore 6, 2) := by decide +kernel
theorem dX4_sumOfWay_98 : decode cX4_sumOfWay 98 = .ok (.iinc 8 1, 3) := by decide +kernel
theorem dX4_sumOfWay_101 : decode cX4_sumOfWay 101 = .ok (.goto (-86), 3) := by decide +kernel
theorem dX4_sumOfWay_104 : decode cX4_sumOfWay 104 = .ok (.lload 6, 2) := by decide +kernel
theorem dX4_sumOfWay_106 : decode cX4_sumOfWay 106 = .ok (.lreturn, 1) := by decide +kernel
theorem dX5_init_0 : decode cX5_init 0 = .ok (.aload_n 0, 1) := by decide +kernel
theorem dX5_init_1 : decode cX5_init 1 = .ok (.invokespecial 1, 3) := by decide +kernel
theorem dX5_init_4 : decode cX5_init 4 = .ok (.aload_n 0, 1) := by decide +kernel
theorem dX5_init_5 : decode cX5_init 5 = .ok (.iconst 5, 1) := by decide +kernel
theorem dX5_init_6 : decode cX5_init 6 = .ok (.newarray .int, 2) := by decide +kernel
theorem dX5_init_8 : decode cX5_init 8 = .ok (.putfield 7, 3) := by decide +kernel
theorem dX5_init_11 : decode cX5_init 11 = .ok (.aload_n 0, 1) := by decide +kernel
theorem dX5_init_12 : decode cX5_init 12 = .ok (.iconst 5, 1) := by decide +kernel
theorem dX5_init_13 : decode cX5_init 13 = .ok (.newarray .int, 2) := by decide +kernel
theorem dX5_init_15 : decode cX5_init 15 = .ok (.putfield 13, 3) := by decide +kernel
theorem dX5_init_18 : decode cX5_init 18 = .ok (.aload_n 0, 1) := by decide +kernel
theorem dX5_init_19 : decode cX5_init 19 = .ok (.iconst 5, 1) := by decide +kernel
theorem dX5_init_20 : decode cX5_init 20 = .ok (.newarray .int, 2) := by decide +kernel
theorem dX5_init_22 : decode cX5_init 22 = .ok (.putfield 16, 3) := by decide +kernel
theorem dX5_init_25 : decode cX5_init 25 = .ok (.aload_n 0, 1) := by decide +kernel
theorem dX5_init_26 : decode cX5_init 26 = .ok (.iconst 5, 1) := by decide +kernel
theorem dX5_init_27 : decode cX5_init 27 = .ok (.newarray .int, 2) := by decide +kernel
theorem dX5_init_29 : decode cX5_init 29 = .ok (.putfield 19, 3) := by decide +kernel
theorem dX5_init_32 : decode cX5_init 32 = .ok (.aload_n 0, 1) := by decide +kernel
theorem dX5_init_33 : decode cX5_init 33 = .ok (.iconst 5, 1) := by decide +kernel
theorem dX5_init_34 : decode cX5_init 34 = .ok (.newarray .int, 2) := by decide +kernel
theorem dX5_init_36 : decode cX5_init 36 = .ok (.putfield 22, 3) := by decide +kernel
theorem dX5_init_39 : decode cX5_init 39 = .ok (.aload_n 0, 1) := by decide +kernel
theorem dX5_init_40 : decode cX5_init 40 = .ok (.iconst 5, 1) := by decide +kernel
theorem dX5_init_41 : decode cX5_init 41 = .ok (.newarray .int, 2) := by decide +kernel
theorem dX5_init_43 : decode cX5_init 43 = .ok (.putfield 25, 3) := by decide +kernel
theorem dX5_init_46 : decode cX5_init 46 = .ok (.aload_n 0, 1) := by decide +kernel
theorem dX5_init_47 : decode cX5_init 47 = .ok (.iconst 5, 1) := by decide +kernel
theorem dX5_init_48 : decode cX5_init 48 = .ok (.newarray .int, 2) := by decide +kernel
theorem dX5_init_50 : decode cX5_init 50 = .ok (.putfield 28, 3) := by decide +kernel
theorem dX5_init_53 : decode cX5_init 53 = .ok (.aload_n 0, 1) := by decide +kernel
theorem dX5_init_54 : decode cX5_init 54 = .ok (.iconst 5, 1) := by decide +kernel
theorem dX5_init_55 : decode cX5_init 55 = .ok (.newarray .int, 2) := by decide +kernel
theorem dX5_init_57 : decode cX5_init 57 = .ok (.putfield 31, 3) := by decide +kernel
theorem dX5_init_60 : decode cX5_init 60 = .ok (.aload_n 0, 1) := by decide +kernel
theorem dX5_init_61 : decode cX5_init 61 = .ok (.iconst 5, 1) := by decide +kernel
theorem dX5_init_62 : decode cX5_init 62 = .ok (.newarray .int, 2) := by decide +kernel
theorem dX5_init_64 : decode cX5_init 64 = .ok (.putfield 34, 3) := by decide +kernel
theorem dX5_init_67 : decode cX5_init 67 = .ok (.aload_n 0, 1) := by decide +kernel
theorem dX5_init_68 : decode cX5_init 68 = .ok (.iconst 5, 1) := by decide +kernel
theorem dX5_init_69 : decode cX5_init 69 = .ok (.newarray .int, 2) := by decide +kernel
theorem dX5_init_71 : decode cX5_init 71 = .ok (.putfield 37, 3) := by decide +kernel
theorem dX5_init_74 : decode cX5_init 74 = .ok (.aload_n 0, 1) := by decide +kernel
theorem dX5_init_75 : decode cX5_init 75 = .ok (.iconst 5, 1) := by decide +kernel
theorem dX5_init_76 : decode cX5_init 76 = .ok (.newarray .long, 2) := by decide +kernel
theorem dX5_init_78 : decode cX5_init 78 = .ok (.putfield 40, 3) := by decide +kernel
theorem dX5_init_81 : decode cX5_init 81 = .ok (.aload_n 0, 1) := by decide +kernel
theorem dX5_init_82 : decode cX5_init 82 = .ok (.iconst 5, 1) := by decide +kernel
theorem dX5_init_83 : decode cX5_init 83 = .ok (.newarray .int, 2) := by decide +kernel
theorem dX5_init_85 : decode cX5_init 85 = .ok (.putfield 44, 3) := by decide +kernel
theorem dX5_init_88 : decode cX5_init 88 = .ok (.aload_n 0, 1) := by decide +kernel
theorem dX5_init_89 : decode cX5_init 89 = .ok (.sipush 10000, 3) := by decide +kernel
theorem dX5_init_92 : decode cX5_init 92 = .ok (.putfield 47, 3) := by decide +kernel
theorem dX5_init_95 : decode cX5_init 95 = .ok (.aload_n 0, 1) := by decide +kernel
theorem dX5_init_96 : decode cX5_init 96 = .ok (.bipush 6, 2) := by decide +kernel
theorem dX5_init_98 : decode cX5_init 98 = .ok (.newarray .int, 2) := by decide +kernel
theorem dX5_init_100 : decode cX5_init 100 = .ok (.putfield 51, 3) := by decide +kernel
theorem dX5_init_103 : decode cX5_init 103 = .ok (.aload_n 0, 1) := by decide +kernel
theorem dX5_init_104 : decode cX5_init 104 = .ok (.bipush 6, 2) := by decide +kernel
theorem dX5_init_106 : decode cX5_init 106 = .ok (.newarray .int, 2) := by decide +kernel
theorem dX5_init_108 : decode cX5_init 108 = .ok (.putfield 54, 3) := by decide +kernel
theorem dX5_init_111 : decode cX5_init 111 = .ok (.aload_n 0, 1) := by decide +kernel
theorem dX5_init_112 : decode cX5_init 112 = .ok (.bipush 6, 2) := by decide +kernel
theorem dX5_init_114 : decode cX5_init 114 = .ok (.newarray .int, 2) := by decide +kernel
theorem dX5_init_116 : decode cX5_init 116 = .ok (.putfield 57, 3) := by decide +kernel
theorem dX5_init_119 : decode cX5_init 119 = .ok (.aload_n 0, 1) := by decide +kernel
theorem dX5_init_120 : decode cX5_init 120 = .ok (.bipush 6, 2) := by decide +kernel
theorem dX5_init_122 : decode cX5_init 122 = .ok (.newarray .int, 2) := by decide +kernel
theorem dX5_init_124 : decode cX5_init 124 = .ok (.putfield 60, 3) := by decide +kernel
theorem dX5_init_127 : decode cX5_init 127 = .ok (.aload_n 0, 1) := by decide +kernel
theorem dX5_init_128 : decode cX5_init 128 = .ok (.bipush 6, 2) := by decide +kernel
theorem dX5_init_130 : decode cX5_init 130 = .ok (.newarray .int, 2) := by decide +kernel
theorem dX5_init_132 : decode cX5_init 132 = .ok (.putfield 63, 3) := by decide +kernel
theorem dX5_init_135 : decode cX5_init 135 = .ok (.aload_n 0, 1) := by decide +kernel
theorem dX5_init_136 : decode cX5_init 136 = .ok (.bipush 6, 2) := by decide +kernel
theorem dX5_init_138 : decode cX5_init 138 = .ok (.newarray .long, 2) := by decide +kernel
theorem dX5_init_140 : decode cX5_init 140 = .ok (.putfield 66, 3) := by decide +kernel
theorem dX5_init_143 : decode cX5_init 143 = .ok (.aload_n 0, 1) := by decide +kernel
theorem dX5_init_144 : decode cX5_init 144 = .ok (.bipush 6, 2) := by decide +kernel
theorem dX5_init_146 : decode cX5_init 146 = .ok (.newarray .long, 2) := by decide +kernel
theorem dX5_init_148 : decode cX5_init 148 = .ok (.putfield 69, 3) := by decide +kernel
theorem dX5_init_151 : decode cX5_init 151 = .ok (.aload_n 0, 1) := by decide +kernel
theorem dX5_init_152 : decode cX5_init 152 = .ok (.bipush 6, 2) := by decide +kernel
theorem dX5_init_154 : decode cX5_init 154 = .ok (.newarray .long, 2) := by decide +kernel
theorem dX5_init_156 : decode cX5_init 156 = .ok (.putfield 72, 3) := by decide +kernel
theorem dX5_init_159 : decode cX5_init 159 = .ok (.aload_n 0, 1) := by decide +kernel
theorem dX5_init_160 : decode cX5_init 160 = .ok (.sipush 384, 3) := by decide +kernel
theorem dX5_init_163 : decode cX5_init 163 = .ok (.newarray .int, 2) := by decide +kernel
theorem dX5_init_165 : decode cX5_init 165 = .ok (.putfield 75, 3) := by decide +kernel
theorem dX5_init_168 : decode cX5_init 168 = .ok (.aload_n 0, 1) := by decide +kernel
theorem dX5_init_169 : decode cX5_init 169 = .ok (.bipush 64, 2) := by decide +kernel
theorem dX5_init_171 : decode cX5_init 171 = .ok (.newarray .int, 2) := by decide +kernel
theorem dX5_init_173 : decode cX5_init 173 = .ok (.putfield 78, 3) := by decide +kernel
theorem dX5_init_176 : decode cX5_init 176 = .ok (.aload_n 0, 1) := by decide +kernel
theorem dX5_init_177 : decode cX5_init 177 = .ok (.bipush 20, 2) := by decide +kernel
theorem dX5_init_179 : decode cX5_init 179 = .ok (.newarray .int, 2) := by decide +kernel
theorem dX5_init_181 : decode cX5_init 181 = .ok (.putfield 81, 3) := by decide +kernel
theorem dX5_init_184 : decode cX5_init 184 = .ok (.aload_n 0, 1) := by decide +kernel
theorem dX5_init_185 : decode cX5_init 185 = .ok (.bipush 20, 2) := by decide +kernel
theorem dX5_init_187 : decode cX5_init 187 = .ok (.newarray .int, 2) := by decide +kernel
theorem dX5_init_189 : decode cX5_init 189 = .ok (.putfield 84, 3) := by decide +kernel
theorem dX5_init_192 : decode cX5_init 192 = .ok (.aload_n 0, 1) := by decide +kernel
theorem dX5_init_193 : decode cX5_init 193 = .ok (.bipush 20, 2) := by decide +kernel
theorem dX5_init_195 : decode cX5_init 195 = .ok (.newarray .int, 2) := by decide +kernel
theorem dX5_init_197 : decode cX5_init 197 = .ok (.putfield 87, 3) := by decide +kernel
theorem dX5_init_200 : decode cX5_init 200 = .ok (.aload_n 0, 1) := by decide +kernel
theorem dX5_init_201 : decode cX5_init 201 = .ok (.bipush 6, 2) := by decide +kernel
theorem dX5_init_203 : decode cX5_init 203 = .ok (.newarray .int, 2) := by decide +kernel
theorem dX5_init_205 : decode cX5_init 205 = .ok (.putfield 90, 3) := by decide +kernel
theorem dX5_init_208 : decode cX5_init 208 = .ok (.aload_n 0, 1) := by decide +kernel
theorem dX5_init_209 : decode cX5_init 209 = .ok (.bipush 6, 2) := by decide +kernel
theorem dX5_init_211 : decode cX5_init 211 = .ok (.newarray .int, 2) := by decide +kernel
theorem dX5_init_213 : decode cX5_init 213 = .ok (.putfield 93, 3) := by decide +kernel
theorem dX5_init_216 : decode cX5_init 216 = .ok (.aload_n 0, 1) := by decide +kernel
theorem dX5_init_217 : decode cX5_init 217 = .ok (.bipush 6, 2) := by decide +kernel
theorem dX5_init_219 : decode cX5_init 219 = .ok (.newarray .int, 2) := by decide +kernel
theorem dX5_init_221 : decode cX5_init 221 = .ok (.putfield 96, 3) := by decide +kernel
theorem dX5_init_224 : decode cX5_init 224 = .ok (.aload_n 0, 1) := by decide +kernel
theorem dX5_init_225 : decode cX5_init 225 = .ok (.bipush 6, 2) := by decide +kernel
theorem dX5_init_227 : decode cX5_init 227 = .ok (.newarray .int, 2) := by decide +kernel
theorem dX5_init_229 : decode cX5_init 229 = .ok (.putfield 99, 3) := by decide +kernel
theorem dX5_init_232 : decode cX5_init 232 = .ok (.return_, 1) := by decide +kernel
theorem dX5_thrown_0 : decode cX5_thrown 0 = .ok (.aload_n 0, 1) := by decide +kernel
theorem dX5_thrown_1 : decode cX5_thrown 1 = .ok (.getfield 102, 3) := by decide +kernel
theorem dX5_thrown_4 : decode cX5_thrown 4 = .ok (.ireturn, 1) := by decide +kernel
theorem dX5_holds_0 : decode cX5_holds 0 = .ok (.aload_n 0, 1) := by decide +kernel
theorem dX5_holds_1 : decode cX5_holds 1 = .ok (.iload_n 1, 1) := by decide +kernel
theorem dX5_holds_2 : decode cX5_holds 2 = .ok (.putfield 102, 3) := by decide +kernel
theorem dX5_holds_5 : decode cX5_holds 5 = .ok (.iload_n 1, 1) := by decide +kernel
theorem dX5_holds_6 : decode cX5_holds 6 = .ok (.ifCond .ne 7, 3) := by decide +kernel
theorem dX5_holds_9 : decode cX5_holds 9 = .ok (.iconst 1, 1) := by decide +kernel
theorem dX5_holds_10 : decode cX5_holds 10 = .ok (.goto 4, 3) := by decide +kernel
theorem dX5_holds_13 : decode cX5_holds 13 = .ok (.iconst 0, 1) := by decide +kernel
theorem dX5_holds_14 : decode cX5_holds 14 = .ok (.ireturn, 1) := by decide +kernel
theorem dX5_isIn_0 : decode cX5_isIn 0 = .ok (.iload_n 0, 1) := by decide +kernel
theorem dX5_isIn_1 : decode cX5_isIn 1 = .ok (.iload_n 1, 1) := by decide +kernel
theorem dX5_isIn_2 : decode cX5_isIn 2 = .ok (.if_icmp .lt 12, 3) := by decide +kernel
theorem dX5_isIn_5 : decode cX5_isIn 5 = .ok (.iload_n 0, 1) := by decide +kernel
theorem dX5_isIn_6 : decode cX5_isIn 6 = .ok (.iload_n 2, 1) := by decide +kernel
theorem dX5_isIn_7 : decode cX5_isIn 7 = .ok (.if_icmp .gt 7, 3) := by decide +kernel
theorem dX5_isIn_10 : decode cX5_isIn 10 = .ok (.iconst 1, 1) := by decide +kernel
theorem dX5_isIn_11 : decode cX5_isIn 11 = .ok (.goto 4, 3) := by decide +kernel
theorem dX5_isIn_14 : decode cX5_isIn 14 = .ok (.iconst 0, 1) := by decide +kernel
theorem dX5_isIn_15 : decode cX5_isIn 15 = .ok (.ireturn, 1) := by decide +kernel
theorem dX5_isStore_0 : decode cX5_isStore 0 = .ok (.iload_n 1, 1) := by decide +kernel
theorem dX5_isStore_1 : decode cX5_isStore 1 = .ok (.iconst 0, 1) := by decide +kernel
theorem dX5_isStore_2 : decode cX5_isStore 2 = .ok (.aload_n 0, 1) := by decide +kernel
theorem dX5_isStore_3 : decode cX5_isStore 3 = .ok (.getfield 105, 3) := by decide +kernel
theorem dX5_isStore_6 : decode cX5_isStore 6 = .ok (.iconst 1, 1) := by decide +kernel
theorem dX5_isStore_7 : decode cX5_isStore 7 = .ok (.isub, 1) := by decide +kernel
theorem dX5_isStore_8 : decode cX5_isStore 8 = .ok (.invokestatic 108, 3) := by decide +kernel
theorem dX5_isStore_11 : decode cX5_isStore 11 = .ok (.ireturn, 1) := by decide +kernel
theorem dX5_isCustomer_0 : decode cX5_isCustomer 0 = .ok (.iload_n 1, 1) := by decide +kernel
theorem dX5_isCustomer_1 : decode cX5_isCustomer 1 = .ok (.iconst 0, 1) := by decide +kernel
theorem dX5_isCustomer_2 : decode cX5_isCustomer 2 = .ok (.aload_n 0, 1) := by decide +kernel
theorem dX5_isCustomer_3 : decode cX5_isCustomer 3 = .ok (.getfield 112, 3) := by decide +kernel
theorem dX5_isCustomer_6 : decode cX5_isCustomer 6 = .ok (.iconst 1, 1) := by decide +kernel
theorem dX5_isCustomer_7 : decode cX5_isCustomer 7 = .ok (.isub, 1) := by decide +kernel
theorem dX5_isCustomer_8 : decode cX5_isCustomer 8 = .ok (.invokestatic 108, 3) := by decide +kernel
theorem dX5_isCustomer_11 : decode cX5_isCustomer 11 = .ok (.ireturn, 1) := by decide +kernel
theorem dX5_lesser_0 : decode cX5_lesser 0 = .ok (.iload_n 0, 1) := by decide +kernel
theorem dX5_lesser_1 : decode cX5_lesser 1 = .ok (.iload_n 1, 1) := by decide +kernel
theorem dX5_lesser_2 : decode cX5_lesser 2 = .ok (.if_icmp .ge 7, 3) := by decide +kernel
theorem dX5_lesser_5 : decode cX5_lesser 5 = .ok (.iload_n 0, 1) := by decide +kernel
theorem dX5_lesser_6 : decode cX5_lesser 6 = .ok (.goto 4, 3) := by decide +kernel
theorem dX5_lesser_9 : decode cX5_lesser 9 = .ok (.iload_n 1, 1) := by decide +kernel
theorem dX5_lesser_10 : decode cX5_lesser 10 = .ok (.ireturn, 1) := by decide +kernel
theorem dX5_roomOf_0 : decode cX5_roomOf 0 = .ok (.aload_n 0, 1) := by decide +kernel
theorem dX5_roomOf_1 : decode cX5_roomOf 1 = .ok (.getfield 13, 3) := by decide +kernel
theorem dX5_roomOf_4 : decode cX5_roomOf 4 = .ok (.iload_n 1, 1) := by decide +kernel
theorem dX5_roomOf_5 : decode cX5_roomOf 5 = .ok (.iaload, 1) := by decide +kernel
theorem dX5_roomOf_6 : decode cX5_roomOf 6 = .ok (.aload_n 0, 1) := by decide +kernel
theorem dX5_roomOf_7 : decode cX5_roomOf 7 = .ok (.getfield 16, 3) := by decide +kernel
theorem dX5_roomOf_10 : decode cX5_roomOf 10 = .ok (.iload_n 1, 1) := by decide +kernel
theorem dX5_roomOf_11 : decode cX5_roomOf 11 = .ok (.iaload, 1) := by decide +kernel
theorem dX5_roomOf_12 : decode cX5_roomOf 12 = .ok (.isub, 1) := by decide +kernel
theorem dX5_roomOf_13 : decode cX5_roomOf 13 = .ok (.ireturn, 1) := by decide +kernel
theorem dX5_leastGas_0 : decode cX5_leastGas 0 = .ok (.iload_n 0, 1) := by decide +kernel
theorem dX5_leastGas_1 : decode cX5_leastGas 1 = .ok (.iload_n 1, 1) := by decide +kernel
theorem dX5_leastGas_2 : decode cX5_leastGas 2 = .ok (.imul, 1) := by decide +kernel
theorem dX5_leastGas_3 : decode cX5_leastGas 3 = .ok (.bipush 99, 2) := by decide +kernel
theorem dX5_leastGas_5 : decode cX5_leastGas 5 = .ok (.iadd, 1) := by decide +kernel
theorem dX5_leastGas_6 : decode cX5_leastGas 6 = .ok (.bipush 100, 2) := by decide +kernel
theorem dX5_leastGas_8 : decode cX5_leastGas 8 = .ok (.idiv, 1) := by decide +kernel
theorem dX5_leastGas_9 : decode cX5_leastGas 9 = .ok (.ireturn, 1) := by decide +kernel
theorem dX5_mostGas_0 : decode cX5_mostGas 0 = .ok (.iload_n 0, 1) := by decide +kernel
theorem dX5_mostGas_1 : decode cX5_mostGas 1 = .ok (.iload_n 1, 1) := by decide +kernel
theorem dX5_mostGas_2 : decode cX5_mostGas 2 = .ok (.imul, 1) := by decide +kernel
theorem dX5_mostGas_3 : decode cX5_mostGas 3 = .ok (.bipush 100, 2) := by decide +kernel
theorem dX5_mostGas_5 : decode cX5_mostGas 5 = .ok (.idiv, 1) := by decide +kernel
theorem dX5_mostGas_6 : decode cX5_mostGas 6 = .ok (.ireturn, 1) := by decide +kernel
theorem dX5_pressureOf_0 : decode cX5_pressureOf 0 = .ok (.bipush 100, 2) := by decide +kernel
theorem dX5_pressureOf_2 : decode cX5_pressureOf 2 = .ok (.aload_n 0, 1) := by decide +kernel
theorem dX5_pressureOf_3 : decode cX5_pressureOf 3 = .ok (.getfield 19, 3) := by decide +kernel
theorem dX5_pressureOf_6 : decode cX5_pressureOf 6 = .ok (.iload_n 1, 1) := by decide +kernel
theorem dX5_pressureOf_7 : decode cX5_pressureOf 7 = .ok (.iaload, 1) := by decide +kernel
theorem dX5_pressureOf_8 : decode cX5_pressureOf 8 = .ok (.imul, 1) := by decide +kernel
theorem dX5_pressureOf_9 : decode cX5_pressureOf 9 = .ok (.aload_n 0, 1) := by decide +kernel
theorem dX5_pressureOf_10 : decode cX5_pressureOf 10 = .ok (.iload_n 1, 1) := by decide +kernel
theorem dX5_pressureOf_11 : decode cX5_pressureOf 11 = .ok (.invokevirtual 115, 3) := by decide +kernel
theorem dX5_pressureOf_14 : decode cX5_pressureOf 14 = .ok (.idiv, 1) := by decide +kernel
theorem dX5_pressureOf_15 : decode cX5_pressureOf 15 = .ok (.ireturn, 1) := by decide +kernel
theorem dX5_rateOf_0 : decode cX5_rateOf 0 = .ok (.aload_n 0, 1) := by decide +kernel
theorem dX5_rateOf_1 : decode cX5_rateOf 1 = .ok (.iload_n 1, 1) := by decide +kernel
theorem dX5_rateOf_2 : decode cX5_rateOf 2 = .ok (.invokevirtual 119, 3) := by decide +kernel
theorem dX5_rateOf_5 : decode cX5_rateOf 5 = .ok (.istore_n 3, 1) := by decide +kernel
theorem dX5_rateOf_6 : decode cX5_rateOf 6 = .ok (.iload_n 2, 1) := by decide +kernel
theorem dX5_rateOf_7 : decode cX5_rateOf 7 = .ok (.ifCond .eq 14, 3) := by decide +kernel
theorem dX5_rateOf_10 : decode cX5_rateOf 10 = .ok (.aload_n 0, 1) := by decide +kernel
theorem dX5_rateOf_11 : decode cX5_rateOf 11 = .ok (.getfield 25, 3) := by decide +kernel
theorem dX5_rateOf_14 : decode cX5_rateOf 14 = .ok (.iload_n 1, 1) := by decide +kernel
theorem dX5_rateOf_15 : decode cX5_rateOf 15 = .ok (.iaload, 1) := by decide +kernel
theorem dX5_rateOf_16 : decode cX5_rateOf 16 = .ok (.iload_n 3, 1) := by decide +kernel
theorem dX5_rateOf_17 : decode cX5_rateOf 17 = .ok (.isub, 1) := by decide +kernel
theorem dX5_rateOf_18 : decode cX5_rateOf 18 = .ok (.goto 11, 3) := by decide +kernel
theorem dX5_rateOf_21 : decode cX5_rateOf 21 = .ok (.iload_n 3, 1) := by decide +kernel
theorem dX5_rateOf_22 : decode cX5_rateOf 22 = .ok (.aload_n 0, 1) := by decide +kernel
theorem dX5_rateOf_23 : decode cX5_rateOf 23 = .ok (.getfield 22, 3) := by decide +kernel
theorem dX5_rateOf_26 : decode cX5_rateOf 26 = .ok (.iload_n 1, 1) := by decide +kernel
theorem dX5_rateOf_27 : decode cX5_rateOf 27 = .ok (.iaload, 1) := by decide +kernel
theorem dX5_rateOf_28 : decode cX5_rateOf 28 = .ok (.isub, 1) := by decide +kernel
theorem dX5_rateOf_29 : decode cX5_rateOf 29 = .ok (.istore 4, 2) := by decide +kernel
theorem dX5_rateOf_31 : decode cX5_rateOf 31 = .ok (.iload_n 2, 1) := by decide +kernel
theorem dX5_rateOf_32 : decode cX5_rateOf 32 = .ok (.ifCond .eq 27, 3) := by decide +kernel
theorem dX5_rateOf_35 : decode cX5_rateOf 35 = .ok (.aload_n 0, 1) := by decide +kernel
theorem dX5_rateOf_36 : decode cX5_rateOf 36 = .ok (.getfield 25, 3) := by decide +kernel
theorem dX5_rateOf_39 : decode cX5_rateOf 39 = .ok (.iload_n 1, 1) := by decide +kernel
theorem dX5_rateOf_40 : decode cX5_rateOf 40 = .ok (.iaload, 1) := by decide +kernel
theorem dX5_rateOf_41 : decode cX5_rateOf 41 = .ok (.aload_n 0, 1) := by decide +kernel
theorem dX5_rateOf_42 : decode cX5_rateOf 42 = .ok (.iload_n 1, 1) := by decide +kernel
theorem dX5_rateOf_43 : decode cX5_rateOf 43 = .ok (.invokevirtual 115, 3) := by decide +kernel
theorem dX5_rateOf_46 : decode cX5_rateOf 46 = .ok (.invokestatic 122, 3) := by decide +kernel
theorem dX5_rateOf_49 : decode cX5_rateOf 49 = .ok (.aload_n 0, 1) := by decide +kernel
theorem dX5_rateOf_50 : decode cX5_rateOf 50 = .ok (.getfield 19, 3) := by decide +kernel
theorem dX5_rateOf_53 : decode cX5_rateOf 53 = .ok (.iload_n 1, 1) := by decide +kernel
theorem dX5_rateOf_54 : decode cX5_rateOf 54 = .ok (.iaload, 1) := by decide +kernel
theorem dX5_rateOf_55 : decode cX5_rateOf 55 = .ok (.isub, 1) := by decide +kernel
theorem dX5_rateOf_56 : decode cX5_rateOf 56 = .ok (.goto 24, 3) := by decide +kernel
theorem dX5_rateOf_59 : decode cX5_rateOf 59 = .ok (.aload_n 0, 1) := by decide +kernel
theorem dX5_rateOf_60 : decode cX5_rateOf 60 = .ok (.getfield 19, 3) := by decide +kernel
theorem dX5_rateOf_63 : decode cX5_rateOf 63 = .ok (.iload_n 1, 1) := by decide +kernel
theorem dX5_rateOf_64 : decode cX5_rateOf 64 = .ok (.iaload, 1) := by decide +kernel
theorem dX5_rateOf_65 : decode cX5_rateOf 65 = .ok (.aload_n 0, 1) := by decide +kernel
theorem dX5_rateOf_66 : decode cX5_rateOf 66 = .ok (.getfield 22, 3) := by decide +kernel
theorem dX5_rateOf_69 : decode cX5_rateOf 69 = .ok (.iload_n 1, 1) := by decide +kernel
theorem dX5_rateOf_70 : decode cX5_rateOf 70 = .ok (.iaload, 1) := by decide +kernel
theorem dX5_rateOf_71 : decode cX5_rateOf 71 = .ok (.aload_n 0, 1) := by decide +kernel
theorem dX5_rateOf_72 : decode cX5_rateOf 72 = .ok (.iload_n 1, 1) := by decide +kernel
theorem dX5_rateOf_73 : decode cX5_rateOf 73 = .ok (.invokevirtual 115, 3) := by decide +kernel
theorem dX5_rateOf_76 : decode cX5_rateOf 76 = .ok (.invokestatic 126, 3) := by decide +kernel
theorem dX5_rateOf_79 : decode cX5_rateOf 79 = .ok (.isub, 1) := by decide +kernel
theorem dX5_rateOf_80 : decode cX5_rateOf 80 = .ok (.istore 5, 2) := by decide +kernel
theorem dX5_rateOf_82 : decode cX5_rateOf 82 = .ok (.iload 4, 2) := by decide +kernel
theorem dX5_rateOf_84 : decode cX5_rateOf 84 = .ok (.ifCond .le 8, 3) := by decide +kernel
theorem dX5_rateOf_87 : decode cX5_rateOf 87 = .ok (.iload 5, 2) := by decide +kernel
theorem dX5_rateOf_89 : decode cX5_rateOf 89 = .ok (.ifCond .gt 5, 3) := by decide +kernel
theorem dX5_rateOf_92 : decode cX5_rateOf 92 = .ok (.iconst 0, 1) := by decide +kernel
theorem dX5_rateOf_93 : decode cX5_rateOf 93 = .ok (.ireturn, 1) := by decide +kernel
theorem dX5_rateOf_94 : decode cX5_rateOf 94 = .ok (.aload_n 0, 1) := by decide +kernel
theorem dX5_rateOf_95 : decode cX5_rateOf 95 = .ok (.getfield 31, 3) := by decide +kernel
theorem dX5_rateOf_98 : decode cX5_rateOf 98 = .ok (.iload_n 1, 1) := by decide +kernel
theorem dX5_rateOf_99 : decode cX5_rateOf 99 = .ok (.iaload, 1) := by decide +kernel
theorem dX5_rateOf_100 : decode cX5_rateOf 100 = .ok (.i2l, 1) := by decide +kernel
theorem dX5_rateOf_101 : decode cX5_rateOf 101 = .ok (.aload_n 0, 1) := by decide +kernel
theorem dX5_rateOf_102 : decode cX5_rateOf 102 = .ok (.getfield 34, 3) := by decide +kernel
theorem dX5_rateOf_105 : decode cX5_rateOf 105 = .ok (.iload_n 1, 1) := by decide +kernel
theorem dX5_rateOf_106 : decode cX5_rateOf 106 = .ok (.iaload, 1) := by decide +kernel
theorem dX5_rateOf_107 : decode cX5_rateOf 107 = .ok (.i2l, 1) := by decide +kernel
theorem dX5_rateOf_108 : decode cX5_rateOf 108 = .ok (.lmul, 1) := by decide +kernel
theorem dX5_rateOf_109 : decode cX5_rateOf 109 = .ok (.iload 4, 2) := by decide +kernel
theorem dX5_rateOf_111 : decode cX5_rateOf 111 = .ok (.i2l, 1) := by decide +kernel
theorem dX5_rateOf_112 : decode cX5_rateOf 112 = .ok (.lmul, 1) := by decide +kernel
theorem dX5_rateOf_113 : decode cX5_rateOf 113 = .ok (.ldc2_w 129, 3) := by decide +kernel
theorem dX5_rateOf_116 : decode cX5_rateOf 116 = .ok (.ldiv, 1) := by decide +kernel
theorem dX5_rateOf_117 : decode cX5_rateOf 117 = .ok (.lstore 6, 2) := by decide +kernel
theorem dX5_rateOf_119 : decode cX5_rateOf 119 = .ok (.lload 6, 2) := by decide +kernel
theorem dX5_rateOf_121 : decode cX5_rateOf 121 = .ok (.iload 5, 2) := by decide +kernel
theorem dX5_rateOf_123 : decode cX5_rateOf 123 = .ok (.i2l, 1) := by decide +kernel
theorem dX5_rateOf_124 : decode cX5_rateOf 124 = .ok (.lcmp, 1) := by decide +kernel
theorem dX5_rateOf_125 : decode cX5_rateOf 125 = .ok (.ifCond .ge 9, 3) := by decide +kernel
theorem dX5_rateOf_128 : decode cX5_rateOf 128 = .ok (.lload 6, 2) := by decide +kernel
theorem dX5_rateOf_130 : decode cX5_rateOf 130 = .ok (.l2i, 1) := by decide +kernel
theorem dX5_rateOf_131 : decode cX5_rateOf 131 = .ok (.goto 5, 3) := by decide +kernel
theorem dX5_rateOf_134 : decode cX5_rateOf 134 = .ok (.iload 5, 2) := by decide +kernel
theorem dX5_rateOf_136 : decode cX5_rateOf 136 = .ok (.ireturn, 1) := by decide +kernel
theorem dX5_store_0 : decode cX5_store 0 = .ok (.iload_n 1, 1) := by decide +kernel
theorem dX5_store_1 : decode cX5_store 1 = .ok (.iconst 0, 1) := by decide +kernel
theorem dX5_store_2 : decode cX5_store 2 = .ok (.iconst 2, 1) := by decide +kernel
theorem dX5_store_3 : decode cX5_store 3 = .ok (.invokestatic 108, 3) := by decide +kernel
theorem dX5_store_6 : decode cX5_store 6 = .ok (.ifCond .eq 53, 3) := by decide +kernel
theorem dX5_store_9 : decode cX5_store 9 = .ok (.iload_n 2, 1) := by decide +kernel
theorem dX5_store_10 : decode cX5_store 10 = .ok (.iconst 1, 1) := by decide +kernel
theorem dX5_store_11 : decode cX5_store 11 = .ok (.ldc 131, 2) := by decide +kernel
theorem dX5_store_13 : decode cX5_store 13 = .ok (.invokestatic 108, 3) := by decide +kernel
theorem dX5_store_16 : decode cX5_store 16 = .ok (.ifCond .eq 43, 3) := by decide +kernel
theorem dX5_store_19 : decode cX5_store 19 = .ok (.iload 4, 2) := by decide +kernel
theorem dX5_store_21 : decode cX5_store 21 = .ok (.iconst 0, 1) := by decide +kernel
theorem dX5_store_22 : decode cX5_store 22 = .ok (.sipush 1000, 3) := by decide +kernel
theorem dX5_store_25 : decode cX5_store 25 = .ok (.invokestatic 108, 3) := by decide +kernel
theorem dX5_store_28 : decode cX5_store 28 = .ok (.ifCond .eq 31, 3) := by decide +kernel
theorem dX5_store_31 : decode cX5_store 31 = .ok (.iload 5, 2) := by decide +kernel
theorem dX5_store_33 : decode cX5_store 33 = .ok (.iload 4, 2) := by decide +kernel
theorem dX5_store_35 : decode cX5_store 35 = .ok (.sipush 1000, 3) := by decide +kernel
theorem dX5_store_38 : decode cX5_store 38 = .ok (.invokestatic 108, 3) := by decide +kernel
theorem dX5_store_41 : decode cX5_store 41 = .ok (.ifCond .eq 18, 3) := by decide +kernel
theorem dX5_store_44 : decode cX5_store 44 = .ok (.iload 6, 2) := by decide +kernel
theorem dX5_store_46 : decode cX5_store 46 = .ok (.iconst 0, 1) := by decide +kernel
theorem dX5_store_47 : decode cX5_store 47 = .ok (.ldc 132, 2) := by decide +kernel
theorem dX5_store_49 : decode cX5_store 49 = .ok (.invokestatic 108, 3) := by decide +kernel
theorem dX5_store_52 : decode cX5_store 52 = .ok (.ifCond .eq 7, 3) := by decide +kernel
theorem dX5_store_55 : decode cX5_store 55 = .ok (.iconst 1, 1) := by decide +kernel
theorem dX5_store_56 : decode cX5_store 56 = .ok (.goto 4, 3) := by decide +kernel
theorem dX5_store_59 : decode cX5_store 59 = .ok (.iconst 0, 1) := by decide +kernel
theorem dX5_store_60 : decode cX5_store 60 = .ok (.istore 7, 2) := by decide +kernel
theorem dX5_store_62 : decode cX5_store 62 = .ok (.iload 7, 2) := by decide +kernel
theorem dX5_store_64 : decode cX5_store 64 = .ok (.ifCond .eq 26, 3) := by decide +kernel
theorem dX5_store_67 : decode cX5_store 67 = .ok (.iload_n 3, 1) := by decide +kernel
theorem dX5_store_68 : decode cX5_store 68 = .ok (.iload 4, 2) := by decide +kernel
theorem dX5_store_70 : decode cX5_store 70 = .ok (.iload_n 2, 1) := by decide +kernel
theorem dX5_store_71 : decode cX5_store 71 = .ok (.invokestatic 126, 3) := by decide +kernel
theorem dX5_store_74 : decode cX5_store 74 = .ok (.iload 5, 2) := by decide +kernel
theorem dX5_store_76 : decode cX5_store 76 = .ok (.iload_n 2, 1) := by decide +kernel
theorem dX5_store_77 : decode cX5_store 77 = .ok (.invokestatic 122, 3) := by decide +kernel
theorem dX5_store_80 : decode cX5_store 80 = .ok (.invokestatic 108, 3) := by decide +kernel
theorem dX5_store_83 : decode cX5_store 83 = .ok (.ifCond .eq 7, 3) := by decide +kernel
theorem dX5_store_86 : decode cX5_store 86 = .ok (.iconst 1, 1) := by decide +kernel
theorem dX5_store_87 : decode cX5_store 87 = .ok (.goto 4, 3) := by decide +kernel
theorem dX5_store_90 : decode cX5_store 90 = .ok (.iconst 0, 1) := by decide +kernel
theorem dX5_store_91 : decode cX5_store 91 = .ok (.istore 8, 2) := by decide +kernel
theorem dX5_store_93 : decode cX5_store 93 = .ok (.aload_n 0, 1) := by decide +kernel
theorem dX5_store_94 : decode cX5_store 94 = .ok (.iload 8, 2) := by decide +kernel
theorem dX5_store_96 : decode cX5_store 96 = .ok (.ifCond .ne 7, 3) := by decide +kernel
theorem dX5_store_99 : decode cX5_store 99 = .ok (.iconst 1, 1) := by decide +kernel
theorem dX5_store_100 : decode cX5_store 100 = .ok (.goto 16, 3) := by decide +kernel
theorem dX5_store_103 : decode cX5_store 103 = .ok (.aload_n 0, 1) := by decide +kernel
theorem dX5_store_104 : decode cX5_store 104 = .ok (.getfield 105, 3) := by decide +kernel
theorem dX5_store_107 : decode cX5_store 107 = .ok (.iconst 5, 1) := by decide +kernel
theorem dX5_store_108 : decode cX5_store 108 = .ok (.if_icmp .ne 7, 3) := by decide +kernel
theorem dX5_store_111 : decode cX5_store 111 = .ok (.iconst 2, 1) := by decide +kernel
theorem dX5_store_112 : decode cX5_store 112 = .ok (.goto 4, 3) := by decide +kernel
theorem dX5_store_115 : decode cX5_store 115 = .ok (.iconst 0, 1) := by decide +kernel
theorem dX5_store_116 : decode cX5_store 116 = .ok (.invokevirtual 133, 3) := by decide +kernel
theorem dX5_store_119 : decode cX5_store 119 = .ok (.ifCond .ne 5, 3) := by decide +kernel
theorem dX5_store_122 : decode cX5_store 122 = .ok (.iconst 0, 1) := by decide +kernel
theorem dX5_store_123 : decode cX5_store 123 = .ok (.ireturn, 1) := by decide +kernel
theorem dX5_store_124 : decode cX5_store 124 = .ok (.aload_n 0, 1) := by decide +kernel
theorem dX5_store_125 : decode cX5_store 125 = .ok (.getfield 7, 3) := by decide +kernel
theorem dX5_store_128 : decode cX5_store 128 = .ok (.aload_n 0, 1) := by decide +kernel
theorem dX5_store_129 : decode cX5_store 129 = .ok (.getfield 105, 3) := by decide +kernel
theorem dX5_store_132 : decode cX5_store 132 = .ok (.iload_n 1, 1) := by decide +kernel
theorem dX5_store_133 : decode cX5_store 133 = .ok (.iastore, 1) := by decide +kernel
theorem dX5_store_134 : decode cX5_store 134 = .ok (.aload_n 0, 1) := by decide +kernel
theorem dX5_store_135 : decode cX5_store 135 = .ok (.getfield 13, 3) := by decide +kernel
theorem dX5_store_138 : decode cX5_store 138 = .ok (.aload_n 0, 1) := by decide +kernel
theorem dX5_store_139 : decode cX5_store 139 = .ok (.getfield 105, 3) := by decide +kernel
theorem dX5_store_142 : decode cX5_store 142 = .ok (.iload_n 2, 1) := by decide +kernel
theorem dX5_store_143 : decode cX5_store 143 = .ok (.iastore, 1) := by decide +kernel
theorem dX5_store_144 : decode cX5_store 144 = .ok (.aload_n 0, 1) := by decide +kernel
theorem dX5_store_145 : decode cX5_store 145 = .ok (.getfield 19, 3) := by decide +kernel
theorem dX5_store_148 : decode cX5_store 148 = .ok (.aload_n 0, 1) := by decide +kernel
theorem dX5_store_149 : decode cX5_store 149 = .ok (.getfield 105, 3) := by decide +kernel
theorem dX5_store_152 : decode cX5_store 152 = .ok (.iload_n 3, 1) := by decide +kernel
theorem dX5_store_153 : decode cX5_store 153 = .ok (.iastore, 1) := by decide +kernel
theorem dX5_store_154 : decode cX5_store 154 = .ok (.aload_n 0, 1) := by decide +kernel
theorem dX5_store_155 : decode cX5_store 155 = .ok (.getfield 22, 3) := by decide +kernel
theorem dX5_store_158 : decode cX5_store 158 = .ok (.aload_n 0, 1) := by decide +kernel
theorem dX5_store_159 : decode cX5_store 159 = .ok (.getfield 105, 3) := by decide +kernel
theorem dX5_store_162 : decode cX5_store 162 = .ok (.iload 4, 2) := by decide +kernel
theorem dX5_store_164 : decode cX5_store 164 = .ok (.iastore, 1) := by decide +kernel
theorem dX5_store_165 : decode cX5_store 165 = .ok (.aload_n 0, 1) := by decide +kernel
theorem dX5_store_166 : decode cX5_store 166 = .ok (.getfield 25, 3) := by decide +kernel
theorem dX5_store_169 : decode cX5_store 169 = .ok (.aload_n 0, 1) := by decide +kernel
theorem dX5_store_170 : decode cX5_store 170 = .ok (.getfield 105, 3) := by decide +kernel
theorem dX5_store_173 : decode cX5_store 173 = .ok (.iload 5, 2) := by decide +kernel
theorem dX5_store_175 : decode cX5_store 175 = .ok (.iastore, 1) := by decide +kernel
theorem dX5_store_176 : decode cX5_store 176 = .ok (.aload_n 0, 1) := by decide +kernel
theorem dX5_store_177 : decode cX5_store 177 = .ok (.getfield 28, 3) := by decide +kernel
theorem dX5_store_180 : decode cX5_store 180 = .ok (.aload_n 0, 1) := by decide +kernel
theorem dX5_store_181 : decode cX5_store 181 = .ok (.getfield 105, 3) := by decide +kernel
theorem dX5_store_184 : decode cX5_store 184 = .ok (.iload 6, 2) := by decide +kernel
theorem dX5_store_186 : decode cX5_store 186 = .ok (.iastore, 1) := by decide +kernel
theorem dX5_store_187 : decode cX5_store 187 = .ok (.aload_n 0, 1) := by decide +kernel
theorem dX5_store_188 : decode cX5_store 188 = .ok (.getfield 40, 3) := by decide +kernel
theorem dX5_store_191 : decode cX5_store 191 = .ok (.aload_n 0, 1) := by decide +kernel
theorem dX5_store_192 : decode cX5_store 192 = .ok (.getfield 105, 3) := by decide +kernel
theorem dX5_store_195 : decode cX5_store 195 = .ok (.iload_n 3, 1) := by decide +kernel
theorem dX5_store_196 : decode cX5_store 196 = .ok (.i2l, 1) := by decide +kernel
theorem dX5_store_197 : decode cX5_store 197 = .ok (.aload_n 0, 1) := by decide +kernel
theorem dX5_store_198 : decode cX5_store 198 = .ok (.getfield 47, 3) := by decide +kernel
theorem dX5_store_201 : decode cX5_store 201 = .ok (.i2l, 1) := by decide +kernel
theorem dX5_store_202 : decode cX5_store 202 = .ok (.lmul, 1) := by decide +kernel
theorem dX5_store_203 : decode cX5_store 203 = .ok (.lastore, 1) := by decide +kernel
theorem dX5_store_204 : decode cX5_store 204 = .ok (.aload_n 0, 1) := by decide +kernel
theorem dX5_store_205 : decode cX5_store 205 = .ok (.dup, 1) := by decide +kernel
theorem dX5_store_206 : decode cX5_store 206 = .ok (.getfield 136, 3) := by decide +kernel
theorem dX5_store_209 : decode cX5_store 209 = .ok (.iload_n 3, 1) := by decide +kernel
theorem dX5_store_210 : decode cX5_store 210 = .ok (.i2l, 1) := by decide +kernel
theorem dX5_store_211 : decode cX5_store 211 = .ok (.ladd, 1) := by decide +kernel
theorem dX5_store_212 : decode cX5_store 212 = .ok (.putfield 136, 3) := by decide +kernel
theorem dX5_store_215 : decode cX5_store 215 = .ok (.aload_n 0, 1) := by decide +kernel
theorem dX5_store_216 : decode cX5_store 216 = .ok (.dup, 1) := by decide +kernel
theorem dX5_store_217 : decode cX5_store 217 = .ok (.getfield 105, 3) := by decide +kernel
theorem dX5_store_220 : decode cX5_store 220 = .ok (.iconst 1, 1) := by decide +kernel
theorem dX5_store_221 : decode cX5_store 221 = .ok (.iadd, 1) := by decide +kernel
theorem dX5_store_222 : decode cX5_store 222 = .ok (.putfield 105, 3) := by decide +kernel
theorem dX5_store_225 : decode cX5_store 225 = .ok (.aload_n 0, 1) := by decide +kernel
theorem dX5_store_226 : decode cX5_store 226 = .ok (.getfield 105, 3) := by decide +kernel
theorem dX5_store_229 : decode cX5_store 229 = .ok (.iconst 1, 1) := by decide +kernel
theorem dX5_store_230 : decode cX5_store 230 = .ok (.isub, 1) := by decide +kernel
theorem dX5_store_231 : decode cX5_store 231 = .ok (.ireturn, 1) := by decide +kernel
theorem dX5_wells_0 : decode cX5_wells 0 = .ok (.iload_n 2, 1) := by decide +kernel
theorem dX5_wells_1 : decode cX5_wells 1 = .ok (.iconst 0, 1) := by decide +kernel
theorem dX5_wells_2 : decode cX5_wells 2 = .ok (.bipush 100, 2) := by decide +kernel
theorem dX5_wells_4 : decode cX5_wells 4 = .ok (.invokestatic 108, 3) := by decide +kernel
theorem dX5_wells_7 : decode cX5_wells 7 = .ok (.ifCond .eq 18, 3) := by decide +kernel
theorem dX5_wells_10 : decode cX5_wells 10 = .ok (.iload_n 3, 1) := by decide +kernel
theorem dX5_wells_11 : decode cX5_wells 11 = .ok (.iconst 0, 1) := by decide +kernel
theorem dX5_wells_12 : decode cX5_wells 12 = .ok (.sipush 1000, 3) := by decide +kernel
theorem dX5_wells_15 : decode cX5_wells 15 = .ok (.invokestatic 108, 3) := by decide +kernel
theorem dX5_wells_18 : decode cX5_wells 18 = .ok (.ifCond .eq 7, 3) := by decide +kernel
theorem dX5_wells_21 : decode cX5_wells 21 = .ok (.iconst 1, 1) := by decide +kernel
theorem dX5_wells_22 : decode cX5_wells 22 = .ok (.goto 4, 3) := by decide +kernel
theorem dX5_wells_25 : decode cX5_wells 25 = .ok (.iconst 0, 1) := by decide +kernel
theorem dX5_wells_26 : decode cX5_wells 26 = .ok (.istore 4, 2) := by decide +kernel
theorem dX5_wells_28 : decode cX5_wells 28 = .ok (.aload_n 0, 1) := by decide +kernel
theorem dX5_wells_29 : decode cX5_wells 29 = .ok (.aload_n 0, 1) := by decide +kernel
theorem dX5_wells_30 : decode cX5_wells 30 = .ok (.iload_n 1, 1) := by decide +kernel
theorem dX5_wells_31 : decode cX5_wells 31 = .ok (.invokevirtual 140, 3) := by decide +kernel
theorem dX5_wells_34 : decode cX5_wells 34 = .ok (.ifCond .ne 7, 3) := by decide +kernel
theorem dX5_wells_37 : decode cX5_wells 37 = .ok (.iconst 1, 1) := by decide +kernel
theorem dX5_wells_38 : decode cX5_wells 38 = .ok (.goto 13, 3) := by decide +kernel
theorem dX5_wells_41 : decode cX5_wells 41 = .ok (.iload 4, 2) := by decide +kernel
theorem dX5_wells_43 : decode cX5_wells 43 = .ok (.ifCond .eq 7, 3) := by decide +kernel
theorem dX5_wells_46 : decode cX5_wells 46 = .ok (.iconst 0, 1) := by decide +kernel
theorem dX5_wells_47 : decode cX5_wells 47 = .ok (.goto 4, 3) := by decide +kernel
theorem dX5_wells_50 : decode cX5_wells 50 = .ok (.iconst 2, 1) := by decide +kernel
theorem dX5_wells_51 : decode cX5_wells 51 = .ok (.invokevirtual 133, 3) := by decide +kernel
theorem dX5_wells_54 : decode cX5_wells 54 = .ok (.ifCond .ne 5, 3) := by decide +kernel
theorem dX5_wells_57 : decode cX5_wells 57 = .ok (.iconst 0, 1) := by decide +kernel
theorem dX5_wells_58 : decode cX5_wells 58 = .ok (.ireturn, 1) := by decide +kernel
theorem dX5_wells_59 : decode cX5_wells 59 = .ok (.aload_n 0, 1) := by decide +kernel
theorem dX5_wells_60 : decode cX5_wells 60 = .ok (.getfield 31, 3) := by decide +kernel
theorem dX5_wells_63 : decode cX5_wells 63 = .ok (.iload_n 1, 1) := by decide +kernel
theorem dX5_wells_64 : decode cX5_wells 64 = .ok (.iload_n 2, 1) := by decide +kernel
theorem dX5_wells_65 : decode cX5_wells 65 = .ok (.iastore, 1) := by decide +kernel
theorem dX5_wells_66 : decode cX5_wells 66 = .ok (.aload_n 0, 1) := by decide +kernel
theorem dX5_wells_67 : decode cX5_wells 67 = .ok (.getfield 34, 3) := by decide +kernel
theorem dX5_wells_70 : decode cX5_wells 70 = .ok (.iload_n 1, 1) := by decide +kernel
theorem dX5_wells_71 : decode cX5_wells 71 = .ok (.iload_n 3, 1) := by decide +kernel
theorem dX5_wells_72 : decode cX5_wells 72 = .ok (.iastore, 1) := by decide +kernel
theorem dX5_wells_73 : decode cX5_wells 73 = .ok (.aload_n 0, 1) := by decide +kernel
theorem dX5_wells_74 : decode cX5_wells 74 = .ok (.iload_n 1, 1) := by decide +kernel
theorem dX5_wells_75 : decode cX5_wells 75 = .ok (.iconst 0, 1) := by decide +kernel
theorem dX5_wells_76 : decode cX5_wells 76 = .ok (.invokevirtual 143, 3) := by decide +kernel
theorem dX5_wells_79 : decode cX5_wells 79 = .ok (.ireturn, 1) := by decide +kernel
theorem dX5_leak_0 : decode cX5_leak 0 = .ok (.aload_n 0, 1) := by decide +kernel
theorem dX5_leak_1 : decode cX5_leak 1 = .ok (.aload_n 0, 1) := by decide +kernel
theorem dX5_leak_2 : decode cX5_leak 2 = .ok (.iload_n 1, 1) := by decide +kernel
theorem dX5_leak_3 : decode cX5_leak 3 = .ok (.invokevirtual 140, 3) := by decide +kernel
theorem dX5_leak_6 : decode cX5_leak 6 = .ok (.ifCond .ne 7, 3) := by decide +kernel
theorem dX5_leak_9 : decode cX5_leak 9 = .ok (.iconst 1, 1) := by decide +kernel
theorem dX5_leak_10 : decode cX5_leak 10 = .ok (.goto 19, 3) := by decide +kernel
theorem dX5_leak_13 : decode cX5_leak 13 = .ok (.iload_n 2, 1) := by decide +kernel
theorem dX5_leak_14 : decode cX5_leak 14 = .ok (.iconst 0, 1) := by decide +kernel
theorem dX5_leak_15 : decode cX5_leak 15 = .ok (.sipush 1000, 3) := by decide +kernel
theorem dX5_leak_18 : decode cX5_leak 18 = .ok (.invokestatic 108, 3) := by decide +kernel
theorem dX5_leak_21 : decode cX5_leak 21 = .ok (.ifCond .eq 7, 3) := by decide +kernel
theorem dX5_leak_24 : decode cX5_leak 24 = .ok (.iconst 0, 1) := by decide +kernel
theorem dX5_leak_25 : decode cX5_leak 25 = .ok (.goto 4, 3) := by decide +kernel
theorem dX5_leak_28 : decode cX5_leak 28 = .ok (.iconst 2, 1) := by decide +kernel
theorem dX5_leak_29 : decode cX5_leak 29 = .ok (.invokevirtual 133, 3) := by decide +kernel
theorem dX5_leak_32 : decode cX5_leak 32 = .ok (.ifCond .ne 5, 3) := by decide +kernel
theorem dX5_leak_35 : decode cX5_leak 35 = .ok (.iconst 0, 1) := by decide +kernel
theorem dX5_leak_36 : decode cX5_leak 36 = .ok (.ireturn, 1) := by decide +kernel
theorem dX5_leak_37 : decode cX5_leak 37 = .ok (.aload_n 0, 1) := by decide +kernel
theorem dX5_leak_38 : decode cX5_leak 38 = .ok (.getfield 37, 3) := by decide +kernel
theorem dX5_leak_41 : decode cX5_leak 41 = .ok (.iload_n 1, 1) := by decide +kernel
theorem dX5_leak_42 : decode cX5_leak 42 = .ok (.iaload, 1) := by decide +kernel
theorem dX5_leak_43 : decode cX5_leak 43 = .ok (.istore_n 3, 1) := by decide +kernel
theorem dX5_leak_44 : decode cX5_leak 44 = .ok (.aload_n 0, 1) := by decide +kernel
theorem dX5_leak_45 : decode cX5_leak 45 = .ok (.getfield 37, 3) := by decide +kernel
theorem dX5_leak_48 : decode cX5_leak 48 = .ok (.iload_n 1, 1) := by decide +kernel
theorem dX5_leak_49 : decode cX5_leak 49 = .ok (.iload_n 2, 1) := by decide +kernel
theorem dX5_leak_50 : decode cX5_leak 50 = .ok (.iastore, 1) := by decide +kernel
theorem dX5_leak_51 : decode cX5_leak 51 = .ok (.iload_n 3, 1) := by decide +kernel
theorem dX5_leak_52 : decode cX5_leak 52 = .ok (.ireturn, 1) := by decide +kernel
theorem dX5_leach_0 : decode cX5_leach 0 = .ok (.aload_n 0, 1) := by decide +kernel
theorem dX5_leach_1 : decode cX5_leach 1 = .ok (.iload_n 1, 1) := by decide +kernel
theorem dX5_leach_2 : decode cX5_leach 2 = .ok (.invokevirtual 140, 3) := by decide +kernel
theorem dX5_leach_5 : decode cX5_leach 5 = .ok (.istore_n 3, 1) := by decide +kernel
theorem dX5_leach_6 : decode cX5_leach 6 = .ok (.iload_n 2, 1) := by decide +kernel
theorem dX5_leach_7 : decode cX5_leach 7 = .ok (.iconst 1, 1) := by decide +kernel
theorem dX5_leach_8 : decode cX5_leach 8 = .ok (.ldc 131, 2) := by decide +kernel
theorem dX5_leach_10 : decode cX5_leach 10 = .ok (.invokestatic 108, 3) := by decide +kernel
theorem dX5_leach_13 : decode cX5_leach 13 = .ok (.istore 4, 2) := by decide +kernel
theorem dX5_leach_15 : decode cX5_leach 15 = .ok (.iload_n 3, 1) := by decide +kernel
theorem dX5_leach_16 : decode cX5_leach 16 = .ok (.ifCond .eq 44, 3) := by decide +kernel
theorem dX5_leach_19 : decode cX5_leach 19 = .ok (.iload 4, 2) := by decide +kernel
theorem dX5_leach_21 : decode cX5_leach 21 = .ok (.ifCond .eq 39, 3) := by decide +kernel
theorem dX5_leach_24 : decode cX5_leach 24 = .ok (.aload_n 0, 1) := by decide +kernel
theorem dX5_leach_25 : decode cX5_leach 25 = .ok (.getfield 7, 3) := by decide +kernel
theorem dX5_leach_28 : decode cX5_leach 28 = .ok (.iload_n 1, 1) := by decide +kernel
theorem dX5_leach_29 : decode cX5_leach 29 = .ok (.iaload, 1) := by decide +kernel
theorem dX5_leach_30 : decode cX5_leach 30 = .ok (.iconst 1, 1) := by decide +kernel
theorem dX5_leach_31 : decode cX5_leach 31 = .ok (.if_icmp .ne 29, 3) := by decide +kernel
theorem dX5_leach_34 : decode cX5_leach 34 = .ok (.aload_n 0, 1) := by decide +kernel
theorem dX5_leach_35 : decode cX5_leach 35 = .ok (.getfield 19, 3) := by decide +kernel
theorem dX5_leach_38 : decode cX5_leach 38 = .ok (.iload_n 1, 1) := by decide +kernel
theorem dX5_leach_39 : decode cX5_leach 39 = .ok (.iaload, 1) := by decide +kernel
theorem dX5_leach_40 : decode cX5_leach 40 = .ok (.ifCond .ne 20, 3) := by decide +kernel
theorem dX5_leach_43 : decode cX5_leach 43 = .ok (.aload_n 0, 1) := by decide +kernel
theorem dX5_leach_44 : decode cX5_leach 44 = .ok (.getfield 13, 3) := by decide +kernel
theorem dX5_leach_47 : decode cX5_leach 47 = .ok (.iload_n 1, 1) := by decide +kernel
theorem dX5_leach_48 : decode cX5_leach 48 = .ok (.iaload, 1) := by decide +kernel
theorem dX5_leach_49 : decode cX5_leach 49 = .ok (.iload_n 2, 1) := by decide +kernel
theorem dX5_leach_50 : decode cX5_leach 50 = .ok (.iadd, 1) := by decide +kernel
theorem dX5_leach_51 : decode cX5_leach 51 = .ok (.ldc 131, 2) := by decide +kernel
theorem dX5_leach_53 : decode cX5_leach 53 = .ok (.if_icmp .gt 7, 3) := by decide +kernel
theorem dX5_leach_56 : decode cX5_leach 56 = .ok (.iconst 1, 1) := by decide +kernel
theorem dX5_leach_57 : decode cX5_leach 57 = .ok (.goto 4, 3) := by decide +kernel
theorem dX5_leach_60 : decode cX5_leach 60 = .ok (.iconst 0, 1) := by decide +kernel
theorem dX5_leach_61 : decode cX5_leach 61 = .ok (.istore 5, 2) := by decide +kernel
theorem dX5_leach_63 : decode cX5_leach 63 = .ok (.aload_n 0, 1) := by decide +kernel
theorem dX5_leach_64 : decode cX5_leach 64 = .ok (.iload_n 3, 1) := by decide +kernel
theorem dX5_leach_65 : decode cX5_leach 65 = .ok (.ifCond .ne 7, 3) := by decide +kernel
theorem dX5_leach_68 : decode cX5_leach 68 = .ok (.iconst 1, 1) := by decide +kernel
theorem dX5_leach_69 : decode cX5_leach 69 = .ok (.goto 22, 3) := by decide +kernel
theorem dX5_leach_72 : decode cX5_leach 72 = .ok (.iload 4, 2) := by decide +kernel
theorem dX5_leach_74 : decode cX5_leach 74 = .ok (.ifCond .ne 7, 3) := by decide +kernel
theorem dX5_leach_77 : decode cX5_leach 77 = .ok (.iconst 2, 1) := by decide +kernel
theorem dX5_leach_78 : decode cX5_leach 78 = .ok (.goto 13, 3) := by decide +kernel
theorem dX5_leach_81 : decode cX5_leach 81 = .ok (.iload 5, 2) := by decide +kernel
theorem dX5_leach_83 : decode cX5_leach 83 = .ok (.ifCond .eq 7, 3) := by decide +kernel
theorem dX5_leach_86 : decode cX5_leach 86 = .ok (.iconst 0, 1) := by decide +kernel
theorem dX5_leach_87 : decode cX5_leach 87 = .ok (.goto 4, 3) := by decide +kernel
theorem dX5_leach_90 : decode cX5_leach 90 = .ok (.iconst 3, 1) := by decide +kernel
theorem dX5_leach_91 : decode cX5_leach 91 = .ok (.invokevirtual 133, 3) := by decide +kernel
theorem dX5_leach_94 : decode cX5_leach 94 = .ok (.ifCond .ne 5, 3) := by decide +kernel
theorem dX5_leach_97 : decode cX5_leach 97 = .ok (.iconst 0, 1) := by decide +kernel
theorem dX5_leach_98 : decode cX5_leach 98 = .ok (.ireturn, 1) := by decide +kernel
theorem dX5_leach_99 : decode cX5_leach 99 = .ok (.aload_n 0, 1) := by decide +kernel
theorem dX5_leach_100 : decode cX5_leach 100 = .ok (.getfield 13, 3) := by decide +kernel
theorem dX5_leach_103 : decode cX5_leach 103 = .ok (.iload_n 1, 1) := by decide +kernel
theorem dX5_leach_104 : decode cX5_leach 104 = .ok (.dup2, 1) := by decide +kernel
theorem dX5_leach_105 : decode cX5_leach 105 = .ok (.iaload, 1) := by decide +kernel
theorem dX5_leach_106 : decode cX5_leach 106 = .ok (.iload_n 2, 1) := by decide +kernel
theorem dX5_leach_107 : decode cX5_leach 107 = .ok (.iadd, 1) := by decide +kernel
theorem dX5_leach_108 : decode cX5_leach 108 = .ok (.iastore, 1) := by decide +kernel
theorem dX5_leach_109 : decode cX5_leach 109 = .ok (.aload_n 0, 1) := by decide +kernel
theorem dX5_leach_110 : decode cX5_leach 110 = .ok (.getfield 13, 3) := by decide +kernel
theorem dX5_leach_113 : decode cX5_leach 113 = .ok (.iload_n 1, 1) := by decide +kernel
theorem dX5_leach_114 : decode cX5_leach 114 = .ok (.iaload, 1) := by decide +kernel
theorem dX5_leach_115 : decode cX5_leach 115 = .ok (.ireturn, 1) := by decide +kernel
theorem dX5_heat_0 : decode cX5_heat 0 = .ok (.aload_n 0, 1) := by decide +kernel
theorem dX5_heat_1 : decode cX5_heat 1 = .ok (.iload_n 1, 1) := by decide +kernel
theorem dX5_heat_2 : decode cX5_heat 2 = .ok (.iconst 0, 1) := by decide +kernel
theorem dX5_heat_3 : decode cX5_heat 3 = .ok (.sipush 20000, 3) := by decide +kernel
theorem dX5_heat_6 : decode cX5_heat 6 = .ok (.invokestatic 108, 3) := by decide +kernel
theorem dX5_heat_9 : decode cX5_heat 9 = .ok (.ifCond .eq 7, 3) := by decide +kernel
theorem dX5_heat_12 : decode cX5_heat 12 = .ok (.iconst 0, 1) := by decide +kernel
theorem dX5_heat_13 : decode cX5_heat 13 = .ok (.goto 4, 3) := by decide +kernel
theorem dX5_heat_16 : decode cX5_heat 16 = .ok (.iconst 1, 1) := by decide +kernel
theorem dX5_heat_17 : decode cX5_heat 17 = .ok (.invokevirtual 133, 3) := by decide +kernel
theorem dX5_heat_20 : decode cX5_heat 20 = .ok (.ifCond .ne 5, 3) := by decide +kernel
theorem dX5_heat_23 : decode cX5_heat 23 = .ok (.iconst 0, 1) := by decide +kernel
theorem dX5_heat_24 : decode cX5_heat 24 = .ok (.ireturn, 1) := by decide +kernel
theorem dX5_heat_25 : decode cX5_heat 25 = .ok (.aload_n 0, 1) := by decide +kernel
theorem dX5_heat_26 : decode cX5_heat 26 = .ok (.getfield 47, 3) := by decide +kernel
theorem dX5_heat_29 : decode cX5_heat 29 = .ok (.istore_n 2, 1) := by decide +kernel
theorem dX5_heat_30 : decode cX5_heat 30 = .ok (.aload_n 0, 1) := by decide +kernel
theorem dX5_heat_31 : decode cX5_heat 31 = .ok (.iload_n 1, 1) := by decide +kernel
theorem dX5_heat_32 : decode cX5_heat 32 = .ok (.putfield 47, 3) := by decide +kernel
theorem dX5_heat_35 : decode cX5_heat 35 = .ok (.iload_n 2, 1) := by decide +kernel
theorem dX5_heat_36 : decode cX5_heat 36 = .ok (.ireturn, 1) := by decide +kernel
theorem dX5_customer_0 : decode cX5_customer 0 = .ok (.iload_n 1, 1) := by decide +kernel
theorem dX5_customer_1 : decode cX5_customer 1 = .ok (.iconst 1, 1) := by decide +kernel
theorem dX5_customer_2 : decode cX5_customer 2 = .ok (.ldc 132, 2) := by decide +kernel
theorem dX5_customer_4 : decode cX5_customer 4 = .ok (.invokestatic 108, 3) := by decide +kernel
theorem dX5_customer_7 : decode cX5_customer 7 = .ok (.ifCond .eq 37, 3) := by decide +kernel
theorem dX5_customer_10 : decode cX5_customer 10 = .ok (.iload_n 2, 1) := by decide +kernel
theorem dX5_customer_11 : decode cX5_customer 11 = .ok (.iconst 0, 1) := by decide +kernel
theorem dX5_customer_12 : decode cX5_customer 12 = .ok (.ldc 131, 2) := by decide +kernel
theorem dX5_customer_14 : decode cX5_customer 14 = .ok (.invokestatic 108, 3) := by decide +kernel
theorem dX5_customer_17 : decode cX5_customer 17 = .ok (.ifCond .eq 27, 3) := by decide +kernel
theorem dX5_customer_20 : decode cX5_customer 20 = .ok (.iload_n 3, 1) := by decide +kernel
theorem dX5_customer_21 : decode cX5_customer 21 = .ok (.iconst 0, 1) := by decide +kernel
theorem dX5_customer_22 : decode cX5_customer 22 = .ok (.ldc 131, 2) := by decide +kernel
theorem dX5_customer_24 : decode cX5_customer 24 = .ok (.invokestatic 108, 3) := by decide +kernel
theorem dX5_customer_27 : decode cX5_customer 27 = .ok (.ifCond .eq 17, 3) := by decide +kernel
theorem dX5_customer_30 : decode cX5_customer 30 = .ok (.iload 4, 2) := by decide +kernel
theorem dX5_customer_32 : decode cX5_customer 32 = .ok (.iconst 0, 1) := by decide +kernel
theorem dX5_customer_33 : decode cX5_customer 33 = .ok (.iconst 3, 1) := by decide +kernel
theorem dX5_customer_34 : decode cX5_customer 34 = .ok (.invokestatic 108, 3) := by decide +kernel
theorem dX5_customer_37 : decode cX5_customer 37 = .ok (.ifCond .eq 7, 3) := by decide +kernel
theorem dX5_customer_40 : decode cX5_customer 40 = .ok (.iconst 1, 1) := by decide +kernel
theorem dX5_customer_41 : decode cX5_customer 41 = .ok (.goto 4, 3) := by decide +kernel
theorem dX5_customer_44 : decode cX5_customer 44 = .ok (.iconst 0, 1) := by decide +kernel
theorem dX5_customer_45 : decode cX5_customer 45 = .ok (.istore 5, 2) := by decide +kernel
theorem dX5_customer_47 : decode cX5_customer 47 = .ok (.aload_n 0, 1) := by decide +kernel
theorem dX5_customer_48 : decode cX5_customer 48 = .ok (.iload 5, 2) := by decide +kernel
theorem dX5_customer_50 : decode cX5_customer 50 = .ok (.ifCond .ne 7, 3) := by decide +kernel
theorem dX5_customer_53 : decode cX5_customer 53 = .ok (.iconst 1, 1) := by decide +kernel
theorem dX5_customer_54 : decode cX5_customer 54 = .ok (.goto 17, 3) := by decide +kernel
theorem dX5_customer_57 : decode cX5_customer 57 = .ok (.aload_n 0, 1) := by decide +kernel
theorem dX5_customer_58 : decode cX5_customer 58 = .ok (.getfield 112, 3) := by decide +kernel
theorem dX5_customer_61 : decode cX5_customer 61 = .ok (.bipush 6, 2) := by decide +kernel
theorem dX5_customer_63 : decode cX5_customer 63 = .ok (.if_icmp .ne 7, 3) := by decide +kernel
theorem dX5_customer_66 : decode cX5_customer 66 = .ok (.iconst 2, 1) := by decide +kernel
theorem dX5_customer_67 : decode cX5_customer 67 = .ok (.goto 4, 3) := by decide +kernel
theorem dX5_customer_70 : decode cX5_customer 70 = .ok (.iconst 0, 1) := by decide +kernel
theorem dX5_customer_71 : decode cX5_customer 71 = .ok (.invokevirtual 133, 3) := by decide +kernel
theorem dX5_customer_74 : decode cX5_customer 74 = .ok (.ifCond .ne 5, 3) := by decide +kernel
theorem dX5_customer_77 : decode cX5_customer 77 = .ok (.iconst 0, 1) := by decide +kernel
theorem dX5_customer_78 : decode cX5_customer 78 = .ok (.ireturn, 1) := by decide +kernel
theorem dX5_customer_79 : decode cX5_customer 79 = .ok (.aload_n 0, 1) := by decide +kernel
theorem dX5_customer_80 : decode cX5_customer 80 = .ok (.getfield 51, 3) := by decide +kernel
theorem dX5_customer_83 : decode cX5_customer 83 = .ok (.aload_n 0, 1) := by decide +kernel
theorem dX5_customer_84 : decode cX5_customer 84 = .ok (.getfield 112, 3) := by decide +kernel
theorem dX5_customer_87 : decode cX5_customer 87 = .ok (.iload_n 1, 1) := by decide +kernel
theorem dX5_customer_88 : decode cX5_customer 88 = .ok (.iastore, 1) := by decide +kernel
theorem dX5_customer_89 : decode cX5_customer 89 = .ok (.aload_n 0, 1) := by decide +kernel
theorem dX5_customer_90 : decode cX5_customer 90 = .ok (.getfield 54, 3) := by decide +kernel
theorem dX5_customer_93 : decode cX5_customer 93 = .ok (.aload_n 0, 1) := by decide +kernel
theorem dX5_customer_94 : decode cX5_customer 94 = .ok (.getfield 112, 3) := by decide +kernel
theorem dX5_customer_97 : decode cX5_customer 97 = .ok (.iload_n 2, 1) := by decide +kernel
theorem dX5_customer_98 : decode cX5_customer 98 = .ok (.iastore, 1) := by decide +kernel
theorem dX5_customer_99 : decode cX5_customer 99 = .ok (.aload_n 0, 1) := by decide +kernel
theorem dX5_customer_100 : decode cX5_customer 100 = .ok (.getfield 57, 3) := by decide +kernel
theorem dX5_customer_103 : decode cX5_customer 103 = .ok (.aload_n 0, 1) := by decide +kernel
theorem dX5_customer_104 : decode cX5_customer 104 = .ok (.getfield 112, 3) := by decide +kernel
theorem dX5_customer_107 : decode cX5_customer 107 = .ok (.iload_n 3, 1) := by decide +kernel
theorem dX5_customer_108 : decode cX5_customer 108 = .ok (.iastore, 1) := by decide +kernel
theorem dX5_customer_109 : decode cX5_customer 109 = .ok (.aload_n 0, 1) := by decide +kernel
theorem dX5_customer_110 : decode cX5_customer 110 = .ok (.getfield 60, 3) := by decide +kernel
theorem dX5_customer_113 : decode cX5_customer 113 = .ok (.aload_n 0, 1) := by decide +kernel
theorem dX5_customer_114 : decode cX5_customer 114 = .ok (.getfield 112, 3) := by decide +kernel
theorem dX5_customer_117 : decode cX5_customer 117 = .ok (.iload 4, 2) := by decide +kernel
theorem dX5_customer_119 : decode cX5_customer 119 = .ok (.iastore, 1) := by decide +kernel
theorem dX5_customer_120 : decode cX5_customer 120 = .ok (.aload_n 0, 1) := by decide +kernel
theorem dX5_customer_121 : decode cX5_customer 121 = .ok (.dup, 1) := by decide +kernel
theorem dX5_customer_122 : decode cX5_customer 122 = .ok (.getfield 112, 3) := by decide +kernel
theorem dX5_customer_125 : decode cX5_customer 125 = .ok (.iconst 1, 1) := by decide +kernel
theorem dX5_customer_126 : decode cX5_customer 126 = .ok (.iadd, 1) := by decide +kernel
theorem dX5_customer_127 : decode cX5_customer 127 = .ok (.putfield 112, 3) := by decide +kernel
theorem dX5_customer_130 : decode cX5_customer 130 = .ok (.aload_n 0, 1) := by decide +kernel
theorem dX5_customer_131 : decode cX5_customer 131 = .ok (.getfield 112, 3) := by decide +kernel
theorem dX5_customer_134 : decode cX5_customer 134 = .ok (.iconst 1, 1) := by decide +kernel
theorem dX5_customer_135 : decode cX5_customer 135 = .ok (.isub, 1) := by decide +kernel
theorem dX5_customer_136 : decode cX5_customer 136 = .ok (.ireturn, 1) := by decide +kernel
theorem dX5_rateWith_0 : decode cX5_rateWith 0 = .ok (.iload_n 3, 1) := by decide +kernel
theorem dX5_rateWith_1 : decode cX5_rateWith 1 = .ok (.ifCond .eq 42, 3) := by decide +kernel
theorem dX5_rateWith_4 : decode cX5_rateWith 4 = .ok (.ldc2_w 147, 3) := by decide +kernel
theorem dX5_rateWith_7 : decode cX5_rateWith 7 = .ok (.iload_n 2, 1) := by decide +kernel
theorem dX5_rateWith_8 : decode cX5_rateWith 8 = .ok (.i2l, 1) := by decide +kernel
theorem dX5_rateWith_9 : decode cX5_rateWith 9 = .ok (.lmul, 1) := by decide +kernel
theorem dX5_rateWith_10 : decode cX5_rateWith 10 = .ok (.ldc2_w 149, 3) := by decide +kernel
theorem dX5_rateWith_13 : decode cX5_rateWith 13 = .ok (.aload_n 0, 1) := by decide +kernel
theorem dX5_rateWith_14 : decode cX5_rateWith 14 = .ok (.getfield 51, 3) := by decide +kernel
theorem dX5_rateWith_17 : decode cX5_rateWith 17 = .ok (.iload_n 1, 1) := by decide +kernel
theorem dX5_rateWith_18 : decode cX5_rateWith 18 = .ok (.iaload, 1) := by decide +kernel
theorem dX5_rateWith_19 : decode cX5_rateWith 19 = .ok (.i2l, 1) := by decide +kernel
theorem dX5_rateWith_20 : decode cX5_rateWith 20 = .ok (.lmul, 1) := by decide +kernel
theorem dX5_rateWith_21 : decode cX5_rateWith 21 = .ok (.lcmp, 1) := by decide +kernel
theorem dX5_rateWith_22 : decode cX5_rateWith 22 = .ok (.ifCond .le 14, 3) := by decide +kernel
theorem dX5_rateWith_25 : decode cX5_rateWith 25 = .ok (.aload_n 0, 1) := by decide +kernel
theorem dX5_rateWith_26 : decode cX5_rateWith 26 = .ok (.getfield 54, 3) := by decide +kernel
theorem dX5_rateWith_29 : decode cX5_rateWith 29 = .ok (.iload_n 1, 1) := by decide +kernel
theorem dX5_rateWith_30 : decode cX5_rateWith 30 = .ok (.iaload, 1) := by decide +kernel
theorem dX5_rateWith_31 : decode cX5_rateWith 31 = .ok (.iconst 2, 1) := by decide +kernel
theorem dX5_rateWith_32 : decode cX5_rateWith 32 = .ok (.idiv, 1) := by decide +kernel
theorem dX5_rateWith_33 : decode cX5_rateWith 33 = .ok (.goto 9, 3) := by decide +kernel
theorem dX5_rateWith_36 : decode cX5_rateWith 36 = .ok (.aload_n 0, 1) := by decide +kernel
theorem dX5_rateWith_37 : decode cX5_rateWith 37 = .ok (.getfield 54, 3) := by decide +kernel
theorem dX5_rateWith_40 : decode cX5_rateWith 40 = .ok (.iload_n 1, 1) := by decide +kernel
theorem dX5_rateWith_41 : decode cX5_rateWith 41 = .ok (.iaload, 1) := by decide +kernel
theorem dX5_rateWith_42 : decode cX5_rateWith 42 = .ok (.ireturn, 1) := by decide +kernel
theorem dX5_rateWith_43 : decode cX5_rateWith 43 = .ok (.ldc2_w 147, 3) := by decide +kernel
theorem dX5_rateWith_46 : decode cX5_rateWith 46 = .ok (.iload_n 2, 1) := by decide +kernel
theorem dX5_rateWith_47 : decode cX5_rateWith 47 = .ok (.i2l, 1) := by decide +kernel
theorem dX5_rateWith_48 : decode cX5_rateWith 48 = .ok (.lmul, 1) := by decide +kernel
theorem dX5_rateWith_49 : decode cX5_rateWith 49 = .ok (.aload_n 0, 1) := by decide +kernel
theorem dX5_rateWith_50 : decode cX5_rateWith 50 = .ok (.getfield 51, 3) := by decide +kernel
theorem dX5_rateWith_53 : decode cX5_rateWith 53 = .ok (.iload_n 1, 1) := by decide +kernel
theorem dX5_rateWith_54 : decode cX5_rateWith 54 = .ok (.iaload, 1) := by decide +kernel
theorem dX5_rateWith_55 : decode cX5_rateWith 55 = .ok (.i2l, 1) := by decide +kernel
theorem dX5_rateWith_56 : decode cX5_rateWith 56 = .ok (.lcmp, 1) := by decide +kernel
theorem dX5_rateWith_57 : decode cX5_rateWith 57 = .ok (.ifCond .ge 14, 3) := by decide +kernel
theorem dX5_rateWith_60 : decode cX5_rateWith 60 = .ok (.aload_n 0, 1) := by decide +kernel
theorem dX5_rateWith_61 : decode cX5_rateWith 61 = .ok (.getfield 57, 3) := by decide +kernel
theorem dX5_rateWith_64 : decode cX5_rateWith 64 = .ok (.iload_n 1, 1) := by decide +kernel
theorem dX5_rateWith_65 : decode cX5_rateWith 65 = .ok (.iaload, 1) := by decide +kernel
theorem dX5_rateWith_66 : decode cX5_rateWith 66 = .ok (.iconst 2, 1) := by decide +kernel
theorem dX5_rateWith_67 : decode cX5_rateWith 67 = .ok (.idiv, 1) := by decide +kernel
theorem dX5_rateWith_68 : decode cX5_rateWith 68 = .ok (.goto 9, 3) := by decide +kernel
theorem dX5_rateWith_71 : decode cX5_rateWith 71 = .ok (.aload_n 0, 1) := by decide +kernel
theorem dX5_rateWith_72 : decode cX5_rateWith 72 = .ok (.getfield 57, 3) := by decide +kernel
theorem dX5_rateWith_75 : decode cX5_rateWith 75 = .ok (.iload_n 1, 1) := by decide +kernel
theorem dX5_rateWith_76 : decode cX5_rateWith 76 = .ok (.iaload, 1) := by decide +kernel
theorem dX5_rateWith_77 : decode cX5_rateWith 77 = .ok (.ireturn, 1) := by decide +kernel
theorem dX5_nominate_0 : decode cX5_nominate 0 = .ok (.iload_n 2, 1) := by decide +kernel
theorem dX5_nominate_1 : decode cX5_nominate 1 = .ok (.aload_n 0, 1) := by decide +kernel
theorem dX5_nominate_2 : decode cX5_nominate 2 = .ok (.getfield 151, 3) := by decide +kernel
theorem dX5_nominate_5 : decode cX5_nominate 5 = .ok (.iconst 2, 1) := by decide +kernel
theorem dX5_nominate_6 : decode cX5_nominate 6 = .ok (.iadd, 1) := by decide +kernel
theorem dX5_nominate_7 : decode cX5_nominate 7 = .ok (.if_icmp .lt 29, 3) := by decide +kernel
theorem dX5_nominate_10 : decode cX5_nominate 10 = .ok (.iload_n 2, 1) := by decide +kernel
theorem dX5_nominate_11 : decode cX5_nominate 11 = .ok (.aload_n 0, 1) := by decide +kernel
theorem dX5_nominate_12 : decode cX5_nominate 12 = .ok (.getfield 151, 3) := by decide +kernel
theorem dX5_nominate_15 : decode cX5_nominate 15 = .ok (.bipush 60, 2) := by decide +kernel
theorem dX5_nominate_17 : decode cX5_nominate 17 = .ok (.iadd, 1) := by decide +kernel
theorem dX5_nominate_18 : decode cX5_nominate 18 = .ok (.if_icmp .gt 18, 3) := by decide +kernel
theorem dX5_nominate_21 : decode cX5_nominate 21 = .ok (.iload_n 3, 1) := by decide +kernel
theorem dX5_nominate_22 : decode cX5_nominate 22 = .ok (.ldc 154, 2) := by decide +kernel
theorem dX5_nominate_24 : decode cX5_nominate 24 = .ok (.ldc 132, 2) := by decide +kernel
theorem dX5_nominate_26 : decode cX5_nominate 26 = .ok (.invokestatic 108, 3) := by decide +kernel
theorem dX5_nominate_29 : decode cX5_nominate 29 = .ok (.ifCond .eq 7, 3) := by decide +kernel
theorem dX5_nominate_32 : decode cX5_nominate 32 = .ok (.iconst 1, 1) := by decide +kernel
theorem dX5_nominate_33 : decode cX5_nominate 33 = .ok (.goto 4, 3) := by decide +kernel
theorem dX5_nominate_36 : decode cX5_nominate 36 = .ok (.iconst 0, 1) := by decide +kernel
theorem dX5_nominate_37 : decode cX5_nominate 37 = .ok (.istore 4, 2) := by decide +kernel
theorem dX5_nominate_39 : decode cX5_nominate 39 = .ok (.aload_n 0, 1) := by decide +kernel
theorem dX5_nominate_40 : decode cX5_nominate 40 = .ok (.aload_n 0, 1) := by decide +kernel
theorem dX5_nominate_41 : decode cX5_nominate 41 = .ok (.iload_n 1, 1) := by decide +kernel
theorem dX5_nominate_42 : decode cX5_nominate 42 = .ok (.invokevirtual 155, 3) := by decide +kernel
theorem dX5_nominate_45 : decode cX5_nominate 45 = .ok (.ifCond .ne 7, 3) := by decide +kernel
theorem dX5_nominate_48 : decode cX5_nominate 48 = .ok (.iconst 1, 1) := by decide +kernel
theorem dX5_nominate_49 : decode cX5_nominate 49 = .ok (.goto 13, 3) := by decide +kernel
theorem dX5_nominate_52 : decode cX5_nominate 52 = .ok (.iload 4, 2) := by decide +kernel
theorem dX5_nominate_54 : decode cX5_nominate 54 = .ok (.ifCond .eq 7, 3) := by decide +kernel
theorem dX5_nominate_57 : decode cX5_nominate 57 = .ok (.iconst 0, 1) := by decide +kernel
theorem dX5_nominate_58 : decode cX5_nominate 58 = .ok (.goto 4, 3) := by decide +kernel
theorem dX5_nominate_61 : decode cX5_nominate 61 = .ok (.iconst 2, 1) := by decide +kernel
theorem dX5_nominate_62 : decode cX5_nominate 62 = .ok (.invokevirtual 133, 3) := by decide +kernel
theorem dX5_nominate_65 : decode cX5_nominate 65 = .ok (.ifCond .ne 5, 3) := by decide +kernel
theorem dX5_nominate_68 : decode cX5_nominate 68 = .ok (.iconst 0, 1) := by decide +kernel
theorem dX5_nominate_69 : decode cX5_nominate 69 = .ok (.ireturn, 1) := by decide +kernel
theorem dX5_nominate_70 : decode cX5_nominate 70 = .ok (.bipush 64, 2) := by decide +kernel
theorem dX5_nominate_72 : decode cX5_nominate 72 = .ok (.iload_n 1, 1) := by decide +kernel
theorem dX5_nominate_73 : decode cX5_nominate 73 = .ok (.imul, 1) := by decide +kernel
theorem dX5_nominate_74 : decode cX5_nominate 74 = .ok (.iload_n 2, 1) := by decide +kernel
theorem dX5_nominate_75 : decode cX5_nominate 75 = .ok (.bipush 64, 2) := by decide +kernel
theorem dX5_nominate_77 : decode cX5_nominate 77 = .ok (.irem, 1) := by decide +kernel
theorem dX5_nominate_78 : decode cX5_nominate 78 = .ok (.iadd, 1) := by decide +kernel
theorem dX5_nominate_79 : decode cX5_nominate 79 = .ok (.istore 5, 2) := by decide +kernel
theorem dX5_nominate_81 : decode cX5_nominate 81 = .ok (.aload_n 0, 1) := by decide +kernel
theorem dX5_nominate_82 : decode cX5_nominate 82 = .ok (.getfield 75, 3) := by decide +kernel
theorem dX5_nominate_85 : decode cX5_nominate 85 = .ok (.iload 5, 2) := by decide +kernel
theorem dX5_nominate_87 : decode cX5_nominate 87 = .ok (.iaload, 1) := by decide +kernel
theorem dX5_nominate_88 : decode cX5_nominate 88 = .ok (.istore 6, 2) := by decide +kernel
theorem dX5_nominate_90 : decode cX5_nominate 90 = .ok (.aload_n 0, 1) := by decide +kernel
theorem dX5_nominate_91 : decode cX5_nominate 91 = .ok (.getfield 75, 3) := by decide +kernel
theorem dX5_nominate_94 : decode cX5_nominate 94 = .ok (.iload 5, 2) := by decide +kernel
theorem dX5_nominate_96 : decode cX5_nominate 96 = .ok (.iload_n 3, 1) := by decide +kernel
theorem dX5_nominate_97 : decode cX5_nominate 97 = .ok (.iastore, 1) := by decide +kernel
theorem dX5_nominate_98 : decode cX5_nominate 98 = .ok (.iload 6, 2) := by decide +kernel
theorem dX5_nominate_100 : decode cX5_nominate 100 = .ok (.ireturn, 1) := by decide +kernel
theorem dX5_transfer_0 : decode cX5_transfer 0 = .ok (.aload_n 0, 1) := by decide +kernel
theorem dX5_transfer_1 : decode cX5_transfer 1 = .ok (.iload_n 1, 1) := by decide +kernel
theorem dX5_transfer_2 : decode cX5_transfer 2 = .ok (.invokevirtual 155, 3) := by decide +kernel
theorem dX5_transfer_5 : decode cX5_transfer 5 = .ok (.ifCond .eq 15, 3) := by decide +kernel
theorem dX5_transfer_8 : decode cX5_transfer 8 = .ok (.aload_n 0, 1) := by decide +kernel
theorem dX5_transfer_9 : decode cX5_transfer 9 = .ok (.iload_n 2, 1) := by decide +kernel
theorem dX5_transfer_10 : decode cX5_transfer 10 = .ok (.invokevirtual 155, 3) := by decide +kernel
theorem dX5_transfer_13 : decode cX5_transfer 13 = .ok (.ifCond .eq 7, 3) := by decide +kernel
theorem dX5_transfer_16 : decode cX5_transfer 16 = .ok (.iconst 1, 1) := by decide +kernel
theorem dX5_transfer_17 : decode cX5_transfer 17 = .ok (.goto 4, 3) := by decide +kernel
theorem dX5_transfer_20 : decode cX5_transfer 20 = .ok (.iconst 0, 1) := by decide +kernel
theorem dX5_transfer_21 : decode cX5_transfer 21 = .ok (.istore 4, 2) := by decide +kernel
theorem dX5_transfer_23 : decode cX5_transfer 23 = .ok (.iload_n 1, 1) := by decide +kernel
theorem dX5_transfer_24 : decode cX5_transfer 24 = .ok (.iload_n 2, 1) := by decide +kernel
theorem dX5_transfer_25 : decode cX5_transfer 25 = .ok (.if_icmp .eq 17, 3) := by decide +kernel
theorem dX5_transfer_28 : decode cX5_transfer 28 = .ok (.iload_n 3, 1) := by decide +kernel
theorem dX5_transfer_29 : decode cX5_transfer 29 = .ok (.iconst 1, 1) := by decide +kernel
theorem dX5_transfer_30 : decode cX5_transfer 30 = .ok (.ldc 132, 2) := by decide +kernel
theorem dX5_transfer_32 : decode cX5_transfer 32 = .ok (.invokestatic 108, 3) := by decide +kernel
theorem dX5_transfer_35 : decode cX5_transfer 35 = .ok (.ifCond .eq 7, 3) := by decide +kernel
theorem dX5_transfer_38 : decode cX5_transfer 38 = .ok (.iconst 1, 1) := by decide +kernel
theorem dX5_transfer_39 : decode cX5_transfer 39 = .ok (.goto 4, 3) := by decide +kernel
theorem dX5_transfer_42 : decode cX5_transfer 42 = .ok (.iconst 0, 1) := by decide +kernel
theorem dX5_transfer_43 : decode cX5_transfer 43 = .ok (.istore 5, 2) := by decide +kernel
theorem dX5_transfer_45 : decode cX5_transfer 45 = .ok (.iload 4, 2) := by decide +kernel
theorem dX5_transfer_47 : decode cX5_transfer 47 = .ok (.ifCond .eq 34, 3) := by decide +kernel
theorem dX5_transfer_50 : decode cX5_transfer 50 = .ok (.aload_n 0, 1) := by decide +kernel
theorem dX5_transfer_51 : decode cX5_transfer 51 = .ok (.getfield 63, 3) := by decide +kernel
theorem dX5_transfer_54 : decode cX5_transfer 54 = .ok (.iload_n 1, 1) := by decide +kernel
theorem dX5_transfer_55 : decode cX5_transfer 55 = .ok (.iaload, 1) := by decide +kernel
theorem dX5_transfer_56 : decode cX5_transfer 56 = .ok (.iload_n 3, 1) := by decide +kernel
theorem dX5_transfer_57 : decode cX5_transfer 57 = .ok (.if_icmp .lt 24, 3) := by decide +kernel
theorem dX5_transfer_60 : decode cX5_transfer 60 = .ok (.aload_n 0, 1) := by decide +kernel
theorem dX5_transfer_61 : decode cX5_transfer 61 = .ok (.getfield 51, 3) := by decide +kernel
theorem dX5_transfer_64 : decode cX5_transfer 64 = .ok (.iload_n 2, 1) := by decide +kernel
theorem dX5_transfer_65 : decode cX5_transfer 65 = .ok (.iaload, 1) := by decide +kernel
theorem dX5_transfer_66 : decode cX5_transfer 66 = .ok (.aload_n 0, 1) := by decide +kernel
theorem dX5_transfer_67 : decode cX5_transfer 67 = .ok (.getfield 63, 3) := by decide +kernel
theorem dX5_transfer_70 : decode cX5_transfer 70 = .ok (.iload_n 2, 1) := by decide +kernel
theorem dX5_transfer_71 : decode cX5_transfer 71 = .ok (.iaload, 1) := by decide +kernel
theorem dX5_transfer_72 : decode cX5_transfer 72 = .ok (.isub, 1) := by decide +kernel
theorem dX5_transfer_73 : decode cX5_transfer 73 = .ok (.iload_n 3, 1) := by decide +kernel
theorem dX5_transfer_74 : decode cX5_transfer 74 = .ok (.if_icmp .lt 7, 3) := by decide +kernel
theorem dX5_transfer_77 : decode cX5_transfer 77 = .ok (.iconst 1, 1) := by decide +kernel
theorem dX5_transfer_78 : decode cX5_transfer 78 = .ok (.goto 4, 3) := by decide +kernel
theorem dX5_transfer_81 : decode cX5_transfer 81 = .ok (.iconst 0, 1) := by decide +kernel
theorem dX5_transfer_82 : decode cX5_transfer 82 = .ok (.istore 6, 2) := by decide +kernel
theorem dX5_transfer_84 : decode cX5_transfer 84 = .ok (.aload_n 0, 1) := by decide +kernel
theorem dX5_transfer_85 : decode cX5_transfer 85 = .ok (.iload 4, 2) := by decide +kernel
theorem dX5_transfer_87 : decode cX5_transfer 87 = .ok (.ifCond .ne 7, 3) := by decide +kernel
theorem dX5_transfer_90 : decode cX5_transfer 90 = .ok (.iconst 1, 1) := by decide +kernel
theorem dX5_transfer_91 : decode cX5_transfer 91 = .ok (.goto 22, 3) := by decide +kernel
theorem dX5_transfer_94 : decode cX5_transfer 94 = .ok (.iload 5, 2) := by decide +kernel
theorem dX5_transfer_96 : decode cX5_transfer 96 = .ok (.ifCond .ne 7, 3) := by decide +kernel
theorem dX5_transfer_99 : decode cX5_transfer 99 = .ok (.iconst 2, 1) := by decide +kernel
theorem dX5_transfer_100 : decode cX5_transfer 100 = .ok (.goto 13, 3) := by decide +kernel
theorem dX5_transfer_103 : decode cX5_transfer 103 = .ok (.iload 6, 2) := by decide +kernel
theorem dX5_transfer_105 : decode cX5_transfer 105 = .ok (.ifCond .eq 7, 3) := by decide +kernel
theorem dX5_transfer_108 : decode cX5_transfer 108 = .ok (.iconst 0, 1) := by decide +kernel
theorem dX5_transfer_109 : decode cX5_transfer 109 = .ok (.goto 4, 3) := by decide +kernel
theorem dX5_transfer_112 : decode cX5_transfer 112 = .ok (.iconst 3, 1) := by decide +kernel
theorem dX5_transfer_113 : decode cX5_transfer 113 = .ok (.invokevirtual 133, 3) := by decide +kernel
theorem dX5_transfer_116 : decode cX5_transfer 116 = .ok (.ifCond .ne 5, 3) := by decide +kernel
theorem dX5_transfer_119 : decode cX5_transfer 119 = .ok (.iconst 0, 1) := by decide +kernel
theorem dX5_transfer_120 : decode cX5_transfer 120 = .ok (.ireturn, 1) := by decide +kernel
theorem dX5_transfer_121 : decode cX5_transfer 121 = .ok (.aload_n 0, 1) := by decide +kernel
theorem dX5_transfer_122 : decode cX5_transfer 122 = .ok (.getfield 63, 3) := by decide +kernel
theorem dX5_transfer_125 : decode cX5_transfer 125 = .ok (.iload_n 1, 1) := by decide +kernel
theorem dX5_transfer_126 : decode cX5_transfer 126 = .ok (.dup2, 1) := by decide +kernel
theorem dX5_transfer_127 : decode cX5_transfer 127 = .ok (.iaload, 1) := by decide +kernel
theorem dX5_transfer_128 : decode cX5_transfer 128 = .ok (.iload_n 3, 1) := by decide +kernel
theorem dX5_transfer_129 : decode cX5_transfer 129 = .ok (.isub, 1) := by decide +kernel
theorem dX5_transfer_130 : decode cX5_transfer 130 = .ok (.iastore, 1) := by decide +kernel
theorem dX5_transfer_131 : decode cX5_transfer 131 = .ok (.aload_n 0, 1) := by decide +kernel
theorem dX5_transfer_132 : decode cX5_transfer 132 = .ok (.getfield 63, 3) := by decide +kernel
theorem dX5_transfer_135 : decode cX5_transfer 135 = .ok (.iload_n 2, 1) := by decide +kernel
theorem dX5_transfer_136 : decode cX5_transfer 136 = .ok (.dup2, 1) := by decide +kernel
theorem dX5_transfer_137 : decode cX5_transfer 137 = .ok (.iaload, 1) := by decide +kernel
theorem dX5_transfer_138 : decode cX5_transfer 138 = .ok (.iload_n 3, 1) := by decide +kernel
theorem dX5_transfer_139 : decode cX5_transfer 139 = .ok (.iadd, 1) := by decide +kernel
theorem dX5_transfer_140 : decode cX5_transfer 140 = .ok (.iastore, 1) := by decide +kernel
theorem dX5_transfer_141 : decode cX5_transfer 141 = .ok (.aload_n 0, 1) := by decide +kernel
theorem dX5_transfer_142 : decode cX5_transfer 142 = .ok (.getfield 63, 3) := by decide +kernel
theorem dX5_transfer_145 : decode cX5_transfer 145 = .ok (.iload_n 2, 1) := by decide +kernel
theorem dX5_transfer_146 : decode cX5_transfer 146 = .ok (.iaload, 1) := by decide +kernel
theorem dX5_transfer_147 : decode cX5_transfer 147 = .ok (.ireturn, 1) := by decide +kernel
theorem dX5_law_0 : decode cX5_law 0 = .ok (.iload_n 1, 1) := by decide +kernel
theorem dX5_law_1 : decode cX5_law 1 = .ok (.aload_n 0, 1) := by decide +kernel
theorem dX5_law_2 : decode cX5_law 2 = .ok (.getfield 151, 3) := by decide +kernel
theorem dX5_law_5 : decode cX5_law 5 = .ok (.sipush 10000, 3) := by decide +kernel
theorem dX5_law_8 : decode cX5_law 8 = .ok (.invokestatic 108, 3) := by decide +kernel
theorem dX5_law_11 : decode cX5_law 11 = .ok (.ifCond .eq 28, 3) := by decide +kernel
theorem dX5_law_14 : decode cX5_law 14 = .ok (.iload_n 2, 1) := by decide +kernel
theorem dX5_law_15 : decode cX5_law 15 = .ok (.iload_n 1, 1) := by decide +kernel
theorem dX5_law_16 : decode cX5_law 16 = .ok (.sipush 10000, 3) := by decide +kernel
theorem dX5_law_19 : decode cX5_law 19 = .ok (.invokestatic 108, 3) := by decide +kernel
theorem dX5_law_22 : decode cX5_law 22 = .ok (.ifCond .eq 17, 3) := by decide +kernel
theorem dX5_law_25 : decode cX5_law 25 = .ok (.iload_n 3, 1) := by decide +kernel
theorem dX5_law_26 : decode cX5_law 26 = .ok (.iconst 0, 1) := by decide +kernel
theorem dX5_law_27 : decode cX5_law 27 = .ok (.ldc 158, 2) := by decide +kernel
theorem dX5_law_29 : decode cX5_law 29 = .ok (.invokestatic 108, 3) := by decide +kernel
theorem dX5_law_32 : decode cX5_law 32 = .ok (.ifCond .eq 7, 3) := by decide +kernel
theorem dX5_law_35 : decode cX5_law 35 = .ok (.iconst 1, 1) := by decide +kernel
theorem dX5_law_36 : decode cX5_law 36 = .ok (.goto 4, 3) := by decide +kernel
theorem dX5_law_39 : decode cX5_law 39 = .ok (.iconst 0, 1) := by decide +kernel
theorem dX5_law_40 : decode cX5_law 40 = .ok (.istore 4, 2) := by decide +kernel
theorem dX5_law_42 : decode cX5_law 42 = .ok (.aload_n 0, 1) := by decide +kernel
theorem dX5_law_43 : decode cX5_law 43 = .ok (.iload 4, 2) := by decide +kernel
theorem dX5_law_45 : decode cX5_law 45 = .ok (.ifCond .ne 7, 3) := by decide +kernel
theorem dX5_law_48 : decode cX5_law 48 = .ok (.iconst 1, 1) := by decide +kernel
theorem dX5_law_49 : decode cX5_law 49 = .ok (.goto 17, 3) := by decide +kernel
theorem dX5_law_52 : decode cX5_law 52 = .ok (.aload_n 0, 1) := by decide +kernel
theorem dX5_law_53 : decode cX5_law 53 = .ok (.getfield 159, 3) := by decide +kernel
theorem dX5_law_56 : decode cX5_law 56 = .ok (.bipush 20, 2) := by decide +kernel
theorem dX5_law_58 : decode cX5_law 58 = .ok (.if_icmp .ne 7, 3) := by decide +kernel
theorem dX5_law_61 : decode cX5_law 61 = .ok (.iconst 2, 1) := by decide +kernel
theorem dX5_law_62 : decode cX5_law 62 = .ok (.goto 4, 3) := by decide +kernel
theorem dX5_law_65 : decode cX5_law 65 = .ok (.iconst 0, 1) := by decide +kernel
theorem dX5_law_66 : decode cX5_law 66 = .ok (.invokevirtual 133, 3) := by decide +kernel
theorem dX5_law_69 : decode cX5_law 69 = .ok (.ifCond .ne 5, 3) := by decide +kernel
theorem dX5_law_72 : decode cX5_law 72 = .ok (.iconst 0, 1) := by decide +kernel
theorem dX5_law_73 : decode cX5_law 73 = .ok (.ireturn, 1) := by decide +kernel
theorem dX5_law_74 : decode cX5_law 74 = .ok (.aload_n 0, 1) := by decide +kernel
theorem dX5_law_75 : decode cX5_law 75 = .ok (.getfield 81, 3) := by decide +kernel
theorem dX5_law_78 : decode cX5_law 78 = .ok (.aload_n 0, 1) := by decide +kernel
theorem dX5_law_79 : decode cX5_law 79 = .ok (.getfield 159, 3) := by decide +kernel
theorem dX5_law_82 : decode cX5_law 82 = .ok (.iload_n 1, 1) := by decide +kernel
theorem dX5_law_83 : decode cX5_law 83 = .ok (.iastore, 1) := by decide +kernel
theorem dX5_law_84 : decode cX5_law 84 = .ok (.aload_n 0, 1) := by decide +kernel
theorem dX5_law_85 : decode cX5_law 85 = .ok (.getfield 84, 3) := by decide +kernel
theorem dX5_law_88 : decode cX5_law 88 = .ok (.aload_n 0, 1) := by decide +kernel
theorem dX5_law_89 : decode cX5_law 89 = .ok (.getfield 159, 3) := by decide +kernel
theorem dX5_law_92 : decode cX5_law 92 = .ok (.iload_n 2, 1) := by decide +kernel
theorem dX5_law_93 : decode cX5_law 93 = .ok (.iastore, 1) := by decide +kernel
theorem dX5_law_94 : decode cX5_law 94 = .ok (.aload_n 0, 1) := by decide +kernel
theorem dX5_law_95 : decode cX5_law 95 = .ok (.getfield 87, 3) := by decide +kernel
theorem dX5_law_98 : decode cX5_law 98 = .ok (.aload_n 0, 1) := by decide +kernel
theorem dX5_law_99 : decode cX5_law 99 = .ok (.getfield 159, 3) := by decide +kernel
theorem dX5_law_102 : decode cX5_law 102 = .ok (.iload_n 3, 1) := by decide +kernel
theorem dX5_law_103 : decode cX5_law 103 = .ok (.iastore, 1) := by decide +kernel
theorem dX5_law_104 : decode cX5_law 104 = .ok (.aload_n 0, 1) := by decide +kernel
theorem dX5_law_105 : decode cX5_law 105 = .ok (.dup, 1) := by decide +kernel
theorem dX5_law_106 : decode cX5_law 106 = .ok (.getfield 159, 3) := by decide +kernel
theorem dX5_law_109 : decode cX5_law 109 = .ok (.iconst 1, 1) := by decide +kernel
theorem dX5_law_110 : decode cX5_law 110 = .ok (.iadd, 1) := by decide +kernel
theorem dX5_law_111 : decode cX5_law 111 = .ok (.putfield 159, 3) := by decide +kernel
theorem dX5_law_114 : decode cX5_law 114 = .ok (.aload_n 0, 1) := by decide +kernel
theorem dX5_law_115 : decode cX5_law 115 = .ok (.getfield 159, 3) := by decide +kernel
theorem dX5_law_118 : decode cX5_law 118 = .ok (.ireturn, 1) := by decide +kernel
theorem dX5_lawNow_0 : decode cX5_lawNow 0 = .ok (.iconst (-1), 1) := by decide +kernel
theorem dX5_lawNow_1 : decode cX5_lawNow 1 = .ok (.istore_n 1, 1) := by decide +kernel
theorem dX5_lawNow_2 : decode cX5_lawNow 2 = .ok (.iconst 0, 1) := by decide +kernel
theorem dX5_lawNow_3 : decode cX5_lawNow 3 = .ok (.istore_n 2, 1) := by decide +kernel
theorem dX5_lawNow_4 : decode cX5_lawNow 4 = .ok (.iload_n 2, 1) := by decide +kernel
theorem dX5_lawNow_5 : decode cX5_lawNow 5 = .ok (.aload_n 0, 1) := by decide +kernel
theorem dX5_lawNow_6 : decode cX5_lawNow 6 = .ok (.getfield 159, 3) := by decide +kernel
theorem dX5_lawNow_9 : decode cX5_lawNow 9 = .ok (.if_icmp .ge 37, 3) := by decide +kernel
theorem dX5_lawNow_12 : decode cX5_lawNow 12 = .ok (.aload_n 0, 1) := by decide +kernel
theorem dX5_lawNow_13 : decode cX5_lawNow 13 = .ok (.getfield 151, 3) := by decide +kernel
theorem dX5_lawNow_16 : decode cX5_lawNow 16 = .ok (.aload_n 0, 1) := by decide +kernel
theorem dX5_lawNow_17 : decode cX5_lawNow 17 = .ok (.getfield 81, 3) := by decide +kernel
theorem dX5_lawNow_20 : decode cX5_lawNow 20 = .ok (.iload_n 2, 1) := by decide +kernel
theorem dX5_lawNow_21 : decode cX5_lawNow 21 = .ok (.iaload, 1) := by decide +kernel
theorem dX5_lawNow_22 : decode cX5_lawNow 22 = .ok (.aload_n 0, 1) := by decide +kernel
theorem dX5_lawNow_23 : decode cX5_lawNow 23 = .ok (.getfield 84, 3) := by decide +kernel
theorem dX5_lawNow_26 : decode cX5_lawNow 26 = .ok (.iload_n 2, 1) := by decide +kernel
theorem dX5_lawNow_27 : decode cX5_lawNow 27 = .ok (.iaload, 1) := by decide +kernel
theorem dX5_lawNow_28 : decode cX5_lawNow 28 = .ok (.invokestatic 108, 3) := by decide +kernel
theorem dX5_lawNow_31 : decode cX5_lawNow 31 = .ok (.ifCond .eq 7, 3) := by decide +kernel
theorem dX5_lawNow_34 : decode cX5_lawNow 34 = .ok (.iload_n 2, 1) := by decide +kernel
theorem dX5_lawNow_35 : decode cX5_lawNow 35 = .ok (.goto 4, 3) := by decide +kernel
theorem dX5_lawNow_38 : decode cX5_lawNow 38 = .ok (.iload_n 1, 1) := by decide +kernel
theorem dX5_lawNow_39 : decode cX5_lawNow 39 = .ok (.istore_n 1, 1) := by decide +kernel
theorem dX5_lawNow_40 : decode cX5_lawNow 40 = .ok (.iinc 2 1, 3) := by decide +kernel
theorem dX5_lawNow_43 : decode cX5_lawNow 43 = .ok (.goto (-39), 3) := by decide +kernel
theorem dX5_lawNow_46 : decode cX5_lawNow 46 = .ok (.iload_n 1, 1) := by decide +kernel
theorem dX5_lawNow_47 : decode cX5_lawNow 47 = .ok (.ireturn, 1) := by decide +kernel
theorem dX5_price_0 : decode cX5_price 0 = .ok (.iload_n 1, 1) := by decide +kernel
theorem dX5_price_1 : decode cX5_price 1 = .ok (.aload_n 0, 1) := by decide +kernel
theorem dX5_price_2 : decode cX5_price 2 = .ok (.getfield 151, 3) := by decide +kernel
theorem dX5_price_5 : decode cX5_price 5 = .ok (.if_icmp .lt 31, 3) := by decide +kernel
theorem dX5_price_8 : decode cX5_price 8 = .ok (.iload_n 1, 1) := by decide +kernel
theorem dX5_price_9 : decode cX5_price 9 = .ok (.aload_n 0, 1) := by decide +kernel
theorem dX5_price_10 : decode cX5_price 10 = .ok (.getfield 151, 3) := by decide +kernel
theorem dX5_price_13 : decode cX5_price 13 = .ok (.bipush 60, 2) := by decide +kernel
theorem dX5_price_15 : decode cX5_price 15 = .ok (.iadd, 1) := by decide +kernel
theorem dX5_price_16 : decode cX5_price 16 = .ok (.if_icmp .gt 20, 3) := by decide +kernel
theorem dX5_price_19 : decode cX5_price 19 = .ok (.iload_n 2, 1) := by decide +kernel
theorem dX5_price_20 : decode cX5_price 20 = .ok (.sipush (-1000), 3) := by decide +kernel
theorem dX5_price_23 : decode cX5_price 23 = .ok (.sipush 1000, 3) := by decide +kernel
theorem dX5_price_26 : decode cX5_price 26 = .ok (.invokestatic 108, 3) := by decide +kernel
theorem dX5_price_29 : decode cX5_price 29 = .ok (.ifCond .eq 7, 3) := by decide +kernel
theorem dX5_price_32 : decode cX5_price 32 = .ok (.iconst 1, 1) := by decide +kernel
theorem dX5_price_33 : decode cX5_price 33 = .ok (.goto 4, 3) := by decide +kernel
theorem dX5_price_36 : decode cX5_price 36 = .ok (.iconst 0, 1) := by decide +kernel
theorem dX5_price_37 : decode cX5_price 37 = .ok (.istore_n 3, 1) := by decide +kernel
theorem dX5_price_38 : decode cX5_price 38 = .ok (.aload_n 0, 1) := by decide +kernel
theorem dX5_price_39 : decode cX5_price 39 = .ok (.iload_n 3, 1) := by decide +kernel
theorem dX5_price_40 : decode cX5_price 40 = .ok (.ifCond .eq 7, 3) := by decide +kernel
theorem dX5_price_43 : decode cX5_price 43 = .ok (.iconst 0, 1) := by decide +kernel
theorem dX5_price_44 : decode cX5_price 44 = .ok (.goto 4, 3) := by decide +kernel
theorem dX5_price_47 : decode cX5_price 47 = .ok (.iconst 1, 1) := by decide +kernel
theorem dX5_price_48 : decode cX5_price 48 = .ok (.invokevirtual 133, 3) := by decide +kernel
theorem dX5_price_51 : decode cX5_price 51 = .ok (.ifCond .ne 5, 3) := by decide +kernel
theorem dX5_price_54 : decode cX5_price 54 = .ok (.iconst 0, 1) := by decide +kernel
theorem dX5_price_55 : decode cX5_price 55 = .ok (.ireturn, 1) := by decide +kernel
theorem dX5_price_56 : decode cX5_price 56 = .ok (.aload_n 0, 1) := by decide +kernel
theorem dX5_price_57 : decode cX5_price 57 = .ok (.getfield 78, 3) := by decide +kernel
theorem dX5_price_60 : decode cX5_price 60 = .ok (.iload_n 1, 1) := by decide +kernel
theorem dX5_price_61 : decode cX5_price 61 = .ok (.bipush 64, 2) := by decide +kernel
theorem dX5_price_63 : decode cX5_price 63 = .ok (.irem, 1) := by decide +kernel
theorem dX5_price_64 : decode cX5_price 64 = .ok (.iaload, 1) := by decide +kernel
theorem dX5_price_65 : decode cX5_price 65 = .ok (.istore 4, 2) := by decide +kernel
theorem dX5_price_67 : decode cX5_price 67 = .ok (.aload_n 0, 1) := by decide +kernel
theorem dX5_price_68 : decode cX5_price 68 = .ok (.getfield 78, 3) := by decide +kernel
theorem dX5_price_71 : decode cX5_price 71 = .ok (.iload_n 1, 1) := by decide +kernel
theorem dX5_price_72 : decode cX5_price 72 = .ok (.bipush 64, 2) := by decide +kernel
theorem dX5_price_74 : decode cX5_price 74 = .ok (.irem, 1) := by decide +kernel
theorem dX5_price_75 : decode cX5_price 75 = .ok (.iload_n 2, 1) := by decide +kernel
theorem dX5_price_76 : decode cX5_price 76 = .ok (.iastore, 1) := by decide +kernel
theorem dX5_price_77 : decode cX5_price 77 = .ok (.iload 4, 2) := by decide +kernel
theorem dX5_price_79 : decode cX5_price 79 = .ok (.ireturn, 1) := by decide +kernel
theorem dX5_all_0 : decode cX5_all 0 = .ok (.lconst 0, 1) := by decide +kernel
theorem dX5_all_1 : decode cX5_all 1 = .ok (.lstore_n 1, 1) := by decide +kernel
theorem dX5_all_2 : decode cX5_all 2 = .ok (.iconst 0, 1) := by decide +kernel
theorem dX5_all_3 : decode cX5_all 3 = .ok (.istore_n 3, 1) := by decide +kernel
theorem dX5_all_4 : decode cX5_all 4 = .ok (.iload_n 3, 1) := by decide +kernel
theorem dX5_all_5 : decode cX5_all 5 = .ok (.aload_n 0, 1) := by decide +kernel
theorem dX5_all_6 : decode cX5_all 6 = .ok (.getfield 112, 3) := by decide +kernel
theorem dX5_all_9 : decode cX5_all 9 = .ok (.if_icmp .ge 19, 3) := by decide +kernel
theorem dX5_all_12 : decode cX5_all 12 = .ok (.lload_n 1, 1) := by decide +kernel
theorem dX5_all_13 : decode cX5_all 13 = .ok (.aload_n 0, 1) := by decide +kernel
theorem dX5_all_14 : decode cX5_all 14 = .ok (.getfield 63, 3) := by decide +kernel
theorem dX5_all_17 : decode cX5_all 17 = .ok (.iload_n 3, 1) := by decide +kernel
theorem dX5_all_18 : decode cX5_all 18 = .ok (.iaload, 1) := by decide +kernel
theorem dX5_all_19 : decode cX5_all 19 = .ok (.i2l, 1) := by decide +kernel
theorem dX5_all_20 : decode cX5_all 20 = .ok (.ladd, 1) := by decide +kernel
theorem dX5_all_21 : decode cX5_all 21 = .ok (.lstore_n 1, 1) := by decide +kernel
theorem dX5_all_22 : decode cX5_all 22 = .ok (.iinc 3 1, 3) := by decide +kernel
theorem dX5_all_25 : decode cX5_all 25 = .ok (.goto (-21), 3) := by decide +kernel
theorem dX5_all_28 : decode cX5_all 28 = .ok (.lload_n 1, 1) := by decide +kernel
theorem dX5_all_29 : decode cX5_all 29 = .ok (.lreturn, 1) := by decide +kernel
theorem dX5_sum_0 : decode cX5_sum 0 = .ok (.iconst 0, 1) := by decide +kernel
theorem dX5_sum_1 : decode cX5_sum 1 = .ok (.istore_n 2, 1) := by decide +kernel
theorem dX5_sum_2 : decode cX5_sum 2 = .ok (.iconst 0, 1) := by decide +kernel
theorem dX5_sum_3 : decode cX5_sum 3 = .ok (.istore_n 3, 1) := by decide +kernel
theorem dX5_sum_4 : decode cX5_sum 4 = .ok (.iload_n 3, 1) := by decide +kernel
theorem dX5_sum_5 : decode cX5_sum 5 = .ok (.aload_n 0, 1) := by decide +kernel
theorem dX5_sum_6 : decode cX5_sum 6 = .ok (.getfield 112, 3) := by decide +kernel
theorem dX5_sum_9 : decode cX5_sum 9 = .ok (.if_icmp .ge 31, 3) := by decide +kernel
theorem dX5_sum_12 : decode cX5_sum 12 = .ok (.iload_n 2, 1) := by decide +kernel
theorem dX5_sum_13 : decode cX5_sum 13 = .ok (.iload_n 1, 1) := by decide +kernel
theorem dX5_sum_14 : decode cX5_sum 14 = .ok (.ifCond .eq 12, 3) := by decide +kernel
theorem dX5_sum_17 : decode cX5_sum 17 = .ok (.aload_n 0, 1) := by decide +kernel
theorem dX5_sum_18 : decode cX5_sum 18 = .ok (.getfield 90, 3) := by decide +kernel
theorem dX5_sum_21 : decode cX5_sum 21 = .ok (.iload_n 3, 1) := by decide +kernel
theorem dX5_sum_22 : decode cX5_sum 22 = .ok (.iaload, 1) := by decide +kernel
theorem dX5_sum_23 : decode cX5_sum 23 = .ok (.goto 9, 3) := by decide +kernel
theorem dX5_sum_26 : decode cX5_sum 26 = .ok (.aload_n 0, 1) := by decide +kernel
theorem dX5_sum_27 : decode cX5_sum 27 = .ok (.getfield 93, 3) := by decide +kernel
theorem dX5_sum_30 : decode cX5_sum 30 = .ok (.iload_n 3, 1) := by decide +kernel
theorem dX5_sum_31 : decode cX5_sum 31 = .ok (.iaload, 1) := by decide +kernel
theorem dX5_sum_32 : decode cX5_sum 32 = .ok (.iadd, 1) := by decide +kernel
theorem dX5_sum_33 : decode cX5_sum 33 = .ok (.istore_n 2, 1) := by decide +kernel
theorem dX5_sum_34 : decode cX5_sum 34 = .ok (.iinc 3 1, 3) := by decide +kernel
theorem dX5_sum_37 : decode cX5_sum 37 = .ok (.goto (-33), 3) := by decide +kernel
theorem dX5_sum_40 : decode cX5_sum 40 = .ok (.iload_n 2, 1) := by decide +kernel
theorem dX5_sum_41 : decode cX5_sum 41 = .ok (.ireturn, 1) := by decide +kernel
theorem dX5_curtails_0 : decode cX5_curtails 0 = .ok (.iload_n 2, 1) := by decide +kernel
theorem dX5_curtails_1 : decode cX5_curtails 1 = .ok (.istore 4, 2) := by decide +kernel
theorem dX5_curtails_3 : decode cX5_curtails 3 = .ok (.iconst 4, 1) := by decide +kernel
theorem dX5_curtails_4 : decode cX5_curtails 4 = .ok (.aload_n 0, 1) := by decide +kernel
theorem dX5_curtails_5 : decode cX5_curtails 5 = .ok (.getfield 112, 3) := by decide +kernel
theorem dX5_curtails_8 : decode cX5_curtails 8 = .ok (.imul, 1) := by decide +kernel
theorem dX5_curtails_9 : decode cX5_curtails 9 = .ok (.iconst 1, 1) := by decide +kernel
theorem dX5_curtails_10 : decode cX5_curtails 10 = .ok (.isub, 1) := by decide +kernel
theorem dX5_curtails_11 : decode cX5_curtails 11 = .ok (.istore 5, 2) := by decide +kernel
theorem dX5_curtails_13 : decode cX5_curtails 13 = .ok (.iload 5, 2) := by decide +kernel
theorem dX5_curtails_15 : decode cX5_curtails 15 = .ok (.ifCond .lt 164, 3) := by decide +kernel
theorem dX5_curtails_18 : decode cX5_curtails 18 = .ok (.iload 4, 2) := by decide +kernel
theorem dX5_curtails_20 : decode cX5_curtails 20 = .ok (.ifCond .le 159, 3) := by decide +kernel
theorem dX5_curtails_23 : decode cX5_curtails 23 = .ok (.iload 5, 2) := by decide +kernel
theorem dX5_curtails_25 : decode cX5_curtails 25 = .ok (.aload_n 0, 1) := by decide +kernel
theorem dX5_curtails_26 : decode cX5_curtails 26 = .ok (.getfield 112, 3) := by decide +kernel
theorem dX5_curtails_29 : decode cX5_curtails 29 = .ok (.irem, 1) := by decide +kernel
theorem dX5_curtails_30 : decode cX5_curtails 30 = .ok (.istore 6, 2) := by decide +kernel
theorem dX5_curtails_32 : decode cX5_curtails 32 = .ok (.aload_n 0, 1) := by decide +kernel
theorem dX5_curtails_33 : decode cX5_curtails 33 = .ok (.getfield 60, 3) := by decide +kernel
theorem dX5_curtails_36 : decode cX5_curtails 36 = .ok (.iload 6, 2) := by decide +kernel
theorem dX5_curtails_38 : decode cX5_curtails 38 = .ok (.iaload, 1) := by decide +kernel
theorem dX5_curtails_39 : decode cX5_curtails 39 = .ok (.iload 5, 2) := by decide +kernel
theorem dX5_curtails_41 : decode cX5_curtails 41 = .ok (.aload_n 0, 1) := by decide +kernel
theorem dX5_curtails_42 : decode cX5_curtails 42 = .ok (.getfield 112, 3) := by decide +kernel
theorem dX5_curtails_45 : decode cX5_curtails 45 = .ok (.idiv, 1) := by decide +kernel
theorem dX5_curtails_46 : decode cX5_curtails 46 = .ok (.if_icmp .ne 32, 3) := by decide +kernel
theorem dX5_curtails_49 : decode cX5_curtails 49 = .ok (.iload 4, 2) := by decide +kernel
theorem dX5_curtails_51 : decode cX5_curtails 51 = .ok (.iload_n 1, 1) := by decide +kernel
theorem dX5_curtails_52 : decode cX5_curtails 52 = .ok (.ifCond .eq 13, 3) := by decide +kernel
theorem dX5_curtails_55 : decode cX5_curtails 55 = .ok (.aload_n 0, 1) := by decide +kernel
theorem dX5_curtails_56 : decode cX5_curtails 56 = .ok (.getfield 90, 3) := by decide +kernel
theorem dX5_curtails_59 : decode cX5_curtails 59 = .ok (.iload 6, 2) := by decide +kernel
theorem dX5_curtails_61 : decode cX5_curtails 61 = .ok (.iaload, 1) := by decide +kernel
theorem dX5_curtails_62 : decode cX5_curtails 62 = .ok (.goto 10, 3) := by decide +kernel
theorem dX5_curtails_65 : decode cX5_curtails 65 = .ok (.aload_n 0, 1) := by decide +kernel
theorem dX5_curtails_66 : decode cX5_curtails 66 = .ok (.getfield 93, 3) := by decide +kernel
theorem dX5_curtails_69 : decode cX5_curtails 69 = .ok (.iload 6, 2) := by decide +kernel
theorem dX5_curtails_71 : decode cX5_curtails 71 = .ok (.iaload, 1) := by decide +kernel
theorem dX5_curtails_72 : decode cX5_curtails 72 = .ok (.invokestatic 162, 3) := by decide +kernel
theorem dX5_curtails_75 : decode cX5_curtails 75 = .ok (.goto 4, 3) := by decide +kernel
theorem dX5_curtails_78 : decode cX5_curtails 78 = .ok (.iconst 0, 1) := by decide +kernel
theorem dX5_curtails_79 : decode cX5_curtails 79 = .ok (.istore 7, 2) := by decide +kernel
theorem dX5_curtails_81 : decode cX5_curtails 81 = .ok (.aload_n 0, 1) := by decide +kernel
theorem dX5_curtails_82 : decode cX5_curtails 82 = .ok (.getfield 90, 3) := by decide +kernel
theorem dX5_curtails_85 : decode cX5_curtails 85 = .ok (.iload 6, 2) := by decide +kernel
theorem dX5_curtails_87 : decode cX5_curtails 87 = .ok (.dup2, 1) := by decide +kernel
theorem dX5_curtails_88 : decode cX5_curtails 88 = .ok (.iaload, 1) := by decide +kernel
theorem dX5_curtails_89 : decode cX5_curtails 89 = .ok (.iload_n 1, 1) := by decide +kernel
theorem dX5_curtails_90 : decode cX5_curtails 90 = .ok (.ifCond .eq 8, 3) := by decide +kernel
theorem dX5_curtails_93 : decode cX5_curtails 93 = .ok (.iload 7, 2) := by decide +kernel
theorem dX5_curtails_95 : decode cX5_curtails 95 = .ok (.goto 4, 3) := by decide +kernel
theorem dX5_curtails_98 : decode cX5_curtails 98 = .ok (.iconst 0, 1) := by decide +kernel
theorem dX5_curtails_99 : decode cX5_curtails 99 = .ok (.isub, 1) := by decide +kernel
theorem dX5_curtails_100 : decode cX5_curtails 100 = .ok (.iastore, 1) := by decide +kernel
theorem dX5_curtails_101 : decode cX5_curtails 101 = .ok (.aload_n 0, 1) := by decide +kernel
theorem dX5_curtails_102 : decode cX5_curtails 102 = .ok (.getfield 93, 3) := by decide +kernel
theorem dX5_curtails_105 : decode cX5_curtails 105 = .ok (.iload 6, 2) := by decide +kernel
theorem dX5_curtails_107 : decode cX5_curtails 107 = .ok (.dup2, 1) := by decide +kernel
theorem dX5_curtails_108 : decode cX5_curtails 108 = .ok (.iaload, 1) := by decide +kernel
theorem dX5_curtails_109 : decode cX5_curtails 109 = .ok (.iload_n 1, 1) := by decide +kernel
theorem dX5_curtails_110 : decode cX5_curtails 110 = .ok (.ifCond .eq 7, 3) := by decide +kernel
theorem dX5_curtails_113 : decode cX5_curtails 113 = .ok (.iconst 0, 1) := by decide +kernel
theorem dX5_curtails_114 : decode cX5_curtails 114 = .ok (.goto 5, 3) := by decide +kernel
theorem dX5_curtails_117 : decode cX5_curtails 117 = .ok (.iload 7, 2) := by decide +kernel
theorem dX5_curtails_119 : decode cX5_curtails 119 = .ok (.isub, 1) := by decide +kernel
theorem dX5_curtails_120 : decode cX5_curtails 120 = .ok (.iastore, 1) := by decide +kernel
theorem dX5_curtails_121 : decode cX5_curtails 121 = .ok (.aload_n 0, 1) := by decide +kernel
theorem dX5_curtails_122 : decode cX5_curtails 122 = .ok (.getfield 96, 3) := by decide +kernel
theorem dX5_curtails_125 : decode cX5_curtails 125 = .ok (.iload 6, 2) := by decide +kernel
theorem dX5_curtails_127 : decode cX5_curtails 127 = .ok (.dup2, 1) := by decide +kernel
theorem dX5_curtails_128 : decode cX5_curtails 128 = .ok (.iaload, 1) := by decide +kernel
theorem dX5_curtails_129 : decode cX5_curtails 129 = .ok (.iload 7, 2) := by decide +kernel
theorem dX5_curtails_131 : decode cX5_curtails 131 = .ok (.iadd, 1) := by decide +kernel
theorem dX5_curtails_132 : decode cX5_curtails 132 = .ok (.iastore, 1) := by decide +kernel
theorem dX5_curtails_133 : decode cX5_curtails 133 = .ok (.aload_n 0, 1) := by decide +kernel
theorem dX5_curtails_134 : decode cX5_curtails 134 = .ok (.getfield 99, 3) := by decide +kernel
theorem dX5_curtails_137 : decode cX5_curtails 137 = .ok (.iload 6, 2) := by decide +kernel
theorem dX5_curtails_139 : decode cX5_curtails 139 = .ok (.iload 7, 2) := by decide +kernel
theorem dX5_curtails_141 : decode cX5_curtails 141 = .ok (.ifCond .le 17, 3) := by decide +kernel
theorem dX5_curtails_144 : decode cX5_curtails 144 = .ok (.aload_n 0, 1) := by decide +kernel
theorem dX5_curtails_145 : decode cX5_curtails 145 = .ok (.getfield 99, 3) := by decide +kernel
theorem dX5_curtails_148 : decode cX5_curtails 148 = .ok (.iload 6, 2) := by decide +kernel
theorem dX5_curtails_150 : decode cX5_curtails 150 = .ok (.iaload, 1) := by decide +kernel
theorem dX5_curtails_151 : decode cX5_curtails 151 = .ok (.ifCond .ne 7, 3) := by decide +kernel
theorem dX5_curtails_154 : decode cX5_curtails 154 = .ok (.iload_n 3, 1) := by decide +kernel
theorem dX5_curtails_155 : decode cX5_curtails 155 = .ok (.goto 10, 3) := by decide +kernel
theorem dX5_curtails_158 : decode cX5_curtails 158 = .ok (.aload_n 0, 1) := by decide +kernel
theorem dX5_curtails_159 : decode cX5_curtails 159 = .ok (.getfield 99, 3) := by decide +kernel
theorem dX5_curtails_162 : decode cX5_curtails 162 = .ok (.iload 6, 2) := by decide +kernel
theorem dX5_curtails_164 : decode cX5_curtails 164 = .ok (.iaload, 1) := by decide +kernel
theorem dX5_curtails_165 : decode cX5_curtails 165 = .ok (.iastore, 1) := by decide +kernel
theorem dX5_curtails_166 : decode cX5_curtails 166 = .ok (.iload 4, 2) := by decide +kernel
theorem dX5_curtails_168 : decode cX5_curtails 168 = .ok (.iload 7, 2) := by decide +kernel
theorem dX5_curtails_170 : decode cX5_curtails 170 = .ok (.isub, 1) := by decide +kernel
theorem dX5_curtails_171 : decode cX5_curtails 171 = .ok (.istore 4, 2) := by decide +kernel
theorem dX5_curtails_173 : decode cX5_curtails 173 = .ok (.iinc 5 (-1), 3) := by decide +kernel
theorem dX5_curtails_176 : decode cX5_curtails 176 = .ok (.goto (-163), 3) := by decide +kernel
theorem dX5_curtails_179 : decode cX5_curtails 179 = .ok (.return_, 1) := by decide +kernel
theorem dX5_laysFirst_0 : decode cX5_laysFirst 0 = .ok (.aload_n 0, 1) := by decide +kernel
theorem dX5_laysFirst_1 : decode cX5_laysFirst 1 = .ok (.getfield 75, 3) := by decide +kernel
theorem dX5_laysFirst_4 : decode cX5_laysFirst 4 = .ok (.bipush 64, 2) := by decide +kernel
theorem dX5_laysFirst_6 : decode cX5_laysFirst 6 = .ok (.iload_n 1, 1) := by decide +kernel
theorem dX5_laysFirst_7 : decode cX5_laysFirst 7 = .ok (.imul, 1) := by decide +kernel
theorem dX5_laysFirst_8 : decode cX5_laysFirst 8 = .ok (.aload_n 0, 1) := by decide +kernel
theorem dX5_laysFirst_9 : decode cX5_laysFirst 9 = .ok (.getfield 151, 3) := by decide +kernel
theorem dX5_laysFirst_12 : decode cX5_laysFirst 12 = .ok (.bipush 64, 2) := by decide +kernel
theorem dX5_laysFirst_14 : decode cX5_laysFirst 14 = .ok (.irem, 1) := by decide +kernel
theorem dX5_laysFirst_15 : decode cX5_laysFirst 15 = .ok (.iadd, 1) := by decide +kernel
theorem dX5_laysFirst_16 : decode cX5_laysFirst 16 = .ok (.iaload, 1) := by decide +kernel
theorem dX5_laysFirst_17 : decode cX5_laysFirst 17 = .ok (.istore_n 2, 1) := by decide +kernel
theorem dX5_laysFirst_18 : decode cX5_laysFirst 18 = .ok (.aload_n 0, 1) := by decide +kernel
theorem dX5_laysFirst_19 : decode cX5_laysFirst 19 = .ok (.iload_n 1, 1) := by decide +kernel
theorem dX5_laysFirst_20 : decode cX5_laysFirst 20 = .ok (.aload_n 0, 1) := by decide +kernel
theorem dX5_laysFirst_21 : decode cX5_laysFirst 21 = .ok (.getfield 63, 3) := by decide +kernel
theorem dX5_laysFirst_24 : decode cX5_laysFirst 24 = .ok (.iload_n 1, 1) := by decide +kernel
theorem dX5_laysFirst_25 : decode cX5_laysFirst 25 = .ok (.iaload, 1) := by decide +kernel
theorem dX5_laysFirst_26 : decode cX5_laysFirst 26 = .ok (.iconst 1, 1) := by decide +kernel
theorem dX5_laysFirst_27 : decode cX5_laysFirst 27 = .ok (.invokevirtual 165, 3) := by decide +kernel
theorem dX5_laysFirst_30 : decode cX5_laysFirst 30 = .ok (.aload_n 0, 1) := by decide +kernel
theorem dX5_laysFirst_31 : decode cX5_laysFirst 31 = .ok (.getfield 51, 3) := by decide +kernel
theorem dX5_laysFirst_34 : decode cX5_laysFirst 34 = .ok (.iload_n 1, 1) := by decide +kernel
theorem dX5_laysFirst_35 : decode cX5_laysFirst 35 = .ok (.iaload, 1) := by decide +kernel
theorem dX5_laysFirst_36 : decode cX5_laysFirst 36 = .ok (.aload_n 0, 1) := by decide +kernel
theorem dX5_laysFirst_37 : decode cX5_laysFirst 37 = .ok (.getfield 63, 3) := by decide +kernel
theorem dX5_laysFirst_40 : decode cX5_laysFirst 40 = .ok (.iload_n 1, 1) := by decide +kernel
theorem dX5_laysFirst_41 : decode cX5_laysFirst 41 = .ok (.iaload, 1) := by decide +kernel
theorem dX5_laysFirst_42 : decode cX5_laysFirst 42 = .ok (.isub, 1) := by decide +kernel
theorem dX5_laysFirst_43 : decode cX5_laysFirst 43 = .ok (.invokestatic 162, 3) := by decide +kernel
theorem dX5_laysFirst_46 : decode cX5_laysFirst 46 = .ok (.istore_n 3, 1) := by decide +kernel
theorem dX5_laysFirst_47 : decode cX5_laysFirst 47 = .ok (.aload_n 0, 1) := by decide +kernel
theorem dX5_laysFirst_48 : decode cX5_laysFirst 48 = .ok (.iload_n 1, 1) := by decide +kernel
theorem dX5_laysFirst_49 : decode cX5_laysFirst 49 = .ok (.aload_n 0, 1) := by decide +kernel
theorem dX5_laysFirst_50 : decode cX5_laysFirst 50 = .ok (.getfield 63, 3) := by decide +kernel
theorem dX5_laysFirst_53 : decode cX5_laysFirst 53 = .ok (.iload_n 1, 1) := by decide +kernel
theorem dX5_laysFirst_54 : decode cX5_laysFirst 54 = .ok (.iaload, 1) := by decide +kernel
theorem dX5_laysFirst_55 : decode cX5_laysFirst 55 = .ok (.iconst 0, 1) := by decide +kernel
theorem dX5_laysFirst_56 : decode cX5_laysFirst 56 = .ok (.invokevirtual 165, 3) := by decide +kernel
theorem dX5_laysFirst_59 : decode cX5_laysFirst 59 = .ok (.aload_n 0, 1) := by decide +kernel
theorem dX5_laysFirst_60 : decode cX5_laysFirst 60 = .ok (.getfield 63, 3) := by decide +kernel
theorem dX5_laysFirst_63 : decode cX5_laysFirst 63 = .ok (.iload_n 1, 1) := by decide +kernel
theorem dX5_laysFirst_64 : decode cX5_laysFirst 64 = .ok (.iaload, 1) := by decide +kernel
theorem dX5_laysFirst_65 : decode cX5_laysFirst 65 = .ok (.invokestatic 162, 3) := by decide +kernel
theorem dX5_laysFirst_68 : decode cX5_laysFirst 68 = .ok (.istore 4, 2) := by decide +kernel
theorem dX5_laysFirst_70 : decode cX5_laysFirst 70 = .ok (.aload_n 0, 1) := by decide +kernel
theorem dX5_laysFirst_71 : decode cX5_laysFirst 71 = .ok (.getfield 90, 3) := by decide +kernel
theorem dX5_laysFirst_74 : decode cX5_laysFirst 74 = .ok (.iload_n 1, 1) := by decide +kernel
theorem dX5_laysFirst_75 : decode cX5_laysFirst 75 = .ok (.iload_n 2, 1) := by decide +kernel
theorem dX5_laysFirst_76 : decode cX5_laysFirst 76 = .ok (.ifCond .le 11, 3) := by decide +kernel
theorem dX5_laysFirst_79 : decode cX5_laysFirst 79 = .ok (.iload_n 2, 1) := by decide +kernel
theorem dX5_laysFirst_80 : decode cX5_laysFirst 80 = .ok (.iload_n 3, 1) := by decide +kernel
theorem dX5_laysFirst_81 : decode cX5_laysFirst 81 = .ok (.invokestatic 162, 3) := by decide +kernel
theorem dX5_laysFirst_84 : decode cX5_laysFirst 84 = .ok (.goto 4, 3) := by decide +kernel
theorem dX5_laysFirst_87 : decode cX5_laysFirst 87 = .ok (.iconst 0, 1) := by decide +kernel
theorem dX5_laysFirst_88 : decode cX5_laysFirst 88 = .ok (.iastore, 1) := by decide +kernel
theorem dX5_laysFirst_89 : decode cX5_laysFirst 89 = .ok (.aload_n 0, 1) := by decide +kernel
theorem dX5_laysFirst_90 : decode cX5_laysFirst 90 = .ok (.getfield 93, 3) := by decide +kernel
theorem dX5_laysFirst_93 : decode cX5_laysFirst 93 = .ok (.iload_n 1, 1) := by decide +kernel
theorem dX5_laysFirst_94 : decode cX5_laysFirst 94 = .ok (.iload_n 2, 1) := by decide +kernel
theorem dX5_laysFirst_95 : decode cX5_laysFirst 95 = .ok (.ifCond .ge 13, 3) := by decide +kernel
theorem dX5_laysFirst_98 : decode cX5_laysFirst 98 = .ok (.iload_n 2, 1) := by decide +kernel
theorem dX5_laysFirst_99 : decode cX5_laysFirst 99 = .ok (.ineg, 1) := by decide +kernel
theorem dX5_laysFirst_100 : decode cX5_laysFirst 100 = .ok (.iload 4, 2) := by decide +kernel
theorem dX5_laysFirst_102 : decode cX5_laysFirst 102 = .ok (.invokestatic 162, 3) := by decide +kernel
theorem dX5_laysFirst_105 : decode cX5_laysFirst 105 = .ok (.goto 4, 3) := by decide +kernel
theorem dX5_laysFirst_108 : decode cX5_laysFirst 108 = .ok (.iconst 0, 1) := by decide +kernel
theorem dX5_laysFirst_109 : decode cX5_laysFirst 109 = .ok (.iastore, 1) := by decide +kernel
theorem dX5_laysFirst_110 : decode cX5_laysFirst 110 = .ok (.aload_n 0, 1) := by decide +kernel
theorem dX5_laysFirst_111 : decode cX5_laysFirst 111 = .ok (.getfield 96, 3) := by decide +kernel
theorem dX5_laysFirst_114 : decode cX5_laysFirst 114 = .ok (.iload_n 1, 1) := by decide +kernel
theorem dX5_laysFirst_115 : decode cX5_laysFirst 115 = .ok (.iconst 0, 1) := by decide +kernel
theorem dX5_laysFirst_116 : decode cX5_laysFirst 116 = .ok (.iastore, 1) := by decide +kernel
theorem dX5_laysFirst_117 : decode cX5_laysFirst 117 = .ok (.aload_n 0, 1) := by decide +kernel
theorem dX5_laysFirst_118 : decode cX5_laysFirst 118 = .ok (.getfield 99, 3) := by decide +kernel
theorem dX5_laysFirst_121 : decode cX5_laysFirst 121 = .ok (.iload_n 1, 1) := by decide +kernel
theorem dX5_laysFirst_122 : decode cX5_laysFirst 122 = .ok (.iload_n 2, 1) := by decide +kernel
theorem dX5_laysFirst_123 : decode cX5_laysFirst 123 = .ok (.aload_n 0, 1) := by decide +kernel
theorem dX5_laysFirst_124 : decode cX5_laysFirst 124 = .ok (.getfield 90, 3) := by decide +kernel
theorem dX5_laysFirst_127 : decode cX5_laysFirst 127 = .ok (.iload_n 1, 1) := by decide +kernel
theorem dX5_laysFirst_128 : decode cX5_laysFirst 128 = .ok (.iaload, 1) := by decide +kernel
theorem dX5_laysFirst_129 : decode cX5_laysFirst 129 = .ok (.aload_n 0, 1) := by decide +kernel
theorem dX5_laysFirst_130 : decode cX5_laysFirst 130 = .ok (.getfield 93, 3) := by decide +kernel
theorem dX5_laysFirst_133 : decode cX5_laysFirst 133 = .ok (.iload_n 1, 1) := by decide +kernel
theorem dX5_laysFirst_134 : decode cX5_laysFirst 134 = .ok (.iaload, 1) := by decide +kernel
theorem dX5_laysFirst_135 : decode cX5_laysFirst 135 = .ok (.isub, 1) := by decide +kernel
theorem dX5_laysFirst_136 : decode cX5_laysFirst 136 = .ok (.if_icmp .eq 7, 3) := by decide +kernel
theorem dX5_laysFirst_139 : decode cX5_laysFirst 139 = .ok (.iconst 1, 1) := by decide +kernel
theorem dX5_laysFirst_140 : decode cX5_laysFirst 140 = .ok (.goto 4, 3) := by decide +kernel
theorem dX5_laysFirst_143 : decode cX5_laysFirst 143 = .ok (.iconst 0, 1) := by decide +kernel
theorem dX5_laysFirst_144 : decode cX5_laysFirst 144 = .ok (.iastore, 1) := by decide +kernel
theorem dX5_laysFirst_145 : decode cX5_laysFirst 145 = .ok (.return_, 1) := by decide +kernel
theorem dX5_can_0 : decode cX5_can 0 = .ok (.iload_n 1, 1) := by decide +kernel
theorem dX5_can_1 : decode cX5_can 1 = .ok (.ifCond .eq 7, 3) := by decide +kernel
theorem dX5_can_4 : decode cX5_can 4 = .ok (.iconst (-1), 1) := by decide +kernel
theorem dX5_can_5 : decode cX5_can 5 = .ok (.goto 4, 3) := by decide +kernel
theorem dX5_can_8 : decode cX5_can 8 = .ok (.iconst 1, 1) := by decide +kernel
theorem dX5_can_9 : decode cX5_can 9 = .ok (.istore_n 2, 1) := by decide +kernel
theorem dX5_can_10 : decode cX5_can 10 = .ok (.aload_n 0, 1) := by decide +kernel
theorem dX5_can_11 : decode cX5_can 11 = .ok (.getfield 169, 3) := by decide +kernel
theorem dX5_can_14 : decode cX5_can 14 = .ok (.iload_n 2, 1) := by decide +kernel
theorem dX5_can_15 : decode cX5_can 15 = .ok (.if_icmp .eq 11, 3) := by decide +kernel
theorem dX5_can_18 : decode cX5_can 18 = .ok (.aload_n 0, 1) := by decide +kernel
theorem dX5_can_19 : decode cX5_can 19 = .ok (.getfield 172, 3) := by decide +kernel
theorem dX5_can_22 : decode cX5_can 22 = .ok (.iload_n 2, 1) := by decide +kernel
theorem dX5_can_23 : decode cX5_can 23 = .ok (.if_icmp .ne 5, 3) := by decide +kernel
theorem dX5_can_26 : decode cX5_can 26 = .ok (.lconst 0, 1) := by decide +kernel
theorem dX5_can_27 : decode cX5_can 27 = .ok (.lreturn, 1) := by decide +kernel
theorem dX5_can_28 : decode cX5_can 28 = .ok (.lconst 0, 1) := by decide +kernel
theorem dX5_can_29 : decode cX5_can 29 = .ok (.lstore_n 3, 1) := by decide +kernel
theorem dX5_can_30 : decode cX5_can 30 = .ok (.iconst 0, 1) := by decide +kernel
theorem dX5_can_31 : decode cX5_can 31 = .ok (.istore 5, 2) := by decide +kernel
theorem dX5_can_33 : decode cX5_can 33 = .ok (.iload 5, 2) := by decide +kernel
theorem dX5_can_35 : decode cX5_can 35 = .ok (.aload_n 0, 1) := by decide +kernel
theorem dX5_can_36 : decode cX5_can 36 = .ok (.getfield 105, 3) := by decide +kernel
theorem dX5_can_39 : decode cX5_can 39 = .ok (.if_icmp .ge 20, 3) := by decide +kernel
theorem dX5_can_42 : decode cX5_can 42 = .ok (.lload_n 3, 1) := by decide +kernel
theorem dX5_can_43 : decode cX5_can 43 = .ok (.aload_n 0, 1) := by decide +kernel
theorem dX5_can_44 : decode cX5_can 44 = .ok (.iload 5, 2) := by decide +kernel
theorem dX5_can_46 : decode cX5_can 46 = .ok (.iload_n 1, 1) := by decide +kernel
theorem dX5_can_47 : decode cX5_can 47 = .ok (.invokevirtual 143, 3) := by decide +kernel
theorem dX5_can_50 : decode cX5_can 50 = .ok (.i2l, 1) := by decide +kernel
theorem dX5_can_51 : decode cX5_can 51 = .ok (.ladd, 1) := by decide +kernel
theorem dX5_can_52 : decode cX5_can 52 = .ok (.lstore_n 3, 1) := by decide +kernel
theorem dX5_can_53 : decode cX5_can 53 = .ok (.iinc 5 1, 3) := by decide +kernel
theorem dX5_can_56 : decode cX5_can 56 = .ok (.goto (-23), 3) := by decide +kernel
theorem dX5_can_59 : decode cX5_can 59 = .ok (.lload_n 3, 1) := by decide +kernel
theorem dX5_can_60 : decode cX5_can 60 = .ok (.lreturn, 1) := by decide +kernel
theorem dX5_lays_0 : decode cX5_lays 0 = .ok (.iconst 0, 1) := by decide +kernel
theorem dX5_lays_1 : decode cX5_lays 1 = .ok (.istore_n 1, 1) := by decide +kernel
theorem dX5_lays_2 : decode cX5_lays 2 = .ok (.iload_n 1, 1) := by decide +kernel
theorem dX5_lays_3 : decode cX5_lays 3 = .ok (.aload_n 0, 1) := by decide +kernel
theorem dX5_lays_4 : decode cX5_lays 4 = .ok (.getfield 112, 3) := by decide +kernel
theorem dX5_lays_7 : decode cX5_lays 7 = .ok (.if_icmp .ge 14, 3) := by decide +kernel
theorem dX5_lays_10 : decode cX5_lays 10 = .ok (.aload_n 0, 1) := by decide +kernel
theorem dX5_lays_11 : decode cX5_lays 11 = .ok (.iload_n 1, 1) := by decide +kernel
theorem dX5_lays_12 : decode cX5_lays 12 = .ok (.invokevirtual 175, 3) := by decide +kernel
theorem dX5_lays_15 : decode cX5_lays 15 = .ok (.iinc 1 1, 3) := by decide +kernel
theorem dX5_lays_18 : decode cX5_lays 18 = .ok (.goto (-16), 3) := by decide +kernel
theorem dX5_lays_21 : decode cX5_lays 21 = .ok (.aload_n 0, 1) := by decide +kernel
theorem dX5_lays_22 : decode cX5_lays 22 = .ok (.invokevirtual 179, 3) := by decide +kernel
theorem dX5_lays_25 : decode cX5_lays 25 = .ok (.istore_n 1, 1) := by decide +kernel
theorem dX5_lays_26 : decode cX5_lays 26 = .ok (.iload_n 1, 1) := by decide +kernel
theorem dX5_lays_27 : decode cX5_lays 27 = .ok (.iconst (-1), 1) := by decide +kernel
theorem dX5_lays_28 : decode cX5_lays 28 = .ok (.if_icmp .eq 44, 3) := by decide +kernel
theorem dX5_lays_31 : decode cX5_lays 31 = .ok (.aload_n 0, 1) := by decide +kernel
theorem dX5_lays_32 : decode cX5_lays 32 = .ok (.invokevirtual 183, 3) := by decide +kernel
theorem dX5_lays_35 : decode cX5_lays 35 = .ok (.aload_n 0, 1) := by decide +kernel
theorem dX5_lays_36 : decode cX5_lays 36 = .ok (.getfield 87, 3) := by decide +kernel
theorem dX5_lays_39 : decode cX5_lays 39 = .ok (.iload_n 1, 1) := by decide +kernel
theorem dX5_lays_40 : decode cX5_lays 40 = .ok (.iaload, 1) := by decide +kernel
theorem dX5_lays_41 : decode cX5_lays 41 = .ok (.i2l, 1) := by decide +kernel
theorem dX5_lays_42 : decode cX5_lays 42 = .ok (.lsub, 1) := by decide +kernel
theorem dX5_lays_43 : decode cX5_lays 43 = .ok (.lstore_n 2, 1) := by decide +kernel
theorem dX5_lays_44 : decode cX5_lays 44 = .ok (.lload_n 2, 1) := by decide +kernel
theorem dX5_lays_45 : decode cX5_lays 45 = .ok (.lconst 0, 1) := by decide +kernel
theorem dX5_lays_46 : decode cX5_lays 46 = .ok (.lcmp, 1) := by decide +kernel
theorem dX5_lays_47 : decode cX5_lays 47 = .ok (.ifCond .ge 7, 3) := by decide +kernel
theorem dX5_lays_50 : decode cX5_lays 50 = .ok (.iconst 0, 1) := by decide +kernel
theorem dX5_lays_51 : decode cX5_lays 51 = .ok (.goto 5, 3) := by decide +kernel
theorem dX5_lays_54 : decode cX5_lays 54 = .ok (.lload_n 2, 1) := by decide +kernel
theorem dX5_lays_55 : decode cX5_lays 55 = .ok (.l2i, 1) := by decide +kernel
theorem dX5_lays_56 : decode cX5_lays 56 = .ok (.istore 4, 2) := by decide +kernel
theorem dX5_lays_58 : decode cX5_lays 58 = .ok (.aload_n 0, 1) := by decide +kernel
theorem dX5_lays_59 : decode cX5_lays 59 = .ok (.iconst 0, 1) := by decide +kernel
theorem dX5_lays_60 : decode cX5_lays 60 = .ok (.aload_n 0, 1) := by decide +kernel
theorem dX5_lays_61 : decode cX5_lays 61 = .ok (.iconst 0, 1) := by decide +kernel
theorem dX5_lays_62 : decode cX5_lays 62 = .ok (.invokevirtual 187, 3) := by decide +kernel
theorem dX5_lays_65 : decode cX5_lays 65 = .ok (.iload 4, 2) := by decide +kernel
theorem dX5_lays_67 : decode cX5_lays 67 = .ok (.isub, 1) := by decide +kernel
theorem dX5_lays_68 : decode cX5_lays 68 = .ok (.iconst 2, 1) := by decide +kernel
theorem dX5_lays_69 : decode cX5_lays 69 = .ok (.invokevirtual 191, 3) := by decide +kernel
theorem dX5_lays_72 : decode cX5_lays 72 = .ok (.aload_n 0, 1) := by decide +kernel
theorem dX5_lays_73 : decode cX5_lays 73 = .ok (.iconst 1, 1) := by decide +kernel
theorem dX5_lays_74 : decode cX5_lays 74 = .ok (.invokevirtual 187, 3) := by decide +kernel
theorem dX5_lays_77 : decode cX5_lays 77 = .ok (.aload_n 0, 1) := by decide +kernel
theorem dX5_lays_78 : decode cX5_lays 78 = .ok (.iconst 0, 1) := by decide +kernel
theorem dX5_lays_79 : decode cX5_lays 79 = .ok (.invokevirtual 187, 3) := by decide +kernel
theorem dX5_lays_82 : decode cX5_lays 82 = .ok (.isub, 1) := by decide +kernel
theorem dX5_lays_83 : decode cX5_lays 83 = .ok (.istore_n 2, 1) := by decide +kernel
theorem dX5_lays_84 : decode cX5_lays 84 = .ok (.iload_n 2, 1) := by decide +kernel
theorem dX5_lays_85 : decode cX5_lays 85 = .ok (.ifCond .eq 55, 3) := by decide +kernel
theorem dX5_lays_88 : decode cX5_lays 88 = .ok (.iload_n 2, 1) := by decide +kernel
theorem dX5_lays_89 : decode cX5_lays 89 = .ok (.ifCond .le 7, 3) := by decide +kernel
theorem dX5_lays_92 : decode cX5_lays 92 = .ok (.iload_n 2, 1) := by decide +kernel
theorem dX5_lays_93 : decode cX5_lays 93 = .ok (.goto 5, 3) := by decide +kernel
theorem dX5_lays_96 : decode cX5_lays 96 = .ok (.iload_n 2, 1) := by decide +kernel
theorem dX5_lays_97 : decode cX5_lays 97 = .ok (.ineg, 1) := by decide +kernel
theorem dX5_lays_98 : decode cX5_lays 98 = .ok (.i2l, 1) := by decide +kernel
theorem dX5_lays_99 : decode cX5_lays 99 = .ok (.aload_n 0, 1) := by decide +kernel
theorem dX5_lays_100 : decode cX5_lays 100 = .ok (.iload_n 2, 1) := by decide +kernel
theorem dX5_lays_101 : decode cX5_lays 101 = .ok (.ifCond .le 7, 3) := by decide +kernel
theorem dX5_lays_104 : decode cX5_lays 104 = .ok (.iconst 1, 1) := by decide +kernel
theorem dX5_lays_105 : decode cX5_lays 105 = .ok (.goto 4, 3) := by decide +kernel
theorem dX5_lays_108 : decode cX5_lays 108 = .ok (.iconst 0, 1) := by decide +kernel
theorem dX5_lays_109 : decode cX5_lays 109 = .ok (.invokevirtual 195, 3) := by decide +kernel
theorem dX5_lays_112 : decode cX5_lays 112 = .ok (.lsub, 1) := by decide +kernel
theorem dX5_lays_113 : decode cX5_lays 113 = .ok (.lstore_n 3, 1) := by decide +kernel
theorem dX5_lays_114 : decode cX5_lays 114 = .ok (.aload_n 0, 1) := by decide +kernel
theorem dX5_lays_115 : decode cX5_lays 115 = .ok (.iload_n 2, 1) := by decide +kernel
theorem dX5_lays_116 : decode cX5_lays 116 = .ok (.ifCond .le 7, 3) := by decide +kernel
theorem dX5_lays_119 : decode cX5_lays 119 = .ok (.iconst 1, 1) := by decide +kernel
theorem dX5_lays_120 : decode cX5_lays 120 = .ok (.goto 4, 3) := by decide +kernel
theorem dX5_lays_123 : decode cX5_lays 123 = .ok (.iconst 0, 1) := by decide +kernel
theorem dX5_lays_124 : decode cX5_lays 124 = .ok (.lload_n 3, 1) := by decide +kernel
theorem dX5_lays_125 : decode cX5_lays 125 = .ok (.lconst 0, 1) := by decide +kernel
theorem dX5_lays_126 : decode cX5_lays 126 = .ok (.lcmp, 1) := by decide +kernel
theorem dX5_lays_127 : decode cX5_lays 127 = .ok (.ifCond .le 8, 3) := by decide +kernel
theorem dX5_lays_130 : decode cX5_lays 130 = .ok (.lload_n 3, 1) := by decide +kernel
theorem dX5_lays_131 : decode cX5_lays 131 = .ok (.l2i, 1) := by decide +kernel
theorem dX5_lays_132 : decode cX5_lays 132 = .ok (.goto 4, 3) := by decide +kernel
theorem dX5_lays_135 : decode cX5_lays 135 = .ok (.iconst 0, 1) := by decide +kernel
theorem dX5_lays_136 : decode cX5_lays 136 = .ok (.iconst 3, 1) := by decide +kernel
theorem dX5_lays_137 : decode cX5_lays 137 = .ok (.invokevirtual 191, 3) := by decide +kernel
theorem dX5_lays_140 : decode cX5_lays 140 = .ok (.return_, 1) := by decide +kernel
theorem dX5_loses_0 : decode cX5_loses 0 = .ok (.aload_n 0, 1) := by decide +kernel
theorem dX5_loses_1 : decode cX5_loses 1 = .ok (.getfield 40, 3) := by decide +kernel
theorem dX5_loses_4 : decode cX5_loses 4 = .ok (.iload_n 1, 1) := by decide +kernel
theorem dX5_loses_5 : decode cX5_loses 5 = .ok (.dup2, 1) := by decide +kernel
theorem dX5_loses_6 : decode cX5_loses 6 = .ok (.laload, 1) := by decide +kernel
theorem dX5_loses_7 : decode cX5_loses 7 = .ok (.aload_n 0, 1) := by decide +kernel
theorem dX5_loses_8 : decode cX5_loses 8 = .ok (.getfield 19, 3) := by decide +kernel
theorem dX5_loses_11 : decode cX5_loses 11 = .ok (.iload_n 1, 1) := by decide +kernel
theorem dX5_loses_12 : decode cX5_loses 12 = .ok (.iaload, 1) := by decide +kernel
theorem dX5_loses_13 : decode cX5_loses 13 = .ok (.ifCond .ne 7, 3) := by decide +kernel
theorem dX5_loses_16 : decode cX5_loses 16 = .ok (.lconst 0, 1) := by decide +kernel
theorem dX5_loses_17 : decode cX5_loses 17 = .ok (.goto 20, 3) := by decide +kernel
theorem dX5_loses_20 : decode cX5_loses 20 = .ok (.iload_n 2, 1) := by decide +kernel
theorem dX5_loses_21 : decode cX5_loses 21 = .ok (.i2l, 1) := by decide +kernel
theorem dX5_loses_22 : decode cX5_loses 22 = .ok (.aload_n 0, 1) := by decide +kernel
theorem dX5_loses_23 : decode cX5_loses 23 = .ok (.getfield 40, 3) := by decide +kernel
theorem dX5_loses_26 : decode cX5_loses 26 = .ok (.iload_n 1, 1) := by decide +kernel
theorem dX5_loses_27 : decode cX5_loses 27 = .ok (.laload, 1) := by decide +kernel
theorem dX5_loses_28 : decode cX5_loses 28 = .ok (.lmul, 1) := by decide +kernel
theorem dX5_loses_29 : decode cX5_loses 29 = .ok (.aload_n 0, 1) := by decide +kernel
theorem dX5_loses_30 : decode cX5_loses 30 = .ok (.getfield 19, 3) := by decide +kernel
theorem dX5_loses_33 : decode cX5_loses 33 = .ok (.iload_n 1, 1) := by decide +kernel
theorem dX5_loses_34 : decode cX5_loses 34 = .ok (.iaload, 1) := by decide +kernel
theorem dX5_loses_35 : decode cX5_loses 35 = .ok (.i2l, 1) := by decide +kernel
theorem dX5_loses_36 : decode cX5_loses 36 = .ok (.ldiv, 1) := by decide +kernel
theorem dX5_loses_37 : decode cX5_loses 37 = .ok (.lsub, 1) := by decide +kernel
theorem dX5_loses_38 : decode cX5_loses 38 = .ok (.lastore, 1) := by decide +kernel
theorem dX5_loses_39 : decode cX5_loses 39 = .ok (.aload_n 0, 1) := by decide +kernel
theorem dX5_loses_40 : decode cX5_loses 40 = .ok (.getfield 19, 3) := by decide +kernel
theorem dX5_loses_43 : decode cX5_loses 43 = .ok (.iload_n 1, 1) := by decide +kernel
theorem dX5_loses_44 : decode cX5_loses 44 = .ok (.dup2, 1) := by decide +kernel
theorem dX5_loses_45 : decode cX5_loses 45 = .ok (.iaload, 1) := by decide +kernel
theorem dX5_loses_46 : decode cX5_loses 46 = .ok (.iload_n 2, 1) := by decide +kernel
theorem dX5_loses_47 : decode cX5_loses 47 = .ok (.isub, 1) := by decide +kernel
theorem dX5_loses_48 : decode cX5_loses 48 = .ok (.iastore, 1) := by decide +kernel
theorem dX5_loses_49 : decode cX5_loses 49 = .ok (.return_, 1) := by decide +kernel
theorem dX5_gets_0 : decode cX5_gets 0 = .ok (.aload_n 0, 1) := by decide +kernel
theorem dX5_gets_1 : decode cX5_gets 1 = .ok (.getfield 19, 3) := by decide +kernel
theorem dX5_gets_4 : decode cX5_gets 4 = .ok (.iload_n 1, 1) := by decide +kernel
theorem dX5_gets_5 : decode cX5_gets 5 = .ok (.dup2, 1) := by decide +kernel
theorem dX5_gets_6 : decode cX5_gets 6 = .ok (.iaload, 1) := by decide +kernel
theorem dX5_gets_7 : decode cX5_gets 7 = .ok (.iload_n 2, 1) := by decide +kernel
theorem dX5_gets_8 : decode cX5_gets 8 = .ok (.iadd, 1) := by decide +kernel
theorem dX5_gets_9 : decode cX5_gets 9 = .ok (.iastore, 1) := by decide +kernel
theorem dX5_gets_10 : decode cX5_gets 10 = .ok (.aload_n 0, 1) := by decide +kernel
theorem dX5_gets_11 : decode cX5_gets 11 = .ok (.getfield 40, 3) := by decide +kernel
theorem dX5_gets_14 : decode cX5_gets 14 = .ok (.iload_n 1, 1) := by decide +kernel
theorem dX5_gets_15 : decode cX5_gets 15 = .ok (.dup2, 1) := by decide +kernel
theorem dX5_gets_16 : decode cX5_gets 16 = .ok (.laload, 1) := by decide +kernel
theorem dX5_gets_17 : decode cX5_gets 17 = .ok (.iload_n 2, 1) := by decide +kernel
theorem dX5_gets_18 : decode cX5_gets 18 = .ok (.i2l, 1) := by decide +kernel
theorem dX5_gets_19 : decode cX5_gets 19 = .ok (.aload_n 0, 1) := by decide +kernel
theorem dX5_gets_20 : decode cX5_gets 20 = .ok (.getfield 47, 3) := by decide +kernel
theorem dX5_gets_23 : decode cX5_gets 23 = .ok (.i2l, 1) := by decide +kernel
theorem dX5_gets_24 : decode cX5_gets 24 = .ok (.lmul, 1) := by decide +kernel
theorem dX5_gets_25 : decode cX5_gets 25 = .ok (.ladd, 1) := by decide +kernel
theorem dX5_gets_26 : decode cX5_gets 26 = .ok (.lastore, 1) := by decide +kernel
theorem dX5_gets_27 : decode cX5_gets 27 = .ok (.return_, 1) := by decide +kernel
theorem dX5_isLost_0 : decode cX5_isLost 0 = .ok (.aload_n 0, 1) := by decide +kernel
theorem dX5_isLost_1 : decode cX5_isLost 1 = .ok (.iload_n 1, 1) := by decide +kernel
theorem dX5_isLost_2 : decode cX5_isLost 2 = .ok (.iload_n 2, 1) := by decide +kernel
theorem dX5_isLost_3 : decode cX5_isLost 3 = .ok (.invokevirtual 199, 3) := by decide +kernel
theorem dX5_isLost_6 : decode cX5_isLost 6 = .ok (.aload_n 0, 1) := by decide +kernel
theorem dX5_isLost_7 : decode cX5_isLost 7 = .ok (.dup, 1) := by decide +kernel
theorem dX5_isLost_8 : decode cX5_isLost 8 = .ok (.getfield 203, 3) := by decide +kernel
theorem dX5_isLost_11 : decode cX5_isLost 11 = .ok (.iload_n 2, 1) := by decide +kernel
theorem dX5_isLost_12 : decode cX5_isLost 12 = .ok (.i2l, 1) := by decide +kernel
theorem dX5_isLost_13 : decode cX5_isLost 13 = .ok (.ladd, 1) := by decide +kernel
theorem dX5_isLost_14 : decode cX5_isLost 14 = .ok (.putfield 203, 3) := by decide +kernel
theorem dX5_isLost_17 : decode cX5_isLost 17 = .ok (.return_, 1) := by decide +kernel
theorem dX5_flows_0 : decode cX5_flows 0 = .ok (.iconst 0, 1) := by decide +kernel
theorem dX5_flows_1 : decode cX5_flows 1 = .ok (.istore_n 2, 1) := by decide +kernel
theorem dX5_flows_2 : decode cX5_flows 2 = .ok (.iload_n 2, 1) := by decide +kernel
theorem dX5_flows_3 : decode cX5_flows 3 = .ok (.aload_n 0, 1) := by decide +kernel
theorem dX5_flows_4 : decode cX5_flows 4 = .ok (.getfield 105, 3) := by decide +kernel
theorem dX5_flows_7 : decode cX5_flows 7 = .ok (.if_icmp .ge 29, 3) := by decide +kernel
theorem dX5_flows_10 : decode cX5_flows 10 = .ok (.aload_n 0, 1) := by decide +kernel
theorem dX5_flows_11 : decode cX5_flows 11 = .ok (.getfield 44, 3) := by decide +kernel
theorem dX5_flows_14 : decode cX5_flows 14 = .ok (.iload_n 2, 1) := by decide +kernel
theorem dX5_flows_15 : decode cX5_flows 15 = .ok (.aload_n 0, 1) := by decide +kernel
theorem dX5_flows_16 : decode cX5_flows 16 = .ok (.iload_n 2, 1) := by decide +kernel
theorem dX5_flows_17 : decode cX5_flows 17 = .ok (.iload_n 1, 1) := by decide +kernel
theorem dX5_flows_18 : decode cX5_flows 18 = .ok (.ifCond .le 7, 3) := by decide +kernel
theorem dX5_flows_21 : decode cX5_flows 21 = .ok (.iconst 1, 1) := by decide +kernel
theorem dX5_flows_22 : decode cX5_flows 22 = .ok (.goto 4, 3) := by decide +kernel
theorem dX5_flows_25 : decode cX5_flows 25 = .ok (.iconst 0, 1) := by decide +kernel
theorem dX5_flows_26 : decode cX5_flows 26 = .ok (.invokevirtual 143, 3) := by decide +kernel
theorem dX5_flows_29 : decode cX5_flows 29 = .ok (.iastore, 1) := by decide +kernel
theorem dX5_flows_30 : decode cX5_flows 30 = .ok (.iinc 2 1, 3) := by decide +kernel
theorem dX5_flows_33 : decode cX5_flows 33 = .ok (.goto (-31), 3) := by decide +kernel
theorem dX5_flows_36 : decode cX5_flows 36 = .ok (.iload_n 1, 1) := by decide +kernel
theorem dX5_flows_37 : decode cX5_flows 37 = .ok (.ifCond .le 7, 3) := by decide +kernel
theorem dX5_flows_40 : decode cX5_flows 40 = .ok (.iload_n 1, 1) := by decide +kernel
theorem dX5_flows_41 : decode cX5_flows 41 = .ok (.goto 5, 3) := by decide +kernel
theorem dX5_flows_44 : decode cX5_flows 44 = .ok (.iload_n 1, 1) := by decide +kernel
theorem dX5_flows_45 : decode cX5_flows 45 = .ok (.ineg, 1) := by decide +kernel
theorem dX5_flows_46 : decode cX5_flows 46 = .ok (.istore_n 2, 1) := by decide +kernel
theorem dX5_flows_47 : decode cX5_flows 47 = .ok (.aload_n 0, 1) := by decide +kernel
theorem dX5_flows_48 : decode cX5_flows 48 = .ok (.dup, 1) := by decide +kernel
theorem dX5_flows_49 : decode cX5_flows 49 = .ok (.getfield 136, 3) := by decide +kernel
theorem dX5_flows_52 : decode cX5_flows 52 = .ok (.iload_n 1, 1) := by decide +kernel
theorem dX5_flows_53 : decode cX5_flows 53 = .ok (.ifCond .le 8, 3) := by decide +kernel
theorem dX5_flows_56 : decode cX5_flows 56 = .ok (.iload_n 2, 1) := by decide +kernel
theorem dX5_flows_57 : decode cX5_flows 57 = .ok (.i2l, 1) := by decide +kernel
theorem dX5_flows_58 : decode cX5_flows 58 = .ok (.goto 4, 3) := by decide +kernel
theorem dX5_flows_61 : decode cX5_flows 61 = .ok (.lconst 0, 1) := by decide +kernel
theorem dX5_flows_62 : decode cX5_flows 62 = .ok (.ladd, 1) := by decide +kernel
theorem dX5_flows_63 : decode cX5_flows 63 = .ok (.putfield 136, 3) := by decide +kernel
theorem dX5_flows_66 : decode cX5_flows 66 = .ok (.aload_n 0, 1) := by decide +kernel
theorem dX5_flows_67 : decode cX5_flows 67 = .ok (.dup, 1) := by decide +kernel
theorem dX5_flows_68 : decode cX5_flows 68 = .ok (.getfield 206, 3) := by decide +kernel
theorem dX5_flows_71 : decode cX5_flows 71 = .ok (.iload_n 1, 1) := by decide +kernel
theorem dX5_flows_72 : decode cX5_flows 72 = .ok (.ifCond .le 7, 3) := by decide +kernel
theorem dX5_flows_75 : decode cX5_flows 75 = .ok (.lconst 0, 1) := by decide +kernel
theorem dX5_flows_76 : decode cX5_flows 76 = .ok (.goto 5, 3) := by decide +kernel
theorem dX5_flows_79 : decode cX5_flows 79 = .ok (.iload_n 2, 1) := by decide +kernel
theorem dX5_flows_80 : decode cX5_flows 80 = .ok (.i2l, 1) := by decide +kernel
theorem dX5_flows_81 : decode cX5_flows 81 = .ok (.ladd, 1) := by decide +kernel
theorem dX5_flows_82 : decode cX5_flows 82 = .ok (.putfield 206, 3) := by decide +kernel
theorem dX5_flows_85 : decode cX5_flows 85 = .ok (.iconst 0, 1) := by decide +kernel
theorem dX5_flows_86 : decode cX5_flows 86 = .ok (.istore_n 3, 1) := by decide +kernel
theorem dX5_flows_87 : decode cX5_flows 87 = .ok (.iload_n 3, 1) := by decide +kernel
theorem dX5_flows_88 : decode cX5_flows 88 = .ok (.aload_n 0, 1) := by decide +kernel
theorem dX5_flows_89 : decode cX5_flows 89 = .ok (.getfield 105, 3) := by decide +kernel
theorem dX5_flows_92 : decode cX5_flows 92 = .ok (.if_icmp .ge 47, 3) := by decide +kernel
theorem dX5_flows_95 : decode cX5_flows 95 = .ok (.iload_n 2, 1) := by decide +kernel
theorem dX5_flows_96 : decode cX5_flows 96 = .ok (.aload_n 0, 1) := by decide +kernel
theorem dX5_flows_97 : decode cX5_flows 97 = .ok (.getfield 44, 3) := by decide +kernel
theorem dX5_flows_100 : decode cX5_flows 100 = .ok (.iload_n 3, 1) := by decide +kernel
theorem dX5_flows_101 : decode cX5_flows 101 = .ok (.iaload, 1) := by decide +kernel
theorem dX5_flows_102 : decode cX5_flows 102 = .ok (.invokestatic 162, 3) := by decide +kernel
theorem dX5_flows_105 : decode cX5_flows 105 = .ok (.istore 4, 2) := by decide +kernel
theorem dX5_flows_107 : decode cX5_flows 107 = .ok (.iload_n 1, 1) := by decide +kernel
theorem dX5_flows_108 : decode cX5_flows 108 = .ok (.ifCond .le 13, 3) := by decide +kernel
theorem dX5_flows_111 : decode cX5_flows 111 = .ok (.aload_n 0, 1) := by decide +kernel
theorem dX5_flows_112 : decode cX5_flows 112 = .ok (.iload_n 3, 1) := by decide +kernel
theorem dX5_flows_113 : decode cX5_flows 113 = .ok (.iload 4, 2) := by decide +kernel
theorem dX5_flows_115 : decode cX5_flows 115 = .ok (.invokevirtual 209, 3) := by decide +kernel
theorem dX5_flows_118 : decode cX5_flows 118 = .ok (.goto 10, 3) := by decide +kernel
theorem dX5_flows_121 : decode cX5_flows 121 = .ok (.aload_n 0, 1) := by decide +kernel
theorem dX5_flows_122 : decode cX5_flows 122 = .ok (.iload_n 3, 1) := by decide +kernel
theorem dX5_flows_123 : decode cX5_flows 123 = .ok (.iload 4, 2) := by decide +kernel
theorem dX5_flows_125 : decode cX5_flows 125 = .ok (.invokevirtual 199, 3) := by decide +kernel
theorem dX5_flows_128 : decode cX5_flows 128 = .ok (.iload_n 2, 1) := by decide +kernel
theorem dX5_flows_129 : decode cX5_flows 129 = .ok (.iload 4, 2) := by decide +kernel
theorem dX5_flows_131 : decode cX5_flows 131 = .ok (.isub, 1) := by decide +kernel
theorem dX5_flows_132 : decode cX5_flows 132 = .ok (.istore_n 2, 1) := by decide +kernel
theorem dX5_flows_133 : decode cX5_flows 133 = .ok (.iinc 3 1, 3) := by decide +kernel
theorem dX5_flows_136 : decode cX5_flows 136 = .ok (.goto (-49), 3) := by decide +kernel
theorem dX5_flows_139 : decode cX5_flows 139 = .ok (.return_, 1) := by decide +kernel
theorem dX5_leaks_0 : decode cX5_leaks 0 = .ok (.aload_n 0, 1) := by decide +kernel
theorem dX5_leaks_1 : decode cX5_leaks 1 = .ok (.iload_n 1, 1) := by decide +kernel
theorem dX5_leaks_2 : decode cX5_leaks 2 = .ok (.aload_n 0, 1) := by decide +kernel
theorem dX5_leaks_3 : decode cX5_leaks 3 = .ok (.getfield 37, 3) := by decide +kernel
theorem dX5_leaks_6 : decode cX5_leaks 6 = .ok (.iload_n 1, 1) := by decide +kernel
theorem dX5_leaks_7 : decode cX5_leaks 7 = .ok (.iaload, 1) := by decide +kernel
theorem dX5_leaks_8 : decode cX5_leaks 8 = .ok (.aload_n 0, 1) := by decide +kernel
theorem dX5_leaks_9 : decode cX5_leaks 9 = .ok (.getfield 19, 3) := by decide +kernel
theorem dX5_leaks_12 : decode cX5_leaks 12 = .ok (.iload_n 1, 1) := by decide +kernel
theorem dX5_leaks_13 : decode cX5_leaks 13 = .ok (.iaload, 1) := by decide +kernel
theorem dX5_leaks_14 : decode cX5_leaks 14 = .ok (.invokestatic 162, 3) := by decide +kernel
theorem dX5_leaks_17 : decode cX5_leaks 17 = .ok (.invokevirtual 212, 3) := by decide +kernel
theorem dX5_leaks_20 : decode cX5_leaks 20 = .ok (.aload_n 0, 1) := by decide +kernel
theorem dX5_leaks_21 : decode cX5_leaks 21 = .ok (.getfield 7, 3) := by decide +kernel
theorem dX5_leaks_24 : decode cX5_leaks 24 = .ok (.iload_n 1, 1) := by decide +kernel
theorem dX5_leaks_25 : decode cX5_leaks 25 = .ok (.iaload, 1) := by decide +kernel
theorem dX5_leaks_26 : decode cX5_leaks 26 = .ok (.iconst 2, 1) := by decide +kernel
theorem dX5_leaks_27 : decode cX5_leaks 27 = .ok (.if_icmp .ne 36, 3) := by decide +kernel
theorem dX5_leaks_30 : decode cX5_leaks 30 = .ok (.aload_n 0, 1) := by decide +kernel
theorem dX5_leaks_31 : decode cX5_leaks 31 = .ok (.getfield 19, 3) := by decide +kernel
theorem dX5_leaks_34 : decode cX5_leaks 34 = .ok (.iload_n 1, 1) := by decide +kernel
theorem dX5_leaks_35 : decode cX5_leaks 35 = .ok (.iaload, 1) := by decide +kernel
theorem dX5_leaks_36 : decode cX5_leaks 36 = .ok (.aload_n 0, 1) := by decide +kernel
theorem dX5_leaks_37 : decode cX5_leaks 37 = .ok (.getfield 28, 3) := by decide +kernel
theorem dX5_leaks_40 : decode cX5_leaks 40 = .ok (.iload_n 1, 1) := by decide +kernel
theorem dX5_leaks_41 : decode cX5_leaks 41 = .ok (.iaload, 1) := by decide +kernel
theorem dX5_leaks_42 : decode cX5_leaks 42 = .ok (.if_icmp .le 21, 3) := by decide +kernel
theorem dX5_leaks_45 : decode cX5_leaks 45 = .ok (.aload_n 0, 1) := by decide +kernel
theorem dX5_leaks_46 : decode cX5_leaks 46 = .ok (.iload_n 1, 1) := by decide +kernel
theorem dX5_leaks_47 : decode cX5_leaks 47 = .ok (.aload_n 0, 1) := by decide +kernel
theorem dX5_leaks_48 : decode cX5_leaks 48 = .ok (.getfield 19, 3) := by decide +kernel
theorem dX5_leaks_51 : decode cX5_leaks 51 = .ok (.iload_n 1, 1) := by decide +kernel
theorem dX5_leaks_52 : decode cX5_leaks 52 = .ok (.iaload, 1) := by decide +kernel
theorem dX5_leaks_53 : decode cX5_leaks 53 = .ok (.aload_n 0, 1) := by decide +kernel
theorem dX5_leaks_54 : decode cX5_leaks 54 = .ok (.getfield 28, 3) := by decide +kernel
theorem dX5_leaks_57 : decode cX5_leaks 57 = .ok (.iload_n 1, 1) := by decide +kernel
theorem dX5_leaks_58 : decode cX5_leaks 58 = .ok (.iaload, 1) := by decide +kernel
theorem dX5_leaks_59 : decode cX5_leaks 59 = .ok (.isub, 1) := by decide +kernel
theorem dX5_leaks_60 : decode cX5_leaks 60 = .ok (.invokevirtual 212, 3) := by decide +kernel
theorem dX5_leaks_63 : decode cX5_leaks 63 = .ok (.return_, 1) := by decide +kernel
theorem dX5_endsDay_0 : decode cX5_endsDay 0 = .ok (.aload_n 0, 1) := by decide +kernel
theorem dX5_endsDay_1 : decode cX5_endsDay 1 = .ok (.iload_n 1, 1) := by decide +kernel
theorem dX5_endsDay_2 : decode cX5_endsDay 2 = .ok (.invokevirtual 119, 3) := by decide +kernel
theorem dX5_endsDay_5 : decode cX5_endsDay 5 = .ok (.istore_n 2, 1) := by decide +kernel
theorem dX5_endsDay_6 : decode cX5_endsDay 6 = .ok (.aload_n 0, 1) := by decide +kernel
theorem dX5_endsDay_7 : decode cX5_endsDay 7 = .ok (.getfield 7, 3) := by decide +kernel
theorem dX5_endsDay_10 : decode cX5_endsDay 10 = .ok (.iload_n 1, 1) := by decide +kernel
theorem dX5_endsDay_11 : decode cX5_endsDay 11 = .ok (.iaload, 1) := by decide +kernel
theorem dX5_endsDay_12 : decode cX5_endsDay 12 = .ok (.ifCond .ne 66, 3) := by decide +kernel
theorem dX5_endsDay_15 : decode cX5_endsDay 15 = .ok (.aload_n 0, 1) := by decide +kernel
theorem dX5_endsDay_16 : decode cX5_endsDay 16 = .ok (.getfield 16, 3) := by decide +kernel
theorem dX5_endsDay_19 : decode cX5_endsDay 19 = .ok (.iload_n 1, 1) := by decide +kernel
theorem dX5_endsDay_20 : decode cX5_endsDay 20 = .ok (.dup2, 1) := by decide +kernel
theorem dX5_endsDay_21 : decode cX5_endsDay 21 = .ok (.iaload, 1) := by decide +kernel
theorem dX5_endsDay_22 : decode cX5_endsDay 22 = .ok (.iload_n 2, 1) := by decide +kernel
theorem dX5_endsDay_23 : decode cX5_endsDay 23 = .ok (.aload_n 0, 1) := by decide +kernel
theorem dX5_endsDay_24 : decode cX5_endsDay 24 = .ok (.getfield 28, 3) := by decide +kernel
theorem dX5_endsDay_27 : decode cX5_endsDay 27 = .ok (.iload_n 1, 1) := by decide +kernel
theorem dX5_endsDay_28 : decode cX5_endsDay 28 = .ok (.iaload, 1) := by decide +kernel
theorem dX5_endsDay_29 : decode cX5_endsDay 29 = .ok (.if_icmp .ge 15, 3) := by decide +kernel
theorem dX5_endsDay_32 : decode cX5_endsDay 32 = .ok (.aload_n 0, 1) := by decide +kernel
theorem dX5_endsDay_33 : decode cX5_endsDay 33 = .ok (.iload_n 1, 1) := by decide +kernel
theorem dX5_endsDay_34 : decode cX5_endsDay 34 = .ok (.invokevirtual 115, 3) := by decide +kernel
theorem dX5_endsDay_37 : decode cX5_endsDay 37 = .ok (.sipush 200, 3) := by decide +kernel
theorem dX5_endsDay_40 : decode cX5_endsDay 40 = .ok (.idiv, 1) := by decide +kernel
theorem dX5_endsDay_41 : decode cX5_endsDay 41 = .ok (.goto 32, 3) := by decide +kernel
theorem dX5_endsDay_44 : decode cX5_endsDay 44 = .ok (.iload_n 2, 1) := by decide +kernel
theorem dX5_endsDay_45 : decode cX5_endsDay 45 = .ok (.aload_n 0, 1) := by decide +kernel
theorem dX5_endsDay_46 : decode cX5_endsDay 46 = .ok (.getfield 28, 3) := by decide +kernel
theorem dX5_endsDay_49 : decode cX5_endsDay 49 = .ok (.iload_n 1, 1) := by decide +kernel
theorem dX5_endsDay_50 : decode cX5_endsDay 50 = .ok (.iaload, 1) := by decide +kernel
theorem dX5_endsDay_51 : decode cX5_endsDay 51 = .ok (.if_icmp .le 21, 3) := by decide +kernel
theorem dX5_endsDay_54 : decode cX5_endsDay 54 = .ok (.aload_n 0, 1) := by decide +kernel
theorem dX5_endsDay_55 : decode cX5_endsDay 55 = .ok (.getfield 16, 3) := by decide +kernel
theorem dX5_endsDay_58 : decode cX5_endsDay 58 = .ok (.iload_n 1, 1) := by decide +kernel
theorem dX5_endsDay_59 : decode cX5_endsDay 59 = .ok (.iaload, 1) := by decide +kernel
theorem dX5_endsDay_60 : decode cX5_endsDay 60 = .ok (.sipush 199, 3) := by decide +kernel
theorem dX5_endsDay_63 : decode cX5_endsDay 63 = .ok (.iadd, 1) := by decide +kernel
theorem dX5_endsDay_64 : decode cX5_endsDay 64 = .ok (.sipush 200, 3) := by decide +kernel
theorem dX5_endsDay_67 : decode cX5_endsDay 67 = .ok (.idiv, 1) := by decide +kernel
theorem dX5_endsDay_68 : decode cX5_endsDay 68 = .ok (.ineg, 1) := by decide +kernel
theorem dX5_endsDay_69 : decode cX5_endsDay 69 = .ok (.goto 4, 3) := by decide +kernel
theorem dX5_endsDay_72 : decode cX5_endsDay 72 = .ok (.iconst 0, 1) := by decide +kernel
theorem dX5_endsDay_73 : decode cX5_endsDay 73 = .ok (.iadd, 1) := by decide +kernel
theorem dX5_endsDay_74 : decode cX5_endsDay 74 = .ok (.iastore, 1) := by decide +kernel
theorem dX5_endsDay_75 : decode cX5_endsDay 75 = .ok (.goto 77, 3) := by decide +kernel
theorem dX5_endsDay_78 : decode cX5_endsDay 78 = .ok (.aload_n 0, 1) := by decide +kernel
theorem dX5_endsDay_79 : decode cX5_endsDay 79 = .ok (.getfield 7, 3) := by decide +kernel
theorem dX5_endsDay_82 : decode cX5_endsDay 82 = .ok (.iload_n 1, 1) := by decide +kernel
theorem dX5_endsDay_83 : decode cX5_endsDay 83 = .ok (.iaload, 1) := by decide +kernel
theorem dX5_endsDay_84 : decode cX5_endsDay 84 = .ok (.iconst 1, 1) := by decide +kernel
theorem dX5_endsDay_85 : decode cX5_endsDay 85 = .ok (.if_icmp .ne 67, 3) := by decide +kernel
theorem dX5_endsDay_88 : decode cX5_endsDay 88 = .ok (.iload_n 2, 1) := by decide +kernel
theorem dX5_endsDay_89 : decode cX5_endsDay 89 = .ok (.aload_n 0, 1) := by decide +kernel
theorem dX5_endsDay_90 : decode cX5_endsDay 90 = .ok (.getfield 28, 3) := by decide +kernel
theorem dX5_endsDay_93 : decode cX5_endsDay 93 = .ok (.iload_n 1, 1) := by decide +kernel
theorem dX5_endsDay_94 : decode cX5_endsDay 94 = .ok (.iaload, 1) := by decide +kernel
theorem dX5_endsDay_95 : decode cX5_endsDay 95 = .ok (.if_icmp .ge 57, 3) := by decide +kernel
theorem dX5_endsDay_98 : decode cX5_endsDay 98 = .ok (.aload_n 0, 1) := by decide +kernel
theorem dX5_endsDay_99 : decode cX5_endsDay 99 = .ok (.getfield 13, 3) := by decide +kernel
theorem dX5_endsDay_102 : decode cX5_endsDay 102 = .ok (.iload_n 1, 1) := by decide +kernel
theorem dX5_endsDay_103 : decode cX5_endsDay 103 = .ok (.iaload, 1) := by decide +kernel
theorem dX5_endsDay_104 : decode cX5_endsDay 104 = .ok (.i2l, 1) := by decide +kernel
theorem dX5_endsDay_105 : decode cX5_endsDay 105 = .ok (.aload_n 0, 1) := by decide +kernel
theorem dX5_endsDay_106 : decode cX5_endsDay 106 = .ok (.getfield 28, 3) := by decide +kernel
theorem dX5_endsDay_109 : decode cX5_endsDay 109 = .ok (.iload_n 1, 1) := by decide +kernel
theorem dX5_endsDay_110 : decode cX5_endsDay 110 = .ok (.iaload, 1) := by decide +kernel
theorem dX5_endsDay_111 : decode cX5_endsDay 111 = .ok (.iload_n 2, 1) := by decide +kernel
theorem dX5_endsDay_112 : decode cX5_endsDay 112 = .ok (.isub, 1) := by decide +kernel
theorem dX5_endsDay_113 : decode cX5_endsDay 113 = .ok (.i2l, 1) := by decide +kernel
theorem dX5_endsDay_114 : decode cX5_endsDay 114 = .ok (.lmul, 1) := by decide +kernel
theorem dX5_endsDay_115 : decode cX5_endsDay 115 = .ok (.ldc2_w 215, 3) := by decide +kernel
theorem dX5_endsDay_118 : decode cX5_endsDay 118 = .ok (.ldiv, 1) := by decide +kernel
theorem dX5_endsDay_119 : decode cX5_endsDay 119 = .ok (.lstore_n 3, 1) := by decide +kernel
theorem dX5_endsDay_120 : decode cX5_endsDay 120 = .ok (.aload_n 0, 1) := by decide +kernel
theorem dX5_endsDay_121 : decode cX5_endsDay 121 = .ok (.getfield 13, 3) := by decide +kernel
theorem dX5_endsDay_124 : decode cX5_endsDay 124 = .ok (.iload_n 1, 1) := by decide +kernel
theorem dX5_endsDay_125 : decode cX5_endsDay 125 = .ok (.lload_n 3, 1) := by decide +kernel
theorem dX5_endsDay_126 : decode cX5_endsDay 126 = .ok (.aload_n 0, 1) := by decide +kernel
theorem dX5_endsDay_127 : decode cX5_endsDay 127 = .ok (.getfield 13, 3) := by decide +kernel
theorem dX5_endsDay_130 : decode cX5_endsDay 130 = .ok (.iload_n 1, 1) := by decide +kernel
theorem dX5_endsDay_131 : decode cX5_endsDay 131 = .ok (.iaload, 1) := by decide +kernel
theorem dX5_endsDay_132 : decode cX5_endsDay 132 = .ok (.i2l, 1) := by decide +kernel
theorem dX5_endsDay_133 : decode cX5_endsDay 133 = .ok (.lcmp, 1) := by decide +kernel
theorem dX5_endsDay_134 : decode cX5_endsDay 134 = .ok (.ifCond .ge 16, 3) := by decide +kernel
theorem dX5_endsDay_137 : decode cX5_endsDay 137 = .ok (.aload_n 0, 1) := by decide +kernel
theorem dX5_endsDay_138 : decode cX5_endsDay 138 = .ok (.getfield 13, 3) := by decide +kernel
theorem dX5_endsDay_141 : decode cX5_endsDay 141 = .ok (.iload_n 1, 1) := by decide +kernel
theorem dX5_endsDay_142 : decode cX5_endsDay 142 = .ok (.iaload, 1) := by decide +kernel
theorem dX5_endsDay_143 : decode cX5_endsDay 143 = .ok (.i2l, 1) := by decide +kernel
theorem dX5_endsDay_144 : decode cX5_endsDay 144 = .ok (.lload_n 3, 1) := by decide +kernel
theorem dX5_endsDay_145 : decode cX5_endsDay 145 = .ok (.lsub, 1) := by decide +kernel
theorem dX5_endsDay_146 : decode cX5_endsDay 146 = .ok (.l2i, 1) := by decide +kernel
theorem dX5_endsDay_147 : decode cX5_endsDay 147 = .ok (.goto 4, 3) := by decide +kernel
theorem dX5_endsDay_150 : decode cX5_endsDay 150 = .ok (.iconst 1, 1) := by decide +kernel
theorem dX5_endsDay_151 : decode cX5_endsDay 151 = .ok (.iastore, 1) := by decide +kernel
theorem dX5_endsDay_152 : decode cX5_endsDay 152 = .ok (.aload_n 0, 1) := by decide +kernel
theorem dX5_endsDay_153 : decode cX5_endsDay 153 = .ok (.getfield 25, 3) := by decide +kernel
theorem dX5_endsDay_156 : decode cX5_endsDay 156 = .ok (.iload_n 1, 1) := by decide +kernel
theorem dX5_endsDay_157 : decode cX5_endsDay 157 = .ok (.iaload, 1) := by decide +kernel
theorem dX5_endsDay_158 : decode cX5_endsDay 158 = .ok (.aload_n 0, 1) := by decide +kernel
theorem dX5_endsDay_159 : decode cX5_endsDay 159 = .ok (.iload_n 1, 1) := by decide +kernel
theorem dX5_endsDay_160 : decode cX5_endsDay 160 = .ok (.invokevirtual 115, 3) := by decide +kernel
theorem dX5_endsDay_163 : decode cX5_endsDay 163 = .ok (.invokestatic 122, 3) := by decide +kernel
theorem dX5_endsDay_166 : decode cX5_endsDay 166 = .ok (.istore_n 3, 1) := by decide +kernel
theorem dX5_endsDay_167 : decode cX5_endsDay 167 = .ok (.aload_n 0, 1) := by decide +kernel
theorem dX5_endsDay_168 : decode cX5_endsDay 168 = .ok (.getfield 19, 3) := by decide +kernel
theorem dX5_endsDay_171 : decode cX5_endsDay 171 = .ok (.iload_n 1, 1) := by decide +kernel
theorem dX5_endsDay_172 : decode cX5_endsDay 172 = .ok (.iaload, 1) := by decide +kernel
theorem dX5_endsDay_173 : decode cX5_endsDay 173 = .ok (.iload_n 3, 1) := by decide +kernel
theorem dX5_endsDay_174 : decode cX5_endsDay 174 = .ok (.if_icmp .le 16, 3) := by decide +kernel
theorem dX5_endsDay_177 : decode cX5_endsDay 177 = .ok (.aload_n 0, 1) := by decide +kernel
theorem dX5_endsDay_178 : decode cX5_endsDay 178 = .ok (.iload_n 1, 1) := by decide +kernel
theorem dX5_endsDay_179 : decode cX5_endsDay 179 = .ok (.aload_n 0, 1) := by decide +kernel
theorem dX5_endsDay_180 : decode cX5_endsDay 180 = .ok (.getfield 19, 3) := by decide +kernel
theorem dX5_endsDay_183 : decode cX5_endsDay 183 = .ok (.iload_n 1, 1) := by decide +kernel
theorem dX5_endsDay_184 : decode cX5_endsDay 184 = .ok (.iaload, 1) := by decide +kernel
theorem dX5_endsDay_185 : decode cX5_endsDay 185 = .ok (.iload_n 3, 1) := by decide +kernel
theorem dX5_endsDay_186 : decode cX5_endsDay 186 = .ok (.isub, 1) := by decide +kernel
theorem dX5_endsDay_187 : decode cX5_endsDay 187 = .ok (.invokevirtual 212, 3) := by decide +kernel
theorem dX5_endsDay_190 : decode cX5_endsDay 190 = .ok (.return_, 1) := by decide +kernel
theorem dX5_goesBy_0 : decode cX5_goesBy 0 = .ok (.aload_n 0, 1) := by decide +kernel
theorem dX5_goesBy_1 : decode cX5_goesBy 1 = .ok (.invokevirtual 217, 3) := by decide +kernel
theorem dX5_goesBy_4 : decode cX5_goesBy 4 = .ok (.aload_n 0, 1) := by decide +kernel
theorem dX5_goesBy_5 : decode cX5_goesBy 5 = .ok (.iconst 1, 1) := by decide +kernel
theorem dX5_goesBy_6 : decode cX5_goesBy 6 = .ok (.invokevirtual 187, 3) := by decide +kernel
theorem dX5_goesBy_9 : decode cX5_goesBy 9 = .ok (.aload_n 0, 1) := by decide +kernel
theorem dX5_goesBy_10 : decode cX5_goesBy 10 = .ok (.iconst 0, 1) := by decide +kernel
theorem dX5_goesBy_11 : decode cX5_goesBy 11 = .ok (.invokevirtual 187, 3) := by decide +kernel
theorem dX5_goesBy_14 : decode cX5_goesBy 14 = .ok (.isub, 1) := by decide +kernel
theorem dX5_goesBy_15 : decode cX5_goesBy 15 = .ok (.istore_n 1, 1) := by decide +kernel
theorem dX5_goesBy_16 : decode cX5_goesBy 16 = .ok (.aload_n 0, 1) := by decide +kernel
theorem dX5_goesBy_17 : decode cX5_goesBy 17 = .ok (.iload_n 1, 1) := by decide +kernel
theorem dX5_goesBy_18 : decode cX5_goesBy 18 = .ok (.invokevirtual 220, 3) := by decide +kernel
theorem dX5_goesBy_21 : decode cX5_goesBy 21 = .ok (.iconst 0, 1) := by decide +kernel
theorem dX5_goesBy_22 : decode cX5_goesBy 22 = .ok (.istore_n 2, 1) := by decide +kernel
theorem dX5_goesBy_23 : decode cX5_goesBy 23 = .ok (.iload_n 2, 1) := by decide +kernel
theorem dX5_goesBy_24 : decode cX5_goesBy 24 = .ok (.aload_n 0, 1) := by decide +kernel
theorem dX5_goesBy_25 : decode cX5_goesBy 25 = .ok (.getfield 112, 3) := by decide +kernel
theorem dX5_goesBy_28 : decode cX5_goesBy 28 = .ok (.if_icmp .ge 97, 3) := by decide +kernel
theorem dX5_goesBy_31 : decode cX5_goesBy 31 = .ok (.aload_n 0, 1) := by decide +kernel
theorem dX5_goesBy_32 : decode cX5_goesBy 32 = .ok (.getfield 63, 3) := by decide +kernel
theorem dX5_goesBy_35 : decode cX5_goesBy 35 = .ok (.iload_n 2, 1) := by decide +kernel
theorem dX5_goesBy_36 : decode cX5_goesBy 36 = .ok (.dup2, 1) := by decide +kernel
theorem dX5_goesBy_37 : decode cX5_goesBy 37 = .ok (.iaload, 1) := by decide +kernel
theorem dX5_goesBy_38 : decode cX5_goesBy 38 = .ok (.aload_n 0, 1) := by decide +kernel
theorem dX5_goesBy_39 : decode cX5_goesBy 39 = .ok (.getfield 90, 3) := by decide +kernel
theorem dX5_goesBy_42 : decode cX5_goesBy 42 = .ok (.iload_n 2, 1) := by decide +kernel
theorem dX5_goesBy_43 : decode cX5_goesBy 43 = .ok (.iaload, 1) := by decide +kernel
theorem dX5_goesBy_44 : decode cX5_goesBy 44 = .ok (.aload_n 0, 1) := by decide +kernel
theorem dX5_goesBy_45 : decode cX5_goesBy 45 = .ok (.getfield 93, 3) := by decide +kernel
theorem dX5_goesBy_48 : decode cX5_goesBy 48 = .ok (.iload_n 2, 1) := by decide +kernel
theorem dX5_goesBy_49 : decode cX5_goesBy 49 = .ok (.iaload, 1) := by decide +kernel
theorem dX5_goesBy_50 : decode cX5_goesBy 50 = .ok (.isub, 1) := by decide +kernel
theorem dX5_goesBy_51 : decode cX5_goesBy 51 = .ok (.iadd, 1) := by decide +kernel
theorem dX5_goesBy_52 : decode cX5_goesBy 52 = .ok (.iastore, 1) := by decide +kernel
theorem dX5_goesBy_53 : decode cX5_goesBy 53 = .ok (.aload_n 0, 1) := by decide +kernel
theorem dX5_goesBy_54 : decode cX5_goesBy 54 = .ok (.getfield 66, 3) := by decide +kernel
theorem dX5_goesBy_57 : decode cX5_goesBy 57 = .ok (.iload_n 2, 1) := by decide +kernel
theorem dX5_goesBy_58 : decode cX5_goesBy 58 = .ok (.dup2, 1) := by decide +kernel
theorem dX5_goesBy_59 : decode cX5_goesBy 59 = .ok (.laload, 1) := by decide +kernel
theorem dX5_goesBy_60 : decode cX5_goesBy 60 = .ok (.aload_n 0, 1) := by decide +kernel
theorem dX5_goesBy_61 : decode cX5_goesBy 61 = .ok (.getfield 90, 3) := by decide +kernel
theorem dX5_goesBy_64 : decode cX5_goesBy 64 = .ok (.iload_n 2, 1) := by decide +kernel
theorem dX5_goesBy_65 : decode cX5_goesBy 65 = .ok (.iaload, 1) := by decide +kernel
theorem dX5_goesBy_66 : decode cX5_goesBy 66 = .ok (.i2l, 1) := by decide +kernel
theorem dX5_goesBy_67 : decode cX5_goesBy 67 = .ok (.ladd, 1) := by decide +kernel
theorem dX5_goesBy_68 : decode cX5_goesBy 68 = .ok (.lastore, 1) := by decide +kernel
theorem dX5_goesBy_69 : decode cX5_goesBy 69 = .ok (.aload_n 0, 1) := by decide +kernel
theorem dX5_goesBy_70 : decode cX5_goesBy 70 = .ok (.getfield 69, 3) := by decide +kernel
theorem dX5_goesBy_73 : decode cX5_goesBy 73 = .ok (.iload_n 2, 1) := by decide +kernel
theorem dX5_goesBy_74 : decode cX5_goesBy 74 = .ok (.dup2, 1) := by decide +kernel
theorem dX5_goesBy_75 : decode cX5_goesBy 75 = .ok (.laload, 1) := by decide +kernel
theorem dX5_goesBy_76 : decode cX5_goesBy 76 = .ok (.aload_n 0, 1) := by decide +kernel
theorem dX5_goesBy_77 : decode cX5_goesBy 77 = .ok (.getfield 93, 3) := by decide +kernel
theorem dX5_goesBy_80 : decode cX5_goesBy 80 = .ok (.iload_n 2, 1) := by decide +kernel
theorem dX5_goesBy_81 : decode cX5_goesBy 81 = .ok (.iaload, 1) := by decide +kernel
theorem dX5_goesBy_82 : decode cX5_goesBy 82 = .ok (.i2l, 1) := by decide +kernel
theorem dX5_goesBy_83 : decode cX5_goesBy 83 = .ok (.ladd, 1) := by decide +kernel
theorem dX5_goesBy_84 : decode cX5_goesBy 84 = .ok (.lastore, 1) := by decide +kernel
theorem dX5_goesBy_85 : decode cX5_goesBy 85 = .ok (.aload_n 0, 1) := by decide +kernel
theorem dX5_goesBy_86 : decode cX5_goesBy 86 = .ok (.getfield 72, 3) := by decide +kernel
theorem dX5_goesBy_89 : decode cX5_goesBy 89 = .ok (.iload_n 2, 1) := by decide +kernel
theorem dX5_goesBy_90 : decode cX5_goesBy 90 = .ok (.dup2, 1) := by decide +kernel
theorem dX5_goesBy_91 : decode cX5_goesBy 91 = .ok (.laload, 1) := by decide +kernel
theorem dX5_goesBy_92 : decode cX5_goesBy 92 = .ok (.aload_n 0, 1) := by decide +kernel
theorem dX5_goesBy_93 : decode cX5_goesBy 93 = .ok (.getfield 96, 3) := by decide +kernel
theorem dX5_goesBy_96 : decode cX5_goesBy 96 = .ok (.iload_n 2, 1) := by decide +kernel
theorem dX5_goesBy_97 : decode cX5_goesBy 97 = .ok (.iaload, 1) := by decide +kernel
theorem dX5_goesBy_98 : decode cX5_goesBy 98 = .ok (.i2l, 1) := by decide +kernel
theorem dX5_goesBy_99 : decode cX5_goesBy 99 = .ok (.ladd, 1) := by decide +kernel
theorem dX5_goesBy_100 : decode cX5_goesBy 100 = .ok (.lastore, 1) := by decide +kernel
theorem dX5_goesBy_101 : decode cX5_goesBy 101 = .ok (.aload_n 0, 1) := by decide +kernel
theorem dX5_goesBy_102 : decode cX5_goesBy 102 = .ok (.getfield 75, 3) := by decide +kernel
theorem dX5_goesBy_105 : decode cX5_goesBy 105 = .ok (.bipush 64, 2) := by decide +kernel
theorem dX5_goesBy_107 : decode cX5_goesBy 107 = .ok (.iload_n 2, 1) := by decide +kernel
theorem dX5_goesBy_108 : decode cX5_goesBy 108 = .ok (.imul, 1) := by decide +kernel
theorem dX5_goesBy_109 : decode cX5_goesBy 109 = .ok (.aload_n 0, 1) := by decide +kernel
theorem dX5_goesBy_110 : decode cX5_goesBy 110 = .ok (.getfield 151, 3) := by decide +kernel
theorem dX5_goesBy_113 : decode cX5_goesBy 113 = .ok (.bipush 64, 2) := by decide +kernel
theorem dX5_goesBy_115 : decode cX5_goesBy 115 = .ok (.irem, 1) := by decide +kernel
theorem dX5_goesBy_116 : decode cX5_goesBy 116 = .ok (.iadd, 1) := by decide +kernel
theorem dX5_goesBy_117 : decode cX5_goesBy 117 = .ok (.iconst 0, 1) := by decide +kernel
theorem dX5_goesBy_118 : decode cX5_goesBy 118 = .ok (.iastore, 1) := by decide +kernel
theorem dX5_goesBy_119 : decode cX5_goesBy 119 = .ok (.iinc 2 1, 3) := by decide +kernel
theorem dX5_goesBy_122 : decode cX5_goesBy 122 = .ok (.goto (-99), 3) := by decide +kernel
theorem dX5_goesBy_125 : decode cX5_goesBy 125 = .ok (.aload_n 0, 1) := by decide +kernel
theorem dX5_goesBy_126 : decode cX5_goesBy 126 = .ok (.getfield 78, 3) := by decide +kernel
theorem dX5_goesBy_129 : decode cX5_goesBy 129 = .ok (.aload_n 0, 1) := by decide +kernel
theorem dX5_goesBy_130 : decode cX5_goesBy 130 = .ok (.getfield 151, 3) := by decide +kernel
theorem dX5_goesBy_133 : decode cX5_goesBy 133 = .ok (.bipush 64, 2) := by decide +kernel
theorem dX5_goesBy_135 : decode cX5_goesBy 135 = .ok (.irem, 1) := by decide +kernel
theorem dX5_goesBy_136 : decode cX5_goesBy 136 = .ok (.iconst 0, 1) := by decide +kernel
theorem dX5_goesBy_137 : decode cX5_goesBy 137 = .ok (.iastore, 1) := by decide +kernel
theorem dX5_goesBy_138 : decode cX5_goesBy 138 = .ok (.aload_n 0, 1) := by decide +kernel
theorem dX5_goesBy_139 : decode cX5_goesBy 139 = .ok (.aload_n 0, 1) := by decide +kernel
theorem dX5_goesBy_140 : decode cX5_goesBy 140 = .ok (.getfield 169, 3) := by decide +kernel
theorem dX5_goesBy_143 : decode cX5_goesBy 143 = .ok (.putfield 172, 3) := by decide +kernel
theorem dX5_goesBy_146 : decode cX5_goesBy 146 = .ok (.aload_n 0, 1) := by decide +kernel
theorem dX5_goesBy_147 : decode cX5_goesBy 147 = .ok (.iload_n 1, 1) := by decide +kernel
theorem dX5_goesBy_148 : decode cX5_goesBy 148 = .ok (.ifCond .le 7, 3) := by decide +kernel
theorem dX5_goesBy_151 : decode cX5_goesBy 151 = .ok (.iconst 1, 1) := by decide +kernel
theorem dX5_goesBy_152 : decode cX5_goesBy 152 = .ok (.goto 12, 3) := by decide +kernel
theorem dX5_goesBy_155 : decode cX5_goesBy 155 = .ok (.iload_n 1, 1) := by decide +kernel
theorem dX5_goesBy_156 : decode cX5_goesBy 156 = .ok (.ifCond .ge 7, 3) := by decide +kernel
theorem dX5_goesBy_159 : decode cX5_goesBy 159 = .ok (.iconst (-1), 1) := by decide +kernel
theorem dX5_goesBy_160 : decode cX5_goesBy 160 = .ok (.goto 4, 3) := by decide +kernel
theorem dX5_goesBy_163 : decode cX5_goesBy 163 = .ok (.iconst 0, 1) := by decide +kernel
theorem dX5_goesBy_164 : decode cX5_goesBy 164 = .ok (.putfield 169, 3) := by decide +kernel
theorem dX5_goesBy_167 : decode cX5_goesBy 167 = .ok (.iconst 0, 1) := by decide +kernel
theorem dX5_goesBy_168 : decode cX5_goesBy 168 = .ok (.istore_n 2, 1) := by decide +kernel
theorem dX5_goesBy_169 : decode cX5_goesBy 169 = .ok (.iload_n 2, 1) := by decide +kernel
theorem dX5_goesBy_170 : decode cX5_goesBy 170 = .ok (.aload_n 0, 1) := by decide +kernel
theorem dX5_goesBy_171 : decode cX5_goesBy 171 = .ok (.getfield 105, 3) := by decide +kernel
theorem dX5_goesBy_174 : decode cX5_goesBy 174 = .ok (.if_icmp .ge 14, 3) := by decide +kernel
theorem dX5_goesBy_177 : decode cX5_goesBy 177 = .ok (.aload_n 0, 1) := by decide +kernel
theorem dX5_goesBy_178 : decode cX5_goesBy 178 = .ok (.iload_n 2, 1) := by decide +kernel
theorem dX5_goesBy_179 : decode cX5_goesBy 179 = .ok (.invokevirtual 223, 3) := by decide +kernel
theorem dX5_goesBy_182 : decode cX5_goesBy 182 = .ok (.iinc 2 1, 3) := by decide +kernel
theorem dX5_goesBy_185 : decode cX5_goesBy 185 = .ok (.goto (-16), 3) := by decide +kernel
theorem dX5_goesBy_188 : decode cX5_goesBy 188 = .ok (.aload_n 0, 1) := by decide +kernel
theorem dX5_goesBy_189 : decode cX5_goesBy 189 = .ok (.dup, 1) := by decide +kernel
theorem dX5_goesBy_190 : decode cX5_goesBy 190 = .ok (.getfield 151, 3) := by decide +kernel
theorem dX5_goesBy_193 : decode cX5_goesBy 193 = .ok (.iconst 1, 1) := by decide +kernel
theorem dX5_goesBy_194 : decode cX5_goesBy 194 = .ok (.iadd, 1) := by decide +kernel
theorem dX5_goesBy_195 : decode cX5_goesBy 195 = .ok (.putfield 151, 3) := by decide +kernel
theorem dX5_goesBy_198 : decode cX5_goesBy 198 = .ok (.iconst 0, 1) := by decide +kernel
theorem dX5_goesBy_199 : decode cX5_goesBy 199 = .ok (.istore_n 2, 1) := by decide +kernel
theorem dX5_goesBy_200 : decode cX5_goesBy 200 = .ok (.iload_n 2, 1) := by decide +kernel
theorem dX5_goesBy_201 : decode cX5_goesBy 201 = .ok (.aload_n 0, 1) := by decide +kernel
theorem dX5_goesBy_202 : decode cX5_goesBy 202 = .ok (.getfield 105, 3) := by decide +kernel
theorem dX5_goesBy_205 : decode cX5_goesBy 205 = .ok (.if_icmp .ge 24, 3) := by decide +kernel
theorem dX5_goesBy_208 : decode cX5_goesBy 208 = .ok (.aload_n 0, 1) := by decide +kernel
theorem dX5_goesBy_209 : decode cX5_goesBy 209 = .ok (.getfield 151, 3) := by decide +kernel
theorem dX5_goesBy_212 : decode cX5_goesBy 212 = .ok (.bipush 24, 2) := by decide +kernel
theorem dX5_goesBy_214 : decode cX5_goesBy 214 = .ok (.irem, 1) := by decide +kernel
theorem dX5_goesBy_215 : decode cX5_goesBy 215 = .ok (.ifCond .ne 14, 3) := by decide +kernel
theorem dX5_goesBy_218 : decode cX5_goesBy 218 = .ok (.aload_n 0, 1) := by decide +kernel
theorem dX5_goesBy_219 : decode cX5_goesBy 219 = .ok (.iload_n 2, 1) := by decide +kernel
theorem dX5_goesBy_220 : decode cX5_goesBy 220 = .ok (.invokevirtual 226, 3) := by decide +kernel
theorem dX5_goesBy_223 : decode cX5_goesBy 223 = .ok (.iinc 2 1, 3) := by decide +kernel
theorem dX5_goesBy_226 : decode cX5_goesBy 226 = .ok (.goto (-26), 3) := by decide +kernel
theorem dX5_goesBy_229 : decode cX5_goesBy 229 = .ok (.return_, 1) := by decide +kernel
theorem dX5_pass_0 : decode cX5_pass 0 = .ok (.aload_n 0, 1) := by decide +kernel
theorem dX5_pass_1 : decode cX5_pass 1 = .ok (.iload_n 1, 1) := by decide +kernel
theorem dX5_pass_2 : decode cX5_pass 2 = .ok (.iconst 1, 1) := by decide +kernel
theorem dX5_pass_3 : decode cX5_pass 3 = .ok (.sipush 240, 3) := by decide +kernel
theorem dX5_pass_6 : decode cX5_pass 6 = .ok (.invokestatic 108, 3) := by decide +kernel
theorem dX5_pass_9 : decode cX5_pass 9 = .ok (.ifCond .ne 7, 3) := by decide +kernel
theorem dX5_pass_12 : decode cX5_pass 12 = .ok (.iconst 1, 1) := by decide +kernel
theorem dX5_pass_13 : decode cX5_pass 13 = .ok (.goto 20, 3) := by decide +kernel
theorem dX5_pass_16 : decode cX5_pass 16 = .ok (.aload_n 0, 1) := by decide +kernel
theorem dX5_pass_17 : decode cX5_pass 17 = .ok (.getfield 151, 3) := by decide +kernel
theorem dX5_pass_20 : decode cX5_pass 20 = .ok (.iload_n 1, 1) := by decide +kernel
theorem dX5_pass_21 : decode cX5_pass 21 = .ok (.iadd, 1) := by decide +kernel
theorem dX5_pass_22 : decode cX5_pass 22 = .ok (.sipush 9900, 3) := by decide +kernel
theorem dX5_pass_25 : decode cX5_pass 25 = .ok (.if_icmp .le 7, 3) := by decide +kernel
theorem dX5_pass_28 : decode cX5_pass 28 = .ok (.iconst 2, 1) := by decide +kernel
theorem dX5_pass_29 : decode cX5_pass 29 = .ok (.goto 4, 3) := by decide +kernel
theorem dX5_pass_32 : decode cX5_pass 32 = .ok (.iconst 0, 1) := by decide +kernel
theorem dX5_pass_33 : decode cX5_pass 33 = .ok (.invokevirtual 133, 3) := by decide +kernel
theorem dX5_pass_36 : decode cX5_pass 36 = .ok (.ifCond .ne 5, 3) := by decide +kernel
theorem dX5_pass_39 : decode cX5_pass 39 = .ok (.iconst 0, 1) := by decide +kernel
theorem dX5_pass_40 : decode cX5_pass 40 = .ok (.ireturn, 1) := by decide +kernel
theorem dX5_pass_41 : decode cX5_pass 41 = .ok (.iconst 0, 1) := by decide +kernel
theorem dX5_pass_42 : decode cX5_pass 42 = .ok (.istore_n 2, 1) := by decide +kernel
theorem dX5_pass_43 : decode cX5_pass 43 = .ok (.iload_n 2, 1) := by decide +kernel
theorem dX5_pass_44 : decode cX5_pass 44 = .ok (.iload_n 1, 1) := by decide +kernel
theorem dX5_pass_45 : decode cX5_pass 45 = .ok (.if_icmp .ge 13, 3) := by decide +kernel
theorem dX5_pass_48 : decode cX5_pass 48 = .ok (.aload_n 0, 1) := by decide +kernel
theorem dX5_pass_49 : decode cX5_pass 49 = .ok (.invokevirtual 229, 3) := by decide +kernel
theorem dX5_pass_52 : decode cX5_pass 52 = .ok (.iinc 2 1, 3) := by decide +kernel
theorem dX5_pass_55 : decode cX5_pass 55 = .ok (.goto (-12), 3) := by decide +kernel
theorem dX5_pass_58 : decode cX5_pass 58 = .ok (.aload_n 0, 1) := by decide +kernel
theorem dX5_pass_59 : decode cX5_pass 59 = .ok (.getfield 151, 3) := by decide +kernel
theorem dX5_pass_62 : decode cX5_pass 62 = .ok (.ireturn, 1) := by decide +kernel
theorem dX5_pressure_0 : decode cX5_pressure 0 = .ok (.aload_n 0, 1) := by decide +kernel
theorem dX5_pressure_1 : decode cX5_pressure 1 = .ok (.aload_n 0, 1) := by decide +kernel
theorem dX5_pressure_2 : decode cX5_pressure 2 = .ok (.iload_n 1, 1) := by decide +kernel
theorem dX5_pressure_3 : decode cX5_pressure 3 = .ok (.invokevirtual 140, 3) := by decide +kernel
theorem dX5_pressure_6 : decode cX5_pressure 6 = .ok (.ifCond .eq 7, 3) := by decide +kernel
theorem dX5_pressure_9 : decode cX5_pressure 9 = .ok (.iconst 0, 1) := by decide +kernel
theorem dX5_pressure_10 : decode cX5_pressure 10 = .ok (.goto 4, 3) := by decide +kernel
theorem dX5_pressure_13 : decode cX5_pressure 13 = .ok (.iconst 1, 1) := by decide +kernel
theorem dX5_pressure_14 : decode cX5_pressure 14 = .ok (.invokevirtual 133, 3) := by decide +kernel
theorem dX5_pressure_17 : decode cX5_pressure 17 = .ok (.ifCond .eq 11, 3) := by decide +kernel
theorem dX5_pressure_20 : decode cX5_pressure 20 = .ok (.aload_n 0, 1) := by decide +kernel
theorem dX5_pressure_21 : decode cX5_pressure 21 = .ok (.iload_n 1, 1) := by decide +kernel
theorem dX5_pressure_22 : decode cX5_pressure 22 = .ok (.invokevirtual 119, 3) := by decide +kernel
theorem dX5_pressure_25 : decode cX5_pressure 25 = .ok (.goto 4, 3) := by decide +kernel
theorem dX5_pressure_28 : decode cX5_pressure 28 = .ok (.iconst 0, 1) := by decide +kernel
theorem dX5_pressure_29 : decode cX5_pressure 29 = .ok (.ireturn, 1) := by decide +kernel
theorem dX5_rate_0 : decode cX5_rate 0 = .ok (.aload_n 0, 1) := by decide +kernel
theorem dX5_rate_1 : decode cX5_rate 1 = .ok (.aload_n 0, 1) := by decide +kernel
theorem dX5_rate_2 : decode cX5_rate 2 = .ok (.iload_n 1, 1) := by decide +kernel
theorem dX5_rate_3 : decode cX5_rate 3 = .ok (.invokevirtual 140, 3) := by decide +kernel
theorem dX5_rate_6 : decode cX5_rate 6 = .ok (.ifCond .eq 7, 3) := by decide +kernel
theorem dX5_rate_9 : decode cX5_rate 9 = .ok (.iconst 0, 1) := by decide +kernel
theorem dX5_rate_10 : decode cX5_rate 10 = .ok (.goto 4, 3) := by decide +kernel
theorem dX5_rate_13 : decode cX5_rate 13 = .ok (.iconst 1, 1) := by decide +kernel
theorem dX5_rate_14 : decode cX5_rate 14 = .ok (.invokevirtual 133, 3) := by decide +kernel
theorem dX5_rate_17 : decode cX5_rate 17 = .ok (.ifCond .eq 12, 3) := by decide +kernel
theorem dX5_rate_20 : decode cX5_rate 20 = .ok (.aload_n 0, 1) := by decide +kernel
theorem dX5_rate_21 : decode cX5_rate 21 = .ok (.iload_n 1, 1) := by decide +kernel
theorem dX5_rate_22 : decode cX5_rate 22 = .ok (.iload_n 2, 1) := by decide +kernel
theorem dX5_rate_23 : decode cX5_rate 23 = .ok (.invokevirtual 143, 3) := by decide +kernel
theorem dX5_rate_26 : decode cX5_rate 26 = .ok (.goto 4, 3) := by decide +kernel
theorem dX5_rate_29 : decode cX5_rate 29 = .ok (.iconst 0, 1) := by decide +kernel
theorem dX5_rate_30 : decode cX5_rate 30 = .ok (.ireturn, 1) := by decide +kernel
theorem dX5_mix_0 : decode cX5_mix 0 = .ok (.aload_n 0, 1) := by decide +kernel
theorem dX5_mix_1 : decode cX5_mix 1 = .ok (.aload_n 0, 1) := by decide +kernel
theorem dX5_mix_2 : decode cX5_mix 2 = .ok (.iload_n 1, 1) := by decide +kernel
theorem dX5_mix_3 : decode cX5_mix 3 = .ok (.invokevirtual 140, 3) := by decide +kernel
theorem dX5_mix_6 : decode cX5_mix 6 = .ok (.ifCond .eq 7, 3) := by decide +kernel
theorem dX5_mix_9 : decode cX5_mix 9 = .ok (.iconst 0, 1) := by decide +kernel
theorem dX5_mix_10 : decode cX5_mix 10 = .ok (.goto 4, 3) := by decide +kernel
theorem dX5_mix_13 : decode cX5_mix 13 = .ok (.iconst 1, 1) := by decide +kernel
theorem dX5_mix_14 : decode cX5_mix 14 = .ok (.invokevirtual 133, 3) := by decide +kernel
theorem dX5_mix_17 : decode cX5_mix 17 = .ok (.ifCond .ne 5, 3) := by decide +kernel
theorem dX5_mix_20 : decode cX5_mix 20 = .ok (.iconst 0, 1) := by decide +kernel
theorem dX5_mix_21 : decode cX5_mix 21 = .ok (.ireturn, 1) := by decide +kernel
theorem dX5_mix_22 : decode cX5_mix 22 = .ok (.aload_n 0, 1) := by decide +kernel
theorem dX5_mix_23 : decode cX5_mix 23 = .ok (.getfield 19, 3) := by decide +kernel
theorem dX5_mix_26 : decode cX5_mix 26 = .ok (.iload_n 1, 1) := by decide +kernel
theorem dX5_mix_27 : decode cX5_mix 27 = .ok (.iaload, 1) := by decide +kernel
theorem dX5_mix_28 : decode cX5_mix 28 = .ok (.ifCond .ne 7, 3) := by decide +kernel
theorem dX5_mix_31 : decode cX5_mix 31 = .ok (.iconst 0, 1) := by decide +kernel
theorem dX5_mix_32 : decode cX5_mix 32 = .ok (.goto 19, 3) := by decide +kernel
theorem dX5_mix_35 : decode cX5_mix 35 = .ok (.aload_n 0, 1) := by decide +kernel
theorem dX5_mix_36 : decode cX5_mix 36 = .ok (.getfield 40, 3) := by decide +kernel
theorem dX5_mix_39 : decode cX5_mix 39 = .ok (.iload_n 1, 1) := by decide +kernel
theorem dX5_mix_40 : decode cX5_mix 40 = .ok (.laload, 1) := by decide +kernel
theorem dX5_mix_41 : decode cX5_mix 41 = .ok (.l2f, 1) := by decide +kernel
theorem dX5_mix_42 : decode cX5_mix 42 = .ok (.aload_n 0, 1) := by decide +kernel
theorem dX5_mix_43 : decode cX5_mix 43 = .ok (.getfield 19, 3) := by decide +kernel
theorem dX5_mix_46 : decode cX5_mix 46 = .ok (.iload_n 1, 1) := by decide +kernel
theorem dX5_mix_47 : decode cX5_mix 47 = .ok (.iaload, 1) := by decide +kernel
theorem dX5_mix_48 : decode cX5_mix 48 = .ok (.i2f, 1) := by decide +kernel
theorem dX5_mix_49 : decode cX5_mix 49 = .ok (.fdiv, 1) := by decide +kernel
theorem dX5_mix_50 : decode cX5_mix 50 = .ok (.f2i, 1) := by decide +kernel
theorem dX5_mix_51 : decode cX5_mix 51 = .ok (.ireturn, 1) := by decide +kernel
theorem dX5_ofStore_0 : decode cX5_ofStore 0 = .ok (.aload_n 0, 1) := by decide +kernel
theorem dX5_ofStore_1 : decode cX5_ofStore 1 = .ok (.aload_n 0, 1) := by decide +kernel
theorem dX5_ofStore_2 : decode cX5_ofStore 2 = .ok (.iload_n 1, 1) := by decide +kernel
theorem dX5_ofStore_3 : decode cX5_ofStore 3 = .ok (.invokevirtual 140, 3) := by decide +kernel
theorem dX5_ofStore_6 : decode cX5_ofStore 6 = .ok (.ifCond .ne 7, 3) := by decide +kernel
theorem dX5_ofStore_9 : decode cX5_ofStore 9 = .ok (.iconst 1, 1) := by decide +kernel
theorem dX5_ofStore_10 : decode cX5_ofStore 10 = .ok (.goto 18, 3) := by decide +kernel
theorem dX5_ofStore_13 : decode cX5_ofStore 13 = .ok (.iload_n 2, 1) := by decide +kernel
theorem dX5_ofStore_14 : decode cX5_ofStore 14 = .ok (.iconst 0, 1) := by decide +kernel
theorem dX5_ofStore_15 : decode cX5_ofStore 15 = .ok (.bipush 6, 2) := by decide +kernel
theorem dX5_ofStore_17 : decode cX5_ofStore 17 = .ok (.invokestatic 108, 3) := by decide +kernel
theorem dX5_ofStore_20 : decode cX5_ofStore 20 = .ok (.ifCond .eq 7, 3) := by decide +kernel
theorem dX5_ofStore_23 : decode cX5_ofStore 23 = .ok (.iconst 0, 1) := by decide +kernel
theorem dX5_ofStore_24 : decode cX5_ofStore 24 = .ok (.goto 4, 3) := by decide +kernel
theorem dX5_ofStore_27 : decode cX5_ofStore 27 = .ok (.iconst 2, 1) := by decide +kernel
theorem dX5_ofStore_28 : decode cX5_ofStore 28 = .ok (.invokevirtual 133, 3) := by decide +kernel
theorem dX5_ofStore_31 : decode cX5_ofStore 31 = .ok (.ifCond .ne 5, 3) := by decide +kernel
theorem dX5_ofStore_34 : decode cX5_ofStore 34 = .ok (.lconst 0, 1) := by decide +kernel
theorem dX5_ofStore_35 : decode cX5_ofStore 35 = .ok (.lreturn, 1) := by decide +kernel
theorem dX5_ofStore_36 : decode cX5_ofStore 36 = .ok (.iload_n 2, 1) := by decide +kernel
theorem dX5_ofStore_37 : decode cX5_ofStore 37 = .ok (.iconst 4, 1) := by decide +kernel
theorem dX5_ofStore_38 : decode cX5_ofStore 38 = .ok (.if_icmp .ge 54, 3) := by decide +kernel
theorem dX5_ofStore_41 : decode cX5_ofStore 41 = .ok (.iload_n 2, 1) := by decide +kernel
theorem dX5_ofStore_42 : decode cX5_ofStore 42 = .ok (.ifCond .ne 13, 3) := by decide +kernel
theorem dX5_ofStore_45 : decode cX5_ofStore 45 = .ok (.aload_n 0, 1) := by decide +kernel
theorem dX5_ofStore_46 : decode cX5_ofStore 46 = .ok (.getfield 19, 3) := by decide +kernel
theorem dX5_ofStore_49 : decode cX5_ofStore 49 = .ok (.iload_n 1, 1) := by decide +kernel
theorem dX5_ofStore_50 : decode cX5_ofStore 50 = .ok (.iaload, 1) := by decide +kernel
theorem dX5_ofStore_51 : decode cX5_ofStore 51 = .ok (.i2l, 1) := by decide +kernel
theorem dX5_ofStore_52 : decode cX5_ofStore 52 = .ok (.goto 39, 3) := by decide +kernel
theorem dX5_ofStore_55 : decode cX5_ofStore 55 = .ok (.iload_n 2, 1) := by decide +kernel
theorem dX5_ofStore_56 : decode cX5_ofStore 56 = .ok (.iconst 1, 1) := by decide +kernel
theorem dX5_ofStore_57 : decode cX5_ofStore 57 = .ok (.if_icmp .ne 12, 3) := by decide +kernel
theorem dX5_ofStore_60 : decode cX5_ofStore 60 = .ok (.aload_n 0, 1) := by decide +kernel
theorem dX5_ofStore_61 : decode cX5_ofStore 61 = .ok (.iload_n 1, 1) := by decide +kernel
theorem dX5_ofStore_62 : decode cX5_ofStore 62 = .ok (.invokevirtual 115, 3) := by decide +kernel
theorem dX5_ofStore_65 : decode cX5_ofStore 65 = .ok (.i2l, 1) := by decide +kernel
theorem dX5_ofStore_66 : decode cX5_ofStore 66 = .ok (.goto 25, 3) := by decide +kernel
theorem dX5_ofStore_69 : decode cX5_ofStore 69 = .ok (.iload_n 2, 1) := by decide +kernel
theorem dX5_ofStore_70 : decode cX5_ofStore 70 = .ok (.iconst 2, 1) := by decide +kernel
theorem dX5_ofStore_71 : decode cX5_ofStore 71 = .ok (.if_icmp .ne 13, 3) := by decide +kernel
theorem dX5_ofStore_74 : decode cX5_ofStore 74 = .ok (.aload_n 0, 1) := by decide +kernel
theorem dX5_ofStore_75 : decode cX5_ofStore 75 = .ok (.getfield 13, 3) := by decide +kernel
theorem dX5_ofStore_78 : decode cX5_ofStore 78 = .ok (.iload_n 1, 1) := by decide +kernel
theorem dX5_ofStore_79 : decode cX5_ofStore 79 = .ok (.iaload, 1) := by decide +kernel
theorem dX5_ofStore_80 : decode cX5_ofStore 80 = .ok (.i2l, 1) := by decide +kernel
theorem dX5_ofStore_81 : decode cX5_ofStore 81 = .ok (.goto 10, 3) := by decide +kernel
theorem dX5_ofStore_84 : decode cX5_ofStore 84 = .ok (.aload_n 0, 1) := by decide +kernel
theorem dX5_ofStore_85 : decode cX5_ofStore 85 = .ok (.getfield 16, 3) := by decide +kernel
theorem dX5_ofStore_88 : decode cX5_ofStore 88 = .ok (.iload_n 1, 1) := by decide +kernel
theorem dX5_ofStore_89 : decode cX5_ofStore 89 = .ok (.iaload, 1) := by decide +kernel
theorem dX5_ofStore_90 : decode cX5_ofStore 90 = .ok (.i2l, 1) := by decide +kernel
theorem dX5_ofStore_91 : decode cX5_ofStore 91 = .ok (.lreturn, 1) := by decide +kernel
theorem dX5_ofStore_92 : decode cX5_ofStore 92 = .ok (.iload_n 2, 1) := by decide +kernel
theorem dX5_ofStore_93 : decode cX5_ofStore 93 = .ok (.iconst 4, 1) := by decide +kernel
theorem dX5_ofStore_94 : decode cX5_ofStore 94 = .ok (.if_icmp .ne 12, 3) := by decide +kernel
theorem dX5_ofStore_97 : decode cX5_ofStore 97 = .ok (.aload_n 0, 1) := by decide +kernel
theorem dX5_ofStore_98 : decode cX5_ofStore 98 = .ok (.getfield 40, 3) := by decide +kernel
theorem dX5_ofStore_101 : decode cX5_ofStore 101 = .ok (.iload_n 1, 1) := by decide +kernel
theorem dX5_ofStore_102 : decode cX5_ofStore 102 = .ok (.laload, 1) := by decide +kernel
theorem dX5_ofStore_103 : decode cX5_ofStore 103 = .ok (.goto 41, 3) := by decide +kernel
theorem dX5_ofStore_106 : decode cX5_ofStore 106 = .ok (.iload_n 2, 1) := by decide +kernel
theorem dX5_ofStore_107 : decode cX5_ofStore 107 = .ok (.iconst 5, 1) := by decide +kernel
theorem dX5_ofStore_108 : decode cX5_ofStore 108 = .ok (.if_icmp .ne 21, 3) := by decide +kernel
theorem dX5_ofStore_111 : decode cX5_ofStore 111 = .ok (.aload_n 0, 1) := by decide +kernel
theorem dX5_ofStore_112 : decode cX5_ofStore 112 = .ok (.getfield 22, 3) := by decide +kernel
theorem dX5_ofStore_115 : decode cX5_ofStore 115 = .ok (.iload_n 1, 1) := by decide +kernel
theorem dX5_ofStore_116 : decode cX5_ofStore 116 = .ok (.iaload, 1) := by decide +kernel
theorem dX5_ofStore_117 : decode cX5_ofStore 117 = .ok (.aload_n 0, 1) := by decide +kernel
theorem dX5_ofStore_118 : decode cX5_ofStore 118 = .ok (.iload_n 1, 1) := by decide +kernel
theorem dX5_ofStore_119 : decode cX5_ofStore 119 = .ok (.invokevirtual 115, 3) := by decide +kernel
theorem dX5_ofStore_122 : decode cX5_ofStore 122 = .ok (.invokestatic 126, 3) := by decide +kernel
theorem dX5_ofStore_125 : decode cX5_ofStore 125 = .ok (.i2l, 1) := by decide +kernel
theorem dX5_ofStore_126 : decode cX5_ofStore 126 = .ok (.goto 18, 3) := by decide +kernel
theorem dX5_ofStore_129 : decode cX5_ofStore 129 = .ok (.aload_n 0, 1) := by decide +kernel
theorem dX5_ofStore_130 : decode cX5_ofStore 130 = .ok (.getfield 25, 3) := by decide +kernel
theorem dX5_ofStore_133 : decode cX5_ofStore 133 = .ok (.iload_n 1, 1) := by decide +kernel
theorem dX5_ofStore_134 : decode cX5_ofStore 134 = .ok (.iaload, 1) := by decide +kernel
theorem dX5_ofStore_135 : decode cX5_ofStore 135 = .ok (.aload_n 0, 1) := by decide +kernel
theorem dX5_ofStore_136 : decode cX5_ofStore 136 = .ok (.iload_n 1, 1) := by decide +kernel
theorem dX5_ofStore_137 : decode cX5_ofStore 137 = .ok (.invokevirtual 115, 3) := by decide +kernel
theorem dX5_ofStore_140 : decode cX5_ofStore 140 = .ok (.invokestatic 122, 3) := by decide +kernel
theorem dX5_ofStore_143 : decode cX5_ofStore 143 = .ok (.i2l, 1) := by decide +kernel
theorem dX5_ofStore_144 : decode cX5_ofStore 144 = .ok (.lreturn, 1) := by decide +kernel
theorem dX5_ofCustomer_0 : decode cX5_ofCustomer 0 = .ok (.aload_n 0, 1) := by decide +kernel
theorem dX5_ofCustomer_1 : decode cX5_ofCustomer 1 = .ok (.aload_n 0, 1) := by decide +kernel
theorem dX5_ofCustomer_2 : decode cX5_ofCustomer 2 = .ok (.iload_n 1, 1) := by decide +kernel
theorem dX5_ofCustomer_3 : decode cX5_ofCustomer 3 = .ok (.invokevirtual 155, 3) := by decide +kernel
theorem dX5_ofCustomer_6 : decode cX5_ofCustomer 6 = .ok (.ifCond .ne 7, 3) := by decide +kernel
theorem dX5_ofCustomer_9 : decode cX5_ofCustomer 9 = .ok (.iconst 1, 1) := by decide +kernel
theorem dX5_ofCustomer_10 : decode cX5_ofCustomer 10 = .ok (.goto 17, 3) := by decide +kernel
theorem dX5_ofCustomer_13 : decode cX5_ofCustomer 13 = .ok (.iload_n 2, 1) := by decide +kernel
theorem dX5_ofCustomer_14 : decode cX5_ofCustomer 14 = .ok (.iconst 0, 1) := by decide +kernel
theorem dX5_ofCustomer_15 : decode cX5_ofCustomer 15 = .ok (.iconst 5, 1) := by decide +kernel
theorem dX5_ofCustomer_16 : decode cX5_ofCustomer 16 = .ok (.invokestatic 108, 3) := by decide +kernel
theorem dX5_ofCustomer_19 : decode cX5_ofCustomer 19 = .ok (.ifCond .eq 7, 3) := by decide +kernel
theorem dX5_ofCustomer_22 : decode cX5_ofCustomer 22 = .ok (.iconst 0, 1) := by decide +kernel
theorem dX5_ofCustomer_23 : decode cX5_ofCustomer 23 = .ok (.goto 4, 3) := by decide +kernel
theorem dX5_ofCustomer_26 : decode cX5_ofCustomer 26 = .ok (.iconst 2, 1) := by decide +kernel
theorem dX5_ofCustomer_27 : decode cX5_ofCustomer 27 = .ok (.invokevirtual 133, 3) := by decide +kernel
theorem dX5_ofCustomer_30 : decode cX5_ofCustomer 30 = .ok (.ifCond .ne 5, 3) := by decide +kernel
theorem dX5_ofCustomer_33 : decode cX5_ofCustomer 33 = .ok (.lconst 0, 1) := by decide +kernel
theorem dX5_ofCustomer_34 : decode cX5_ofCustomer 34 = .ok (.lreturn, 1) := by decide +kernel
theorem dX5_ofCustomer_35 : decode cX5_ofCustomer 35 = .ok (.iload_n 2, 1) := by decide +kernel
theorem dX5_ofCustomer_36 : decode cX5_ofCustomer 36 = .ok (.iconst 3, 1) := by decide +kernel
theorem dX5_ofCustomer_37 : decode cX5_ofCustomer 37 = .ok (.if_icmp .ge 40, 3) := by decide +kernel
theorem dX5_ofCustomer_40 : decode cX5_ofCustomer 40 = .ok (.iload_n 2, 1) := by decide +kernel
theorem dX5_ofCustomer_41 : decode cX5_ofCustomer 41 = .ok (.ifCond .ne 13, 3) := by decide +kernel
theorem dX5_ofCustomer_44 : decode cX5_ofCustomer 44 = .ok (.aload_n 0, 1) := by decide +kernel
theorem dX5_ofCustomer_45 : decode cX5_ofCustomer 45 = .ok (.getfield 63, 3) := by decide +kernel
theorem dX5_ofCustomer_48 : decode cX5_ofCustomer 48 = .ok (.iload_n 1, 1) := by decide +kernel
theorem dX5_ofCustomer_49 : decode cX5_ofCustomer 49 = .ok (.iaload, 1) := by decide +kernel
theorem dX5_ofCustomer_50 : decode cX5_ofCustomer 50 = .ok (.i2l, 1) := by decide +kernel
theorem dX5_ofCustomer_51 : decode cX5_ofCustomer 51 = .ok (.goto 25, 3) := by decide +kernel
theorem dX5_ofCustomer_54 : decode cX5_ofCustomer 54 = .ok (.aload_n 0, 1) := by decide +kernel
theorem dX5_ofCustomer_55 : decode cX5_ofCustomer 55 = .ok (.iload_n 1, 1) := by decide +kernel
theorem dX5_ofCustomer_56 : decode cX5_ofCustomer 56 = .ok (.aload_n 0, 1) := by decide +kernel
theorem dX5_ofCustomer_57 : decode cX5_ofCustomer 57 = .ok (.getfield 63, 3) := by decide +kernel
theorem dX5_ofCustomer_60 : decode cX5_ofCustomer 60 = .ok (.iload_n 1, 1) := by decide +kernel
theorem dX5_ofCustomer_61 : decode cX5_ofCustomer 61 = .ok (.iaload, 1) := by decide +kernel
theorem dX5_ofCustomer_62 : decode cX5_ofCustomer 62 = .ok (.iload_n 2, 1) := by decide +kernel
theorem dX5_ofCustomer_63 : decode cX5_ofCustomer 63 = .ok (.iconst 1, 1) := by decide +kernel
theorem dX5_ofCustomer_64 : decode cX5_ofCustomer 64 = .ok (.if_icmp .ne 7, 3) := by decide +kernel
theorem dX5_ofCustomer_67 : decode cX5_ofCustomer 67 = .ok (.iconst 1, 1) := by decide +kernel
theorem dX5_ofCustomer_68 : decode cX5_ofCustomer 68 = .ok (.goto 4, 3) := by decide +kernel
theorem dX5_ofCustomer_71 : decode cX5_ofCustomer 71 = .ok (.iconst 0, 1) := by decide +kernel
theorem dX5_ofCustomer_72 : decode cX5_ofCustomer 72 = .ok (.invokevirtual 165, 3) := by decide +kernel
theorem dX5_ofCustomer_75 : decode cX5_ofCustomer 75 = .ok (.i2l, 1) := by decide +kernel
theorem dX5_ofCustomer_76 : decode cX5_ofCustomer 76 = .ok (.lreturn, 1) := by decide +kernel
theorem dX5_ofCustomer_77 : decode cX5_ofCustomer 77 = .ok (.iload_n 2, 1) := by decide +kernel
theorem dX5_ofCustomer_78 : decode cX5_ofCustomer 78 = .ok (.iconst 3, 1) := by decide +kernel
theorem dX5_ofCustomer_79 : decode cX5_ofCustomer 79 = .ok (.if_icmp .ne 12, 3) := by decide +kernel
theorem dX5_ofCustomer_82 : decode cX5_ofCustomer 82 = .ok (.aload_n 0, 1) := by decide +kernel
theorem dX5_ofCustomer_83 : decode cX5_ofCustomer 83 = .ok (.getfield 66, 3) := by decide +kernel
theorem dX5_ofCustomer_86 : decode cX5_ofCustomer 86 = .ok (.iload_n 1, 1) := by decide +kernel
theorem dX5_ofCustomer_87 : decode cX5_ofCustomer 87 = .ok (.laload, 1) := by decide +kernel
theorem dX5_ofCustomer_88 : decode cX5_ofCustomer 88 = .ok (.goto 23, 3) := by decide +kernel
theorem dX5_ofCustomer_91 : decode cX5_ofCustomer 91 = .ok (.iload_n 2, 1) := by decide +kernel
theorem dX5_ofCustomer_92 : decode cX5_ofCustomer 92 = .ok (.iconst 4, 1) := by decide +kernel
theorem dX5_ofCustomer_93 : decode cX5_ofCustomer 93 = .ok (.if_icmp .ne 12, 3) := by decide +kernel
theorem dX5_ofCustomer_96 : decode cX5_ofCustomer 96 = .ok (.aload_n 0, 1) := by decide +kernel
theorem dX5_ofCustomer_97 : decode cX5_ofCustomer 97 = .ok (.getfield 69, 3) := by decide +kernel
theorem dX5_ofCustomer_100 : decode cX5_ofCustomer 100 = .ok (.iload_n 1, 1) := by decide +kernel
theorem dX5_ofCustomer_101 : decode cX5_ofCustomer 101 = .ok (.laload, 1) := by decide +kernel
theorem dX5_ofCustomer_102 : decode cX5_ofCustomer 102 = .ok (.goto 9, 3) := by decide +kernel
theorem dX5_ofCustomer_105 : decode cX5_ofCustomer 105 = .ok (.aload_n 0, 1) := by decide +kernel
theorem dX5_ofCustomer_106 : decode cX5_ofCustomer 106 = .ok (.getfield 72, 3) := by decide +kernel
theorem dX5_ofCustomer_109 : decode cX5_ofCustomer 109 = .ok (.iload_n 1, 1) := by decide +kernel
theorem dX5_ofCustomer_110 : decode cX5_ofCustomer 110 = .ok (.laload, 1) := by decide +kernel
theorem dX5_ofCustomer_111 : decode cX5_ofCustomer 111 = .ok (.lreturn, 1) := by decide +kernel
theorem dX5_flow_0 : decode cX5_flow 0 = .ok (.aload_n 0, 1) := by decide +kernel
theorem dX5_flow_1 : decode cX5_flow 1 = .ok (.aload_n 0, 1) := by decide +kernel
theorem dX5_flow_2 : decode cX5_flow 2 = .ok (.iload_n 1, 1) := by decide +kernel
theorem dX5_flow_3 : decode cX5_flow 3 = .ok (.invokevirtual 155, 3) := by decide +kernel
theorem dX5_flow_6 : decode cX5_flow 6 = .ok (.ifCond .eq 7, 3) := by decide +kernel
theorem dX5_flow_9 : decode cX5_flow 9 = .ok (.iconst 0, 1) := by decide +kernel
theorem dX5_flow_10 : decode cX5_flow 10 = .ok (.goto 4, 3) := by decide +kernel
theorem dX5_flow_13 : decode cX5_flow 13 = .ok (.iconst 1, 1) := by decide +kernel
theorem dX5_flow_14 : decode cX5_flow 14 = .ok (.invokevirtual 133, 3) := by decide +kernel
theorem dX5_flow_17 : decode cX5_flow 17 = .ok (.ifCond .ne 5, 3) := by decide +kernel
theorem dX5_flow_20 : decode cX5_flow 20 = .ok (.iconst 0, 1) := by decide +kernel
theorem dX5_flow_21 : decode cX5_flow 21 = .ok (.ireturn, 1) := by decide +kernel
theorem dX5_flow_22 : decode cX5_flow 22 = .ok (.aload_n 0, 1) := by decide +kernel
theorem dX5_flow_23 : decode cX5_flow 23 = .ok (.invokevirtual 217, 3) := by decide +kernel
theorem dX5_flow_26 : decode cX5_flow 26 = .ok (.aload_n 0, 1) := by decide +kernel
theorem dX5_flow_27 : decode cX5_flow 27 = .ok (.getfield 90, 3) := by decide +kernel
theorem dX5_flow_30 : decode cX5_flow 30 = .ok (.iload_n 1, 1) := by decide +kernel
theorem dX5_flow_31 : decode cX5_flow 31 = .ok (.iaload, 1) := by decide +kernel
theorem dX5_flow_32 : decode cX5_flow 32 = .ok (.aload_n 0, 1) := by decide +kernel
theorem dX5_flow_33 : decode cX5_flow 33 = .ok (.getfield 93, 3) := by decide +kernel
theorem dX5_flow_36 : decode cX5_flow 36 = .ok (.iload_n 1, 1) := by decide +kernel
theorem dX5_flow_37 : decode cX5_flow 37 = .ok (.iaload, 1) := by decide +kernel
theorem dX5_flow_38 : decode cX5_flow 38 = .ok (.isub, 1) := by decide +kernel
theorem dX5_flow_39 : decode cX5_flow 39 = .ok (.ireturn, 1) := by decide +kernel
theorem dX5_why_0 : decode cX5_why 0 = .ok (.aload_n 0, 1) := by decide +kernel
theorem dX5_why_1 : decode cX5_why 1 = .ok (.aload_n 0, 1) := by decide +kernel
theorem dX5_why_2 : decode cX5_why 2 = .ok (.iload_n 1, 1) := by decide +kernel
theorem dX5_why_3 : decode cX5_why 3 = .ok (.invokevirtual 155, 3) := by decide +kernel
theorem dX5_why_6 : decode cX5_why 6 = .ok (.ifCond .eq 7, 3) := by decide +kernel
theorem dX5_why_9 : decode cX5_why 9 = .ok (.iconst 0, 1) := by decide +kernel
theorem dX5_why_10 : decode cX5_why 10 = .ok (.goto 4, 3) := by decide +kernel
theorem dX5_why_13 : decode cX5_why 13 = .ok (.iconst 1, 1) := by decide +kernel
theorem dX5_why_14 : decode cX5_why 14 = .ok (.invokevirtual 133, 3) := by decide +kernel
theorem dX5_why_17 : decode cX5_why 17 = .ok (.ifCond .ne 5, 3) := by decide +kernel
theorem dX5_why_20 : decode cX5_why 20 = .ok (.iconst 0, 1) := by decide +kernel
theorem dX5_why_21 : decode cX5_why 21 = .ok (.ireturn, 1) := by decide +kernel
theorem dX5_why_22 : decode cX5_why 22 = .ok (.aload_n 0, 1) := by decide +kernel
theorem dX5_why_23 : decode cX5_why 23 = .ok (.invokevirtual 217, 3) := by decide +kernel
theorem dX5_why_26 : decode cX5_why 26 = .ok (.aload_n 0, 1) := by decide +kernel
theorem dX5_why_27 : decode cX5_why 27 = .ok (.getfield 99, 3) := by decide +kernel
theorem dX5_why_30 : decode cX5_why 30 = .ok (.iload_n 1, 1) := by decide +kernel
theorem dX5_why_31 : decode cX5_why 31 = .ok (.iaload, 1) := by decide +kernel
theorem dX5_why_32 : decode cX5_why 32 = .ok (.ireturn, 1) := by decide +kernel
theorem dX5_bestOf_0 : decode cX5_bestOf 0 = .ok (.lconst 0, 1) := by decide +kernel
theorem dX5_bestOf_1 : decode cX5_bestOf 1 = .ok (.lstore 4, 2) := by decide +kernel
theorem dX5_bestOf_3 : decode cX5_bestOf 3 = .ok (.iconst 0, 1) := by decide +kernel
theorem dX5_bestOf_4 : decode cX5_bestOf 4 = .ok (.istore 6, 2) := by decide +kernel
theorem dX5_bestOf_6 : decode cX5_bestOf 6 = .ok (.iload 6, 2) := by decide +kernel
theorem dX5_bestOf_8 : decode cX5_bestOf 8 = .ok (.iload_n 3, 1) := by decide +kernel
theorem dX5_bestOf_9 : decode cX5_bestOf 9 = .ok (.if_icmp .ge 163, 3) := by decide +kernel
theorem dX5_bestOf_12 : decode cX5_bestOf 12 = .ok (.aload_n 0, 1) := by decide +kernel
theorem dX5_bestOf_13 : decode cX5_bestOf 13 = .ok (.getfield 63, 3) := by decide +kernel
theorem dX5_bestOf_16 : decode cX5_bestOf 16 = .ok (.iload_n 1, 1) := by decide +kernel
theorem dX5_bestOf_17 : decode cX5_bestOf 17 = .ok (.iaload, 1) := by decide +kernel
theorem dX5_bestOf_18 : decode cX5_bestOf 18 = .ok (.istore 7, 2) := by decide +kernel
theorem dX5_bestOf_20 : decode cX5_bestOf 20 = .ok (.lconst 0, 1) := by decide +kernel
theorem dX5_bestOf_21 : decode cX5_bestOf 21 = .ok (.lstore 8, 2) := by decide +kernel
theorem dX5_bestOf_23 : decode cX5_bestOf 23 = .ok (.iload 6, 2) := by decide +kernel
theorem dX5_bestOf_25 : decode cX5_bestOf 25 = .ok (.istore 10, 2) := by decide +kernel
theorem dX5_bestOf_27 : decode cX5_bestOf 27 = .ok (.iconst 0, 1) := by decide +kernel
theorem dX5_bestOf_28 : decode cX5_bestOf 28 = .ok (.istore 11, 2) := by decide +kernel
theorem dX5_bestOf_30 : decode cX5_bestOf 30 = .ok (.iload 11, 2) := by decide +kernel
theorem dX5_bestOf_32 : decode cX5_bestOf 32 = .ok (.iload_n 2, 1) := by decide +kernel
theorem dX5_bestOf_33 : decode cX5_bestOf 33 = .ok (.if_icmp .ge 116, 3) := by decide +kernel
theorem dX5_bestOf_36 : decode cX5_bestOf 36 = .ok (.iload 10, 2) := by decide +kernel
theorem dX5_bestOf_38 : decode cX5_bestOf 38 = .ok (.iconst 3, 1) := by decide +kernel
theorem dX5_bestOf_39 : decode cX5_bestOf 39 = .ok (.irem, 1) := by decide +kernel
theorem dX5_bestOf_40 : decode cX5_bestOf 40 = .ok (.istore 12, 2) := by decide +kernel
theorem dX5_bestOf_42 : decode cX5_bestOf 42 = .ok (.iload 10, 2) := by decide +kernel
theorem dX5_bestOf_44 : decode cX5_bestOf 44 = .ok (.iconst 3, 1) := by decide +kernel
theorem dX5_bestOf_45 : decode cX5_bestOf 45 = .ok (.idiv, 1) := by decide +kernel
theorem dX5_bestOf_46 : decode cX5_bestOf 46 = .ok (.istore 10, 2) := by decide +kernel
theorem dX5_bestOf_48 : decode cX5_bestOf 48 = .ok (.aload_n 0, 1) := by decide +kernel
theorem dX5_bestOf_49 : decode cX5_bestOf 49 = .ok (.iload_n 1, 1) := by decide +kernel
theorem dX5_bestOf_50 : decode cX5_bestOf 50 = .ok (.iload 7, 2) := by decide +kernel
theorem dX5_bestOf_52 : decode cX5_bestOf 52 = .ok (.iconst 1, 1) := by decide +kernel
theorem dX5_bestOf_53 : decode cX5_bestOf 53 = .ok (.invokevirtual 165, 3) := by decide +kernel
theorem dX5_bestOf_56 : decode cX5_bestOf 56 = .ok (.aload_n 0, 1) := by decide +kernel
theorem dX5_bestOf_57 : decode cX5_bestOf 57 = .ok (.getfield 51, 3) := by decide +kernel
theorem dX5_bestOf_60 : decode cX5_bestOf 60 = .ok (.iload_n 1, 1) := by decide +kernel
theorem dX5_bestOf_61 : decode cX5_bestOf 61 = .ok (.iaload, 1) := by decide +kernel
theorem dX5_bestOf_62 : decode cX5_bestOf 62 = .ok (.iload 7, 2) := by decide +kernel
theorem dX5_bestOf_64 : decode cX5_bestOf 64 = .ok (.isub, 1) := by decide +kernel
theorem dX5_bestOf_65 : decode cX5_bestOf 65 = .ok (.invokestatic 162, 3) := by decide +kernel
theorem dX5_bestOf_68 : decode cX5_bestOf 68 = .ok (.istore 13, 2) := by decide +kernel
theorem dX5_bestOf_70 : decode cX5_bestOf 70 = .ok (.aload_n 0, 1) := by decide +kernel
theorem dX5_bestOf_71 : decode cX5_bestOf 71 = .ok (.iload_n 1, 1) := by decide +kernel
theorem dX5_bestOf_72 : decode cX5_bestOf 72 = .ok (.iload 7, 2) := by decide +kernel
theorem dX5_bestOf_74 : decode cX5_bestOf 74 = .ok (.iconst 0, 1) := by decide +kernel
theorem dX5_bestOf_75 : decode cX5_bestOf 75 = .ok (.invokevirtual 165, 3) := by decide +kernel
theorem dX5_bestOf_78 : decode cX5_bestOf 78 = .ok (.iload 7, 2) := by decide +kernel
theorem dX5_bestOf_80 : decode cX5_bestOf 80 = .ok (.invokestatic 162, 3) := by decide +kernel
theorem dX5_bestOf_83 : decode cX5_bestOf 83 = .ok (.istore 14, 2) := by decide +kernel
theorem dX5_bestOf_85 : decode cX5_bestOf 85 = .ok (.iload 12, 2) := by decide +kernel
theorem dX5_bestOf_87 : decode cX5_bestOf 87 = .ok (.iconst 1, 1) := by decide +kernel
theorem dX5_bestOf_88 : decode cX5_bestOf 88 = .ok (.if_icmp .ne 8, 3) := by decide +kernel
theorem dX5_bestOf_91 : decode cX5_bestOf 91 = .ok (.iload 13, 2) := by decide +kernel
theorem dX5_bestOf_93 : decode cX5_bestOf 93 = .ok (.goto 16, 3) := by decide +kernel
theorem dX5_bestOf_96 : decode cX5_bestOf 96 = .ok (.iload 12, 2) := by decide +kernel
theorem dX5_bestOf_98 : decode cX5_bestOf 98 = .ok (.iconst 2, 1) := by decide +kernel
theorem dX5_bestOf_99 : decode cX5_bestOf 99 = .ok (.if_icmp .ne 9, 3) := by decide +kernel
theorem dX5_bestOf_102 : decode cX5_bestOf 102 = .ok (.iload 14, 2) := by decide +kernel
theorem dX5_bestOf_104 : decode cX5_bestOf 104 = .ok (.ineg, 1) := by decide +kernel
theorem dX5_bestOf_105 : decode cX5_bestOf 105 = .ok (.goto 4, 3) := by decide +kernel
theorem dX5_bestOf_108 : decode cX5_bestOf 108 = .ok (.iconst 0, 1) := by decide +kernel
theorem dX5_bestOf_109 : decode cX5_bestOf 109 = .ok (.istore 15, 2) := by decide +kernel
theorem dX5_bestOf_111 : decode cX5_bestOf 111 = .ok (.iload 7, 2) := by decide +kernel
theorem dX5_bestOf_113 : decode cX5_bestOf 113 = .ok (.iload 15, 2) := by decide +kernel
theorem dX5_bestOf_115 : decode cX5_bestOf 115 = .ok (.iadd, 1) := by decide +kernel
theorem dX5_bestOf_116 : decode cX5_bestOf 116 = .ok (.istore 7, 2) := by decide +kernel
theorem dX5_bestOf_118 : decode cX5_bestOf 118 = .ok (.lload 8, 2) := by decide +kernel
theorem dX5_bestOf_120 : decode cX5_bestOf 120 = .ok (.iload 15, 2) := by decide +kernel
theorem dX5_bestOf_122 : decode cX5_bestOf 122 = .ok (.i2l, 1) := by decide +kernel
theorem dX5_bestOf_123 : decode cX5_bestOf 123 = .ok (.aload_n 0, 1) := by decide +kernel
theorem dX5_bestOf_124 : decode cX5_bestOf 124 = .ok (.getfield 78, 3) := by decide +kernel
theorem dX5_bestOf_127 : decode cX5_bestOf 127 = .ok (.aload_n 0, 1) := by decide +kernel
theorem dX5_bestOf_128 : decode cX5_bestOf 128 = .ok (.getfield 151, 3) := by decide +kernel
theorem dX5_bestOf_131 : decode cX5_bestOf 131 = .ok (.iload 11, 2) := by decide +kernel
theorem dX5_bestOf_133 : decode cX5_bestOf 133 = .ok (.iadd, 1) := by decide +kernel
theorem dX5_bestOf_134 : decode cX5_bestOf 134 = .ok (.bipush 64, 2) := by decide +kernel
theorem dX5_bestOf_136 : decode cX5_bestOf 136 = .ok (.irem, 1) := by decide +kernel
theorem dX5_bestOf_137 : decode cX5_bestOf 137 = .ok (.iaload, 1) := by decide +kernel
theorem dX5_bestOf_138 : decode cX5_bestOf 138 = .ok (.i2l, 1) := by decide +kernel
theorem dX5_bestOf_139 : decode cX5_bestOf 139 = .ok (.lmul, 1) := by decide +kernel
theorem dX5_bestOf_140 : decode cX5_bestOf 140 = .ok (.lsub, 1) := by decide +kernel
theorem dX5_bestOf_141 : decode cX5_bestOf 141 = .ok (.lstore 8, 2) := by decide +kernel
theorem dX5_bestOf_143 : decode cX5_bestOf 143 = .ok (.iinc 11 1, 3) := by decide +kernel
theorem dX5_bestOf_146 : decode cX5_bestOf 146 = .ok (.goto (-116), 3) := by decide +kernel
theorem dX5_bestOf_149 : decode cX5_bestOf 149 = .ok (.lload 8, 2) := by decide +kernel
theorem dX5_bestOf_151 : decode cX5_bestOf 151 = .ok (.lload 4, 2) := by decide +kernel
theorem dX5_bestOf_153 : decode cX5_bestOf 153 = .ok (.lcmp, 1) := by decide +kernel
theorem dX5_bestOf_154 : decode cX5_bestOf 154 = .ok (.ifCond .le 8, 3) := by decide +kernel
theorem dX5_bestOf_157 : decode cX5_bestOf 157 = .ok (.lload 8, 2) := by decide +kernel
theorem dX5_bestOf_159 : decode cX5_bestOf 159 = .ok (.goto 5, 3) := by decide +kernel
theorem dX5_bestOf_162 : decode cX5_bestOf 162 = .ok (.lload 4, 2) := by decide +kernel
theorem dX5_bestOf_164 : decode cX5_bestOf 164 = .ok (.lstore 4, 2) := by decide +kernel
theorem dX5_bestOf_166 : decode cX5_bestOf 166 = .ok (.iinc 6 1, 3) := by decide +kernel
theorem dX5_bestOf_169 : decode cX5_bestOf 169 = .ok (.goto (-163), 3) := by decide +kernel
theorem dX5_bestOf_172 : decode cX5_bestOf 172 = .ok (.lload 4, 2) := by decide +kernel
theorem dX5_bestOf_174 : decode cX5_bestOf 174 = .ok (.lreturn, 1) := by decide +kernel
theorem dX5_worth_0 : decode cX5_worth 0 = .ok (.aload_n 0, 1) := by decide +kernel
theorem dX5_worth_1 : decode cX5_worth 1 = .ok (.aload_n 0, 1) := by decide +kernel
theorem dX5_worth_2 : decode cX5_worth 2 = .ok (.iload_n 1, 1) := by decide +kernel
theorem dX5_worth_3 : decode cX5_worth 3 = .ok (.invokevirtual 155, 3) := by decide +kernel
theorem dX5_worth_6 : decode cX5_worth 6 = .ok (.ifCond .ne 7, 3) := by decide +kernel
theorem dX5_worth_9 : decode cX5_worth 9 = .ok (.iconst 1, 1) := by decide +kernel
theorem dX5_worth_10 : decode cX5_worth 10 = .ok (.goto 18, 3) := by decide +kernel
theorem dX5_worth_13 : decode cX5_worth 13 = .ok (.iload_n 2, 1) := by decide +kernel
theorem dX5_worth_14 : decode cX5_worth 14 = .ok (.iconst 1, 1) := by decide +kernel
theorem dX5_worth_15 : decode cX5_worth 15 = .ok (.bipush 8, 2) := by decide +kernel
theorem dX5_worth_17 : decode cX5_worth 17 = .ok (.invokestatic 108, 3) := by decide +kernel
theorem dX5_worth_20 : decode cX5_worth 20 = .ok (.ifCond .eq 7, 3) := by decide +kernel
theorem dX5_worth_23 : decode cX5_worth 23 = .ok (.iconst 0, 1) := by decide +kernel
theorem dX5_worth_24 : decode cX5_worth 24 = .ok (.goto 4, 3) := by decide +kernel
theorem dX5_worth_27 : decode cX5_worth 27 = .ok (.iconst 2, 1) := by decide +kernel
theorem dX5_worth_28 : decode cX5_worth 28 = .ok (.invokevirtual 133, 3) := by decide +kernel
theorem dX5_worth_31 : decode cX5_worth 31 = .ok (.ifCond .ne 5, 3) := by decide +kernel
theorem dX5_worth_34 : decode cX5_worth 34 = .ok (.lconst 0, 1) := by decide +kernel
theorem dX5_worth_35 : decode cX5_worth 35 = .ok (.lreturn, 1) := by decide +kernel
theorem dX5_worth_36 : decode cX5_worth 36 = .ok (.iconst 1, 1) := by decide +kernel
theorem dX5_worth_37 : decode cX5_worth 37 = .ok (.istore_n 3, 1) := by decide +kernel
theorem dX5_worth_38 : decode cX5_worth 38 = .ok (.iconst 0, 1) := by decide +kernel
theorem dX5_worth_39 : decode cX5_worth 39 = .ok (.istore 4, 2) := by decide +kernel
theorem dX5_worth_41 : decode cX5_worth 41 = .ok (.iload 4, 2) := by decide +kernel
theorem dX5_worth_43 : decode cX5_worth 43 = .ok (.iload_n 2, 1) := by decide +kernel
theorem dX5_worth_44 : decode cX5_worth 44 = .ok (.if_icmp .ge 13, 3) := by decide +kernel
theorem dX5_worth_47 : decode cX5_worth 47 = .ok (.iload_n 3, 1) := by decide +kernel
theorem dX5_worth_48 : decode cX5_worth 48 = .ok (.iconst 3, 1) := by decide +kernel
theorem dX5_worth_49 : decode cX5_worth 49 = .ok (.imul, 1) := by decide +kernel
theorem dX5_worth_50 : decode cX5_worth 50 = .ok (.istore_n 3, 1) := by decide +kernel
theorem dX5_worth_51 : decode cX5_worth 51 = .ok (.iinc 4 1, 3) := by decide +kernel
theorem dX5_worth_54 : decode cX5_worth 54 = .ok (.goto (-13), 3) := by decide +kernel
theorem dX5_worth_57 : decode cX5_worth 57 = .ok (.aload_n 0, 1) := by decide +kernel
theorem dX5_worth_58 : decode cX5_worth 58 = .ok (.iload_n 1, 1) := by decide +kernel
theorem dX5_worth_59 : decode cX5_worth 59 = .ok (.iload_n 2, 1) := by decide +kernel
theorem dX5_worth_60 : decode cX5_worth 60 = .ok (.iload_n 3, 1) := by decide +kernel
theorem dX5_worth_61 : decode cX5_worth 61 = .ok (.invokevirtual 232, 3) := by decide +kernel
theorem dX5_worth_64 : decode cX5_worth 64 = .ok (.lreturn, 1) := by decide +kernel
theorem dX5_worthAnew_0 : decode cX5_worthAnew 0 = .ok (.aload_n 0, 1) := by decide +kernel
theorem dX5_worthAnew_1 : decode cX5_worthAnew 1 = .ok (.iload_n 1, 1) := by decide +kernel
theorem dX5_worthAnew_2 : decode cX5_worthAnew 2 = .ok (.iload_n 2, 1) := by decide +kernel
theorem dX5_worthAnew_3 : decode cX5_worthAnew 3 = .ok (.invokevirtual 236, 3) := by decide +kernel
theorem dX5_worthAnew_6 : decode cX5_worthAnew 6 = .ok (.lreturn, 1) := by decide +kernel
theorem dX5_of_0 : decode cX5_of 0 = .ok (.aload_n 0, 1) := by decide +kernel
theorem dX5_of_1 : decode cX5_of 1 = .ok (.iload_n 1, 1) := by decide +kernel
theorem dX5_of_2 : decode cX5_of 2 = .ok (.iconst 0, 1) := by decide +kernel
theorem dX5_of_3 : decode cX5_of 3 = .ok (.bipush 7, 2) := by decide +kernel
theorem dX5_of_5 : decode cX5_of 5 = .ok (.invokestatic 108, 3) := by decide +kernel
theorem dX5_of_8 : decode cX5_of 8 = .ok (.ifCond .eq 7, 3) := by decide +kernel
theorem dX5_of_11 : decode cX5_of 11 = .ok (.iconst 0, 1) := by decide +kernel
theorem dX5_of_12 : decode cX5_of 12 = .ok (.goto 4, 3) := by decide +kernel
theorem dX5_of_15 : decode cX5_of 15 = .ok (.iconst 1, 1) := by decide +kernel
theorem dX5_of_16 : decode cX5_of 16 = .ok (.invokevirtual 133, 3) := by decide +kernel
theorem dX5_of_19 : decode cX5_of 19 = .ok (.ifCond .ne 5, 3) := by decide +kernel
theorem dX5_of_22 : decode cX5_of 22 = .ok (.lconst 0, 1) := by decide +kernel
theorem dX5_of_23 : decode cX5_of 23 = .ok (.lreturn, 1) := by decide +kernel
theorem dX5_of_24 : decode cX5_of 24 = .ok (.lconst 0, 1) := by decide +kernel
theorem dX5_of_25 : decode cX5_of 25 = .ok (.lstore_n 2, 1) := by decide +kernel
theorem dX5_of_26 : decode cX5_of 26 = .ok (.iconst 0, 1) := by decide +kernel
theorem dX5_of_27 : decode cX5_of 27 = .ok (.istore 4, 2) := by decide +kernel
theorem dX5_of_29 : decode cX5_of 29 = .ok (.iload 4, 2) := by decide +kernel
theorem dX5_of_31 : decode cX5_of 31 = .ok (.aload_n 0, 1) := by decide +kernel
theorem dX5_of_32 : decode cX5_of 32 = .ok (.getfield 105, 3) := by decide +kernel
theorem dX5_of_35 : decode cX5_of 35 = .ok (.if_icmp .ge 20, 3) := by decide +kernel
theorem dX5_of_38 : decode cX5_of 38 = .ok (.lload_n 2, 1) := by decide +kernel
theorem dX5_of_39 : decode cX5_of 39 = .ok (.aload_n 0, 1) := by decide +kernel
theorem dX5_of_40 : decode cX5_of 40 = .ok (.getfield 19, 3) := by decide +kernel
theorem dX5_of_43 : decode cX5_of 43 = .ok (.iload 4, 2) := by decide +kernel
theorem dX5_of_45 : decode cX5_of 45 = .ok (.iaload, 1) := by decide +kernel
theorem dX5_of_46 : decode cX5_of 46 = .ok (.i2l, 1) := by decide +kernel
theorem dX5_of_47 : decode cX5_of 47 = .ok (.ladd, 1) := by decide +kernel
theorem dX5_of_48 : decode cX5_of 48 = .ok (.lstore_n 2, 1) := by decide +kernel
theorem dX5_of_49 : decode cX5_of 49 = .ok (.iinc 4 1, 3) := by decide +kernel
theorem dX5_of_52 : decode cX5_of 52 = .ok (.goto (-23), 3) := by decide +kernel
theorem dX5_of_55 : decode cX5_of 55 = .ok (.aload_n 0, 1) := by decide +kernel
theorem dX5_of_56 : decode cX5_of 56 = .ok (.invokevirtual 179, 3) := by decide +kernel
theorem dX5_of_59 : decode cX5_of 59 = .ok (.istore 4, 2) := by decide +kernel
theorem dX5_of_61 : decode cX5_of 61 = .ok (.iload_n 1, 1) := by decide +kernel
theorem dX5_of_62 : decode cX5_of 62 = .ok (.iconst 4, 1) := by decide +kernel
theorem dX5_of_63 : decode cX5_of 63 = .ok (.if_icmp .ge 44, 3) := by decide +kernel
theorem dX5_of_66 : decode cX5_of 66 = .ok (.iload_n 1, 1) := by decide +kernel
theorem dX5_of_67 : decode cX5_of 67 = .ok (.ifCond .ne 11, 3) := by decide +kernel
theorem dX5_of_70 : decode cX5_of 70 = .ok (.aload_n 0, 1) := by decide +kernel
theorem dX5_of_71 : decode cX5_of 71 = .ok (.getfield 151, 3) := by decide +kernel
theorem dX5_of_74 : decode cX5_of 74 = .ok (.i2l, 1) := by decide +kernel
theorem dX5_of_75 : decode cX5_of 75 = .ok (.goto 31, 3) := by decide +kernel
theorem dX5_of_78 : decode cX5_of 78 = .ok (.iload_n 1, 1) := by decide +kernel
theorem dX5_of_79 : decode cX5_of 79 = .ok (.iconst 1, 1) := by decide +kernel
theorem dX5_of_80 : decode cX5_of 80 = .ok (.if_icmp .ne 10, 3) := by decide +kernel
theorem dX5_of_83 : decode cX5_of 83 = .ok (.aload_n 0, 1) := by decide +kernel
theorem dX5_of_84 : decode cX5_of 84 = .ok (.getfield 136, 3) := by decide +kernel
theorem dX5_of_87 : decode cX5_of 87 = .ok (.goto 19, 3) := by decide +kernel
theorem dX5_of_90 : decode cX5_of 90 = .ok (.iload_n 1, 1) := by decide +kernel
theorem dX5_of_91 : decode cX5_of 91 = .ok (.iconst 2, 1) := by decide +kernel
theorem dX5_of_92 : decode cX5_of 92 = .ok (.if_icmp .ne 10, 3) := by decide +kernel
theorem dX5_of_95 : decode cX5_of 95 = .ok (.aload_n 0, 1) := by decide +kernel
theorem dX5_of_96 : decode cX5_of 96 = .ok (.getfield 206, 3) := by decide +kernel
theorem dX5_of_99 : decode cX5_of 99 = .ok (.goto 7, 3) := by decide +kernel
theorem dX5_of_102 : decode cX5_of 102 = .ok (.aload_n 0, 1) := by decide +kernel
theorem dX5_of_103 : decode cX5_of 103 = .ok (.getfield 203, 3) := by decide +kernel
theorem dX5_of_106 : decode cX5_of 106 = .ok (.lreturn, 1) := by decide +kernel
theorem dX5_of_107 : decode cX5_of 107 = .ok (.iload_n 1, 1) := by decide +kernel
theorem dX5_of_108 : decode cX5_of 108 = .ok (.iconst 4, 1) := by decide +kernel
theorem dX5_of_109 : decode cX5_of 109 = .ok (.if_icmp .ne 7, 3) := by decide +kernel
theorem dX5_of_112 : decode cX5_of 112 = .ok (.lload_n 2, 1) := by decide +kernel
theorem dX5_of_113 : decode cX5_of 113 = .ok (.goto 48, 3) := by decide +kernel
theorem dX5_of_116 : decode cX5_of 116 = .ok (.iload_n 1, 1) := by decide +kernel
theorem dX5_of_117 : decode cX5_of 117 = .ok (.iconst 5, 1) := by decide +kernel
theorem dX5_of_118 : decode cX5_of 118 = .ok (.if_icmp .ne 10, 3) := by decide +kernel
theorem dX5_of_121 : decode cX5_of 121 = .ok (.aload_n 0, 1) := by decide +kernel
theorem dX5_of_122 : decode cX5_of 122 = .ok (.invokevirtual 183, 3) := by decide +kernel
theorem dX5_of_125 : decode cX5_of 125 = .ok (.goto 36, 3) := by decide +kernel
theorem dX5_of_128 : decode cX5_of 128 = .ok (.iload_n 1, 1) := by decide +kernel
theorem dX5_of_129 : decode cX5_of 129 = .ok (.bipush 6, 2) := by decide +kernel
theorem dX5_of_131 : decode cX5_of 131 = .ok (.if_icmp .ne 12, 3) := by decide +kernel
theorem dX5_of_134 : decode cX5_of 134 = .ok (.lload_n 2, 1) := by decide +kernel
theorem dX5_of_135 : decode cX5_of 135 = .ok (.aload_n 0, 1) := by decide +kernel
theorem dX5_of_136 : decode cX5_of 136 = .ok (.invokevirtual 183, 3) := by decide +kernel
theorem dX5_of_139 : decode cX5_of 139 = .ok (.lsub, 1) := by decide +kernel
theorem dX5_of_140 : decode cX5_of 140 = .ok (.goto 21, 3) := by decide +kernel
theorem dX5_of_143 : decode cX5_of 143 = .ok (.iload 4, 2) := by decide +kernel
theorem dX5_of_145 : decode cX5_of 145 = .ok (.iconst (-1), 1) := by decide +kernel
theorem dX5_of_146 : decode cX5_of 146 = .ok (.if_icmp .ne 7, 3) := by decide +kernel
theorem dX5_of_149 : decode cX5_of 149 = .ok (.lconst 0, 1) := by decide +kernel
theorem dX5_of_150 : decode cX5_of 150 = .ok (.goto 11, 3) := by decide +kernel
theorem dX5_of_153 : decode cX5_of 153 = .ok (.aload_n 0, 1) := by decide +kernel
theorem dX5_of_154 : decode cX5_of 154 = .ok (.getfield 87, 3) := by decide +kernel
theorem dX5_of_157 : decode cX5_of 157 = .ok (.iload 4, 2) := by decide +kernel
theorem dX5_of_159 : decode cX5_of 159 = .ok (.iaload, 1) := by decide +kernel
theorem dX5_of_160 : decode cX5_of 160 = .ok (.i2l, 1) := by decide +kernel
theorem dX5_of_161 : decode cX5_of 161 = .ok (.lreturn, 1) := by decide +kernel
theorem dJ9_floorMod_7cf53_0 : decode cJ9_floorMod_7cf53 0 = .ok (.iload_n 0, 1) := by decide +kernel
theorem dJ9_floorMod_7cf53_1 : decode cJ9_floorMod_7cf53 1 = .ok (.iload_n 1, 1) := by decide +kernel
theorem dJ9_floorMod_7cf53_2 : decode cJ9_floorMod_7cf53 2 = .ok (.irem, 1) := by decide +kernel
theorem dJ9_floorMod_7cf53_3 : decode cJ9_floorMod_7cf53 3 = .ok (.istore_n 2, 1) := by decide +kernel
theorem dJ9_floorMod_7cf53_4 : decode cJ9_floorMod_7cf53 4 = .ok (.iload_n 0, 1) := by decide +kernel
theorem dJ9_floorMod_7cf53_5 : decode cJ9_floorMod_7cf53 5 = .ok (.iload_n 1, 1) := by decide +kernel
theorem dJ9_floorMod_7cf53_6 : decode cJ9_floorMod_7cf53 6 = .ok (.ixor, 1) := by decide +kernel
theorem dJ9_floorMod_7cf53_7 : decode cJ9_floorMod_7cf53 7 = .ok (.ifCond .ge 11, 3) := by decide +kernel
theorem dJ9_floorMod_7cf53_10 : decode cJ9_floorMod_7cf53 10 = .ok (.iload_n 2, 1) := by decide +kernel
theorem dJ9_floorMod_7cf53_11 : decode cJ9_floorMod_7cf53 11 = .ok (.ifCond .eq 7, 3) := by decide +kernel
theorem dJ9_floorMod_7cf53_14 : decode cJ9_floorMod_7cf53 14 = .ok (.iload_n 2, 1) := by decide +kernel
theorem dJ9_floorMod_7cf53_15 : decode cJ9_floorMod_7cf53 15 = .ok (.iload_n 1, 1) := by decide +kernel
theorem dJ9_floorMod_7cf53_16 : decode cJ9_floorMod_7cf53 16 = .ok (.iadd, 1) := by decide +kernel
theorem dJ9_floorMod_7cf53_17 : decode cJ9_floorMod_7cf53 17 = .ok (.ireturn, 1) := by decide +kernel
theorem dJ9_floorMod_7cf53_18 : decode cJ9_floorMod_7cf53 18 = .ok (.iload_n 2, 1) := by decide +kernel
theorem dJ9_floorMod_7cf53_19 : decode cJ9_floorMod_7cf53 19 = .ok (.ireturn, 1) := by decide +kernel
theorem dJ9_abs_0f7a4_0 : decode cJ9_abs_0f7a4 0 = .ok (.iload_n 0, 1) := by decide +kernel
theorem dJ9_abs_0f7a4_1 : decode cJ9_abs_0f7a4 1 = .ok (.ifCond .ge 8, 3) := by decide +kernel
theorem dJ9_abs_0f7a4_4 : decode cJ9_abs_0f7a4 4 = .ok (.iload_n 0, 1) := by decide +kernel
theorem dJ9_abs_0f7a4_5 : decode cJ9_abs_0f7a4 5 = .ok (.ineg, 1) := by decide +kernel
theorem dJ9_abs_0f7a4_6 : decode cJ9_abs_0f7a4 6 = .ok (.goto 4, 3) := by decide +kernel
theorem dJ9_abs_0f7a4_9 : decode cJ9_abs_0f7a4 9 = .ok (.iload_n 0, 1) := by decide +kernel
theorem dJ9_abs_0f7a4_10 : decode cJ9_abs_0f7a4 10 = .ok (.ireturn, 1) := by decide +kernel
theorem dJ9_max_7cf53_0 : decode cJ9_max_7cf53 0 = .ok (.iload_n 0, 1) := by decide +kernel
theorem dJ9_max_7cf53_1 : decode cJ9_max_7cf53 1 = .ok (.iload_n 1, 1) := by decide +kernel
theorem dJ9_max_7cf53_2 : decode cJ9_max_7cf53 2 = .ok (.if_icmp .lt 7, 3) := by decide +kernel
theorem dJ9_max_7cf53_5 : decode cJ9_max_7cf53 5 = .ok (.iload_n 0, 1) := by decide +kernel
theorem dJ9_max_7cf53_6 : decode cJ9_max_7cf53 6 = .ok (.goto 4, 3) := by decide +kernel
theorem dJ9_max_7cf53_9 : decode cJ9_max_7cf53 9 = .ok (.iload_n 1, 1) := by decide +kernel
theorem dJ9_max_7cf53_10 : decode cJ9_max_7cf53 10 = .ok (.ireturn, 1) := by decide +kernel
theorem dJ9_max_f86c9_0 : decode cJ9_max_f86c9 0 = .ok (.lload_n 0, 1) := by decide +kernel
theorem dJ9_max_f86c9_1 : decode cJ9_max_f86c9 1 = .ok (.lload_n 2, 1) := by decide +kernel
theorem dJ9_max_f86c9_2 : decode cJ9_max_f86c9 2 = .ok (.lcmp, 1) := by decide +kernel
theorem dJ9_max_f86c9_3 : decode cJ9_max_f86c9 3 = .ok (.ifCond .lt 7, 3) := by decide +kernel
theorem dJ9_max_f86c9_6 : decode cJ9_max_f86c9 6 = .ok (.lload_n 0, 1) := by decide +kernel
theorem dJ9_max_f86c9_7 : decode cJ9_max_f86c9 7 = .ok (.goto 4, 3) := by decide +kernel
theorem dJ9_max_f86c9_10 : decode cJ9_max_f86c9 10 = .ok (.lload_n 2, 1) := by decide +kernel
theorem dJ9_max_f86c9_11 : decode cJ9_max_f86c9 11 = .ok (.lreturn, 1) := by decide +kernel
theorem dJ9_min_7cf53_0 : decode cJ9_min_7cf53 0 = .ok (.iload_n 0, 1) := by decide +kernel
theorem dJ9_min_7cf53_1 : decode cJ9_min_7cf53 1 = .ok (.iload_n 1, 1) := by decide +kernel
theorem dJ9_min_7cf53_2 : decode cJ9_min_7cf53 2 = .ok (.if_icmp .gt 7, 3) := by decide +kernel
theorem dJ9_min_7cf53_5 : decode cJ9_min_7cf53 5 = .ok (.iload_n 0, 1) := by decide +kernel
theorem dJ9_min_7cf53_6 : decode cJ9_min_7cf53 6 = .ok (.goto 4, 3) := by decide +kernel
theorem dJ9_min_7cf53_9 : decode cJ9_min_7cf53 9 = .ok (.iload_n 1, 1) := by decide +kernel
theorem dJ9_min_7cf53_10 : decode cJ9_min_7cf53 10 = .ok (.ireturn, 1) := by decide +kernel
theorem dJxa1e45_init_da8c8_0 : decode cJxa1e45_init_da8c8 0 = .ok (.aload_n 0, 1) := by decide +kernel
theorem dJxa1e45_init_da8c8_1 : decode cJxa1e45_init_da8c8 1 = .ok (.invokespecial 1, 3) := by decide +kernel
theorem dJxa1e45_init_da8c8_4 : decode cJxa1e45_init_da8c8 4 = .ok (.return_, 1) := by decide +kernel
theorem dJxc12de_init_da8c8_0 : decode cJxc12de_init_da8c8 0 = .ok (.aload_n 0, 1) := by decide +kernel
theorem dJxc12de_init_da8c8_1 : decode cJxc12de_init_da8c8 1 = .ok (.invokespecial 1, 3) := by decide +kernel
theorem dJxc12de_init_da8c8_4 : decode cJxc12de_init_da8c8 4 = .ok (.aload_n 0, 1) := by decide +kernel
theorem dJxc12de_init_da8c8_5 : decode cJxc12de_init_da8c8 5 = .ok (.iconst 0, 1) := by decide +kernel
theorem dJxc12de_init_da8c8_6 : decode cJxc12de_init_da8c8 6 = .ok (.putfield 7, 3) := by decide +kernel
theorem dJxc12de_init_da8c8_9 : decode cJxc12de_init_da8c8 9 = .ok (.return_, 1) := by decide +kernel
theorem dJx4a65c_init_da8c8_0 : decode cJx4a65c_init_da8c8 0 = .ok (.aload_n 0, 1) := by decide +kernel
theorem dJx4a65c_init_da8c8_1 : decode cJx4a65c_init_da8c8 1 = .ok (.invokespecial 1, 3) := by decide +kernel
theorem dJx4a65c_init_da8c8_4 : decode cJx4a65c_init_da8c8 4 = .ok (.aload_n 0, 1) := by decide +kernel
theorem dJx4a65c_init_da8c8_5 : decode cJx4a65c_init_da8c8 5 = .ok (.getstatic 39, 3) := by decide +kernel
theorem dJx4a65c_init_da8c8_8 : decode cJx4a65c_init_da8c8 8 = .ok (.putfield 9, 3) := by decide +kernel
theorem dJx4a65c_init_da8c8_11 : decode cJx4a65c_init_da8c8 11 = .ok (.return_, 1) := by decide +kernel
theorem dJx4a65c_grow_92f84_0 : decode cJx4a65c_grow_92f84 0 = .ok (.aload_n 0, 1) := by decide +kernel
theorem dJx4a65c_grow_92f84_1 : decode cJx4a65c_grow_92f84 1 = .ok (.getfield 9, 3) := by decide +kernel
theorem dJx4a65c_grow_92f84_4 : decode cJx4a65c_grow_92f84 4 = .ok (.arraylength, 1) := by decide +kernel
theorem dJx4a65c_grow_92f84_5 : decode cJx4a65c_grow_92f84 5 = .ok (.istore_n 2, 1) := by decide +kernel
theorem dJx4a65c_grow_92f84_6 : decode cJx4a65c_grow_92f84 6 = .ok (.iload_n 2, 1) := by decide +kernel
theorem dJx4a65c_grow_92f84_7 : decode cJx4a65c_grow_92f84 7 = .ok (.ifCond .gt 13, 3) := by decide +kernel
theorem dJx4a65c_grow_92f84_10 : decode cJx4a65c_grow_92f84 10 = .ok (.aload_n 0, 1) := by decide +kernel
theorem dJx4a65c_grow_92f84_11 : decode cJx4a65c_grow_92f84 11 = .ok (.getfield 9, 3) := by decide +kernel
theorem dJx4a65c_grow_92f84_14 : decode cJx4a65c_grow_92f84 14 = .ok (.getstatic 39, 3) := by decide +kernel
theorem dJx4a65c_grow_92f84_17 : decode cJx4a65c_grow_92f84 17 = .ok (.if_acmp .eq 28, 3) := by decide +kernel
theorem dJx4a65c_grow_92f84_20 : decode cJx4a65c_grow_92f84 20 = .ok (.iload_n 2, 1) := by decide +kernel
theorem dJx4a65c_grow_92f84_21 : decode cJx4a65c_grow_92f84 21 = .ok (.iload_n 1, 1) := by decide +kernel
theorem dJx4a65c_grow_92f84_22 : decode cJx4a65c_grow_92f84 22 = .ok (.iload_n 2, 1) := by decide +kernel
theorem dJx4a65c_grow_92f84_23 : decode cJx4a65c_grow_92f84 23 = .ok (.isub, 1) := by decide +kernel
theorem dJx4a65c_grow_92f84_24 : decode cJx4a65c_grow_92f84 24 = .ok (.iload_n 2, 1) := by decide +kernel
theorem dJx4a65c_grow_92f84_25 : decode cJx4a65c_grow_92f84 25 = .ok (.iconst 1, 1) := by decide +kernel
theorem dJx4a65c_grow_92f84_26 : decode cJx4a65c_grow_92f84 26 = .ok (.ishr, 1) := by decide +kernel
theorem dJx4a65c_grow_92f84_27 : decode cJx4a65c_grow_92f84 27 = .ok (.invokestatic 73, 3) := by decide +kernel
theorem dJx4a65c_grow_92f84_30 : decode cJx4a65c_grow_92f84 30 = .ok (.istore_n 3, 1) := by decide +kernel
theorem dJx4a65c_grow_92f84_31 : decode cJx4a65c_grow_92f84 31 = .ok (.aload_n 0, 1) := by decide +kernel
theorem dJx4a65c_grow_92f84_32 : decode cJx4a65c_grow_92f84 32 = .ok (.aload_n 0, 1) := by decide +kernel
theorem dJx4a65c_grow_92f84_33 : decode cJx4a65c_grow_92f84 33 = .ok (.getfield 9, 3) := by decide +kernel
theorem dJx4a65c_grow_92f84_36 : decode cJx4a65c_grow_92f84 36 = .ok (.iload_n 3, 1) := by decide +kernel
theorem dJx4a65c_grow_92f84_37 : decode cJx4a65c_grow_92f84 37 = .ok (.invokestatic 66, 3) := by decide +kernel
theorem dJx4a65c_grow_92f84_40 : decode cJx4a65c_grow_92f84 40 = .ok (.dup_x1, 1) := by decide +kernel
theorem dJx4a65c_grow_92f84_41 : decode cJx4a65c_grow_92f84 41 = .ok (.putfield 9, 3) := by decide +kernel
theorem dJx4a65c_grow_92f84_44 : decode cJx4a65c_grow_92f84 44 = .ok (.areturn, 1) := by decide +kernel
theorem dJx4a65c_grow_92f84_45 : decode cJx4a65c_grow_92f84 45 = .ok (.aload_n 0, 1) := by decide +kernel
theorem dJx4a65c_grow_92f84_46 : decode cJx4a65c_grow_92f84 46 = .ok (.bipush 10, 2) := by decide +kernel
theorem dJx4a65c_grow_92f84_48 : decode cJx4a65c_grow_92f84 48 = .ok (.iload_n 1, 1) := by decide +kernel
theorem dJx4a65c_grow_92f84_49 : decode cJx4a65c_grow_92f84 49 = .ok (.invokestatic 79, 3) := by decide +kernel
theorem dJx4a65c_grow_92f84_52 : decode cJx4a65c_grow_92f84 52 = .ok (.anewarray 7, 3) := by decide +kernel
theorem dJx4a65c_grow_92f84_55 : decode cJx4a65c_grow_92f84 55 = .ok (.dup_x1, 1) := by decide +kernel
theorem dJx4a65c_grow_92f84_56 : decode cJx4a65c_grow_92f84 56 = .ok (.putfield 9, 3) := by decide +kernel
theorem dJx4a65c_grow_92f84_59 : decode cJx4a65c_grow_92f84 59 = .ok (.areturn, 1) := by decide +kernel
theorem dJx4a65c_grow_d5877_0 : decode cJx4a65c_grow_d5877 0 = .ok (.aload_n 0, 1) := by decide +kernel
theorem dJx4a65c_grow_d5877_1 : decode cJx4a65c_grow_d5877 1 = .ok (.aload_n 0, 1) := by decide +kernel
theorem dJx4a65c_grow_d5877_2 : decode cJx4a65c_grow_d5877 2 = .ok (.getfield 48, 3) := by decide +kernel
theorem dJx4a65c_grow_d5877_5 : decode cJx4a65c_grow_d5877 5 = .ok (.iconst 1, 1) := by decide +kernel
theorem dJx4a65c_grow_d5877_6 : decode cJx4a65c_grow_d5877 6 = .ok (.iadd, 1) := by decide +kernel
theorem dJx4a65c_grow_d5877_7 : decode cJx4a65c_grow_d5877 7 = .ok (.invokevirtual 69, 3) := by decide +kernel
theorem dJx4a65c_grow_d5877_10 : decode cJx4a65c_grow_d5877 10 = .ok (.areturn, 1) := by decide +kernel
theorem dJx4a65c_size_8abf5_0 : decode cJx4a65c_size_8abf5 0 = .ok (.aload_n 0, 1) := by decide +kernel
theorem dJx4a65c_size_8abf5_1 : decode cJx4a65c_size_8abf5 1 = .ok (.getfield 48, 3) := by decide +kernel
theorem dJx4a65c_size_8abf5_4 : decode cJx4a65c_size_8abf5 4 = .ok (.ireturn, 1) := by decide +kernel
theorem dJx4a65c_elementData_915e3_0 : decode cJx4a65c_elementData_915e3 0 = .ok (.aload_n 0, 1) := by decide +kernel
theorem dJx4a65c_elementData_915e3_1 : decode cJx4a65c_elementData_915e3 1 = .ok (.getfield 9, 3) := by decide +kernel
theorem dJx4a65c_elementData_915e3_4 : decode cJx4a65c_elementData_915e3 4 = .ok (.iload_n 1, 1) := by decide +kernel
theorem dJx4a65c_elementData_915e3_5 : decode cJx4a65c_elementData_915e3 5 = .ok (.aaload, 1) := by decide +kernel
theorem dJx4a65c_elementData_915e3_6 : decode cJx4a65c_elementData_915e3 6 = .ok (.areturn, 1) := by decide +kernel
theorem dJx4a65c_get_915e3_0 : decode cJx4a65c_get_915e3 0 = .ok (.iload_n 1, 1) := by decide +kernel
theorem dJx4a65c_get_915e3_1 : decode cJx4a65c_get_915e3 1 = .ok (.aload_n 0, 1) := by decide +kernel
theorem dJx4a65c_get_915e3_2 : decode cJx4a65c_get_915e3 2 = .ok (.getfield 48, 3) := by decide +kernel
theorem dJx4a65c_get_915e3_5 : decode cJx4a65c_get_915e3 5 = .ok (.invokestatic 118, 3) := by decide +kernel
theorem dJx4a65c_get_915e3_8 : decode cJx4a65c_get_915e3 8 = .ok (.pop, 1) := by decide +kernel
theorem dJx4a65c_get_915e3_9 : decode cJx4a65c_get_915e3 9 = .ok (.aload_n 0, 1) := by decide +kernel
theorem dJx4a65c_get_915e3_10 : decode cJx4a65c_get_915e3 10 = .ok (.iload_n 1, 1) := by decide +kernel
theorem dJx4a65c_get_915e3_11 : decode cJx4a65c_get_915e3 11 = .ok (.invokevirtual 123, 3) := by decide +kernel
theorem dJx4a65c_get_915e3_14 : decode cJx4a65c_get_915e3 14 = .ok (.areturn, 1) := by decide +kernel
theorem dJx4a65c_add_72be8_0 : decode cJx4a65c_add_72be8 0 = .ok (.iload_n 3, 1) := by decide +kernel
theorem dJx4a65c_add_72be8_1 : decode cJx4a65c_add_72be8 1 = .ok (.aload_n 2, 1) := by decide +kernel
theorem dJx4a65c_add_72be8_2 : decode cJx4a65c_add_72be8 2 = .ok (.arraylength, 1) := by decide +kernel
theorem dJx4a65c_add_72be8_3 : decode cJx4a65c_add_72be8 3 = .ok (.if_icmp .ne 8, 3) := by decide +kernel
theorem dJx4a65c_add_72be8_6 : decode cJx4a65c_add_72be8 6 = .ok (.aload_n 0, 1) := by decide +kernel
theorem dJx4a65c_add_72be8_7 : decode cJx4a65c_add_72be8 7 = .ok (.invokevirtual 129, 3) := by decide +kernel
theorem dJx4a65c_add_72be8_10 : decode cJx4a65c_add_72be8 10 = .ok (.astore_n 2, 1) := by decide +kernel
theorem dJx4a65c_add_72be8_11 : decode cJx4a65c_add_72be8 11 = .ok (.aload_n 2, 1) := by decide +kernel
theorem dJx4a65c_add_72be8_12 : decode cJx4a65c_add_72be8 12 = .ok (.iload_n 3, 1) := by decide +kernel
theorem dJx4a65c_add_72be8_13 : decode cJx4a65c_add_72be8 13 = .ok (.aload_n 1, 1) := by decide +kernel
theorem dJx4a65c_add_72be8_14 : decode cJx4a65c_add_72be8 14 = .ok (.aastore, 1) := by decide +kernel
theorem dJx4a65c_add_72be8_15 : decode cJx4a65c_add_72be8 15 = .ok (.aload_n 0, 1) := by decide +kernel
theorem dJx4a65c_add_72be8_16 : decode cJx4a65c_add_72be8 16 = .ok (.iload_n 3, 1) := by decide +kernel
theorem dJx4a65c_add_72be8_17 : decode cJx4a65c_add_72be8 17 = .ok (.iconst 1, 1) := by decide +kernel
theorem dJx4a65c_add_72be8_18 : decode cJx4a65c_add_72be8 18 = .ok (.iadd, 1) := by decide +kernel
theorem dJx4a65c_add_72be8_19 : decode cJx4a65c_add_72be8 19 = .ok (.putfield 48, 3) := by decide +kernel
theorem dJx4a65c_add_72be8_22 : decode cJx4a65c_add_72be8 22 = .ok (.return_, 1) := by decide +kernel
theorem dJx4a65c_add_9ea2d_0 : decode cJx4a65c_add_9ea2d 0 = .ok (.aload_n 0, 1) := by decide +kernel
theorem dJx4a65c_add_9ea2d_1 : decode cJx4a65c_add_9ea2d 1 = .ok (.dup, 1) := by decide +kernel
theorem dJx4a65c_add_9ea2d_2 : decode cJx4a65c_add_9ea2d 2 = .ok (.getfield 63, 3) := by decide +kernel
theorem dJx4a65c_add_9ea2d_5 : decode cJx4a65c_add_9ea2d 5 = .ok (.iconst 1, 1) := by decide +kernel
theorem dJx4a65c_add_9ea2d_6 : decode cJx4a65c_add_9ea2d 6 = .ok (.iadd, 1) := by decide +kernel
theorem dJx4a65c_add_9ea2d_7 : decode cJx4a65c_add_9ea2d 7 = .ok (.putfield 63, 3) := by decide +kernel
theorem dJx4a65c_add_9ea2d_10 : decode cJx4a65c_add_9ea2d 10 = .ok (.aload_n 0, 1) := by decide +kernel
theorem dJx4a65c_add_9ea2d_11 : decode cJx4a65c_add_9ea2d 11 = .ok (.aload_n 1, 1) := by decide +kernel
theorem dJx4a65c_add_9ea2d_12 : decode cJx4a65c_add_9ea2d 12 = .ok (.aload_n 0, 1) := by decide +kernel
theorem dJx4a65c_add_9ea2d_13 : decode cJx4a65c_add_9ea2d 13 = .ok (.getfield 9, 3) := by decide +kernel
theorem dJx4a65c_add_9ea2d_16 : decode cJx4a65c_add_9ea2d 16 = .ok (.aload_n 0, 1) := by decide +kernel
theorem dJx4a65c_add_9ea2d_17 : decode cJx4a65c_add_9ea2d 17 = .ok (.getfield 48, 3) := by decide +kernel
theorem dJx4a65c_add_9ea2d_20 : decode cJx4a65c_add_9ea2d 20 = .ok (.invokevirtual 131, 3) := by decide +kernel
theorem dJx4a65c_add_9ea2d_23 : decode cJx4a65c_add_9ea2d 23 = .ok (.iconst 1, 1) := by decide +kernel
theorem dJx4a65c_add_9ea2d_24 : decode cJx4a65c_add_9ea2d 24 = .ok (.ireturn, 1) := by decide +kernel
theorem dJ7_copyOf_1904c_0 : decode cJ7_copyOf_1904c 0 = .ok (.aload_n 0, 1) := by decide +kernel
theorem dJ7_copyOf_1904c_1 : decode cJ7_copyOf_1904c 1 = .ok (.iload_n 1, 1) := by decide +kernel
theorem dJ7_copyOf_1904c_2 : decode cJ7_copyOf_1904c 2 = .ok (.aload_n 0, 1) := by decide +kernel
theorem dJ7_copyOf_1904c_3 : decode cJ7_copyOf_1904c 3 = .ok (.invokevirtual 86, 3) := by decide +kernel
theorem dJ7_copyOf_1904c_6 : decode cJ7_copyOf_1904c 6 = .ok (.invokestatic 300, 3) := by decide +kernel
theorem dJ7_copyOf_1904c_9 : decode cJ7_copyOf_1904c 9 = .ok (.areturn, 1) := by decide +kernel
theorem dJ7_copyOf_6403c_0 : decode cJ7_copyOf_6403c 0 = .ok (.aload_n 2, 1) := by decide +kernel
theorem dJ7_copyOf_6403c_1 : decode cJ7_copyOf_6403c 1 = .ok (.ldc 110, 2) := by decide +kernel
theorem dJ7_copyOf_6403c_3 : decode cJ7_copyOf_6403c 3 = .ok (.if_acmp .ne 10, 3) := by decide +kernel
theorem dJ7_copyOf_6403c_6 : decode cJ7_copyOf_6403c 6 = .ok (.iload_n 1, 1) := by decide +kernel
theorem dJ7_copyOf_6403c_7 : decode cJ7_copyOf_6403c 7 = .ok (.anewarray 2, 3) := by decide +kernel
theorem dJ7_copyOf_6403c_10 : decode cJ7_copyOf_6403c 10 = .ok (.goto 14, 3) := by decide +kernel
theorem dJ7_copyOf_6403c_13 : decode cJ7_copyOf_6403c 13 = .ok (.aload_n 2, 1) := by decide +kernel
theorem dJ7_copyOf_6403c_14 : decode cJ7_copyOf_6403c 14 = .ok (.invokevirtual 90, 3) := by decide +kernel
theorem dJ7_copyOf_6403c_17 : decode cJ7_copyOf_6403c 17 = .ok (.iload_n 1, 1) := by decide +kernel
theorem dJ7_copyOf_6403c_18 : decode cJ7_copyOf_6403c 18 = .ok (.invokestatic 95, 3) := by decide +kernel
theorem dJ7_copyOf_6403c_21 : decode cJ7_copyOf_6403c 21 = .ok (.checkcast 110, 3) := by decide +kernel
theorem dJ7_copyOf_6403c_24 : decode cJ7_copyOf_6403c 24 = .ok (.astore_n 3, 1) := by decide +kernel
theorem dJ7_copyOf_6403c_25 : decode cJ7_copyOf_6403c 25 = .ok (.aload_n 0, 1) := by decide +kernel
theorem dJ7_copyOf_6403c_26 : decode cJ7_copyOf_6403c 26 = .ok (.iconst 0, 1) := by decide +kernel
theorem dJ7_copyOf_6403c_27 : decode cJ7_copyOf_6403c 27 = .ok (.aload_n 3, 1) := by decide +kernel
theorem dJ7_copyOf_6403c_28 : decode cJ7_copyOf_6403c 28 = .ok (.iconst 0, 1) := by decide +kernel
theorem dJ7_copyOf_6403c_29 : decode cJ7_copyOf_6403c 29 = .ok (.aload_n 0, 1) := by decide +kernel
theorem dJ7_copyOf_6403c_30 : decode cJ7_copyOf_6403c 30 = .ok (.arraylength, 1) := by decide +kernel
theorem dJ7_copyOf_6403c_31 : decode cJ7_copyOf_6403c 31 = .ok (.iload_n 1, 1) := by decide +kernel
theorem dJ7_copyOf_6403c_32 : decode cJ7_copyOf_6403c 32 = .ok (.invokestatic 304, 3) := by decide +kernel
theorem dJ7_copyOf_6403c_35 : decode cJ7_copyOf_6403c 35 = .ok (.invokestatic 150, 3) := by decide +kernel
theorem dJ7_copyOf_6403c_38 : decode cJ7_copyOf_6403c 38 = .ok (.aload_n 3, 1) := by decide +kernel
theorem dJ7_copyOf_6403c_39 : decode cJ7_copyOf_6403c 39 = .ok (.areturn, 1) := by decide +kernel
theorem dJ15_checkIndex_7cf53_0 : decode cJ15_checkIndex_7cf53 0 = .ok (.iload_n 0, 1) := by decide +kernel
theorem dJ15_checkIndex_7cf53_1 : decode cJ15_checkIndex_7cf53 1 = .ok (.iload_n 1, 1) := by decide +kernel
theorem dJ15_checkIndex_7cf53_2 : decode cJ15_checkIndex_7cf53 2 = .ok (.aconst_null, 1) := by decide +kernel
theorem dJ15_checkIndex_7cf53_3 : decode cJ15_checkIndex_7cf53 3 = .ok (.invokestatic 105, 3) := by decide +kernel
theorem dJ15_checkIndex_7cf53_6 : decode cJ15_checkIndex_7cf53 6 = .ok (.ireturn, 1) := by decide +kernel
theorem dJ8_newLength_cabcc_0 : decode cJ8_newLength_cabcc 0 = .ok (.iload_n 0, 1) := by decide +kernel
theorem dJ8_newLength_cabcc_1 : decode cJ8_newLength_cabcc 1 = .ok (.iload_n 1, 1) := by decide +kernel
theorem dJ8_newLength_cabcc_2 : decode cJ8_newLength_cabcc 2 = .ok (.iload_n 2, 1) := by decide +kernel
theorem dJ8_newLength_cabcc_3 : decode cJ8_newLength_cabcc 3 = .ok (.invokestatic 194, 3) := by decide +kernel
theorem dJ8_newLength_cabcc_6 : decode cJ8_newLength_cabcc 6 = .ok (.iadd, 1) := by decide +kernel
theorem dJ8_newLength_cabcc_7 : decode cJ8_newLength_cabcc 7 = .ok (.istore_n 3, 1) := by decide +kernel
theorem dJ8_newLength_cabcc_8 : decode cJ8_newLength_cabcc 8 = .ok (.iconst 0, 1) := by decide +kernel
theorem dJ8_newLength_cabcc_9 : decode cJ8_newLength_cabcc 9 = .ok (.iload_n 3, 1) := by decide +kernel
theorem dJ8_newLength_cabcc_10 : decode cJ8_newLength_cabcc 10 = .ok (.if_icmp .ge 11, 3) := by decide +kernel
theorem dJ8_newLength_cabcc_13 : decode cJ8_newLength_cabcc 13 = .ok (.iload_n 3, 1) := by decide +kernel
theorem dJ8_newLength_cabcc_14 : decode cJ8_newLength_cabcc 14 = .ok (.ldc 200, 2) := by decide +kernel
theorem dJ8_newLength_cabcc_16 : decode cJ8_newLength_cabcc 16 = .ok (.if_icmp .gt 5, 3) := by decide +kernel
theorem dJ8_newLength_cabcc_19 : decode cJ8_newLength_cabcc 19 = .ok (.iload_n 3, 1) := by decide +kernel
theorem dJ8_newLength_cabcc_20 : decode cJ8_newLength_cabcc 20 = .ok (.ireturn, 1) := by decide +kernel
theorem dJ8_newLength_cabcc_21 : decode cJ8_newLength_cabcc 21 = .ok (.iload_n 0, 1) := by decide +kernel
theorem dJ8_newLength_cabcc_22 : decode cJ8_newLength_cabcc 22 = .ok (.iload_n 1, 1) := by decide +kernel
theorem dJ8_newLength_cabcc_23 : decode cJ8_newLength_cabcc 23 = .ok (.invokestatic 201, 3) := by decide +kernel
theorem dJ8_newLength_cabcc_26 : decode cJ8_newLength_cabcc 26 = .ok (.ireturn, 1) := by decide +kernel
theorem dJ8_hugeLength_7cf53_0 : decode cJ8_hugeLength_7cf53 0 = .ok (.iload_n 0, 1) := by decide +kernel
theorem dJ8_hugeLength_7cf53_1 : decode cJ8_hugeLength_7cf53 1 = .ok (.iload_n 1, 1) := by decide +kernel
theorem dJ8_hugeLength_7cf53_2 : decode cJ8_hugeLength_7cf53 2 = .ok (.iadd, 1) := by decide +kernel
theorem dJ8_hugeLength_7cf53_3 : decode cJ8_hugeLength_7cf53 3 = .ok (.istore_n 2, 1) := by decide +kernel
theorem dJ8_hugeLength_7cf53_4 : decode cJ8_hugeLength_7cf53 4 = .ok (.iload_n 2, 1) := by decide +kernel
theorem dJ8_hugeLength_7cf53_5 : decode cJ8_hugeLength_7cf53 5 = .ok (.ifCond .ge 44, 3) := by decide +kernel
theorem dJ8_hugeLength_7cf53_8 : decode cJ8_hugeLength_7cf53 8 = .ok (.new 204, 3) := by decide +kernel
theorem dJ8_hugeLength_7cf53_11 : decode cJ8_hugeLength_7cf53 11 = .ok (.dup, 1) := by decide +kernel
theorem dJ8_hugeLength_7cf53_12 : decode cJ8_hugeLength_7cf53 12 = .ok (.new 89, 3) := by decide +kernel
theorem dJ8_hugeLength_7cf53_15 : decode cJ8_hugeLength_7cf53 15 = .ok (.dup, 1) := by decide +kernel
theorem dJ8_hugeLength_7cf53_16 : decode cJ8_hugeLength_7cf53 16 = .ok (.invokespecial 91, 3) := by decide +kernel
theorem dJ8_hugeLength_7cf53_19 : decode cJ8_hugeLength_7cf53 19 = .ok (.ldc 206, 2) := by decide +kernel
theorem dJ8_hugeLength_7cf53_21 : decode cJ8_hugeLength_7cf53 21 = .ok (.invokevirtual 94, 3) := by decide +kernel
theorem dJ8_hugeLength_7cf53_24 : decode cJ8_hugeLength_7cf53 24 = .ok (.iload_n 0, 1) := by decide +kernel
theorem dJ8_hugeLength_7cf53_25 : decode cJ8_hugeLength_7cf53 25 = .ok (.invokevirtual 98, 3) := by decide +kernel
theorem dJ8_hugeLength_7cf53_28 : decode cJ8_hugeLength_7cf53 28 = .ok (.ldc 208, 2) := by decide +kernel
theorem dJ8_hugeLength_7cf53_30 : decode cJ8_hugeLength_7cf53 30 = .ok (.invokevirtual 94, 3) := by decide +kernel
theorem dJ8_hugeLength_7cf53_33 : decode cJ8_hugeLength_7cf53 33 = .ok (.iload_n 1, 1) := by decide +kernel
theorem dJ8_hugeLength_7cf53_34 : decode cJ8_hugeLength_7cf53 34 = .ok (.invokevirtual 98, 3) := by decide +kernel
theorem dJ8_hugeLength_7cf53_37 : decode cJ8_hugeLength_7cf53 37 = .ok (.ldc 210, 2) := by decide +kernel
theorem dJ8_hugeLength_7cf53_39 : decode cJ8_hugeLength_7cf53 39 = .ok (.invokevirtual 94, 3) := by decide +kernel
theorem dJ8_hugeLength_7cf53_42 : decode cJ8_hugeLength_7cf53 42 = .ok (.invokevirtual 101, 3) := by decide +kernel
theorem dJ8_hugeLength_7cf53_45 : decode cJ8_hugeLength_7cf53 45 = .ok (.invokespecial 212, 3) := by decide +kernel
theorem dJ8_hugeLength_7cf53_48 : decode cJ8_hugeLength_7cf53 48 = .ok (.athrow, 1) := by decide +kernel
theorem dJ8_hugeLength_7cf53_49 : decode cJ8_hugeLength_7cf53 49 = .ok (.iload_n 2, 1) := by decide +kernel
theorem dJ8_hugeLength_7cf53_50 : decode cJ8_hugeLength_7cf53 50 = .ok (.ldc 200, 2) := by decide +kernel
theorem dJ8_hugeLength_7cf53_52 : decode cJ8_hugeLength_7cf53 52 = .ok (.if_icmp .gt 6, 3) := by decide +kernel
theorem dJ8_hugeLength_7cf53_55 : decode cJ8_hugeLength_7cf53 55 = .ok (.ldc 200, 2) := by decide +kernel
theorem dJ8_hugeLength_7cf53_57 : decode cJ8_hugeLength_7cf53 57 = .ok (.ireturn, 1) := by decide +kernel
theorem dJ8_hugeLength_7cf53_58 : decode cJ8_hugeLength_7cf53 58 = .ok (.iload_n 2, 1) := by decide +kernel
theorem dJ8_hugeLength_7cf53_59 : decode cJ8_hugeLength_7cf53 59 = .ok (.ireturn, 1) := by decide +kernel
theorem dJ3_checkIndex_8e157_0 : decode cJ3_checkIndex_8e157 0 = .ok (.iload_n 0, 1) := by decide +kernel
theorem dJ3_checkIndex_8e157_1 : decode cJ3_checkIndex_8e157 1 = .ok (.ifCond .lt 8, 3) := by decide +kernel
theorem dJ3_checkIndex_8e157_4 : decode cJ3_checkIndex_8e157 4 = .ok (.iload_n 0, 1) := by decide +kernel
theorem dJ3_checkIndex_8e157_5 : decode cJ3_checkIndex_8e157 5 = .ok (.iload_n 1, 1) := by decide +kernel
theorem dJ3_checkIndex_8e157_6 : decode cJ3_checkIndex_8e157 6 = .ok (.if_icmp .lt 10, 3) := by decide +kernel
theorem dJ3_checkIndex_8e157_9 : decode cJ3_checkIndex_8e157 9 = .ok (.aload_n 2, 1) := by decide +kernel
theorem dJ3_checkIndex_8e157_10 : decode cJ3_checkIndex_8e157 10 = .ok (.iload_n 0, 1) := by decide +kernel
theorem dJ3_checkIndex_8e157_11 : decode cJ3_checkIndex_8e157 11 = .ok (.iload_n 1, 1) := by decide +kernel
theorem dJ3_checkIndex_8e157_12 : decode cJ3_checkIndex_8e157 12 = .ok (.invokestatic 95, 3) := by decide +kernel
theorem dJ3_checkIndex_8e157_15 : decode cJ3_checkIndex_8e157 15 = .ok (.athrow, 1) := by decide +kernel
theorem dJ3_checkIndex_8e157_16 : decode cJ3_checkIndex_8e157 16 = .ok (.iload_n 0, 1) := by decide +kernel
theorem dJ3_checkIndex_8e157_17 : decode cJ3_checkIndex_8e157 17 = .ok (.ireturn, 1) := by decide +kernel
theorem dL_store_0 : decode cL_store 0 = .ok (.aload 7, 2) := by decide +kernel
theorem dL_store_2 : decode cL_store 2 = .ok (.iconst 0, 1) := by decide +kernel
theorem dL_store_3 : decode cL_store 3 = .ok (.aload_n 0, 1) := by decide +kernel
theorem dL_store_4 : decode cL_store 4 = .ok (.iload_n 1, 1) := by decide +kernel
theorem dL_store_5 : decode cL_store 5 = .ok (.iload_n 2, 1) := by decide +kernel
theorem dL_store_6 : decode cL_store 6 = .ok (.iload_n 3, 1) := by decide +kernel
theorem dL_store_7 : decode cL_store 7 = .ok (.iload 4, 2) := by decide +kernel
theorem dL_store_9 : decode cL_store 9 = .ok (.iload 5, 2) := by decide +kernel
theorem dL_store_11 : decode cL_store 11 = .ok (.iload 6, 2) := by decide +kernel
theorem dL_store_13 : decode cL_store 13 = .ok (.invokevirtual 7, 3) := by decide +kernel
theorem dL_store_16 : decode cL_store 16 = .ok (.i2l, 1) := by decide +kernel
theorem dL_store_17 : decode cL_store 17 = .ok (.lastore, 1) := by decide +kernel
theorem dL_store_18 : decode cL_store 18 = .ok (.goto 11, 3) := by decide +kernel
theorem dL_store_21 : decode cL_store 21 = .ok (.astore 8, 2) := by decide +kernel
theorem dL_store_23 : decode cL_store 23 = .ok (.iconst 1, 1) := by decide +kernel
theorem dL_store_24 : decode cL_store 24 = .ok (.ireturn, 1) := by decide +kernel
theorem dL_store_25 : decode cL_store 25 = .ok (.astore 8, 2) := by decide +kernel
theorem dL_store_27 : decode cL_store 27 = .ok (.iconst 2, 1) := by decide +kernel
theorem dL_store_28 : decode cL_store 28 = .ok (.ireturn, 1) := by decide +kernel
theorem dL_store_29 : decode cL_store 29 = .ok (.iconst 0, 1) := by decide +kernel
theorem dL_store_30 : decode cL_store 30 = .ok (.ireturn, 1) := by decide +kernel
theorem dL_wells_0 : decode cL_wells 0 = .ok (.aload 4, 2) := by decide +kernel
theorem dL_wells_2 : decode cL_wells 2 = .ok (.iconst 0, 1) := by decide +kernel
theorem dL_wells_3 : decode cL_wells 3 = .ok (.aload_n 0, 1) := by decide +kernel
theorem dL_wells_4 : decode cL_wells 4 = .ok (.iload_n 1, 1) := by decide +kernel
theorem dL_wells_5 : decode cL_wells 5 = .ok (.iload_n 2, 1) := by decide +kernel
theorem dL_wells_6 : decode cL_wells 6 = .ok (.iload_n 3, 1) := by decide +kernel
theorem dL_wells_7 : decode cL_wells 7 = .ok (.invokevirtual 17, 3) := by decide +kernel
theorem dL_wells_10 : decode cL_wells 10 = .ok (.i2l, 1) := by decide +kernel
theorem dL_wells_11 : decode cL_wells 11 = .ok (.lastore, 1) := by decide +kernel
theorem dL_wells_12 : decode cL_wells 12 = .ok (.goto 11, 3) := by decide +kernel
theorem dL_wells_15 : decode cL_wells 15 = .ok (.astore 5, 2) := by decide +kernel
theorem dL_wells_17 : decode cL_wells 17 = .ok (.iconst 1, 1) := by decide +kernel
theorem dL_wells_18 : decode cL_wells 18 = .ok (.ireturn, 1) := by decide +kernel
theorem dL_wells_19 : decode cL_wells 19 = .ok (.astore 5, 2) := by decide +kernel
theorem dL_wells_21 : decode cL_wells 21 = .ok (.iconst 2, 1) := by decide +kernel
theorem dL_wells_22 : decode cL_wells 22 = .ok (.ireturn, 1) := by decide +kernel
theorem dL_wells_23 : decode cL_wells 23 = .ok (.iconst 0, 1) := by decide +kernel
theorem dL_wells_24 : decode cL_wells 24 = .ok (.ireturn, 1) := by decide +kernel
theorem dL_leak_0 : decode cL_leak 0 = .ok (.aload_n 3, 1) := by decide +kernel
theorem dL_leak_1 : decode cL_leak 1 = .ok (.iconst 0, 1) := by decide +kernel
theorem dL_leak_2 : decode cL_leak 2 = .ok (.aload_n 0, 1) := by decide +kernel
theorem dL_leak_3 : decode cL_leak 3 = .ok (.iload_n 1, 1) := by decide +kernel
theorem dL_leak_4 : decode cL_leak 4 = .ok (.iload_n 2, 1) := by decide +kernel
theorem dL_leak_5 : decode cL_leak 5 = .ok (.invokevirtual 23, 3) := by decide +kernel
theorem dL_leak_8 : decode cL_leak 8 = .ok (.i2l, 1) := by decide +kernel
theorem dL_leak_9 : decode cL_leak 9 = .ok (.lastore, 1) := by decide +kernel
theorem dL_leak_10 : decode cL_leak 10 = .ok (.goto 11, 3) := by decide +kernel
theorem dL_leak_13 : decode cL_leak 13 = .ok (.astore 4, 2) := by decide +kernel
theorem dL_leak_15 : decode cL_leak 15 = .ok (.iconst 1, 1) := by decide +kernel
theorem dL_leak_16 : decode cL_leak 16 = .ok (.ireturn, 1) := by decide +kernel
theorem dL_leak_17 : decode cL_leak 17 = .ok (.astore 4, 2) := by decide +kernel
theorem dL_leak_19 : decode cL_leak 19 = .ok (.iconst 2, 1) := by decide +kernel
theorem dL_leak_20 : decode cL_leak 20 = .ok (.ireturn, 1) := by decide +kernel
theorem dL_leak_21 : decode cL_leak 21 = .ok (.iconst 0, 1) := by decide +kernel
theorem dL_leak_22 : decode cL_leak 22 = .ok (.ireturn, 1) := by decide +kernel
theorem dL_leach_0 : decode cL_leach 0 = .ok (.aload_n 3, 1) := by decide +kernel
theorem dL_leach_1 : decode cL_leach 1 = .ok (.iconst 0, 1) := by decide +kernel
theorem dL_leach_2 : decode cL_leach 2 = .ok (.aload_n 0, 1) := by decide +kernel
theorem dL_leach_3 : decode cL_leach 3 = .ok (.iload_n 1, 1) := by decide +kernel
theorem dL_leach_4 : decode cL_leach 4 = .ok (.iload_n 2, 1) := by decide +kernel
theorem dL_leach_5 : decode cL_leach 5 = .ok (.invokevirtual 27, 3) := by decide +kernel
theorem dL_leach_8 : decode cL_leach 8 = .ok (.i2l, 1) := by decide +kernel
theorem dL_leach_9 : decode cL_leach 9 = .ok (.lastore, 1) := by decide +kernel
theorem dL_leach_10 : decode cL_leach 10 = .ok (.goto 15, 3) := by decide +kernel
theorem dL_leach_13 : decode cL_leach 13 = .ok (.astore 4, 2) := by decide +kernel
theorem dL_leach_15 : decode cL_leach 15 = .ok (.iconst 1, 1) := by decide +kernel
theorem dL_leach_16 : decode cL_leach 16 = .ok (.ireturn, 1) := by decide +kernel
theorem dL_leach_17 : decode cL_leach 17 = .ok (.astore 4, 2) := by decide +kernel
theorem dL_leach_19 : decode cL_leach 19 = .ok (.iconst 2, 1) := by decide +kernel
theorem dL_leach_20 : decode cL_leach 20 = .ok (.ireturn, 1) := by decide +kernel
theorem dL_leach_21 : decode cL_leach 21 = .ok (.astore 4, 2) := by decide +kernel
theorem dL_leach_23 : decode cL_leach 23 = .ok (.iconst 3, 1) := by decide +kernel
theorem dL_leach_24 : decode cL_leach 24 = .ok (.ireturn, 1) := by decide +kernel
theorem dL_leach_25 : decode cL_leach 25 = .ok (.iconst 0, 1) := by decide +kernel
theorem dL_leach_26 : decode cL_leach 26 = .ok (.ireturn, 1) := by decide +kernel
theorem dL_heat_0 : decode cL_heat 0 = .ok (.aload_n 2, 1) := by decide +kernel
theorem dL_heat_1 : decode cL_heat 1 = .ok (.iconst 0, 1) := by decide +kernel
theorem dL_heat_2 : decode cL_heat 2 = .ok (.aload_n 0, 1) := by decide +kernel
theorem dL_heat_3 : decode cL_heat 3 = .ok (.iload_n 1, 1) := by decide +kernel
theorem dL_heat_4 : decode cL_heat 4 = .ok (.invokevirtual 30, 3) := by decide +kernel
theorem dL_heat_7 : decode cL_heat 7 = .ok (.i2l, 1) := by decide +kernel
theorem dL_heat_8 : decode cL_heat 8 = .ok (.lastore, 1) := by decide +kernel
theorem dL_heat_9 : decode cL_heat 9 = .ok (.goto 6, 3) := by decide +kernel
theorem dL_heat_12 : decode cL_heat 12 = .ok (.astore_n 3, 1) := by decide +kernel
theorem dL_heat_13 : decode cL_heat 13 = .ok (.iconst 1, 1) := by decide +kernel
theorem dL_heat_14 : decode cL_heat 14 = .ok (.ireturn, 1) := by decide +kernel
theorem dL_heat_15 : decode cL_heat 15 = .ok (.iconst 0, 1) := by decide +kernel
theorem dL_heat_16 : decode cL_heat 16 = .ok (.ireturn, 1) := by decide +kernel
theorem dL_customer_0 : decode cL_customer 0 = .ok (.aload 5, 2) := by decide +kernel
theorem dL_customer_2 : decode cL_customer 2 = .ok (.iconst 0, 1) := by decide +kernel
theorem dL_customer_3 : decode cL_customer 3 = .ok (.aload_n 0, 1) := by decide +kernel
theorem dL_customer_4 : decode cL_customer 4 = .ok (.iload_n 1, 1) := by decide +kernel
theorem dL_customer_5 : decode cL_customer 5 = .ok (.iload_n 2, 1) := by decide +kernel
theorem dL_customer_6 : decode cL_customer 6 = .ok (.iload_n 3, 1) := by decide +kernel
theorem dL_customer_7 : decode cL_customer 7 = .ok (.iload 4, 2) := by decide +kernel
theorem dL_customer_9 : decode cL_customer 9 = .ok (.invokevirtual 34, 3) := by decide +kernel
theorem dL_customer_12 : decode cL_customer 12 = .ok (.i2l, 1) := by decide +kernel
theorem dL_customer_13 : decode cL_customer 13 = .ok (.lastore, 1) := by decide +kernel
theorem dL_customer_14 : decode cL_customer 14 = .ok (.goto 11, 3) := by decide +kernel
theorem dL_customer_17 : decode cL_customer 17 = .ok (.astore 6, 2) := by decide +kernel
theorem dL_customer_19 : decode cL_customer 19 = .ok (.iconst 1, 1) := by decide +kernel
theorem dL_customer_20 : decode cL_customer 20 = .ok (.ireturn, 1) := by decide +kernel
theorem dL_customer_21 : decode cL_customer 21 = .ok (.astore 6, 2) := by decide +kernel
theorem dL_customer_23 : decode cL_customer 23 = .ok (.iconst 2, 1) := by decide +kernel
theorem dL_customer_24 : decode cL_customer 24 = .ok (.ireturn, 1) := by decide +kernel
theorem dL_customer_25 : decode cL_customer 25 = .ok (.iconst 0, 1) := by decide +kernel
theorem dL_customer_26 : decode cL_customer 26 = .ok (.ireturn, 1) := by decide +kernel
theorem dL_nominate_0 : decode cL_nominate 0 = .ok (.aload 4, 2) := by decide +kernel
theorem dL_nominate_2 : decode cL_nominate 2 = .ok (.iconst 0, 1) := by decide +kernel
theorem dL_nominate_3 : decode cL_nominate 3 = .ok (.aload_n 0, 1) := by decide +kernel
theorem dL_nominate_4 : decode cL_nominate 4 = .ok (.iload_n 1, 1) := by decide +kernel
theorem dL_nominate_5 : decode cL_nominate 5 = .ok (.iload_n 2, 1) := by decide +kernel
theorem dL_nominate_6 : decode cL_nominate 6 = .ok (.iload_n 3, 1) := by decide +kernel
theorem dL_nominate_7 : decode cL_nominate 7 = .ok (.invokevirtual 38, 3) := by decide +kernel
theorem dL_nominate_10 : decode cL_nominate 10 = .ok (.i2l, 1) := by decide +kernel
theorem dL_nominate_11 : decode cL_nominate 11 = .ok (.lastore, 1) := by decide +kernel
theorem dL_nominate_12 : decode cL_nominate 12 = .ok (.goto 11, 3) := by decide +kernel
theorem dL_nominate_15 : decode cL_nominate 15 = .ok (.astore 5, 2) := by decide +kernel
theorem dL_nominate_17 : decode cL_nominate 17 = .ok (.iconst 1, 1) := by decide +kernel
theorem dL_nominate_18 : decode cL_nominate 18 = .ok (.ireturn, 1) := by decide +kernel
theorem dL_nominate_19 : decode cL_nominate 19 = .ok (.astore 5, 2) := by decide +kernel
theorem dL_nominate_21 : decode cL_nominate 21 = .ok (.iconst 2, 1) := by decide +kernel
theorem dL_nominate_22 : decode cL_nominate 22 = .ok (.ireturn, 1) := by decide +kernel
theorem dL_nominate_23 : decode cL_nominate 23 = .ok (.iconst 0, 1) := by decide +kernel
theorem dL_nominate_24 : decode cL_nominate 24 = .ok (.ireturn, 1) := by decide +kernel
theorem dL_transfer_0 : decode cL_transfer 0 = .ok (.aload 4, 2) := by decide +kernel
theorem dL_transfer_2 : decode cL_transfer 2 = .ok (.iconst 0, 1) := by decide +kernel
theorem dL_transfer_3 : decode cL_transfer 3 = .ok (.aload_n 0, 1) := by decide +kernel
theorem dL_transfer_4 : decode cL_transfer 4 = .ok (.iload_n 1, 1) := by decide +kernel
theorem dL_transfer_5 : decode cL_transfer 5 = .ok (.iload_n 2, 1) := by decide +kernel
theorem dL_transfer_6 : decode cL_transfer 6 = .ok (.iload_n 3, 1) := by decide +kernel
theorem dL_transfer_7 : decode cL_transfer 7 = .ok (.invokevirtual 41, 3) := by decide +kernel
theorem dL_transfer_10 : decode cL_transfer 10 = .ok (.i2l, 1) := by decide +kernel
theorem dL_transfer_11 : decode cL_transfer 11 = .ok (.lastore, 1) := by decide +kernel
theorem dL_transfer_12 : decode cL_transfer 12 = .ok (.goto 15, 3) := by decide +kernel
theorem dL_transfer_15 : decode cL_transfer 15 = .ok (.astore 5, 2) := by decide +kernel
theorem dL_transfer_17 : decode cL_transfer 17 = .ok (.iconst 1, 1) := by decide +kernel
theorem dL_transfer_18 : decode cL_transfer 18 = .ok (.ireturn, 1) := by decide +kernel
theorem dL_transfer_19 : decode cL_transfer 19 = .ok (.astore 5, 2) := by decide +kernel
theorem dL_transfer_21 : decode cL_transfer 21 = .ok (.iconst 2, 1) := by decide +kernel
theorem dL_transfer_22 : decode cL_transfer 22 = .ok (.ireturn, 1) := by decide +kernel
theorem dL_transfer_23 : decode cL_transfer 23 = .ok (.astore 5, 2) := by decide +kernel
theorem dL_transfer_25 : decode cL_transfer 25 = .ok (.iconst 3, 1) := by decide +kernel
theorem dL_transfer_26 : decode cL_transfer 26 = .ok (.ireturn, 1) := by decide +kernel
theorem dL_transfer_27 : decode cL_transfer 27 = .ok (.iconst 0, 1) := by decide +kernel
theorem dL_transfer_28 : decode cL_transfer 28 = .ok (.ireturn, 1) := by decide +kernel
theorem dL_law_0 : decode cL_law 0 = .ok (.aload 4, 2) := by decide +kernel
theorem dL_law_2 : decode cL_law 2 = .ok (.iconst 0, 1) := by decide +kernel
theorem dL_law_3 : decode cL_law 3 = .ok (.aload_n 0, 1) := by decide +kernel
theorem dL_law_4 : decode cL_law 4 = .ok (.iload_n 1, 1) := by decide +kernel
theorem dL_law_5 : decode cL_law 5 = .ok (.iload_n 2, 1) := by decide +kernel
theorem dL_law_6 : decode cL_law 6 = .ok (.iload_n 3, 1) := by decide +kernel
theorem dL_law_7 : decode cL_law 7 = .ok (.invokevirtual 44, 3) := by decide +kernel
theorem dL_law_10 : decode cL_law 10 = .ok (.i2l, 1) := by decide +kernel
theorem dL_law_11 : decode cL_law 11 = .ok (.lastore, 1) := by decide +kernel
theorem dL_law_12 : decode cL_law 12 = .ok (.goto 11, 3) := by decide +kernel
theorem dL_law_15 : decode cL_law 15 = .ok (.astore 5, 2) := by decide +kernel
theorem dL_law_17 : decode cL_law 17 = .ok (.iconst 1, 1) := by decide +kernel
theorem dL_law_18 : decode cL_law 18 = .ok (.ireturn, 1) := by decide +kernel
theorem dL_law_19 : decode cL_law 19 = .ok (.astore 5, 2) := by decide +kernel
theorem dL_law_21 : decode cL_law 21 = .ok (.iconst 2, 1) := by decide +kernel
theorem dL_law_22 : decode cL_law 22 = .ok (.ireturn, 1) := by decide +kernel
theorem dL_law_23 : decode cL_law 23 = .ok (.iconst 0, 1) := by decide +kernel
theorem dL_law_24 : decode cL_law 24 = .ok (.ireturn, 1) := by decide +kernel
theorem dL_price_0 : decode cL_price 0 = .ok (.aload_n 3, 1) := by decide +kernel
theorem dL_price_1 : decode cL_price 1 = .ok (.iconst 0, 1) := by decide +kernel
theorem dL_price_2 : decode cL_price 2 = .ok (.aload_n 0, 1) := by decide +kernel
theorem dL_price_3 : decode cL_price 3 = .ok (.iload_n 1, 1) := by decide +kernel
theorem dL_price_4 : decode cL_price 4 = .ok (.iload_n 2, 1) := by decide +kernel
theorem dL_price_5 : decode cL_price 5 = .ok (.invokevirtual 47, 3) := by decide +kernel
theorem dL_price_8 : decode cL_price 8 = .ok (.i2l, 1) := by decide +kernel
theorem dL_price_9 : decode cL_price 9 = .ok (.lastore, 1) := by decide +kernel
theorem dL_price_10 : decode cL_price 10 = .ok (.goto 7, 3) := by decide +kernel
theorem dL_price_13 : decode cL_price 13 = .ok (.astore 4, 2) := by decide +kernel
theorem dL_price_15 : decode cL_price 15 = .ok (.iconst 1, 1) := by decide +kernel
theorem dL_price_16 : decode cL_price 16 = .ok (.ireturn, 1) := by decide +kernel
theorem dL_price_17 : decode cL_price 17 = .ok (.iconst 0, 1) := by decide +kernel
theorem dL_price_18 : decode cL_price 18 = .ok (.ireturn, 1) := by decide +kernel
theorem dL_pass_0 : decode cL_pass 0 = .ok (.aload_n 2, 1) := by decide +kernel
theorem dL_pass_1 : decode cL_pass 1 = .ok (.iconst 0, 1) := by decide +kernel
theorem dL_pass_2 : decode cL_pass 2 = .ok (.aload_n 0, 1) := by decide +kernel
theorem dL_pass_3 : decode cL_pass 3 = .ok (.iload_n 1, 1) := by decide +kernel
theorem dL_pass_4 : decode cL_pass 4 = .ok (.invokevirtual 50, 3) := by decide +kernel
theorem dL_pass_7 : decode cL_pass 7 = .ok (.i2l, 1) := by decide +kernel
theorem dL_pass_8 : decode cL_pass 8 = .ok (.lastore, 1) := by decide +kernel
theorem dL_pass_9 : decode cL_pass 9 = .ok (.goto 9, 3) := by decide +kernel
theorem dL_pass_12 : decode cL_pass 12 = .ok (.astore_n 3, 1) := by decide +kernel
theorem dL_pass_13 : decode cL_pass 13 = .ok (.iconst 1, 1) := by decide +kernel
theorem dL_pass_14 : decode cL_pass 14 = .ok (.ireturn, 1) := by decide +kernel
theorem dL_pass_15 : decode cL_pass 15 = .ok (.astore_n 3, 1) := by decide +kernel
theorem dL_pass_16 : decode cL_pass 16 = .ok (.iconst 2, 1) := by decide +kernel
theorem dL_pass_17 : decode cL_pass 17 = .ok (.ireturn, 1) := by decide +kernel
theorem dL_pass_18 : decode cL_pass 18 = .ok (.iconst 0, 1) := by decide +kernel
theorem dL_pass_19 : decode cL_pass 19 = .ok (.ireturn, 1) := by decide +kernel
theorem dL_pressure_0 : decode cL_pressure 0 = .ok (.aload_n 2, 1) := by decide +kernel
theorem dL_pressure_1 : decode cL_pressure 1 = .ok (.iconst 0, 1) := by decide +kernel
theorem dL_pressure_2 : decode cL_pressure 2 = .ok (.aload_n 0, 1) := by decide +kernel
theorem dL_pressure_3 : decode cL_pressure 3 = .ok (.iload_n 1, 1) := by decide +kernel
theorem dL_pressure_4 : decode cL_pressure 4 = .ok (.invokevirtual 53, 3) := by decide +kernel
theorem dL_pressure_7 : decode cL_pressure 7 = .ok (.i2l, 1) := by decide +kernel
theorem dL_pressure_8 : decode cL_pressure 8 = .ok (.lastore, 1) := by decide +kernel
theorem dL_pressure_9 : decode cL_pressure 9 = .ok (.goto 6, 3) := by decide +kernel
theorem dL_pressure_12 : decode cL_pressure 12 = .ok (.astore_n 3, 1) := by decide +kernel
theorem dL_pressure_13 : decode cL_pressure 13 = .ok (.iconst 1, 1) := by decide +kernel
theorem dL_pressure_14 : decode cL_pressure 14 = .ok (.ireturn, 1) := by decide +kernel
theorem dL_pressure_15 : decode cL_pressure 15 = .ok (.iconst 0, 1) := by decide +kernel
theorem dL_pressure_16 : decode cL_pressure 16 = .ok (.ireturn, 1) := by decide +kernel
theorem dL_rate_0 : decode cL_rate 0 = .ok (.aload_n 3, 1) := by decide +kernel
theorem dL_rate_1 : decode cL_rate 1 = .ok (.iconst 0, 1) := by decide +kernel
theorem dL_rate_2 : decode cL_rate 2 = .ok (.aload_n 0, 1) := by decide +kernel
theorem dL_rate_3 : decode cL_rate 3 = .ok (.iload_n 1, 1) := by decide +kernel
theorem dL_rate_4 : decode cL_rate 4 = .ok (.iload_n 2, 1) := by decide +kernel
theorem dL_rate_5 : decode cL_rate 5 = .ok (.invokevirtual 56, 3) := by decide +kernel
theorem dL_rate_8 : decode cL_rate 8 = .ok (.i2l, 1) := by decide +kernel
theorem dL_rate_9 : decode cL_rate 9 = .ok (.lastore, 1) := by decide +kernel
theorem dL_rate_10 : decode cL_rate 10 = .ok (.goto 7, 3) := by decide +kernel
theorem dL_rate_13 : decode cL_rate 13 = .ok (.astore 4, 2) := by decide +kernel
theorem dL_rate_15 : decode cL_rate 15 = .ok (.iconst 1, 1) := by decide +kernel
theorem dL_rate_16 : decode cL_rate 16 = .ok (.ireturn, 1) := by decide +kernel
theorem dL_rate_17 : decode cL_rate 17 = .ok (.iconst 0, 1) := by decide +kernel
theorem dL_rate_18 : decode cL_rate 18 = .ok (.ireturn, 1) := by decide +kernel
theorem dL_mix_0 : decode cL_mix 0 = .ok (.aload_n 2, 1) := by decide +kernel
theorem dL_mix_1 : decode cL_mix 1 = .ok (.iconst 0, 1) := by decide +kernel
theorem dL_mix_2 : decode cL_mix 2 = .ok (.aload_n 0, 1) := by decide +kernel
theorem dL_mix_3 : decode cL_mix 3 = .ok (.iload_n 1, 1) := by decide +kernel
theorem dL_mix_4 : decode cL_mix 4 = .ok (.invokevirtual 60, 3) := by decide +kernel
theorem dL_mix_7 : decode cL_mix 7 = .ok (.i2l, 1) := by decide +kernel
theorem dL_mix_8 : decode cL_mix 8 = .ok (.lastore, 1) := by decide +kernel
theorem dL_mix_9 : decode cL_mix 9 = .ok (.goto 6, 3) := by decide +kernel
theorem dL_mix_12 : decode cL_mix 12 = .ok (.astore_n 3, 1) := by decide +kernel
theorem dL_mix_13 : decode cL_mix 13 = .ok (.iconst 1, 1) := by decide +kernel
theorem dL_mix_14 : decode cL_mix 14 = .ok (.ireturn, 1) := by decide +kernel
theorem dL_mix_15 : decode cL_mix 15 = .ok (.iconst 0, 1) := by decide +kernel
theorem dL_mix_16 : decode cL_mix 16 = .ok (.ireturn, 1) := by decide +kernel
theorem dL_ofStore_0 : decode cL_ofStore 0 = .ok (.aload_n 3, 1) := by decide +kernel
theorem dL_ofStore_1 : decode cL_ofStore 1 = .ok (.iconst 0, 1) := by decide +kernel
theorem dL_ofStore_2 : decode cL_ofStore 2 = .ok (.aload_n 0, 1) := by decide +kernel
theorem dL_ofStore_3 : decode cL_ofStore 3 = .ok (.iload_n 1, 1) := by decide +kernel
theorem dL_ofStore_4 : decode cL_ofStore 4 = .ok (.iload_n 2, 1) := by decide +kernel
theorem dL_ofStore_5 : decode cL_ofStore 5 = .ok (.invokevirtual 63, 3) := by decide +kernel
theorem dL_ofStore_8 : decode cL_ofStore 8 = .ok (.lastore, 1) := by decide +kernel
theorem dL_ofStore_9 : decode cL_ofStore 9 = .ok (.goto 11, 3) := by decide +kernel
theorem dL_ofStore_12 : decode cL_ofStore 12 = .ok (.astore 4, 2) := by decide +kernel
theorem dL_ofStore_14 : decode cL_ofStore 14 = .ok (.iconst 1, 1) := by decide +kernel
theorem dL_ofStore_15 : decode cL_ofStore 15 = .ok (.ireturn, 1) := by decide +kernel
theorem dL_ofStore_16 : decode cL_ofStore 16 = .ok (.astore 4, 2) := by decide +kernel
theorem dL_ofStore_18 : decode cL_ofStore 18 = .ok (.iconst 2, 1) := by decide +kernel
theorem dL_ofStore_19 : decode cL_ofStore 19 = .ok (.ireturn, 1) := by decide +kernel
theorem dL_ofStore_20 : decode cL_ofStore 20 = .ok (.iconst 0, 1) := by decide +kernel
theorem dL_ofStore_21 : decode cL_ofStore 21 = .ok (.ireturn, 1) := by decide +kernel
theorem dL_ofCustomer_0 : decode cL_ofCustomer 0 = .ok (.aload_n 3, 1) := by decide +kernel
theorem dL_ofCustomer_1 : decode cL_ofCustomer 1 = .ok (.iconst 0, 1) := by decide +kernel
theorem dL_ofCustomer_2 : decode cL_ofCustomer 2 = .ok (.aload_n 0, 1) := by decide +kernel
theorem dL_ofCustomer_3 : decode cL_ofCustomer 3 = .ok (.iload_n 1, 1) := by decide +kernel
theorem dL_ofCustomer_4 : decode cL_ofCustomer 4 = .ok (.iload_n 2, 1) := by decide +kernel
theorem dL_ofCustomer_5 : decode cL_ofCustomer 5 = .ok (.invokevirtual 67, 3) := by decide +kernel
theorem dL_ofCustomer_8 : decode cL_ofCustomer 8 = .ok (.lastore, 1) := by decide +kernel
theorem dL_ofCustomer_9 : decode cL_ofCustomer 9 = .ok (.goto 11, 3) := by decide +kernel
theorem dL_ofCustomer_12 : decode cL_ofCustomer 12 = .ok (.astore 4, 2) := by decide +kernel
theorem dL_ofCustomer_14 : decode cL_ofCustomer 14 = .ok (.iconst 1, 1) := by decide +kernel
theorem dL_ofCustomer_15 : decode cL_ofCustomer 15 = .ok (.ireturn, 1) := by decide +kernel
theorem dL_ofCustomer_16 : decode cL_ofCustomer 16 = .ok (.astore 4, 2) := by decide +kernel
theorem dL_ofCustomer_18 : decode cL_ofCustomer 18 = .ok (.iconst 2, 1) := by decide +kernel
theorem dL_ofCustomer_19 : decode cL_ofCustomer 19 = .ok (.ireturn, 1) := by decide +kernel
theorem dL_ofCustomer_20 : decode cL_ofCustomer 20 = .ok (.iconst 0, 1) := by decide +kernel
theorem dL_ofCustomer_21 : decode cL_ofCustomer 21 = .ok (.ireturn, 1) := by decide +kernel
theorem dL_flow_0 : decode cL_flow 0 = .ok (.aload_n 2, 1) := by decide +kernel
theorem dL_flow_1 : decode cL_flow 1 = .ok (.iconst 0, 1) := by decide +kernel
theorem dL_flow_2 : decode cL_flow 2 = .ok (.aload_n 0, 1) := by decide +kernel
theorem dL_flow_3 : decode cL_flow 3 = .ok (.iload_n 1, 1) := by decide +kernel
theorem dL_flow_4 : decode cL_flow 4 = .ok (.invokevirtual 70, 3) := by decide +kernel
theorem dL_flow_7 : decode cL_flow 7 = .ok (.i2l, 1) := by decide +kernel
theorem dL_flow_8 : decode cL_flow 8 = .ok (.lastore, 1) := by decide +kernel
theorem dL_flow_9 : decode cL_flow 9 = .ok (.goto 6, 3) := by decide +kernel
theorem dL_flow_12 : decode cL_flow 12 = .ok (.astore_n 3, 1) := by decide +kernel
theorem dL_flow_13 : decode cL_flow 13 = .ok (.iconst 1, 1) := by decide +kernel
theorem dL_flow_14 : decode cL_flow 14 = .ok (.ireturn, 1) := by decide +kernel
theorem dL_flow_15 : decode cL_flow 15 = .ok (.iconst 0, 1) := by decide +kernel
theorem dL_flow_16 : decode cL_flow 16 = .ok (.ireturn, 1) := by decide +kernel
theorem dL_why_0 : decode cL_why 0 = .ok (.aload_n 2, 1) := by decide +kernel
theorem dL_why_1 : decode cL_why 1 = .ok (.iconst 0, 1) := by decide +kernel
theorem dL_why_2 : decode cL_why 2 = .ok (.aload_n 0, 1) := by decide +kernel
theorem dL_why_3 : decode cL_why 3 = .ok (.iload_n 1, 1) := by decide +kernel
theorem dL_why_4 : decode cL_why 4 = .ok (.invokevirtual 73, 3) := by decide +kernel
theorem dL_why_7 : decode cL_why 7 = .ok (.i2l, 1) := by decide +kernel
theorem dL_why_8 : decode cL_why 8 = .ok (.lastore, 1) := by decide +kernel
theorem dL_why_9 : decode cL_why 9 = .ok (.goto 6, 3) := by decide +kernel
theorem dL_why_12 : decode cL_why 12 = .ok (.astore_n 3, 1) := by decide +kernel
theorem dL_why_13 : decode cL_why 13 = .ok (.iconst 1, 1) := by decide +kernel
theorem dL_why_14 : decode cL_why 14 = .ok (.ireturn, 1) := by decide +kernel
theorem dL_why_15 : decode cL_why 15 = .ok (.iconst 0, 1) := by decide +kernel
theorem dL_why_16 : decode cL_why 16 = .ok (.ireturn, 1) := by decide +kernel
theorem dL_worth_0 : decode cL_worth 0 = .ok (.aload_n 3, 1) := by decide +kernel
theorem dL_worth_1 : decode cL_worth 1 = .ok (.iconst 0, 1) := by decide +kernel
theorem dL_worth_2 : decode cL_worth 2 = .ok (.aload_n 0, 1) := by decide +kernel
theorem dL_worth_3 : decode cL_worth 3 = .ok (.iload_n 1, 1) := by decide +kernel
theorem dL_worth_4 : decode cL_worth 4 = .ok (.iload_n 2, 1) := by decide +kernel
theorem dL_worth_5 : decode cL_worth 5 = .ok (.invokevirtual 76, 3) := by decide +kernel
theorem dL_worth_8 : decode cL_worth 8 = .ok (.lastore, 1) := by decide +kernel
theorem dL_worth_9 : decode cL_worth 9 = .ok (.goto 11, 3) := by decide +kernel
theorem dL_worth_12 : decode cL_worth 12 = .ok (.astore 4, 2) := by decide +kernel
theorem dL_worth_14 : decode cL_worth 14 = .ok (.iconst 1, 1) := by decide +kernel
theorem dL_worth_15 : decode cL_worth 15 = .ok (.ireturn, 1) := by decide +kernel
theorem dL_worth_16 : decode cL_worth 16 = .ok (.astore 4, 2) := by decide +kernel
theorem dL_worth_18 : decode cL_worth 18 = .ok (.iconst 2, 1) := by decide +kernel
theorem dL_worth_19 : decode cL_worth 19 = .ok (.ireturn, 1) := by decide +kernel
theorem dL_worth_20 : decode cL_worth 20 = .ok (.iconst 0, 1) := by decide +kernel
theorem dL_worth_21 : decode cL_worth 21 = .ok (.ireturn, 1) := by decide +kernel
theorem dL_worthAnew_0 : decode cL_worthAnew 0 = .ok (.aload_n 3, 1) := by decide +kernel
theorem dL_worthAnew_1 : decode cL_worthAnew 1 = .ok (.iconst 0, 1) := by decide +kernel
theorem dL_worthAnew_2 : decode cL_worthAnew 2 = .ok (.aload_n 0, 1) := by decide +kernel
theorem dL_worthAnew_3 : decode cL_worthAnew 3 = .ok (.iload_n 1, 1) := by decide +kernel
theorem dL_worthAnew_4 : decode cL_worthAnew 4 = .ok (.iload_n 2, 1) := by decide +kernel
theorem dL_worthAnew_5 : decode cL_worthAnew 5 = .ok (.invokevirtual 79, 3) := by decide +kernel
theorem dL_worthAnew_8 : decode cL_worthAnew 8 = .ok (.lastore, 1) := by decide +kernel
theorem dL_worthAnew_9 : decode cL_worthAnew 9 = .ok (.goto 11, 3) := by decide +kernel
theorem dL_worthAnew_12 : decode cL_worthAnew 12 = .ok (.astore 4, 2) := by decide +kernel
theorem dL_worthAnew_14 : decode cL_worthAnew 14 = .ok (.iconst 1, 1) := by decide +kernel
theorem dL_worthAnew_15 : decode cL_worthAnew 15 = .ok (.ireturn, 1) := by decide +kernel
theorem dL_worthAnew_16 : decode cL_worthAnew 16 = .ok (.astore 4, 2) := by decide +kernel
theorem dL_worthAnew_18 : decode cL_worthAnew 18 = .ok (.iconst 2, 1) := by decide +kernel
theorem dL_worthAnew_19 : decode cL_worthAnew 19 = .ok (.ireturn, 1) := by decide +kernel
theorem dL_worthAnew_20 : decode cL_worthAnew 20 = .ok (.iconst 0, 1) := by decide +kernel
theorem dL_worthAnew_21 : decode cL_worthAnew 21 = .ok (.ireturn, 1) := by decide +kernel
theorem dL_of_0 : decode cL_of 0 = .ok (.aload_n 2, 1) := by decide +kernel
theorem dL_of_1 : decode cL_of 1 = .ok (.iconst 0, 1) := by decide +kernel
theorem dL_of_2 : decode cL_of 2 = .ok (.aload_n 0, 1) := by decide +kernel
theorem dL_of_3 : decode cL_of 3 = .ok (.iload_n 1, 1) := by decide +kernel
theorem dL_of_4 : decode cL_of 4 = .ok (.invokevirtual 82, 3) := by decide +kernel
theorem dL_of_7 : decode cL_of 7 = .ok (.lastore, 1) := by decide +kernel
theorem dL_of_8 : decode cL_of 8 = .ok (.goto 6, 3) := by decide +kernel
theorem dL_of_11 : decode cL_of 11 = .ok (.astore_n 3, 1) := by decide +kernel
theorem dL_of_12 : decode cL_of 12 = .ok (.iconst 1, 1) := by decide +kernel
theorem dL_of_13 : decode cL_of 13 = .ok (.ireturn, 1) := by decide +kernel
theorem dL_of_14 : decode cL_of 14 = .ok (.iconst 0, 1) := by decide +kernel
theorem dL_of_15 : decode cL_of 15 = .ok (.ireturn, 1) := by decide +kernel
theorem dL_law__0 : decode cL_law_ 0 = .ok (.new 8, 3) := by decide +kernel
theorem dL_law__3 : decode cL_law_ 3 = .ok (.dup, 1) := by decide +kernel
theorem dL_law__4 : decode cL_law_ 4 = .ok (.invokespecial 86, 3) := by decide +kernel
theorem dL_law__7 : decode cL_law_ 7 = .ok (.astore_n 1, 1) := by decide +kernel
theorem dL_law__8 : decode cL_law_ 8 = .ok (.new 87, 3) := by decide +kernel
theorem dL_law__11 : decode cL_law_ 11 = .ok (.dup, 1) := by decide +kernel
theorem dL_law__12 : decode cL_law_ 12 = .ok (.invokespecial 89, 3) := by decide +kernel
theorem dL_law__15 : decode cL_law_ 15 = .ok (.astore_n 2, 1) := by decide +kernel
theorem dL_law__16 : decode cL_law_ 16 = .ok (.iconst 1, 1) := by decide +kernel
theorem dL_law__17 : decode cL_law_ 17 = .ok (.newarray .long, 2) := by decide +kernel
theorem dL_law__19 : decode cL_law_ 19 = .ok (.astore_n 3, 1) := by decide +kernel
theorem dL_law__20 : decode cL_law_ 20 = .ok (.iconst 0, 1) := by decide +kernel
theorem dL_law__21 : decode cL_law_ 21 = .ok (.istore 4, 2) := by decide +kernel
theorem dL_law__23 : decode cL_law_ 23 = .ok (.iload 4, 2) := by decide +kernel
theorem dL_law__25 : decode cL_law_ 25 = .ok (.aload_n 0, 1) := by decide +kernel
theorem dL_law__26 : decode cL_law_ 26 = .ok (.arraylength, 1) := by decide +kernel
theorem dL_law__27 : decode cL_law_ 27 = .ok (.bipush 7, 2) := by decide +kernel
theorem dL_law__29 : decode cL_law_ 29 = .ok (.isub, 1) := by decide +kernel
theorem dL_law__30 : decode cL_law_ 30 = .ok (.if_icmp .gt 1593, 3) := by decide +kernel
theorem dL_law__33 : decode cL_law_ 33 = .ok (.aload_n 0, 1) := by decide +kernel
theorem dL_law__34 : decode cL_law_ 34 = .ok (.iload 4, 2) := by decide +kernel
theorem dL_law__36 : decode cL_law_ 36 = .ok (.iaload, 1) := by decide +kernel
theorem dL_law__37 : decode cL_law_ 37 = .ok (.bipush 31, 2) := by decide +kernel
theorem dL_law__39 : decode cL_law_ 39 = .ok (.iand, 1) := by decide +kernel
theorem dL_law__40 : decode cL_law_ 40 = .ok (.tableswitch 1577 0 20 #[100, 218, 298, 366, 434, 490, 582, 662, 742, 822, 890, 946, 1002, 1086, 1142, 1209, 1276, 1332, 1388, 1455, 1522], 100) := by decide +kernel
theorem dL_law__140 : decode cL_law_ 140 = .ok (.aload_n 1, 1) := by decide +kernel
theorem dL_law__141 : decode cL_law_ 141 = .ok (.aload_n 0, 1) := by decide +kernel
theorem dL_law__142 : decode cL_law_ 142 = .ok (.iload 4, 2) := by decide +kernel
theorem dL_law__144 : decode cL_law_ 144 = .ok (.iconst 1, 1) := by decide +kernel
theorem dL_law__145 : decode cL_law_ 145 = .ok (.iadd, 1) := by decide +kernel
theorem dL_law__146 : decode cL_law_ 146 = .ok (.iaload, 1) := by decide +kernel
theorem dL_law__147 : decode cL_law_ 147 = .ok (.aload_n 0, 1) := by decide +kernel
theorem dL_law__148 : decode cL_law_ 148 = .ok (.iload 4, 2) := by decide +kernel
theorem dL_law__150 : decode cL_law_ 150 = .ok (.iconst 2, 1) := by decide +kernel
theorem dL_law__151 : decode cL_law_ 151 = .ok (.iadd, 1) := by decide +kernel
theorem dL_law__152 : decode cL_law_ 152 = .ok (.iaload, 1) := by decide +kernel
theorem dL_law__153 : decode cL_law_ 153 = .ok (.aload_n 0, 1) := by decide +kernel
theorem dL_law__154 : decode cL_law_ 154 = .ok (.iload 4, 2) := by decide +kernel
theorem dL_law__156 : decode cL_law_ 156 = .ok (.iconst 3, 1) := by decide +kernel
theorem dL_law__157 : decode cL_law_ 157 = .ok (.iadd, 1) := by decide +kernel
theorem dL_law__158 : decode cL_law_ 158 = .ok (.iaload, 1) := by decide +kernel
theorem dL_law__159 : decode cL_law_ 159 = .ok (.aload_n 0, 1) := by decide +kernel
theorem dL_law__160 : decode cL_law_ 160 = .ok (.iload 4, 2) := by decide +kernel
theorem dL_law__162 : decode cL_law_ 162 = .ok (.iconst 4, 1) := by decide +kernel
theorem dL_law__163 : decode cL_law_ 163 = .ok (.iadd, 1) := by decide +kernel
theorem dL_law__164 : decode cL_law_ 164 = .ok (.iaload, 1) := by decide +kernel
theorem dL_law__165 : decode cL_law_ 165 = .ok (.aload_n 0, 1) := by decide +kernel
theorem dL_law__166 : decode cL_law_ 166 = .ok (.iload 4, 2) := by decide +kernel
theorem dL_law__168 : decode cL_law_ 168 = .ok (.iconst 5, 1) := by decide +kernel
theorem dL_law__169 : decode cL_law_ 169 = .ok (.iadd, 1) := by decide +kernel
theorem dL_law__170 : decode cL_law_ 170 = .ok (.iaload, 1) := by decide +kernel
theorem dL_law__171 : decode cL_law_ 171 = .ok (.aload_n 0, 1) := by decide +kernel
theorem dL_law__172 : decode cL_law_ 172 = .ok (.iload 4, 2) := by decide +kernel
theorem dL_law__174 : decode cL_law_ 174 = .ok (.bipush 6, 2) := by decide +kernel
theorem dL_law__176 : decode cL_law_ 176 = .ok (.iadd, 1) := by decide +kernel
theorem dL_law__177 : decode cL_law_ 177 = .ok (.iaload, 1) := by decide +kernel
theorem dL_law__178 : decode cL_law_ 178 = .ok (.aload_n 3, 1) := by decide +kernel
theorem dL_law__179 : decode cL_law_ 179 = .ok (.invokestatic 90, 3) := by decide +kernel
theorem dL_law__182 : decode cL_law_ 182 = .ok (.istore 5, 2) := by decide +kernel
theorem dL_law__184 : decode cL_law_ 184 = .ok (.aload_n 2, 1) := by decide +kernel
theorem dL_law__185 : decode cL_law_ 185 = .ok (.aload_n 0, 1) := by decide +kernel
theorem dL_law__186 : decode cL_law_ 186 = .ok (.iload 4, 2) := by decide +kernel
theorem dL_law__188 : decode cL_law_ 188 = .ok (.iconst 1, 1) := by decide +kernel
theorem dL_law__189 : decode cL_law_ 189 = .ok (.iadd, 1) := by decide +kernel
theorem dL_law__190 : decode cL_law_ 190 = .ok (.iaload, 1) := by decide +kernel
theorem dL_law__191 : decode cL_law_ 191 = .ok (.aload_n 0, 1) := by decide +kernel
theorem dL_law__192 : decode cL_law_ 192 = .ok (.iload 4, 2) := by decide +kernel
theorem dL_law__194 : decode cL_law_ 194 = .ok (.iconst 2, 1) := by decide +kernel
theorem dL_law__195 : decode cL_law_ 195 = .ok (.iadd, 1) := by decide +kernel
theorem dL_law__196 : decode cL_law_ 196 = .ok (.iaload, 1) := by decide +kernel
theorem dL_law__197 : decode cL_law_ 197 = .ok (.aload_n 0, 1) := by decide +kernel
theorem dL_law__198 : decode cL_law_ 198 = .ok (.iload 4, 2) := by decide +kernel
theorem dL_law__200 : decode cL_law_ 200 = .ok (.iconst 3, 1) := by decide +kernel
theorem dL_law__201 : decode cL_law_ 201 = .ok (.iadd, 1) := by decide +kernel
theorem dL_law__202 : decode cL_law_ 202 = .ok (.iaload, 1) := by decide +kernel
theorem dL_law__203 : decode cL_law_ 203 = .ok (.aload_n 0, 1) := by decide +kernel
theorem dL_law__204 : decode cL_law_ 204 = .ok (.iload 4, 2) := by decide +kernel
theorem dL_law__206 : decode cL_law_ 206 = .ok (.iconst 4, 1) := by decide +kernel
theorem dL_law__207 : decode cL_law_ 207 = .ok (.iadd, 1) := by decide +kernel
theorem dL_law__208 : decode cL_law_ 208 = .ok (.iaload, 1) := by decide +kernel
theorem dL_law__209 : decode cL_law_ 209 = .ok (.aload_n 0, 1) := by decide +kernel
theorem dL_law__210 : decode cL_law_ 210 = .ok (.iload 4, 2) := by decide +kernel
theorem dL_law__212 : decode cL_law_ 212 = .ok (.iconst 5, 1) := by decide +kernel
theorem dL_law__213 : decode cL_law_ 213 = .ok (.iadd, 1) := by decide +kernel
theorem dL_law__214 : decode cL_law_ 214 = .ok (.iaload, 1) := by decide +kernel
theorem dL_law__215 : decode cL_law_ 215 = .ok (.aload_n 0, 1) := by decide +kernel
theorem dL_law__216 : decode cL_law_ 216 = .ok (.iload 4, 2) := by decide +kernel
theorem dL_law__218 : decode cL_law_ 218 = .ok (.bipush 6, 2) := by decide +kernel
theorem dL_law__220 : decode cL_law_ 220 = .ok (.iadd, 1) := by decide +kernel
theorem dL_law__221 : decode cL_law_ 221 = .ok (.iaload, 1) := by decide +kernel
theorem dL_law__222 : decode cL_law_ 222 = .ok (.invokevirtual 95, 3) := by decide +kernel
theorem dL_law__225 : decode cL_law_ 225 = .ok (.istore 6, 2) := by decide +kernel
theorem dL_law__227 : decode cL_law_ 227 = .ok (.aload_n 2, 1) := by decide +kernel
theorem dL_law__228 : decode cL_law_ 228 = .ok (.invokevirtual 96, 3) := by decide +kernel
theorem dL_law__231 : decode cL_law_ 231 = .ok (.iload 5, 2) := by decide +kernel
theorem dL_law__233 : decode cL_law_ 233 = .ok (.if_icmp .eq 5, 3) := by decide +kernel
theorem dL_law__236 : decode cL_law_ 236 = .ok (.iconst 0, 1) := by decide +kernel
theorem dL_law__237 : decode cL_law_ 237 = .ok (.ireturn, 1) := by decide +kernel
theorem dL_law__238 : decode cL_law_ 238 = .ok (.iload 5, 2) := by decide +kernel
theorem dL_law__240 : decode cL_law_ 240 = .ok (.ifCond .ne 15, 3) := by decide +kernel
theorem dL_law__243 : decode cL_law_ 243 = .ok (.aload_n 3, 1) := by decide +kernel
theorem dL_law__244 : decode cL_law_ 244 = .ok (.iconst 0, 1) := by decide +kernel
theorem dL_law__245 : decode cL_law_ 245 = .ok (.laload, 1) := by decide +kernel
theorem dL_law__246 : decode cL_law_ 246 = .ok (.iload 6, 2) := by decide +kernel
theorem dL_law__248 : decode cL_law_ 248 = .ok (.i2l, 1) := by decide +kernel
theorem dL_law__249 : decode cL_law_ 249 = .ok (.lcmp, 1) := by decide +kernel
theorem dL_law__250 : decode cL_law_ 250 = .ok (.ifCond .eq 5, 3) := by decide +kernel
theorem dL_law__253 : decode cL_law_ 253 = .ok (.iconst 0, 1) := by decide +kernel
theorem dL_law__254 : decode cL_law_ 254 = .ok (.ireturn, 1) := by decide +kernel
theorem dL_law__255 : decode cL_law_ 255 = .ok (.goto 1362, 3) := by decide +kernel
theorem dL_law__258 : decode cL_law_ 258 = .ok (.aload_n 1, 1) := by decide +kernel
theorem dL_law__259 : decode cL_law_ 259 = .ok (.aload_n 0, 1) := by decide +kernel
theorem dL_law__260 : decode cL_law_ 260 = .ok (.iload 4, 2) := by decide +kernel
theorem dL_law__262 : decode cL_law_ 262 = .ok (.iconst 1, 1) := by decide +kernel
theorem dL_law__263 : decode cL_law_ 263 = .ok (.iadd, 1) := by decide +kernel
theorem dL_law__264 : decode cL_law_ 264 = .ok (.iaload, 1) := by decide +kernel
theorem dL_law__265 : decode cL_law_ 265 = .ok (.aload_n 0, 1) := by decide +kernel
theorem dL_law__266 : decode cL_law_ 266 = .ok (.iload 4, 2) := by decide +kernel
theorem dL_law__268 : decode cL_law_ 268 = .ok (.iconst 2, 1) := by decide +kernel
theorem dL_law__269 : decode cL_law_ 269 = .ok (.iadd, 1) := by decide +kernel
theorem dL_law__270 : decode cL_law_ 270 = .ok (.iaload, 1) := by decide +kernel
theorem dL_law__271 : decode cL_law_ 271 = .ok (.aload_n 0, 1) := by decide +kernel
theorem dL_law__272 : decode cL_law_ 272 = .ok (.iload 4, 2) := by decide +kernel
theorem dL_law__274 : decode cL_law_ 274 = .ok (.iconst 3, 1) := by decide +kernel
theorem dL_law__275 : decode cL_law_ 275 = .ok (.iadd, 1) := by decide +kernel
theorem dL_law__276 : decode cL_law_ 276 = .ok (.iaload, 1) := by decide +kernel
theorem dL_law__277 : decode cL_law_ 277 = .ok (.aload_n 3, 1) := by decide +kernel
theorem dL_law__278 : decode cL_law_ 278 = .ok (.invokestatic 100, 3) := by decide +kernel
theorem dL_law__281 : decode cL_law_ 281 = .ok (.istore 5, 2) := by decide +kernel
theorem dL_law__283 : decode cL_law_ 283 = .ok (.aload_n 2, 1) := by decide +kernel
theorem dL_law__284 : decode cL_law_ 284 = .ok (.aload_n 0, 1) := by decide +kernel
theorem dL_law__285 : decode cL_law_ 285 = .ok (.iload 4, 2) := by decide +kernel
theorem dL_law__287 : decode cL_law_ 287 = .ok (.iconst 1, 1) := by decide +kernel
theorem dL_law__288 : decode cL_law_ 288 = .ok (.iadd, 1) := by decide +kernel
theorem dL_law__289 : decode cL_law_ 289 = .ok (.iaload, 1) := by decide +kernel
theorem dL_law__290 : decode cL_law_ 290 = .ok (.aload_n 0, 1) := by decide +kernel
theorem dL_law__291 : decode cL_law_ 291 = .ok (.iload 4, 2) := by decide +kernel
theorem dL_law__293 : decode cL_law_ 293 = .ok (.iconst 2, 1) := by decide +kernel
theorem dL_law__294 : decode cL_law_ 294 = .ok (.iadd, 1) := by decide +kernel
theorem dL_law__295 : decode cL_law_ 295 = .ok (.iaload, 1) := by decide +kernel
theorem dL_law__296 : decode cL_law_ 296 = .ok (.aload_n 0, 1) := by decide +kernel
theorem dL_law__297 : decode cL_law_ 297 = .ok (.iload 4, 2) := by decide +kernel
theorem dL_law__299 : decode cL_law_ 299 = .ok (.iconst 3, 1) := by decide +kernel
theorem dL_law__300 : decode cL_law_ 300 = .ok (.iadd, 1) := by decide +kernel
theorem dL_law__301 : decode cL_law_ 301 = .ok (.iaload, 1) := by decide +kernel
theorem dL_law__302 : decode cL_law_ 302 = .ok (.invokevirtual 103, 3) := by decide +kernel
theorem dL_law__305 : decode cL_law_ 305 = .ok (.istore 6, 2) := by decide +kernel
theorem dL_law__307 : decode cL_law_ 307 = .ok (.aload_n 2, 1) := by decide +kernel
theorem dL_law__308 : decode cL_law_ 308 = .ok (.invokevirtual 96, 3) := by decide +kernel
theorem dL_law__311 : decode cL_law_ 311 = .ok (.iload 5, 2) := by decide +kernel
theorem dL_law__313 : decode cL_law_ 313 = .ok (.if_icmp .eq 5, 3) := by decide +kernel
theorem dL_law__316 : decode cL_law_ 316 = .ok (.iconst 0, 1) := by decide +kernel
theorem dL_law__317 : decode cL_law_ 317 = .ok (.ireturn, 1) := by decide +kernel
theorem dL_law__318 : decode cL_law_ 318 = .ok (.iload 5, 2) := by decide +kernel
theorem dL_law__320 : decode cL_law_ 320 = .ok (.ifCond .ne 15, 3) := by decide +kernel
theorem dL_law__323 : decode cL_law_ 323 = .ok (.aload_n 3, 1) := by decide +kernel
theorem dL_law__324 : decode cL_law_ 324 = .ok (.iconst 0, 1) := by decide +kernel
theorem dL_law__325 : decode cL_law_ 325 = .ok (.laload, 1) := by decide +kernel
theorem dL_law__326 : decode cL_law_ 326 = .ok (.iload 6, 2) := by decide +kernel
theorem dL_law__328 : decode cL_law_ 328 = .ok (.i2l, 1) := by decide +kernel
theorem dL_law__329 : decode cL_law_ 329 = .ok (.lcmp, 1) := by decide +kernel
theorem dL_law__330 : decode cL_law_ 330 = .ok (.ifCond .eq 5, 3) := by decide +kernel
theorem dL_law__333 : decode cL_law_ 333 = .ok (.iconst 0, 1) := by decide +kernel
theorem dL_law__334 : decode cL_law_ 334 = .ok (.ireturn, 1) := by decide +kernel
theorem dL_law__335 : decode cL_law_ 335 = .ok (.goto 1282, 3) := by decide +kernel
theorem dL_law__338 : decode cL_law_ 338 = .ok (.aload_n 1, 1) := by decide +kernel
theorem dL_law__339 : decode cL_law_ 339 = .ok (.aload_n 0, 1) := by decide +kernel
theorem dL_law__340 : decode cL_law_ 340 = .ok (.iload 4, 2) := by decide +kernel
theorem dL_law__342 : decode cL_law_ 342 = .ok (.iconst 1, 1) := by decide +kernel
theorem dL_law__343 : decode cL_law_ 343 = .ok (.iadd, 1) := by decide +kernel
theorem dL_law__344 : decode cL_law_ 344 = .ok (.iaload, 1) := by decide +kernel
theorem dL_law__345 : decode cL_law_ 345 = .ok (.aload_n 0, 1) := by decide +kernel
theorem dL_law__346 : decode cL_law_ 346 = .ok (.iload 4, 2) := by decide +kernel
theorem dL_law__348 : decode cL_law_ 348 = .ok (.iconst 2, 1) := by decide +kernel
theorem dL_law__349 : decode cL_law_ 349 = .ok (.iadd, 1) := by decide +kernel
theorem dL_law__350 : decode cL_law_ 350 = .ok (.iaload, 1) := by decide +kernel
theorem dL_law__351 : decode cL_law_ 351 = .ok (.aload_n 3, 1) := by decide +kernel
theorem dL_law__352 : decode cL_law_ 352 = .ok (.invokestatic 104, 3) := by decide +kernel
theorem dL_law__355 : decode cL_law_ 355 = .ok (.istore 5, 2) := by decide +kernel
theorem dL_law__357 : decode cL_law_ 357 = .ok (.aload_n 2, 1) := by decide +kernel
theorem dL_law__358 : decode cL_law_ 358 = .ok (.aload_n 0, 1) := by decide +kernel
theorem dL_law__359 : decode cL_law_ 359 = .ok (.iload 4, 2) := by decide +kernel
theorem dL_law__361 : decode cL_law_ 361 = .ok (.iconst 1, 1) := by decide +kernel
theorem dL_law__362 : decode cL_law_ 362 = .ok (.iadd, 1) := by decide +kernel
theorem dL_law__363 : decode cL_law_ 363 = .ok (.iaload, 1) := by decide +kernel
theorem dL_law__364 : decode cL_law_ 364 = .ok (.aload_n 0, 1) := by decide +kernel
theorem dL_law__365 : decode cL_law_ 365 = .ok (.iload 4, 2) := by decide +kernel
theorem dL_law__367 : decode cL_law_ 367 = .ok (.iconst 2, 1) := by decide +kernel
theorem dL_law__368 : decode cL_law_ 368 = .ok (.iadd, 1) := by decide +kernel
theorem dL_law__369 : decode cL_law_ 369 = .ok (.iaload, 1) := by decide +kernel
theorem dL_law__370 : decode cL_law_ 370 = .ok (.invokevirtual 107, 3) := by decide +kernel
theorem dL_law__373 : decode cL_law_ 373 = .ok (.istore 6, 2) := by decide +kernel
theorem dL_law__375 : decode cL_law_ 375 = .ok (.aload_n 2, 1) := by decide +kernel
theorem dL_law__376 : decode cL_law_ 376 = .ok (.invokevirtual 96, 3) := by decide +kernel
theorem dL_law__379 : decode cL_law_ 379 = .ok (.iload 5, 2) := by decide +kernel
theorem dL_law__381 : decode cL_law_ 381 = .ok (.if_icmp .eq 5, 3) := by decide +kernel
theorem dL_law__384 : decode cL_law_ 384 = .ok (.iconst 0, 1) := by decide +kernel
theorem dL_law__385 : decode cL_law_ 385 = .ok (.ireturn, 1) := by decide +kernel
theorem dL_law__386 : decode cL_law_ 386 = .ok (.iload 5, 2) := by decide +kernel
theorem dL_law__388 : decode cL_law_ 388 = .ok (.ifCond .ne 15, 3) := by decide +kernel
theorem dL_law__391 : decode cL_law_ 391 = .ok (.aload_n 3, 1) := by decide +kernel
theorem dL_law__392 : decode cL_law_ 392 = .ok (.iconst 0, 1) := by decide +kernel
theorem dL_law__393 : decode cL_law_ 393 = .ok (.laload, 1) := by decide +kernel
theorem dL_law__394 : decode cL_law_ 394 = .ok (.iload 6, 2) := by decide +kernel
theorem dL_law__396 : decode cL_law_ 396 = .ok (.i2l, 1) := by decide +kernel
theorem dL_law__397 : decode cL_law_ 397 = .ok (.lcmp, 1) := by decide +kernel
theorem dL_law__398 : decode cL_law_ 398 = .ok (.ifCond .eq 5, 3) := by decide +kernel
theorem dL_law__401 : decode cL_law_ 401 = .ok (.iconst 0, 1) := by decide +kernel
theorem dL_law__402 : decode cL_law_ 402 = .ok (.ireturn, 1) := by decide +kernel
theorem dL_law__403 : decode cL_law_ 403 = .ok (.goto 1214, 3) := by decide +kernel
theorem dL_law__406 : decode cL_law_ 406 = .ok (.aload_n 1, 1) := by decide +kernel
theorem dL_law__407 : decode cL_law_ 407 = .ok (.aload_n 0, 1) := by decide +kernel
theorem dL_law__408 : decode cL_law_ 408 = .ok (.iload 4, 2) := by decide +kernel
theorem dL_law__410 : decode cL_law_ 410 = .ok (.iconst 1, 1) := by decide +kernel
theorem dL_law__411 : decode cL_law_ 411 = .ok (.iadd, 1) := by decide +kernel
theorem dL_law__412 : decode cL_law_ 412 = .ok (.iaload, 1) := by decide +kernel
theorem dL_law__413 : decode cL_law_ 413 = .ok (.aload_n 0, 1) := by decide +kernel
theorem dL_law__414 : decode cL_law_ 414 = .ok (.iload 4, 2) := by decide +kernel
theorem dL_law__416 : decode cL_law_ 416 = .ok (.iconst 2, 1) := by decide +kernel
theorem dL_law__417 : decode cL_law_ 417 = .ok (.iadd, 1) := by decide +kernel
theorem dL_law__418 : decode cL_law_ 418 = .ok (.iaload, 1) := by decide +kernel
theorem dL_law__419 : decode cL_law_ 419 = .ok (.aload_n 3, 1) := by decide +kernel
theorem dL_law__420 : decode cL_law_ 420 = .ok (.invokestatic 108, 3) := by decide +kernel
theorem dL_law__423 : decode cL_law_ 423 = .ok (.istore 5, 2) := by decide +kernel
theorem dL_law__425 : decode cL_law_ 425 = .ok (.aload_n 2, 1) := by decide +kernel
theorem dL_law__426 : decode cL_law_ 426 = .ok (.aload_n 0, 1) := by decide +kernel
theorem dL_law__427 : decode cL_law_ 427 = .ok (.iload 4, 2) := by decide +kernel
theorem dL_law__429 : decode cL_law_ 429 = .ok (.iconst 1, 1) := by decide +kernel
theorem dL_law__430 : decode cL_law_ 430 = .ok (.iadd, 1) := by decide +kernel
theorem dL_law__431 : decode cL_law_ 431 = .ok (.iaload, 1) := by decide +kernel
theorem dL_law__432 : decode cL_law_ 432 = .ok (.aload_n 0, 1) := by decide +kernel
theorem dL_law__433 : decode cL_law_ 433 = .ok (.iload 4, 2) := by decide +kernel
theorem dL_law__435 : decode cL_law_ 435 = .ok (.iconst 2, 1) := by decide +kernel
theorem dL_law__436 : decode cL_law_ 436 = .ok (.iadd, 1) := by decide +kernel
theorem dL_law__437 : decode cL_law_ 437 = .ok (.iaload, 1) := by decide +kernel
theorem dL_law__438 : decode cL_law_ 438 = .ok (.invokevirtual 110, 3) := by decide +kernel
theorem dL_law__441 : decode cL_law_ 441 = .ok (.istore 6, 2) := by decide +kernel
theorem dL_law__443 : decode cL_law_ 443 = .ok (.aload_n 2, 1) := by decide +kernel
theorem dL_law__444 : decode cL_law_ 444 = .ok (.invokevirtual 96, 3) := by decide +kernel
theorem dL_law__447 : decode cL_law_ 447 = .ok (.iload 5, 2) := by decide +kernel
theorem dL_law__449 : decode cL_law_ 449 = .ok (.if_icmp .eq 5, 3) := by decide +kernel
theorem dL_law__452 : decode cL_law_ 452 = .ok (.iconst 0, 1) := by decide +kernel
theorem dL_law__453 : decode cL_law_ 453 = .ok (.ireturn, 1) := by decide +kernel
theorem dL_law__454 : decode cL_law_ 454 = .ok (.iload 5, 2) := by decide +kernel
theorem dL_law__456 : decode cL_law_ 456 = .ok (.ifCond .ne 15, 3) := by decide +kernel
theorem dL_law__459 : decode cL_law_ 459 = .ok (.aload_n 3, 1) := by decide +kernel
theorem dL_law__460 : decode cL_law_ 460 = .ok (.iconst 0, 1) := by decide +kernel
theorem dL_law__461 : decode cL_law_ 461 = .ok (.laload, 1) := by decide +kernel
theorem dL_law__462 : decode cL_law_ 462 = .ok (.iload 6, 2) := by decide +kernel
theorem dL_law__464 : decode cL_law_ 464 = .ok (.i2l, 1) := by decide +kernel
theorem dL_law__465 : decode cL_law_ 465 = .ok (.lcmp, 1) := by decide +kernel
theorem dL_law__466 : decode cL_law_ 466 = .ok (.ifCond .eq 5, 3) := by decide +kernel
theorem dL_law__469 : decode cL_law_ 469 = .ok (.iconst 0, 1) := by decide +kernel
theorem dL_law__470 : decode cL_law_ 470 = .ok (.ireturn, 1) := by decide +kernel
theorem dL_law__471 : decode cL_law_ 471 = .ok (.goto 1146, 3) := by decide +kernel
theorem dL_law__474 : decode cL_law_ 474 = .ok (.aload_n 1, 1) := by decide +kernel
theorem dL_law__475 : decode cL_law_ 475 = .ok (.aload_n 0, 1) := by decide +kernel
theorem dL_law__476 : decode cL_law_ 476 = .ok (.iload 4, 2) := by decide +kernel
theorem dL_law__478 : decode cL_law_ 478 = .ok (.iconst 1, 1) := by decide +kernel
theorem dL_law__479 : decode cL_law_ 479 = .ok (.iadd, 1) := by decide +kernel
theorem dL_law__480 : decode cL_law_ 480 = .ok (.iaload, 1) := by decide +kernel
theorem dL_law__481 : decode cL_law_ 481 = .ok (.aload_n 3, 1) := by decide +kernel
theorem dL_law__482 : decode cL_law_ 482 = .ok (.invokestatic 111, 3) := by decide +kernel
theorem dL_law__485 : decode cL_law_ 485 = .ok (.istore 5, 2) := by decide +kernel
theorem dL_law__487 : decode cL_law_ 487 = .ok (.aload_n 2, 1) := by decide +kernel
theorem dL_law__488 : decode cL_law_ 488 = .ok (.aload_n 0, 1) := by decide +kernel
theorem dL_law__489 : decode cL_law_ 489 = .ok (.iload 4, 2) := by decide +kernel
theorem dL_law__491 : decode cL_law_ 491 = .ok (.iconst 1, 1) := by decide +kernel
theorem dL_law__492 : decode cL_law_ 492 = .ok (.iadd, 1) := by decide +kernel
theorem dL_law__493 : decode cL_law_ 493 = .ok (.iaload, 1) := by decide +kernel
theorem dL_law__494 : decode cL_law_ 494 = .ok (.invokevirtual 114, 3) := by decide +kernel
theorem dL_law__497 : decode cL_law_ 497 = .ok (.istore 6, 2) := by decide +kernel
theorem dL_law__499 : decode cL_law_ 499 = .ok (.aload_n 2, 1) := by decide +kernel
theorem dL_law__500 : decode cL_law_ 500 = .ok (.invokevirtual 96, 3) := by decide +kernel
theorem dL_law__503 : decode cL_law_ 503 = .ok (.iload 5, 2) := by decide +kernel
theorem dL_law__505 : decode cL_law_ 505 = .ok (.if_icmp .eq 5, 3) := by decide +kernel
theorem dL_law__508 : decode cL_law_ 508 = .ok (.iconst 0, 1) := by decide +kernel
theorem dL_law__509 : decode cL_law_ 509 = .ok (.ireturn, 1) := by decide +kernel
theorem dL_law__510 : decode cL_law_ 510 = .ok (.iload 5, 2) := by decide +kernel
theorem dL_law__512 : decode cL_law_ 512 = .ok (.ifCond .ne 15, 3) := by decide +kernel
theorem dL_law__515 : decode cL_law_ 515 = .ok (.aload_n 3, 1) := by decide +kernel
theorem dL_law__516 : decode cL_law_ 516 = .ok (.iconst 0, 1) := by decide +kernel
theorem dL_law__517 : decode cL_law_ 517 = .ok (.laload, 1) := by decide +kernel
theorem dL_law__518 : decode cL_law_ 518 = .ok (.iload 6, 2) := by decide +kernel
theorem dL_law__520 : decode cL_law_ 520 = .ok (.i2l, 1) := by decide +kernel
theorem dL_law__521 : decode cL_law_ 521 = .ok (.lcmp, 1) := by decide +kernel
theorem dL_law__522 : decode cL_law_ 522 = .ok (.ifCond .eq 5, 3) := by decide +kernel
theorem dL_law__525 : decode cL_law_ 525 = .ok (.iconst 0, 1) := by decide +kernel
theorem dL_law__526 : decode cL_law_ 526 = .ok (.ireturn, 1) := by decide +kernel
theorem dL_law__527 : decode cL_law_ 527 = .ok (.goto 1090, 3) := by decide +kernel
theorem dL_law__530 : decode cL_law_ 530 = .ok (.aload_n 1, 1) := by decide +kernel
theorem dL_law__531 : decode cL_law_ 531 = .ok (.aload_n 0, 1) := by decide +kernel
theorem dL_law__532 : decode cL_law_ 532 = .ok (.iload 4, 2) := by decide +kernel
theorem dL_law__534 : decode cL_law_ 534 = .ok (.iconst 1, 1) := by decide +kernel
theorem dL_law__535 : decode cL_law_ 535 = .ok (.iadd, 1) := by decide +kernel
theorem dL_law__536 : decode cL_law_ 536 = .ok (.iaload, 1) := by decide +kernel
theorem dL_law__537 : decode cL_law_ 537 = .ok (.aload_n 0, 1) := by decide +kernel
theorem dL_law__538 : decode cL_law_ 538 = .ok (.iload 4, 2) := by decide +kernel
theorem dL_law__540 : decode cL_law_ 540 = .ok (.iconst 2, 1) := by decide +kernel
theorem dL_law__541 : decode cL_law_ 541 = .ok (.iadd, 1) := by decide +kernel
theorem dL_law__542 : decode cL_law_ 542 = .ok (.iaload, 1) := by decide +kernel
theorem dL_law__543 : decode cL_law_ 543 = .ok (.aload_n 0, 1) := by decide +kernel
theorem dL_law__544 : decode cL_law_ 544 = .ok (.iload 4, 2) := by decide +kernel
theorem dL_law__546 : decode cL_law_ 546 = .ok (.iconst 3, 1) := by decide +kernel
theorem dL_law__547 : decode cL_law_ 547 = .ok (.iadd, 1) := by decide +kernel
theorem dL_law__548 : decode cL_law_ 548 = .ok (.iaload, 1) := by decide +kernel
theorem dL_law__549 : decode cL_law_ 549 = .ok (.aload_n 0, 1) := by decide +kernel
theorem dL_law__550 : decode cL_law_ 550 = .ok (.iload 4, 2) := by decide +kernel
theorem dL_law__552 : decode cL_law_ 552 = .ok (.iconst 4, 1) := by decide +kernel
theorem dL_law__553 : decode cL_law_ 553 = .ok (.iadd, 1) := by decide +kernel
theorem dL_law__554 : decode cL_law_ 554 = .ok (.iaload, 1) := by decide +kernel
theorem dL_law__555 : decode cL_law_ 555 = .ok (.aload_n 3, 1) := by decide +kernel
theorem dL_law__556 : decode cL_law_ 556 = .ok (.invokestatic 115, 3) := by decide +kernel
theorem dL_law__559 : decode cL_law_ 559 = .ok (.istore 5, 2) := by decide +kernel
theorem dL_law__561 : decode cL_law_ 561 = .ok (.aload_n 2, 1) := by decide +kernel
theorem dL_law__562 : decode cL_law_ 562 = .ok (.aload_n 0, 1) := by decide +kernel
theorem dL_law__563 : decode cL_law_ 563 = .ok (.iload 4, 2) := by decide +kernel
theorem dL_law__565 : decode cL_law_ 565 = .ok (.iconst 1, 1) := by decide +kernel
theorem dL_law__566 : decode cL_law_ 566 = .ok (.iadd, 1) := by decide +kernel
theorem dL_law__567 : decode cL_law_ 567 = .ok (.iaload, 1) := by decide +kernel
theorem dL_law__568 : decode cL_law_ 568 = .ok (.aload_n 0, 1) := by decide +kernel
theorem dL_law__569 : decode cL_law_ 569 = .ok (.iload 4, 2) := by decide +kernel
theorem dL_law__571 : decode cL_law_ 571 = .ok (.iconst 2, 1) := by decide +kernel
theorem dL_law__572 : decode cL_law_ 572 = .ok (.iadd, 1) := by decide +kernel
theorem dL_law__573 : decode cL_law_ 573 = .ok (.iaload, 1) := by decide +kernel
theorem dL_law__574 : decode cL_law_ 574 = .ok (.aload_n 0, 1) := by decide +kernel
theorem dL_law__575 : decode cL_law_ 575 = .ok (.iload 4, 2) := by decide +kernel
theorem dL_law__577 : decode cL_law_ 577 = .ok (.iconst 3, 1) := by decide +kernel
theorem dL_law__578 : decode cL_law_ 578 = .ok (.iadd, 1) := by decide +kernel
theorem dL_law__579 : decode cL_law_ 579 = .ok (.iaload, 1) := by decide +kernel
theorem dL_law__580 : decode cL_law_ 580 = .ok (.aload_n 0, 1) := by decide +kernel
theorem dL_law__581 : decode cL_law_ 581 = .ok (.iload 4, 2) := by decide +kernel
theorem dL_law__583 : decode cL_law_ 583 = .ok (.iconst 4, 1) := by decide +kernel
theorem dL_law__584 : decode cL_law_ 584 = .ok (.iadd, 1) := by decide +kernel
theorem dL_law__585 : decode cL_law_ 585 = .ok (.iaload, 1) := by decide +kernel
theorem dL_law__586 : decode cL_law_ 586 = .ok (.invokevirtual 118, 3) := by decide +kernel
theorem dL_law__589 : decode cL_law_ 589 = .ok (.istore 6, 2) := by decide +kernel
theorem dL_law__591 : decode cL_law_ 591 = .ok (.aload_n 2, 1) := by decide +kernel
theorem dL_law__592 : decode cL_law_ 592 = .ok (.invokevirtual 96, 3) := by decide +kernel
theorem dL_law__595 : decode cL_law_ 595 = .ok (.iload 5, 2) := by decide +kernel
theorem dL_law__597 : decode cL_law_ 597 = .ok (.if_icmp .eq 5, 3) := by decide +kernel
theorem dL_law__600 : decode cL_law_ 600 = .ok (.iconst 0, 1) := by decide +kernel
theorem dL_law__601 : decode cL_law_ 601 = .ok (.ireturn, 1) := by decide +kernel
theorem dL_law__602 : decode cL_law_ 602 = .ok (.iload 5, 2) := by decide +kernel
theorem dL_law__604 : decode cL_law_ 604 = .ok (.ifCond .ne 15, 3) := by decide +kernel
theorem dL_law__607 : decode cL_law_ 607 = .ok (.aload_n 3, 1) := by decide +kernel
theorem dL_law__608 : decode cL_law_ 608 = .ok (.iconst 0, 1) := by decide +kernel
theorem dL_law__609 : decode cL_law_ 609 = .ok (.laload, 1) := by decide +kernel
theorem dL_law__610 : decode cL_law_ 610 = .ok (.iload 6, 2) := by decide +kernel
theorem dL_law__612 : decode cL_law_ 612 = .ok (.i2l, 1) := by decide +kernel
theorem dL_law__613 : decode cL_law_ 613 = .ok (.lcmp, 1) := by decide +kernel
theorem dL_law__614 : decode cL_law_ 614 = .ok (.ifCond .eq 5, 3) := by decide +kernel
theorem dL_law__617 : decode cL_law_ 617 = .ok (.iconst 0, 1) := by decide +kernel
theorem dL_law__618 : decode cL_law_ 618 = .ok (.ireturn, 1) := by decide +kernel
theorem dL_law__619 : decode cL_law_ 619 = .ok (.goto 998, 3) := by decide +kernel
theorem dL_law__622 : decode cL_law_ 622 = .ok (.aload_n 1, 1) := by decide +kernel
theorem dL_law__623 : decode cL_law_ 623 = .ok (.aload_n 0, 1) := by decide +kernel
theorem dL_law__624 : decode cL_law_ 624 = .ok (.iload 4, 2) := by decide +kernel
theorem dL_law__626 : decode cL_law_ 626 = .ok (.iconst 1, 1) := by decide +kernel
theorem dL_law__627 : decode cL_law_ 627 = .ok (.iadd, 1) := by decide +kernel
theorem dL_law__628 : decode cL_law_ 628 = .ok (.iaload, 1) := by decide +kernel
theorem dL_law__629 : decode cL_law_ 629 = .ok (.aload_n 0, 1) := by decide +kernel
theorem dL_law__630 : decode cL_law_ 630 = .ok (.iload 4, 2) := by decide +kernel
theorem dL_law__632 : decode cL_law_ 632 = .ok (.iconst 2, 1) := by decide +kernel
theorem dL_law__633 : decode cL_law_ 633 = .ok (.iadd, 1) := by decide +kernel
theorem dL_law__634 : decode cL_law_ 634 = .ok (.iaload, 1) := by decide +kernel
theorem dL_law__635 : decode cL_law_ 635 = .ok (.aload_n 0, 1) := by decide +kernel
theorem dL_law__636 : decode cL_law_ 636 = .ok (.iload 4, 2) := by decide +kernel
theorem dL_law__638 : decode cL_law_ 638 = .ok (.iconst 3, 1) := by decide +kernel
theorem dL_law__639 : decode cL_law_ 639 = .ok (.iadd, 1) := by decide +kernel
theorem dL_law__640 : decode cL_law_ 640 = .ok (.iaload, 1) := by decide +kernel
theorem dL_law__641 : decode cL_law_ 641 = .ok (.aload_n 3, 1) := by decide +kernel
theorem dL_law__642 : decode cL_law_ 642 = .ok (.invokestatic 119, 3) := by decide +kernel
theorem dL_law__645 : decode cL_law_ 645 = .ok (.istore 5, 2) := by decide +kernel
theorem dL_law__647 : decode cL_law_ 647 = .ok (.aload_n 2, 1) := by decide +kernel
theorem dL_law__648 : decode cL_law_ 648 = .ok (.aload_n 0, 1) := by decide +kernel
theorem dL_law__649 : decode cL_law_ 649 = .ok (.iload 4, 2) := by decide +kernel
theorem dL_law__651 : decode cL_law_ 651 = .ok (.iconst 1, 1) := by decide +kernel
theorem dL_law__652 : decode cL_law_ 652 = .ok (.iadd, 1) := by decide +kernel
theorem dL_law__653 : decode cL_law_ 653 = .ok (.iaload, 1) := by decide +kernel
theorem dL_law__654 : decode cL_law_ 654 = .ok (.aload_n 0, 1) := by decide +kernel
theorem dL_law__655 : decode cL_law_ 655 = .ok (.iload 4, 2) := by decide +kernel
theorem dL_law__657 : decode cL_law_ 657 = .ok (.iconst 2, 1) := by decide +kernel
theorem dL_law__658 : decode cL_law_ 658 = .ok (.iadd, 1) := by decide +kernel
theorem dL_law__659 : decode cL_law_ 659 = .ok (.iaload, 1) := by decide +kernel
theorem dL_law__660 : decode cL_law_ 660 = .ok (.aload_n 0, 1) := by decide +kernel
theorem dL_law__661 : decode cL_law_ 661 = .ok (.iload 4, 2) := by decide +kernel
theorem dL_law__663 : decode cL_law_ 663 = .ok (.iconst 3, 1) := by decide +kernel
theorem dL_law__664 : decode cL_law_ 664 = .ok (.iadd, 1) := by decide +kernel
theorem dL_law__665 : decode cL_law_ 665 = .ok (.iaload, 1) := by decide +kernel
theorem dL_law__666 : decode cL_law_ 666 = .ok (.invokevirtual 121, 3) := by decide +kernel
theorem dL_law__669 : decode cL_law_ 669 = .ok (.istore 6, 2) := by decide +kernel
theorem dL_law__671 : decode cL_law_ 671 = .ok (.aload_n 2, 1) := by decide +kernel
theorem dL_law__672 : decode cL_law_ 672 = .ok (.invokevirtual 96, 3) := by decide +kernel
theorem dL_law__675 : decode cL_law_ 675 = .ok (.iload 5, 2) := by decide +kernel
theorem dL_law__677 : decode cL_law_ 677 = .ok (.if_icmp .eq 5, 3) := by decide +kernel
theorem dL_law__680 : decode cL_law_ 680 = .ok (.iconst 0, 1) := by decide +kernel
theorem dL_law__681 : decode cL_law_ 681 = .ok (.ireturn, 1) := by decide +kernel
theorem dL_law__682 : decode cL_law_ 682 = .ok (.iload 5, 2) := by decide +kernel
theorem dL_law__684 : decode cL_law_ 684 = .ok (.ifCond .ne 15, 3) := by decide +kernel
theorem dL_law__687 : decode cL_law_ 687 = .ok (.aload_n 3, 1) := by decide +kernel
theorem dL_law__688 : decode cL_law_ 688 = .ok (.iconst 0, 1) := by decide +kernel
theorem dL_law__689 : decode cL_law_ 689 = .ok (.laload, 1) := by decide +kernel
theorem dL_law__690 : decode cL_law_ 690 = .ok (.iload 6, 2) := by decide +kernel
theorem dL_law__692 : decode cL_law_ 692 = .ok (.i2l, 1) := by decide +kernel
theorem dL_law__693 : decode cL_law_ 693 = .ok (.lcmp, 1) := by decide +kernel
theorem dL_law__694 : decode cL_law_ 694 = .ok (.ifCond .eq 5, 3) := by decide +kernel
theorem dL_law__697 : decode cL_law_ 697 = .ok (.iconst 0, 1) := by decide +kernel
theorem dL_law__698 : decode cL_law_ 698 = .ok (.ireturn, 1) := by decide +kernel
theorem dL_law__699 : decode cL_law_ 699 = .ok (.goto 918, 3) := by decide +kernel
theorem dL_law__702 : decode cL_law_ 702 = .ok (.aload_n 1, 1) := by decide +kernel
theorem dL_law__703 : decode cL_law_ 703 = .ok (.aload_n 0, 1) := by decide +kernel
theorem dL_law__704 : decode cL_law_ 704 = .ok (.iload 4, 2) := by decide +kernel
theorem dL_law__706 : decode cL_law_ 706 = .ok (.iconst 1, 1) := by decide +kernel
theorem dL_law__707 : decode cL_law_ 707 = .ok (.iadd, 1) := by decide +kernel
theorem dL_law__708 : decode cL_law_ 708 = .ok (.iaload, 1) := by decide +kernel
theorem dL_law__709 : decode cL_law_ 709 = .ok (.aload_n 0, 1) := by decide +kernel
theorem dL_law__710 : decode cL_law_ 710 = .ok (.iload 4, 2) := by decide +kernel
theorem dL_law__712 : decode cL_law_ 712 = .ok (.iconst 2, 1) := by decide +kernel
theorem dL_law__713 : decode cL_law_ 713 = .ok (.iadd, 1) := by decide +kernel
theorem dL_law__714 : decode cL_law_ 714 = .ok (.iaload, 1) := by decide +kernel
theorem dL_law__715 : decode cL_law_ 715 = .ok (.aload_n 0, 1) := by decide +kernel
theorem dL_law__716 : decode cL_law_ 716 = .ok (.iload 4, 2) := by decide +kernel
theorem dL_law__718 : decode cL_law_ 718 = .ok (.iconst 3, 1) := by decide +kernel
theorem dL_law__719 : decode cL_law_ 719 = .ok (.iadd, 1) := by decide +kernel
theorem dL_law__720 : decode cL_law_ 720 = .ok (.iaload, 1) := by decide +kernel
theorem dL_law__721 : decode cL_law_ 721 = .ok (.aload_n 3, 1) := by decide +kernel
theorem dL_law__722 : decode cL_law_ 722 = .ok (.invokestatic 122, 3) := by decide +kernel
theorem dL_law__725 : decode cL_law_ 725 = .ok (.istore 5, 2) := by decide +kernel
theorem dL_law__727 : decode cL_law_ 727 = .ok (.aload_n 2, 1) := by decide +kernel
theorem dL_law__728 : decode cL_law_ 728 = .ok (.aload_n 0, 1) := by decide +kernel
theorem dL_law__729 : decode cL_law_ 729 = .ok (.iload 4, 2) := by decide +kernel
theorem dL_law__731 : decode cL_law_ 731 = .ok (.iconst 1, 1) := by decide +kernel
theorem dL_law__732 : decode cL_law_ 732 = .ok (.iadd, 1) := by decide +kernel
theorem dL_law__733 : decode cL_law_ 733 = .ok (.iaload, 1) := by decide +kernel
theorem dL_law__734 : decode cL_law_ 734 = .ok (.aload_n 0, 1) := by decide +kernel
theorem dL_law__735 : decode cL_law_ 735 = .ok (.iload 4, 2) := by decide +kernel
theorem dL_law__737 : decode cL_law_ 737 = .ok (.iconst 2, 1) := by decide +kernel
theorem dL_law__738 : decode cL_law_ 738 = .ok (.iadd, 1) := by decide +kernel
theorem dL_law__739 : decode cL_law_ 739 = .ok (.iaload, 1) := by decide +kernel
theorem dL_law__740 : decode cL_law_ 740 = .ok (.aload_n 0, 1) := by decide +kernel
theorem dL_law__741 : decode cL_law_ 741 = .ok (.iload 4, 2) := by decide +kernel
theorem dL_law__743 : decode cL_law_ 743 = .ok (.iconst 3, 1) := by decide +kernel
theorem dL_law__744 : decode cL_law_ 744 = .ok (.iadd, 1) := by decide +kernel
theorem dL_law__745 : decode cL_law_ 745 = .ok (.iaload, 1) := by decide +kernel
theorem dL_law__746 : decode cL_law_ 746 = .ok (.invokevirtual 124, 3) := by decide +kernel
theorem dL_law__749 : decode cL_law_ 749 = .ok (.istore 6, 2) := by decide +kernel
theorem dL_law__751 : decode cL_law_ 751 = .ok (.aload_n 2, 1) := by decide +kernel
theorem dL_law__752 : decode cL_law_ 752 = .ok (.invokevirtual 96, 3) := by decide +kernel
theorem dL_law__755 : decode cL_law_ 755 = .ok (.iload 5, 2) := by decide +kernel
theorem dL_law__757 : decode cL_law_ 757 = .ok (.if_icmp .eq 5, 3) := by decide +kernel
theorem dL_law__760 : decode cL_law_ 760 = .ok (.iconst 0, 1) := by decide +kernel
theorem dL_law__761 : decode cL_law_ 761 = .ok (.ireturn, 1) := by decide +kernel
theorem dL_law__762 : decode cL_law_ 762 = .ok (.iload 5, 2) := by decide +kernel
theorem dL_law__764 : decode cL_law_ 764 = .ok (.ifCond .ne 15, 3) := by decide +kernel
theorem dL_law__767 : decode cL_law_ 767 = .ok (.aload_n 3, 1) := by decide +kernel
theorem dL_law__768 : decode cL_law_ 768 = .ok (.iconst 0, 1) := by decide +kernel
theorem dL_law__769 : decode cL_law_ 769 = .ok (.laload, 1) := by decide +kernel
theorem dL_law__770 : decode cL_law_ 770 = .ok (.iload 6, 2) := by decide +kernel
theorem dL_law__772 : decode cL_law_ 772 = .ok (.i2l, 1) := by decide +kernel
theorem dL_law__773 : decode cL_law_ 773 = .ok (.lcmp, 1) := by decide +kernel
theorem dL_law__774 : decode cL_law_ 774 = .ok (.ifCond .eq 5, 3) := by decide +kernel
theorem dL_law__777 : decode cL_law_ 777 = .ok (.iconst 0, 1) := by decide +kernel
theorem dL_law__778 : decode cL_law_ 778 = .ok (.ireturn, 1) := by decide +kernel
theorem dL_law__779 : decode cL_law_ 779 = .ok (.goto 838, 3) := by decide +kernel
theorem dL_law__782 : decode cL_law_ 782 = .ok (.aload_n 1, 1) := by decide +kernel
theorem dL_law__783 : decode cL_law_ 783 = .ok (.aload_n 0, 1) := by decide +kernel
theorem dL_law__784 : decode cL_law_ 784 = .ok (.iload 4, 2) := by decide +kernel
theorem dL_law__786 : decode cL_law_ 786 = .ok (.iconst 1, 1) := by decide +kernel
theorem dL_law__787 : decode cL_law_ 787 = .ok (.iadd, 1) := by decide +kernel
theorem dL_law__788 : decode cL_law_ 788 = .ok (.iaload, 1) := by decide +kernel
theorem dL_law__789 : decode cL_law_ 789 = .ok (.aload_n 0, 1) := by decide +kernel
theorem dL_law__790 : decode cL_law_ 790 = .ok (.iload 4, 2) := by decide +kernel
theorem dL_law__792 : decode cL_law_ 792 = .ok (.iconst 2, 1) := by decide +kernel
theorem dL_law__793 : decode cL_law_ 793 = .ok (.iadd, 1) := by decide +kernel
theorem dL_law__794 : decode cL_law_ 794 = .ok (.iaload, 1) := by decide +kernel
theorem dL_law__795 : decode cL_law_ 795 = .ok (.aload_n 0, 1) := by decide +kernel
theorem dL_law__796 : decode cL_law_ 796 = .ok (.iload 4, 2) := by decide +kernel
theorem dL_law__798 : decode cL_law_ 798 = .ok (.iconst 3, 1) := by decide +kernel
theorem dL_law__799 : decode cL_law_ 799 = .ok (.iadd, 1) := by decide +kernel
theorem dL_law__800 : decode cL_law_ 800 = .ok (.iaload, 1) := by decide +kernel
theorem dL_law__801 : decode cL_law_ 801 = .ok (.aload_n 3, 1) := by decide +kernel
theorem dL_law__802 : decode cL_law_ 802 = .ok (.invokestatic 125, 3) := by decide +kernel
theorem dL_law__805 : decode cL_law_ 805 = .ok (.istore 5, 2) := by decide +kernel
theorem dL_law__807 : decode cL_law_ 807 = .ok (.aload_n 2, 1) := by decide +kernel
theorem dL_law__808 : decode cL_law_ 808 = .ok (.aload_n 0, 1) := by decide +kernel
theorem dL_law__809 : decode cL_law_ 809 = .ok (.iload 4, 2) := by decide +kernel
theorem dL_law__811 : decode cL_law_ 811 = .ok (.iconst 1, 1) := by decide +kernel
theorem dL_law__812 : decode cL_law_ 812 = .ok (.iadd, 1) := by decide +kernel
theorem dL_law__813 : decode cL_law_ 813 = .ok (.iaload, 1) := by decide +kernel
theorem dL_law__814 : decode cL_law_ 814 = .ok (.aload_n 0, 1) := by decide +kernel
theorem dL_law__815 : decode cL_law_ 815 = .ok (.iload 4, 2) := by decide +kernel
theorem dL_law__817 : decode cL_law_ 817 = .ok (.iconst 2, 1) := by decide +kernel
theorem dL_law__818 : decode cL_law_ 818 = .ok (.iadd, 1) := by decide +kernel
theorem dL_law__819 : decode cL_law_ 819 = .ok (.iaload, 1) := by decide +kernel
theorem dL_law__820 : decode cL_law_ 820 = .ok (.aload_n 0, 1) := by decide +kernel
theorem dL_law__821 : decode cL_law_ 821 = .ok (.iload 4, 2) := by decide +kernel
theorem dL_law__823 : decode cL_law_ 823 = .ok (.iconst 3, 1) := by decide +kernel
theorem dL_law__824 : decode cL_law_ 824 = .ok (.iadd, 1) := by decide +kernel
theorem dL_law__825 : decode cL_law_ 825 = .ok (.iaload, 1) := by decide +kernel
theorem dL_law__826 : decode cL_law_ 826 = .ok (.invokevirtual 127, 3) := by decide +kernel
theorem dL_law__829 : decode cL_law_ 829 = .ok (.istore 6, 2) := by decide +kernel
theorem dL_law__831 : decode cL_law_ 831 = .ok (.aload_n 2, 1) := by decide +kernel
theorem dL_law__832 : decode cL_law_ 832 = .ok (.invokevirtual 96, 3) := by decide +kernel
theorem dL_law__835 : decode cL_law_ 835 = .ok (.iload 5, 2) := by decide +kernel
theorem dL_law__837 : decode cL_law_ 837 = .ok (.if_icmp .eq 5, 3) := by decide +kernel
theorem dL_law__840 : decode cL_law_ 840 = .ok (.iconst 0, 1) := by decide +kernel
theorem dL_law__841 : decode cL_law_ 841 = .ok (.ireturn, 1) := by decide +kernel
theorem dL_law__842 : decode cL_law_ 842 = .ok (.iload 5, 2) := by decide +kernel
theorem dL_law__844 : decode cL_law_ 844 = .ok (.ifCond .ne 15, 3) := by decide +kernel
theorem dL_law__847 : decode cL_law_ 847 = .ok (.aload_n 3, 1) := by decide +kernel
theorem dL_law__848 : decode cL_law_ 848 = .ok (.iconst 0, 1) := by decide +kernel
theorem dL_law__849 : decode cL_law_ 849 = .ok (.laload, 1) := by decide +kernel
theorem dL_law__850 : decode cL_law_ 850 = .ok (.iload 6, 2) := by decide +kernel
theorem dL_law__852 : decode cL_law_ 852 = .ok (.i2l, 1) := by decide +kernel
theorem dL_law__853 : decode cL_law_ 853 = .ok (.lcmp, 1) := by decide +kernel
theorem dL_law__854 : decode cL_law_ 854 = .ok (.ifCond .eq 5, 3) := by decide +kernel
theorem dL_law__857 : decode cL_law_ 857 = .ok (.iconst 0, 1) := by decide +kernel
theorem dL_law__858 : decode cL_law_ 858 = .ok (.ireturn, 1) := by decide +kernel
theorem dL_law__859 : decode cL_law_ 859 = .ok (.goto 758, 3) := by decide +kernel
theorem dL_law__862 : decode cL_law_ 862 = .ok (.aload_n 1, 1) := by decide +kernel
theorem dL_law__863 : decode cL_law_ 863 = .ok (.aload_n 0, 1) := by decide +kernel
theorem dL_law__864 : decode cL_law_ 864 = .ok (.iload 4, 2) := by decide +kernel
theorem dL_law__866 : decode cL_law_ 866 = .ok (.iconst 1, 1) := by decide +kernel
theorem dL_law__867 : decode cL_law_ 867 = .ok (.iadd, 1) := by decide +kernel
theorem dL_law__868 : decode cL_law_ 868 = .ok (.iaload, 1) := by decide +kernel
theorem dL_law__869 : decode cL_law_ 869 = .ok (.aload_n 0, 1) := by decide +kernel
theorem dL_law__870 : decode cL_law_ 870 = .ok (.iload 4, 2) := by decide +kernel
theorem dL_law__872 : decode cL_law_ 872 = .ok (.iconst 2, 1) := by decide +kernel
theorem dL_law__873 : decode cL_law_ 873 = .ok (.iadd, 1) := by decide +kernel
theorem dL_law__874 : decode cL_law_ 874 = .ok (.iaload, 1) := by decide +kernel
theorem dL_law__875 : decode cL_law_ 875 = .ok (.aload_n 3, 1) := by decide +kernel
theorem dL_law__876 : decode cL_law_ 876 = .ok (.invokestatic 128, 3) := by decide +kernel
theorem dL_law__879 : decode cL_law_ 879 = .ok (.istore 5, 2) := by decide +kernel
theorem dL_law__881 : decode cL_law_ 881 = .ok (.aload_n 2, 1) := by decide +kernel
theorem dL_law__882 : decode cL_law_ 882 = .ok (.aload_n 0, 1) := by decide +kernel
theorem dL_law__883 : decode cL_law_ 883 = .ok (.iload 4, 2) := by decide +kernel
theorem dL_law__885 : decode cL_law_ 885 = .ok (.iconst 1, 1) := by decide +kernel
theorem dL_law__886 : decode cL_law_ 886 = .ok (.iadd, 1) := by decide +kernel
theorem dL_law__887 : decode cL_law_ 887 = .ok (.iaload, 1) := by decide +kernel
theorem dL_law__888 : decode cL_law_ 888 = .ok (.aload_n 0, 1) := by decide +kernel
theorem dL_law__889 : decode cL_law_ 889 = .ok (.iload 4, 2) := by decide +kernel
theorem dL_law__891 : decode cL_law_ 891 = .ok (.iconst 2, 1) := by decide +kernel
theorem dL_law__892 : decode cL_law_ 892 = .ok (.iadd, 1) := by decide +kernel
theorem dL_law__893 : decode cL_law_ 893 = .ok (.iaload, 1) := by decide +kernel
theorem dL_law__894 : decode cL_law_ 894 = .ok (.invokevirtual 130, 3) := by decide +kernel
theorem dL_law__897 : decode cL_law_ 897 = .ok (.istore 6, 2) := by decide +kernel
theorem dL_law__899 : decode cL_law_ 899 = .ok (.aload_n 2, 1) := by decide +kernel
theorem dL_law__900 : decode cL_law_ 900 = .ok (.invokevirtual 96, 3) := by decide +kernel
theorem dL_law__903 : decode cL_law_ 903 = .ok (.iload 5, 2) := by decide +kernel
theorem dL_law__905 : decode cL_law_ 905 = .ok (.if_icmp .eq 5, 3) := by decide +kernel
theorem dL_law__908 : decode cL_law_ 908 = .ok (.iconst 0, 1) := by decide +kernel
theorem dL_law__909 : decode cL_law_ 909 = .ok (.ireturn, 1) := by decide +kernel
theorem dL_law__910 : decode cL_law_ 910 = .ok (.iload 5, 2) := by decide +kernel
theorem dL_law__912 : decode cL_law_ 912 = .ok (.ifCond .ne 15, 3) := by decide +kernel
theorem dL_law__915 : decode cL_law_ 915 = .ok (.aload_n 3, 1) := by decide +kernel
theorem dL_law__916 : decode cL_law_ 916 = .ok (.iconst 0, 1) := by decide +kernel
theorem dL_law__917 : decode cL_law_ 917 = .ok (.laload, 1) := by decide +kernel
theorem dL_law__918 : decode cL_law_ 918 = .ok (.iload 6, 2) := by decide +kernel
theorem dL_law__920 : decode cL_law_ 920 = .ok (.i2l, 1) := by decide +kernel
theorem dL_law__921 : decode cL_law_ 921 = .ok (.lcmp, 1) := by decide +kernel
theorem dL_law__922 : decode cL_law_ 922 = .ok (.ifCond .eq 5, 3) := by decide +kernel
theorem dL_law__925 : decode cL_law_ 925 = .ok (.iconst 0, 1) := by decide +kernel
theorem dL_law__926 : decode cL_law_ 926 = .ok (.ireturn, 1) := by decide +kernel
theorem dL_law__927 : decode cL_law_ 927 = .ok (.goto 690, 3) := by decide +kernel
theorem dL_law__930 : decode cL_law_ 930 = .ok (.aload_n 1, 1) := by decide +kernel
theorem dL_law__931 : decode cL_law_ 931 = .ok (.aload_n 0, 1) := by decide +kernel
theorem dL_law__932 : decode cL_law_ 932 = .ok (.iload 4, 2) := by decide +kernel
theorem dL_law__934 : decode cL_law_ 934 = .ok (.iconst 1, 1) := by decide +kernel
theorem dL_law__935 : decode cL_law_ 935 = .ok (.iadd, 1) := by decide +kernel
theorem dL_law__936 : decode cL_law_ 936 = .ok (.iaload, 1) := by decide +kernel
theorem dL_law__937 : decode cL_law_ 937 = .ok (.aload_n 3, 1) := by decide +kernel
theorem dL_law__938 : decode cL_law_ 938 = .ok (.invokestatic 131, 3) := by decide +kernel
theorem dL_law__941 : decode cL_law_ 941 = .ok (.istore 5, 2) := by decide +kernel
theorem dL_law__943 : decode cL_law_ 943 = .ok (.aload_n 2, 1) := by decide +kernel
theorem dL_law__944 : decode cL_law_ 944 = .ok (.aload_n 0, 1) := by decide +kernel
theorem dL_law__945 : decode cL_law_ 945 = .ok (.iload 4, 2) := by decide +kernel
theorem dL_law__947 : decode cL_law_ 947 = .ok (.iconst 1, 1) := by decide +kernel
theorem dL_law__948 : decode cL_law_ 948 = .ok (.iadd, 1) := by decide +kernel
theorem dL_law__949 : decode cL_law_ 949 = .ok (.iaload, 1) := by decide +kernel
theorem dL_law__950 : decode cL_law_ 950 = .ok (.invokevirtual 133, 3) := by decide +kernel
theorem dL_law__953 : decode cL_law_ 953 = .ok (.istore 6, 2) := by decide +kernel
theorem dL_law__955 : decode cL_law_ 955 = .ok (.aload_n 2, 1) := by decide +kernel
theorem dL_law__956 : decode cL_law_ 956 = .ok (.invokevirtual 96, 3) := by decide +kernel
theorem dL_law__959 : decode cL_law_ 959 = .ok (.iload 5, 2) := by decide +kernel
theorem dL_law__961 : decode cL_law_ 961 = .ok (.if_icmp .eq 5, 3) := by decide +kernel
theorem dL_law__964 : decode cL_law_ 964 = .ok (.iconst 0, 1) := by decide +kernel
theorem dL_law__965 : decode cL_law_ 965 = .ok (.ireturn, 1) := by decide +kernel
theorem dL_law__966 : decode cL_law_ 966 = .ok (.iload 5, 2) := by decide +kernel
theorem dL_law__968 : decode cL_law_ 968 = .ok (.ifCond .ne 15, 3) := by decide +kernel
theorem dL_law__971 : decode cL_law_ 971 = .ok (.aload_n 3, 1) := by decide +kernel
theorem dL_law__972 : decode cL_law_ 972 = .ok (.iconst 0, 1) := by decide +kernel
theorem dL_law__973 : decode cL_law_ 973 = .ok (.laload, 1) := by decide +kernel
theorem dL_law__974 : decode cL_law_ 974 = .ok (.iload 6, 2) := by decide +kernel
theorem dL_law__976 : decode cL_law_ 976 = .ok (.i2l, 1) := by decide +kernel
theorem dL_law__977 : decode cL_law_ 977 = .ok (.lcmp, 1) := by decide +kernel
theorem dL_law__978 : decode cL_law_ 978 = .ok (.ifCond .eq 5, 3) := by decide +kernel
theorem dL_law__981 : decode cL_law_ 981 = .ok (.iconst 0, 1) := by decide +kernel
theorem dL_law__982 : decode cL_law_ 982 = .ok (.ireturn, 1) := by decide +kernel
theorem dL_law__983 : decode cL_law_ 983 = .ok (.goto 634, 3) := by decide +kernel
theorem dL_law__986 : decode cL_law_ 986 = .ok (.aload_n 1, 1) := by decide +kernel
theorem dL_law__987 : decode cL_law_ 987 = .ok (.aload_n 0, 1) := by decide +kernel
theorem dL_law__988 : decode cL_law_ 988 = .ok (.iload 4, 2) := by decide +kernel
theorem dL_law__990 : decode cL_law_ 990 = .ok (.iconst 1, 1) := by decide +kernel
theorem dL_law__991 : decode cL_law_ 991 = .ok (.iadd, 1) := by decide +kernel
theorem dL_law__992 : decode cL_law_ 992 = .ok (.iaload, 1) := by decide +kernel
theorem dL_law__993 : decode cL_law_ 993 = .ok (.aload_n 3, 1) := by decide +kernel
theorem dL_law__994 : decode cL_law_ 994 = .ok (.invokestatic 134, 3) := by decide +kernel
theorem dL_law__997 : decode cL_law_ 997 = .ok (.istore 5, 2) := by decide +kernel
theorem dL_law__999 : decode cL_law_ 999 = .ok (.aload_n 2, 1) := by decide +kernel
theorem dL_law__1000 : decode cL_law_ 1000 = .ok (.aload_n 0, 1) := by decide +kernel
theorem dL_law__1001 : decode cL_law_ 1001 = .ok (.iload 4, 2) := by decide +kernel
theorem dL_law__1003 : decode cL_law_ 1003 = .ok (.iconst 1, 1) := by decide +kernel
theorem dL_law__1004 : decode cL_law_ 1004 = .ok (.iadd, 1) := by decide +kernel
theorem dL_law__1005 : decode cL_law_ 1005 = .ok (.iaload, 1) := by decide +kernel
theorem dL_law__1006 : decode cL_law_ 1006 = .ok (.invokevirtual 136, 3) := by decide +kernel
theorem dL_law__1009 : decode cL_law_ 1009 = .ok (.istore 6, 2) := by decide +kernel
theorem dL_law__1011 : decode cL_law_ 1011 = .ok (.aload_n 2, 1) := by decide +kernel
theorem dL_law__1012 : decode cL_law_ 1012 = .ok (.invokevirtual 96, 3) := by decide +kernel
theorem dL_law__1015 : decode cL_law_ 1015 = .ok (.iload 5, 2) := by decide +kernel
theorem dL_law__1017 : decode cL_law_ 1017 = .ok (.if_icmp .eq 5, 3) := by decide +kernel
theorem dL_law__1020 : decode cL_law_ 1020 = .ok (.iconst 0, 1) := by decide +kernel
theorem dL_law__1021 : decode cL_law_ 1021 = .ok (.ireturn, 1) := by decide +kernel
theorem dL_law__1022 : decode cL_law_ 1022 = .ok (.iload 5, 2) := by decide +kernel
theorem dL_law__1024 : decode cL_law_ 1024 = .ok (.ifCond .ne 15, 3) := by decide +kernel
theorem dL_law__1027 : decode cL_law_ 1027 = .ok (.aload_n 3, 1) := by decide +kernel
theorem dL_law__1028 : decode cL_law_ 1028 = .ok (.iconst 0, 1) := by decide +kernel
theorem dL_law__1029 : decode cL_law_ 1029 = .ok (.laload, 1) := by decide +kernel
theorem dL_law__1030 : decode cL_law_ 1030 = .ok (.iload 6, 2) := by decide +kernel
theorem dL_law__1032 : decode cL_law_ 1032 = .ok (.i2l, 1) := by decide +kernel
theorem dL_law__1033 : decode cL_law_ 1033 = .ok (.lcmp, 1) := by decide +kernel
theorem dL_law__1034 : decode cL_law_ 1034 = .ok (.ifCond .eq 5, 3) := by decide +kernel
theorem dL_law__1037 : decode cL_law_ 1037 = .ok (.iconst 0, 1) := by decide +kernel
theorem dL_law__1038 : decode cL_law_ 1038 = .ok (.ireturn, 1) := by decide +kernel
theorem dL_law__1039 : decode cL_law_ 1039 = .ok (.goto 578, 3) := by decide +kernel
theorem dL_law__1042 : decode cL_law_ 1042 = .ok (.aload_n 1, 1) := by decide +kernel
theorem dL_law__1043 : decode cL_law_ 1043 = .ok (.aload_n 0, 1) := by decide +kernel
theorem dL_law__1044 : decode cL_law_ 1044 = .ok (.iload 4, 2) := by decide +kernel
theorem dL_law__1046 : decode cL_law_ 1046 = .ok (.iconst 1, 1) := by decide +kernel
theorem dL_law__1047 : decode cL_law_ 1047 = .ok (.iadd, 1) := by decide +kernel
theorem dL_law__1048 : decode cL_law_ 1048 = .ok (.iaload, 1) := by decide +kernel
theorem dL_law__1049 : decode cL_law_ 1049 = .ok (.aload_n 0, 1) := by decide +kernel
theorem dL_law__1050 : decode cL_law_ 1050 = .ok (.iload 4, 2) := by decide +kernel
theorem dL_law__1052 : decode cL_law_ 1052 = .ok (.iconst 2, 1) := by decide +kernel
theorem dL_law__1053 : decode cL_law_ 1053 = .ok (.iadd, 1) := by decide +kernel
theorem dL_law__1054 : decode cL_law_ 1054 = .ok (.iaload, 1) := by decide +kernel
theorem dL_law__1055 : decode cL_law_ 1055 = .ok (.ifCond .eq 7, 3) := by decide +kernel
theorem dL_law__1058 : decode cL_law_ 1058 = .ok (.iconst 1, 1) := by decide +kernel
theorem dL_law__1059 : decode cL_law_ 1059 = .ok (.goto 4, 3) := by decide +kernel
theorem dL_law__1062 : decode cL_law_ 1062 = .ok (.iconst 0, 1) := by decide +kernel
theorem dL_law__1063 : decode cL_law_ 1063 = .ok (.aload_n 3, 1) := by decide +kernel
theorem dL_law__1064 : decode cL_law_ 1064 = .ok (.invokestatic 137, 3) := by decide +kernel
theorem dL_law__1067 : decode cL_law_ 1067 = .ok (.istore 5, 2) := by decide +kernel
theorem dL_law__1069 : decode cL_law_ 1069 = .ok (.aload_n 2, 1) := by decide +kernel
theorem dL_law__1070 : decode cL_law_ 1070 = .ok (.aload_n 0, 1) := by decide +kernel
theorem dL_law__1071 : decode cL_law_ 1071 = .ok (.iload 4, 2) := by decide +kernel
theorem dL_law__1073 : decode cL_law_ 1073 = .ok (.iconst 1, 1) := by decide +kernel
theorem dL_law__1074 : decode cL_law_ 1074 = .ok (.iadd, 1) := by decide +kernel
theorem dL_law__1075 : decode cL_law_ 1075 = .ok (.iaload, 1) := by decide +kernel
theorem dL_law__1076 : decode cL_law_ 1076 = .ok (.aload_n 0, 1) := by decide +kernel
theorem dL_law__1077 : decode cL_law_ 1077 = .ok (.iload 4, 2) := by decide +kernel
theorem dL_law__1079 : decode cL_law_ 1079 = .ok (.iconst 2, 1) := by decide +kernel
theorem dL_law__1080 : decode cL_law_ 1080 = .ok (.iadd, 1) := by decide +kernel
theorem dL_law__1081 : decode cL_law_ 1081 = .ok (.iaload, 1) := by decide +kernel
theorem dL_law__1082 : decode cL_law_ 1082 = .ok (.ifCond .eq 7, 3) := by decide +kernel
theorem dL_law__1085 : decode cL_law_ 1085 = .ok (.iconst 1, 1) := by decide +kernel
theorem dL_law__1086 : decode cL_law_ 1086 = .ok (.goto 4, 3) := by decide +kernel
theorem dL_law__1089 : decode cL_law_ 1089 = .ok (.iconst 0, 1) := by decide +kernel
theorem dL_law__1090 : decode cL_law_ 1090 = .ok (.invokevirtual 140, 3) := by decide +kernel
theorem dL_law__1093 : decode cL_law_ 1093 = .ok (.istore 6, 2) := by decide +kernel
theorem dL_law__1095 : decode cL_law_ 1095 = .ok (.aload_n 2, 1) := by decide +kernel
theorem dL_law__1096 : decode cL_law_ 1096 = .ok (.invokevirtual 96, 3) := by decide +kernel
theorem dL_law__1099 : decode cL_law_ 1099 = .ok (.iload 5, 2) := by decide +kernel
theorem dL_law__1101 : decode cL_law_ 1101 = .ok (.if_icmp .eq 5, 3) := by decide +kernel
theorem dL_law__1104 : decode cL_law_ 1104 = .ok (.iconst 0, 1) := by decide +kernel
theorem dL_law__1105 : decode cL_law_ 1105 = .ok (.ireturn, 1) := by decide +kernel
theorem dL_law__1106 : decode cL_law_ 1106 = .ok (.iload 5, 2) := by decide +kernel
theorem dL_law__1108 : decode cL_law_ 1108 = .ok (.ifCond .ne 15, 3) := by decide +kernel
theorem dL_law__1111 : decode cL_law_ 1111 = .ok (.aload_n 3, 1) := by decide +kernel
theorem dL_law__1112 : decode cL_law_ 1112 = .ok (.iconst 0, 1) := by decide +kernel
theorem dL_law__1113 : decode cL_law_ 1113 = .ok (.laload, 1) := by decide +kernel
theorem dL_law__1114 : decode cL_law_ 1114 = .ok (.iload 6, 2) := by decide +kernel
theorem dL_law__1116 : decode cL_law_ 1116 = .ok (.i2l, 1) := by decide +kernel
theorem dL_law__1117 : decode cL_law_ 1117 = .ok (.lcmp, 1) := by decide +kernel
theorem dL_law__1118 : decode cL_law_ 1118 = .ok (.ifCond .eq 5, 3) := by decide +kernel
theorem dL_law__1121 : decode cL_law_ 1121 = .ok (.iconst 0, 1) := by decide +kernel
theorem dL_law__1122 : decode cL_law_ 1122 = .ok (.ireturn, 1) := by decide +kernel
theorem dL_law__1123 : decode cL_law_ 1123 = .ok (.goto 494, 3) := by decide +kernel
theorem dL_law__1126 : decode cL_law_ 1126 = .ok (.aload_n 1, 1) := by decide +kernel
theorem dL_law__1127 : decode cL_law_ 1127 = .ok (.aload_n 0, 1) := by decide +kernel
theorem dL_law__1128 : decode cL_law_ 1128 = .ok (.iload 4, 2) := by decide +kernel
theorem dL_law__1130 : decode cL_law_ 1130 = .ok (.iconst 1, 1) := by decide +kernel
theorem dL_law__1131 : decode cL_law_ 1131 = .ok (.iadd, 1) := by decide +kernel
theorem dL_law__1132 : decode cL_law_ 1132 = .ok (.iaload, 1) := by decide +kernel
theorem dL_law__1133 : decode cL_law_ 1133 = .ok (.aload_n 3, 1) := by decide +kernel
theorem dL_law__1134 : decode cL_law_ 1134 = .ok (.invokestatic 141, 3) := by decide +kernel
theorem dL_law__1137 : decode cL_law_ 1137 = .ok (.istore 5, 2) := by decide +kernel
theorem dL_law__1139 : decode cL_law_ 1139 = .ok (.aload_n 2, 1) := by decide +kernel
theorem dL_law__1140 : decode cL_law_ 1140 = .ok (.aload_n 0, 1) := by decide +kernel
theorem dL_law__1141 : decode cL_law_ 1141 = .ok (.iload 4, 2) := by decide +kernel
theorem dL_law__1143 : decode cL_law_ 1143 = .ok (.iconst 1, 1) := by decide +kernel
theorem dL_law__1144 : decode cL_law_ 1144 = .ok (.iadd, 1) := by decide +kernel
theorem dL_law__1145 : decode cL_law_ 1145 = .ok (.iaload, 1) := by decide +kernel
theorem dL_law__1146 : decode cL_law_ 1146 = .ok (.invokevirtual 143, 3) := by decide +kernel
theorem dL_law__1149 : decode cL_law_ 1149 = .ok (.istore 6, 2) := by decide +kernel
theorem dL_law__1151 : decode cL_law_ 1151 = .ok (.aload_n 2, 1) := by decide +kernel
theorem dL_law__1152 : decode cL_law_ 1152 = .ok (.invokevirtual 96, 3) := by decide +kernel
theorem dL_law__1155 : decode cL_law_ 1155 = .ok (.iload 5, 2) := by decide +kernel
theorem dL_law__1157 : decode cL_law_ 1157 = .ok (.if_icmp .eq 5, 3) := by decide +kernel
theorem dL_law__1160 : decode cL_law_ 1160 = .ok (.iconst 0, 1) := by decide +kernel
theorem dL_law__1161 : decode cL_law_ 1161 = .ok (.ireturn, 1) := by decide +kernel
theorem dL_law__1162 : decode cL_law_ 1162 = .ok (.iload 5, 2) := by decide +kernel
theorem dL_law__1164 : decode cL_law_ 1164 = .ok (.ifCond .ne 15, 3) := by decide +kernel
theorem dL_law__1167 : decode cL_law_ 1167 = .ok (.aload_n 3, 1) := by decide +kernel
theorem dL_law__1168 : decode cL_law_ 1168 = .ok (.iconst 0, 1) := by decide +kernel
theorem dL_law__1169 : decode cL_law_ 1169 = .ok (.laload, 1) := by decide +kernel
theorem dL_law__1170 : decode cL_law_ 1170 = .ok (.iload 6, 2) := by decide +kernel
theorem dL_law__1172 : decode cL_law_ 1172 = .ok (.i2l, 1) := by decide +kernel
theorem dL_law__1173 : decode cL_law_ 1173 = .ok (.lcmp, 1) := by decide +kernel
theorem dL_law__1174 : decode cL_law_ 1174 = .ok (.ifCond .eq 5, 3) := by decide +kernel
theorem dL_law__1177 : decode cL_law_ 1177 = .ok (.iconst 0, 1) := by decide +kernel
theorem dL_law__1178 : decode cL_law_ 1178 = .ok (.ireturn, 1) := by decide +kernel
theorem dL_law__1179 : decode cL_law_ 1179 = .ok (.goto 438, 3) := by decide +kernel
theorem dL_law__1182 : decode cL_law_ 1182 = .ok (.aload_n 1, 1) := by decide +kernel
theorem dL_law__1183 : decode cL_law_ 1183 = .ok (.aload_n 0, 1) := by decide +kernel
theorem dL_law__1184 : decode cL_law_ 1184 = .ok (.iload 4, 2) := by decide +kernel
theorem dL_law__1186 : decode cL_law_ 1186 = .ok (.iconst 1, 1) := by decide +kernel
theorem dL_law__1187 : decode cL_law_ 1187 = .ok (.iadd, 1) := by decide +kernel
theorem dL_law__1188 : decode cL_law_ 1188 = .ok (.iaload, 1) := by decide +kernel
theorem dL_law__1189 : decode cL_law_ 1189 = .ok (.aload_n 0, 1) := by decide +kernel
theorem dL_law__1190 : decode cL_law_ 1190 = .ok (.iload 4, 2) := by decide +kernel
theorem dL_law__1192 : decode cL_law_ 1192 = .ok (.iconst 2, 1) := by decide +kernel
theorem dL_law__1193 : decode cL_law_ 1193 = .ok (.iadd, 1) := by decide +kernel
theorem dL_law__1194 : decode cL_law_ 1194 = .ok (.iaload, 1) := by decide +kernel
theorem dL_law__1195 : decode cL_law_ 1195 = .ok (.aload_n 3, 1) := by decide +kernel
theorem dL_law__1196 : decode cL_law_ 1196 = .ok (.invokestatic 144, 3) := by decide +kernel
theorem dL_law__1199 : decode cL_law_ 1199 = .ok (.istore 5, 2) := by decide +kernel
theorem dL_law__1201 : decode cL_law_ 1201 = .ok (.aload_n 2, 1) := by decide +kernel
theorem dL_law__1202 : decode cL_law_ 1202 = .ok (.aload_n 0, 1) := by decide +kernel
theorem dL_law__1203 : decode cL_law_ 1203 = .ok (.iload 4, 2) := by decide +kernel
theorem dL_law__1205 : decode cL_law_ 1205 = .ok (.iconst 1, 1) := by decide +kernel
theorem dL_law__1206 : decode cL_law_ 1206 = .ok (.iadd, 1) := by decide +kernel
theorem dL_law__1207 : decode cL_law_ 1207 = .ok (.iaload, 1) := by decide +kernel
theorem dL_law__1208 : decode cL_law_ 1208 = .ok (.aload_n 0, 1) := by decide +kernel
theorem dL_law__1209 : decode cL_law_ 1209 = .ok (.iload 4, 2) := by decide +kernel
theorem dL_law__1211 : decode cL_law_ 1211 = .ok (.iconst 2, 1) := by decide +kernel
theorem dL_law__1212 : decode cL_law_ 1212 = .ok (.iadd, 1) := by decide +kernel
theorem dL_law__1213 : decode cL_law_ 1213 = .ok (.iaload, 1) := by decide +kernel
theorem dL_law__1214 : decode cL_law_ 1214 = .ok (.invokevirtual 146, 3) := by decide +kernel
theorem dL_law__1217 : decode cL_law_ 1217 = .ok (.lstore 6, 2) := by decide +kernel
theorem dL_law__1219 : decode cL_law_ 1219 = .ok (.aload_n 2, 1) := by decide +kernel
theorem dL_law__1220 : decode cL_law_ 1220 = .ok (.invokevirtual 96, 3) := by decide +kernel
theorem dL_law__1223 : decode cL_law_ 1223 = .ok (.iload 5, 2) := by decide +kernel
theorem dL_law__1225 : decode cL_law_ 1225 = .ok (.if_icmp .eq 5, 3) := by decide +kernel
theorem dL_law__1228 : decode cL_law_ 1228 = .ok (.iconst 0, 1) := by decide +kernel
theorem dL_law__1229 : decode cL_law_ 1229 = .ok (.ireturn, 1) := by decide +kernel
theorem dL_law__1230 : decode cL_law_ 1230 = .ok (.iload 5, 2) := by decide +kernel
theorem dL_law__1232 : decode cL_law_ 1232 = .ok (.ifCond .ne 14, 3) := by decide +kernel
theorem dL_law__1235 : decode cL_law_ 1235 = .ok (.aload_n 3, 1) := by decide +kernel
theorem dL_law__1236 : decode cL_law_ 1236 = .ok (.iconst 0, 1) := by decide +kernel
theorem dL_law__1237 : decode cL_law_ 1237 = .ok (.laload, 1) := by decide +kernel
theorem dL_law__1238 : decode cL_law_ 1238 = .ok (.lload 6, 2) := by decide +kernel
theorem dL_law__1240 : decode cL_law_ 1240 = .ok (.lcmp, 1) := by decide +kernel
theorem dL_law__1241 : decode cL_law_ 1241 = .ok (.ifCond .eq 5, 3) := by decide +kernel
theorem dL_law__1244 : decode cL_law_ 1244 = .ok (.iconst 0, 1) := by decide +kernel
theorem dL_law__1245 : decode cL_law_ 1245 = .ok (.ireturn, 1) := by decide +kernel
theorem dL_law__1246 : decode cL_law_ 1246 = .ok (.goto 371, 3) := by decide +kernel
theorem dL_law__1249 : decode cL_law_ 1249 = .ok (.aload_n 1, 1) := by decide +kernel
theorem dL_law__1250 : decode cL_law_ 1250 = .ok (.aload_n 0, 1) := by decide +kernel
theorem dL_law__1251 : decode cL_law_ 1251 = .ok (.iload 4, 2) := by decide +kernel
theorem dL_law__1253 : decode cL_law_ 1253 = .ok (.iconst 1, 1) := by decide +kernel
theorem dL_law__1254 : decode cL_law_ 1254 = .ok (.iadd, 1) := by decide +kernel
theorem dL_law__1255 : decode cL_law_ 1255 = .ok (.iaload, 1) := by decide +kernel
theorem dL_law__1256 : decode cL_law_ 1256 = .ok (.aload_n 0, 1) := by decide +kernel
theorem dL_law__1257 : decode cL_law_ 1257 = .ok (.iload 4, 2) := by decide +kernel
theorem dL_law__1259 : decode cL_law_ 1259 = .ok (.iconst 2, 1) := by decide +kernel
theorem dL_law__1260 : decode cL_law_ 1260 = .ok (.iadd, 1) := by decide +kernel
theorem dL_law__1261 : decode cL_law_ 1261 = .ok (.iaload, 1) := by decide +kernel
theorem dL_law__1262 : decode cL_law_ 1262 = .ok (.aload_n 3, 1) := by decide +kernel
theorem dL_law__1263 : decode cL_law_ 1263 = .ok (.invokestatic 147, 3) := by decide +kernel
theorem dL_law__1266 : decode cL_law_ 1266 = .ok (.istore 5, 2) := by decide +kernel
theorem dL_law__1268 : decode cL_law_ 1268 = .ok (.aload_n 2, 1) := by decide +kernel
theorem dL_law__1269 : decode cL_law_ 1269 = .ok (.aload_n 0, 1) := by decide +kernel
theorem dL_law__1270 : decode cL_law_ 1270 = .ok (.iload 4, 2) := by decide +kernel
theorem dL_law__1272 : decode cL_law_ 1272 = .ok (.iconst 1, 1) := by decide +kernel
theorem dL_law__1273 : decode cL_law_ 1273 = .ok (.iadd, 1) := by decide +kernel
theorem dL_law__1274 : decode cL_law_ 1274 = .ok (.iaload, 1) := by decide +kernel
theorem dL_law__1275 : decode cL_law_ 1275 = .ok (.aload_n 0, 1) := by decide +kernel
theorem dL_law__1276 : decode cL_law_ 1276 = .ok (.iload 4, 2) := by decide +kernel
theorem dL_law__1278 : decode cL_law_ 1278 = .ok (.iconst 2, 1) := by decide +kernel
theorem dL_law__1279 : decode cL_law_ 1279 = .ok (.iadd, 1) := by decide +kernel
theorem dL_law__1280 : decode cL_law_ 1280 = .ok (.iaload, 1) := by decide +kernel
theorem dL_law__1281 : decode cL_law_ 1281 = .ok (.invokevirtual 149, 3) := by decide +kernel
theorem dL_law__1284 : decode cL_law_ 1284 = .ok (.lstore 6, 2) := by decide +kernel
theorem dL_law__1286 : decode cL_law_ 1286 = .ok (.aload_n 2, 1) := by decide +kernel
theorem dL_law__1287 : decode cL_law_ 1287 = .ok (.invokevirtual 96, 3) := by decide +kernel
theorem dL_law__1290 : decode cL_law_ 1290 = .ok (.iload 5, 2) := by decide +kernel
theorem dL_law__1292 : decode cL_law_ 1292 = .ok (.if_icmp .eq 5, 3) := by decide +kernel
theorem dL_law__1295 : decode cL_law_ 1295 = .ok (.iconst 0, 1) := by decide +kernel
theorem dL_law__1296 : decode cL_law_ 1296 = .ok (.ireturn, 1) := by decide +kernel
theorem dL_law__1297 : decode cL_law_ 1297 = .ok (.iload 5, 2) := by decide +kernel
theorem dL_law__1299 : decode cL_law_ 1299 = .ok (.ifCond .ne 14, 3) := by decide +kernel
theorem dL_law__1302 : decode cL_law_ 1302 = .ok (.aload_n 3, 1) := by decide +kernel
theorem dL_law__1303 : decode cL_law_ 1303 = .ok (.iconst 0, 1) := by decide +kernel
theorem dL_law__1304 : decode cL_law_ 1304 = .ok (.laload, 1) := by decide +kernel
theorem dL_law__1305 : decode cL_law_ 1305 = .ok (.lload 6, 2) := by decide +kernel
theorem dL_law__1307 : decode cL_law_ 1307 = .ok (.lcmp, 1) := by decide +kernel
theorem dL_law__1308 : decode cL_law_ 1308 = .ok (.ifCond .eq 5, 3) := by decide +kernel
theorem dL_law__1311 : decode cL_law_ 1311 = .ok (.iconst 0, 1) := by decide +kernel
theorem dL_law__1312 : decode cL_law_ 1312 = .ok (.ireturn, 1) := by decide +kernel
theorem dL_law__1313 : decode cL_law_ 1313 = .ok (.goto 304, 3) := by decide +kernel
theorem dL_law__1316 : decode cL_law_ 1316 = .ok (.aload_n 1, 1) := by decide +kernel
theorem dL_law__1317 : decode cL_law_ 1317 = .ok (.aload_n 0, 1) := by decide +kernel
theorem dL_law__1318 : decode cL_law_ 1318 = .ok (.iload 4, 2) := by decide +kernel
theorem dL_law__1320 : decode cL_law_ 1320 = .ok (.iconst 1, 1) := by decide +kernel
theorem dL_law__1321 : decode cL_law_ 1321 = .ok (.iadd, 1) := by decide +kernel
theorem dL_law__1322 : decode cL_law_ 1322 = .ok (.iaload, 1) := by decide +kernel
theorem dL_law__1323 : decode cL_law_ 1323 = .ok (.aload_n 3, 1) := by decide +kernel
theorem dL_law__1324 : decode cL_law_ 1324 = .ok (.invokestatic 150, 3) := by decide +kernel
theorem dL_law__1327 : decode cL_law_ 1327 = .ok (.istore 5, 2) := by decide +kernel
theorem dL_law__1329 : decode cL_law_ 1329 = .ok (.aload_n 2, 1) := by decide +kernel
theorem dL_law__1330 : decode cL_law_ 1330 = .ok (.aload_n 0, 1) := by decide +kernel
theorem dL_law__1331 : decode cL_law_ 1331 = .ok (.iload 4, 2) := by decide +kernel
theorem dL_law__1333 : decode cL_law_ 1333 = .ok (.iconst 1, 1) := by decide +kernel
theorem dL_law__1334 : decode cL_law_ 1334 = .ok (.iadd, 1) := by decide +kernel
theorem dL_law__1335 : decode cL_law_ 1335 = .ok (.iaload, 1) := by decide +kernel
theorem dL_law__1336 : decode cL_law_ 1336 = .ok (.invokevirtual 152, 3) := by decide +kernel
theorem dL_law__1339 : decode cL_law_ 1339 = .ok (.istore 6, 2) := by decide +kernel
theorem dL_law__1341 : decode cL_law_ 1341 = .ok (.aload_n 2, 1) := by decide +kernel
theorem dL_law__1342 : decode cL_law_ 1342 = .ok (.invokevirtual 96, 3) := by decide +kernel
theorem dL_law__1345 : decode cL_law_ 1345 = .ok (.iload 5, 2) := by decide +kernel
theorem dL_law__1347 : decode cL_law_ 1347 = .ok (.if_icmp .eq 5, 3) := by decide +kernel
theorem dL_law__1350 : decode cL_law_ 1350 = .ok (.iconst 0, 1) := by decide +kernel
theorem dL_law__1351 : decode cL_law_ 1351 = .ok (.ireturn, 1) := by decide +kernel
theorem dL_law__1352 : decode cL_law_ 1352 = .ok (.iload 5, 2) := by decide +kernel
theorem dL_law__1354 : decode cL_law_ 1354 = .ok (.ifCond .ne 15, 3) := by decide +kernel
theorem dL_law__1357 : decode cL_law_ 1357 = .ok (.aload_n 3, 1) := by decide +kernel
theorem dL_law__1358 : decode cL_law_ 1358 = .ok (.iconst 0, 1) := by decide +kernel
theorem dL_law__1359 : decode cL_law_ 1359 = .ok (.laload, 1) := by decide +kernel
theorem dL_law__1360 : decode cL_law_ 1360 = .ok (.iload 6, 2) := by decide +kernel
theorem dL_law__1362 : decode cL_law_ 1362 = .ok (.i2l, 1) := by decide +kernel
theorem dL_law__1363 : decode cL_law_ 1363 = .ok (.lcmp, 1) := by decide +kernel
theorem dL_law__1364 : decode cL_law_ 1364 = .ok (.ifCond .eq 5, 3) := by decide +kernel
theorem dL_law__1367 : decode cL_law_ 1367 = .ok (.iconst 0, 1) := by decide +kernel
theorem dL_law__1368 : decode cL_law_ 1368 = .ok (.ireturn, 1) := by decide +kernel
theorem dL_law__1369 : decode cL_law_ 1369 = .ok (.goto 248, 3) := by decide +kernel
theorem dL_law__1372 : decode cL_law_ 1372 = .ok (.aload_n 1, 1) := by decide +kernel
theorem dL_law__1373 : decode cL_law_ 1373 = .ok (.aload_n 0, 1) := by decide +kernel
theorem dL_law__1374 : decode cL_law_ 1374 = .ok (.iload 4, 2) := by decide +kernel
theorem dL_law__1376 : decode cL_law_ 1376 = .ok (.iconst 1, 1) := by decide +kernel
theorem dL_law__1377 : decode cL_law_ 1377 = .ok (.iadd, 1) := by decide +kernel
theorem dL_law__1378 : decode cL_law_ 1378 = .ok (.iaload, 1) := by decide +kernel
theorem dL_law__1379 : decode cL_law_ 1379 = .ok (.aload_n 3, 1) := by decide +kernel
theorem dL_law__1380 : decode cL_law_ 1380 = .ok (.invokestatic 153, 3) := by decide +kernel
theorem dL_law__1383 : decode cL_law_ 1383 = .ok (.istore 5, 2) := by decide +kernel
theorem dL_law__1385 : decode cL_law_ 1385 = .ok (.aload_n 2, 1) := by decide +kernel
theorem dL_law__1386 : decode cL_law_ 1386 = .ok (.aload_n 0, 1) := by decide +kernel
theorem dL_law__1387 : decode cL_law_ 1387 = .ok (.iload 4, 2) := by decide +kernel
theorem dL_law__1389 : decode cL_law_ 1389 = .ok (.iconst 1, 1) := by decide +kernel
theorem dL_law__1390 : decode cL_law_ 1390 = .ok (.iadd, 1) := by decide +kernel
theorem dL_law__1391 : decode cL_law_ 1391 = .ok (.iaload, 1) := by decide +kernel
theorem dL_law__1392 : decode cL_law_ 1392 = .ok (.invokevirtual 155, 3) := by decide +kernel
theorem dL_law__1395 : decode cL_law_ 1395 = .ok (.istore 6, 2) := by decide +kernel
theorem dL_law__1397 : decode cL_law_ 1397 = .ok (.aload_n 2, 1) := by decide +kernel
theorem dL_law__1398 : decode cL_law_ 1398 = .ok (.invokevirtual 96, 3) := by decide +kernel
theorem dL_law__1401 : decode cL_law_ 1401 = .ok (.iload 5, 2) := by decide +kernel
theorem dL_law__1403 : decode cL_law_ 1403 = .ok (.if_icmp .eq 5, 3) := by decide +kernel
theorem dL_law__1406 : decode cL_law_ 1406 = .ok (.iconst 0, 1) := by decide +kernel
theorem dL_law__1407 : decode cL_law_ 1407 = .ok (.ireturn, 1) := by decide +kernel
theorem dL_law__1408 : decode cL_law_ 1408 = .ok (.iload 5, 2) := by decide +kernel
theorem dL_law__1410 : decode cL_law_ 1410 = .ok (.ifCond .ne 15, 3) := by decide +kernel
theorem dL_law__1413 : decode cL_law_ 1413 = .ok (.aload_n 3, 1) := by decide +kernel
theorem dL_law__1414 : decode cL_law_ 1414 = .ok (.iconst 0, 1) := by decide +kernel
theorem dL_law__1415 : decode cL_law_ 1415 = .ok (.laload, 1) := by decide +kernel
theorem dL_law__1416 : decode cL_law_ 1416 = .ok (.iload 6, 2) := by decide +kernel
theorem dL_law__1418 : decode cL_law_ 1418 = .ok (.i2l, 1) := by decide +kernel
theorem dL_law__1419 : decode cL_law_ 1419 = .ok (.lcmp, 1) := by decide +kernel
theorem dL_law__1420 : decode cL_law_ 1420 = .ok (.ifCond .eq 5, 3) := by decide +kernel
theorem dL_law__1423 : decode cL_law_ 1423 = .ok (.iconst 0, 1) := by decide +kernel
theorem dL_law__1424 : decode cL_law_ 1424 = .ok (.ireturn, 1) := by decide +kernel
theorem dL_law__1425 : decode cL_law_ 1425 = .ok (.goto 192, 3) := by decide +kernel
theorem dL_law__1428 : decode cL_law_ 1428 = .ok (.aload_n 1, 1) := by decide +kernel
theorem dL_law__1429 : decode cL_law_ 1429 = .ok (.aload_n 0, 1) := by decide +kernel
theorem dL_law__1430 : decode cL_law_ 1430 = .ok (.iload 4, 2) := by decide +kernel
theorem dL_law__1432 : decode cL_law_ 1432 = .ok (.iconst 1, 1) := by decide +kernel
theorem dL_law__1433 : decode cL_law_ 1433 = .ok (.iadd, 1) := by decide +kernel
theorem dL_law__1434 : decode cL_law_ 1434 = .ok (.iaload, 1) := by decide +kernel
theorem dL_law__1435 : decode cL_law_ 1435 = .ok (.aload_n 0, 1) := by decide +kernel
theorem dL_law__1436 : decode cL_law_ 1436 = .ok (.iload 4, 2) := by decide +kernel
theorem dL_law__1438 : decode cL_law_ 1438 = .ok (.iconst 2, 1) := by decide +kernel
theorem dL_law__1439 : decode cL_law_ 1439 = .ok (.iadd, 1) := by decide +kernel
theorem dL_law__1440 : decode cL_law_ 1440 = .ok (.iaload, 1) := by decide +kernel
theorem dL_law__1441 : decode cL_law_ 1441 = .ok (.aload_n 3, 1) := by decide +kernel
theorem dL_law__1442 : decode cL_law_ 1442 = .ok (.invokestatic 156, 3) := by decide +kernel
theorem dL_law__1445 : decode cL_law_ 1445 = .ok (.istore 5, 2) := by decide +kernel
theorem dL_law__1447 : decode cL_law_ 1447 = .ok (.aload_n 2, 1) := by decide +kernel
theorem dL_law__1448 : decode cL_law_ 1448 = .ok (.aload_n 0, 1) := by decide +kernel
theorem dL_law__1449 : decode cL_law_ 1449 = .ok (.iload 4, 2) := by decide +kernel
theorem dL_law__1451 : decode cL_law_ 1451 = .ok (.iconst 1, 1) := by decide +kernel
theorem dL_law__1452 : decode cL_law_ 1452 = .ok (.iadd, 1) := by decide +kernel
theorem dL_law__1453 : decode cL_law_ 1453 = .ok (.iaload, 1) := by decide +kernel
theorem dL_law__1454 : decode cL_law_ 1454 = .ok (.aload_n 0, 1) := by decide +kernel
theorem dL_law__1455 : decode cL_law_ 1455 = .ok (.iload 4, 2) := by decide +kernel
theorem dL_law__1457 : decode cL_law_ 1457 = .ok (.iconst 2, 1) := by decide +kernel
theorem dL_law__1458 : decode cL_law_ 1458 = .ok (.iadd, 1) := by decide +kernel
theorem dL_law__1459 : decode cL_law_ 1459 = .ok (.iaload, 1) := by decide +kernel
theorem dL_law__1460 : decode cL_law_ 1460 = .ok (.invokevirtual 158, 3) := by decide +kernel
theorem dL_law__1463 : decode cL_law_ 1463 = .ok (.lstore 6, 2) := by decide +kernel
theorem dL_law__1465 : decode cL_law_ 1465 = .ok (.aload_n 2, 1) := by decide +kernel
theorem dL_law__1466 : decode cL_law_ 1466 = .ok (.invokevirtual 96, 3) := by decide +kernel
theorem dL_law__1469 : decode cL_law_ 1469 = .ok (.iload 5, 2) := by decide +kernel
theorem dL_law__1471 : decode cL_law_ 1471 = .ok (.if_icmp .eq 5, 3) := by decide +kernel
theorem dL_law__1474 : decode cL_law_ 1474 = .ok (.iconst 0, 1) := by decide +kernel
theorem dL_law__1475 : decode cL_law_ 1475 = .ok (.ireturn, 1) := by decide +kernel
theorem dL_law__1476 : decode cL_law_ 1476 = .ok (.iload 5, 2) := by decide +kernel
theorem dL_law__1478 : decode cL_law_ 1478 = .ok (.ifCond .ne 14, 3) := by decide +kernel
theorem dL_law__1481 : decode cL_law_ 1481 = .ok (.aload_n 3, 1) := by decide +kernel
theorem dL_law__1482 : decode cL_law_ 1482 = .ok (.iconst 0, 1) := by decide +kernel
theorem dL_law__1483 : decode cL_law_ 1483 = .ok (.laload, 1) := by decide +kernel
theorem dL_law__1484 : decode cL_law_ 1484 = .ok (.lload 6, 2) := by decide +kernel
theorem dL_law__1486 : decode cL_law_ 1486 = .ok (.lcmp, 1) := by decide +kernel
theorem dL_law__1487 : decode cL_law_ 1487 = .ok (.ifCond .eq 5, 3) := by decide +kernel
theorem dL_law__1490 : decode cL_law_ 1490 = .ok (.iconst 0, 1) := by decide +kernel
theorem dL_law__1491 : decode cL_law_ 1491 = .ok (.ireturn, 1) := by decide +kernel
theorem dL_law__1492 : decode cL_law_ 1492 = .ok (.goto 125, 3) := by decide +kernel
theorem dL_law__1495 : decode cL_law_ 1495 = .ok (.aload_n 1, 1) := by decide +kernel
theorem dL_law__1496 : decode cL_law_ 1496 = .ok (.aload_n 0, 1) := by decide +kernel
theorem dL_law__1497 : decode cL_law_ 1497 = .ok (.iload 4, 2) := by decide +kernel
theorem dL_law__1499 : decode cL_law_ 1499 = .ok (.iconst 1, 1) := by decide +kernel
theorem dL_law__1500 : decode cL_law_ 1500 = .ok (.iadd, 1) := by decide +kernel
theorem dL_law__1501 : decode cL_law_ 1501 = .ok (.iaload, 1) := by decide +kernel
theorem dL_law__1502 : decode cL_law_ 1502 = .ok (.aload_n 0, 1) := by decide +kernel
theorem dL_law__1503 : decode cL_law_ 1503 = .ok (.iload 4, 2) := by decide +kernel
theorem dL_law__1505 : decode cL_law_ 1505 = .ok (.iconst 2, 1) := by decide +kernel
theorem dL_law__1506 : decode cL_law_ 1506 = .ok (.iadd, 1) := by decide +kernel
theorem dL_law__1507 : decode cL_law_ 1507 = .ok (.iaload, 1) := by decide +kernel
theorem dL_law__1508 : decode cL_law_ 1508 = .ok (.aload_n 3, 1) := by decide +kernel
theorem dL_law__1509 : decode cL_law_ 1509 = .ok (.invokestatic 159, 3) := by decide +kernel
theorem dL_law__1512 : decode cL_law_ 1512 = .ok (.istore 5, 2) := by decide +kernel
theorem dL_law__1514 : decode cL_law_ 1514 = .ok (.aload_n 2, 1) := by decide +kernel
theorem dL_law__1515 : decode cL_law_ 1515 = .ok (.aload_n 0, 1) := by decide +kernel
theorem dL_law__1516 : decode cL_law_ 1516 = .ok (.iload 4, 2) := by decide +kernel
theorem dL_law__1518 : decode cL_law_ 1518 = .ok (.iconst 1, 1) := by decide +kernel
theorem dL_law__1519 : decode cL_law_ 1519 = .ok (.iadd, 1) := by decide +kernel
theorem dL_law__1520 : decode cL_law_ 1520 = .ok (.iaload, 1) := by decide +kernel
theorem dL_law__1521 : decode cL_law_ 1521 = .ok (.aload_n 0, 1) := by decide +kernel
theorem dL_law__1522 : decode cL_law_ 1522 = .ok (.iload 4, 2) := by decide +kernel
theorem dL_law__1524 : decode cL_law_ 1524 = .ok (.iconst 2, 1) := by decide +kernel
theorem dL_law__1525 : decode cL_law_ 1525 = .ok (.iadd, 1) := by decide +kernel
theorem dL_law__1526 : decode cL_law_ 1526 = .ok (.iaload, 1) := by decide +kernel
theorem dL_law__1527 : decode cL_law_ 1527 = .ok (.invokevirtual 161, 3) := by decide +kernel
theorem dL_law__1530 : decode cL_law_ 1530 = .ok (.lstore 6, 2) := by decide +kernel
theorem dL_law__1532 : decode cL_law_ 1532 = .ok (.aload_n 2, 1) := by decide +kernel
theorem dL_law__1533 : decode cL_law_ 1533 = .ok (.invokevirtual 96, 3) := by decide +kernel
theorem dL_law__1536 : decode cL_law_ 1536 = .ok (.iload 5, 2) := by decide +kernel
theorem dL_law__1538 : decode cL_law_ 1538 = .ok (.if_icmp .eq 5, 3) := by decide +kernel
theorem dL_law__1541 : decode cL_law_ 1541 = .ok (.iconst 0, 1) := by decide +kernel
theorem dL_law__1542 : decode cL_law_ 1542 = .ok (.ireturn, 1) := by decide +kernel
theorem dL_law__1543 : decode cL_law_ 1543 = .ok (.iload 5, 2) := by decide +kernel
theorem dL_law__1545 : decode cL_law_ 1545 = .ok (.ifCond .ne 14, 3) := by decide +kernel
theorem dL_law__1548 : decode cL_law_ 1548 = .ok (.aload_n 3, 1) := by decide +kernel
theorem dL_law__1549 : decode cL_law_ 1549 = .ok (.iconst 0, 1) := by decide +kernel
theorem dL_law__1550 : decode cL_law_ 1550 = .ok (.laload, 1) := by decide +kernel
theorem dL_law__1551 : decode cL_law_ 1551 = .ok (.lload 6, 2) := by decide +kernel
theorem dL_law__1553 : decode cL_law_ 1553 = .ok (.lcmp, 1) := by decide +kernel
theorem dL_law__1554 : decode cL_law_ 1554 = .ok (.ifCond .eq 5, 3) := by decide +kernel
theorem dL_law__1557 : decode cL_law_ 1557 = .ok (.iconst 0, 1) := by decide +kernel
theorem dL_law__1558 : decode cL_law_ 1558 = .ok (.ireturn, 1) := by decide +kernel
theorem dL_law__1559 : decode cL_law_ 1559 = .ok (.goto 58, 3) := by decide +kernel
theorem dL_law__1562 : decode cL_law_ 1562 = .ok (.aload_n 1, 1) := by decide +kernel
theorem dL_law__1563 : decode cL_law_ 1563 = .ok (.aload_n 0, 1) := by decide +kernel
theorem dL_law__1564 : decode cL_law_ 1564 = .ok (.iload 4, 2) := by decide +kernel
theorem dL_law__1566 : decode cL_law_ 1566 = .ok (.iconst 1, 1) := by decide +kernel
theorem dL_law__1567 : decode cL_law_ 1567 = .ok (.iadd, 1) := by decide +kernel
theorem dL_law__1568 : decode cL_law_ 1568 = .ok (.iaload, 1) := by decide +kernel
theorem dL_law__1569 : decode cL_law_ 1569 = .ok (.aload_n 3, 1) := by decide +kernel
theorem dL_law__1570 : decode cL_law_ 1570 = .ok (.invokestatic 162, 3) := by decide +kernel
theorem dL_law__1573 : decode cL_law_ 1573 = .ok (.istore 5, 2) := by decide +kernel
theorem dL_law__1575 : decode cL_law_ 1575 = .ok (.aload_n 2, 1) := by decide +kernel
theorem dL_law__1576 : decode cL_law_ 1576 = .ok (.aload_n 0, 1) := by decide +kernel
theorem dL_law__1577 : decode cL_law_ 1577 = .ok (.iload 4, 2) := by decide +kernel
theorem dL_law__1579 : decode cL_law_ 1579 = .ok (.iconst 1, 1) := by decide +kernel
theorem dL_law__1580 : decode cL_law_ 1580 = .ok (.iadd, 1) := by decide +kernel
theorem dL_law__1581 : decode cL_law_ 1581 = .ok (.iaload, 1) := by decide +kernel
theorem dL_law__1582 : decode cL_law_ 1582 = .ok (.invokevirtual 164, 3) := by decide +kernel
theorem dL_law__1585 : decode cL_law_ 1585 = .ok (.lstore 6, 2) := by decide +kernel
theorem dL_law__1587 : decode cL_law_ 1587 = .ok (.aload_n 2, 1) := by decide +kernel
theorem dL_law__1588 : decode cL_law_ 1588 = .ok (.invokevirtual 96, 3) := by decide +kernel
theorem dL_law__1591 : decode cL_law_ 1591 = .ok (.iload 5, 2) := by decide +kernel
theorem dL_law__1593 : decode cL_law_ 1593 = .ok (.if_icmp .eq 5, 3) := by decide +kernel
theorem dL_law__1596 : decode cL_law_ 1596 = .ok (.iconst 0, 1) := by decide +kernel
theorem dL_law__1597 : decode cL_law_ 1597 = .ok (.ireturn, 1) := by decide +kernel
theorem dL_law__1598 : decode cL_law_ 1598 = .ok (.iload 5, 2) := by decide +kernel
theorem dL_law__1600 : decode cL_law_ 1600 = .ok (.ifCond .ne 14, 3) := by decide +kernel
theorem dL_law__1603 : decode cL_law_ 1603 = .ok (.aload_n 3, 1) := by decide +kernel
theorem dL_law__1604 : decode cL_law_ 1604 = .ok (.iconst 0, 1) := by decide +kernel
theorem dL_law__1605 : decode cL_law_ 1605 = .ok (.laload, 1) := by decide +kernel
theorem dL_law__1606 : decode cL_law_ 1606 = .ok (.lload 6, 2) := by decide +kernel
theorem dL_law__1608 : decode cL_law_ 1608 = .ok (.lcmp, 1) := by decide +kernel
theorem dL_law__1609 : decode cL_law_ 1609 = .ok (.ifCond .eq 5, 3) := by decide +kernel
theorem dL_law__1612 : decode cL_law_ 1612 = .ok (.iconst 0, 1) := by decide +kernel
theorem dL_law__1613 : decode cL_law_ 1613 = .ok (.ireturn, 1) := by decide +kernel
theorem dL_law__1614 : decode cL_law_ 1614 = .ok (.goto 3, 3) := by decide +kernel
theorem dL_law__1617 : decode cL_law_ 1617 = .ok (.iinc 4 7, 3) := by decide +kernel
theorem dL_law__1620 : decode cL_law_ 1620 = .ok (.goto (-1597), 3) := by decide +kernel
theorem dL_law__1623 : decode cL_law_ 1623 = .ok (.iconst 1, 1) := by decide +kernel
theorem dL_law__1624 : decode cL_law_ 1624 = .ok (.ireturn, 1) := by decide +kernel
end
section
/-- the words that every method is given: those of the tables that a callee may rely on -/
def AW : List Cond := lw_tbl.filter goodWord
theorem aw_in {w : Cond} (h : w ∈ lw_tbl) (g : goodWord w = true) : w ∈ AW := List.mem_filter.mpr ⟨h, g⟩
theorem aw_ok : ∀ w ∈ AW, goodWord w = true := fun _ h => (List.mem_filter.mp h).2
theorem aw_tb : ∀ w ∈ AW, w ∈ lw_tbl := fun _ h => (List.mem_filter.mp h).1
theorem aw_t1 {w : Cond} (i : Nat) (h : tables_1_1[i]? = some w) : w ∈ lw_tbl := List.mem_append_right _ (List.mem_append_left _ (List.mem_of_getElem? h))
theorem aw_t2 {w : Cond} (i : Nat) (h : tables_1_2[i]? = some w) : w ∈ lw_tbl := List.mem_append_right _ (List.mem_append_right _ (List.mem_append_left _ (List.mem_of_getElem? h)))
theorem aw_t3 {w : Cond} (i : Nat) (h : tables_1_3[i]? = some w) : w ∈ lw_tbl := List.mem_append_right _ (List.mem_append_right _ (List.mem_append_right _ (List.mem_append_left _ (List.mem_of_getElem? h))))
theorem aw_t4 {w : Cond} (i : Nat) (h : tables_1_4[i]? = some w) : w ∈ lw_tbl := List.mem_append_right _ (List.mem_append_right _ (List.mem_append_right _ (List.mem_append_right _ (List.mem_append_left _ (List.mem_of_getElem? h)))))
theorem aw_t5 {w : Cond} (i : Nat) (h : tables_1_5[i]? = some w) : w ∈ lw_tbl := List.mem_append_right _ (List.mem_append_right _ (List.mem_append_right _ (List.mem_append_right _ (List.mem_append_right _ (List.mem_of_getElem? h)))))
theorem aw_t0 {w : Cond} (i : Nat) (h : (k2_sels lw_privs)[i]? = some w) : w ∈ lw_tbl := List.mem_append_left _ (List.mem_of_getElem? h)
theorem aw_1_0 : Cond.initialized RL ∈ AW := aw_in (aw_t1 0 rfl) rfl
theorem aw_1_1 : Cond.initialized RX4 ∈ AW := aw_in (aw_t1 1 rfl) rfl
theorem aw_1_2 : Cond.initialized RJxa1e45 ∈ AW := aw_in (aw_t1 2 rfl) rfl
theorem aw_1_3 : Cond.initialized RJxc12de ∈ AW := aw_in (aw_t1 3 rfl) rfl
theorem aw_1_4 : Cond.initialized RJx4a65c ∈ AW := aw_in (aw_t1 4 rfl) rfl
theorem aw_1_5 : Cond.initialized RX1 ∈ AW := aw_in (aw_t1 5 rfl) rfl
theorem aw_1_6 : Cond.initialized RX5 ∈ AW := aw_in (aw_t1 6 rfl) rfl
theorem aw_1_7 : Cond.initialized RX3 ∈ AW := aw_in (aw_t1 7 rfl) rfl
theorem aw_1_8 : Cond.initialized "java/lang/Throwable" ∈ AW := aw_in (aw_t1 8 rfl) rfl
theorem aw_1_9 : Cond.initialized "java/lang/Exception" ∈ AW := aw_in (aw_t1 9 rfl) rfl
theorem aw_1_10 : Cond.initialized "java/lang/RuntimeException" ∈ AW := aw_in (aw_t1 10 rfl) rfl
theorem aw_1_11 : Cond.initialized "java/lang/IllegalArgumentException" ∈ AW := aw_in (aw_t1 11 rfl) rfl
theorem aw_1_12 : Cond.initialized "java/lang/IllegalStateException" ∈ AW := aw_in (aw_t1 12 rfl) rfl
theorem aw_1_13 : Cond.initialized RJ8 ∈ AW := aw_in (aw_t1 13 rfl) rfl
theorem aw_1_14 : Cond.initialized RJ9 ∈ AW := aw_in (aw_t1 14 rfl) rfl
theorem aw_1_15 : Cond.initialized RJ7 ∈ AW := aw_in (aw_t1 15 rfl) rfl
theorem aw_1_16 : Cond.initialized RJ10 ∈ AW := aw_in (aw_t1 16 rfl) rfl
theorem aw_1_17 : Cond.initialized "java/lang/IndexOutOfBoundsException" ∈ AW := aw_in (aw_t1 17 rfl) rfl
theorem aw_1_18 : Cond.initialized RJ15 ∈ AW := aw_in (aw_t1 18 rfl) rfl
theorem aw_1_19 : Cond.initialized RJ3 ∈ AW := aw_in (aw_t1 19 rfl) rfl
theorem aw_1_20 : Cond.initialized RX0 ∈ AW := aw_in (aw_t1 20 rfl) rfl
theorem aw_1_21 : Cond.initialized RX2 ∈ AW := aw_in (aw_t1 21 rfl) rfl
theorem aw_1_22 : Cond.classLink RL 8 RX4 ∈ AW := aw_in (aw_t1 22 rfl) rfl
theorem aw_1_23 : Cond.instantiable RX4 11 ∈ AW := aw_in (aw_t1 23 rfl) rfl
theorem aw_1_24 : Cond.methodLink RL 86 yX4_init ∈ AW := aw_in (aw_t1 24 rfl) rfl
theorem aw_1_25 : Cond.instanceMethod yX4_init ∈ AW := aw_in (aw_t1 25 rfl) rfl
theorem aw_1_26 : Cond.code yX4_init prog_1_method_1_code 1 (Option.none : Option Jvm.ClassFile.FieldType) ∈ AW := aw_in (aw_t1 26 rfl) rfl
theorem aw_1_27 : Cond.methodLink RX4 1 ⟨"java/lang/Object", "<init>", "()V"⟩ ∈ AW := aw_in (aw_t1 27 rfl) rfl
theorem aw_1_28 : Cond.instanceMethod ⟨"java/lang/Object", "<init>", "()V"⟩ ∈ AW := aw_in (aw_t1 28 rfl) rfl
theorem aw_1_29 : Cond.code ⟨"java/lang/Object", "<init>", "()V"⟩ object_method_1_code 1 (Option.none : Option Jvm.ClassFile.FieldType) ∈ AW := aw_in (aw_t1 29 rfl) rfl
theorem aw_1_30 : Cond.classLink RX4 7 RJx4a65c ∈ AW := aw_in (aw_t1 30 rfl) rfl
theorem aw_1_31 : Cond.instantiable RJx4a65c 3 ∈ AW := aw_in (aw_t1 31 rfl) rfl
theorem aw_1_32 : Cond.methodLink RX4 9 yJx4a65c_init_da8c8 ∈ AW := aw_in (aw_t1 32 rfl) rfl
theorem aw_1_33 : Cond.instanceMethod yJx4a65c_init_da8c8 ∈ AW := aw_in (aw_t1 33 rfl) rfl
theorem aw_1_34 : Cond.code yJx4a65c_init_da8c8 prog_22_method_2_code 1 (Option.none : Option Jvm.ClassFile.FieldType) ∈ AW := aw_in (aw_t1 34 rfl) rfl
theorem aw_1_35 : Cond.methodLink RJx4a65c 1 yJxc12de_init_da8c8 ∈ AW := aw_in (aw_t1 35 rfl) rfl
theorem aw_1_36 : Cond.instanceMethod yJxc12de_init_da8c8 ∈ AW := aw_in (aw_t1 36 rfl) rfl
theorem aw_1_37 : Cond.code yJxc12de_init_da8c8 prog_21_method_1_code 1 (Option.none : Option Jvm.ClassFile.FieldType) ∈ AW := aw_in (aw_t1 37 rfl) rfl
theorem aw_1_38 : Cond.methodLink RJxc12de 1 yJxa1e45_init_da8c8 ∈ AW := aw_in (aw_t1 38 rfl) rfl
theorem aw_1_39 : Cond.instanceMethod yJxa1e45_init_da8c8 ∈ AW := aw_in (aw_t1 39 rfl) rfl
theorem aw_1_40 : Cond.code yJxa1e45_init_da8c8 prog_20_method_1_code 1 (Option.none : Option Jvm.ClassFile.FieldType) ∈ AW := aw_in (aw_t1 40 rfl) rfl
theorem aw_1_41 : Cond.methodLink RJxa1e45 1 ⟨"java/lang/Object", "<init>", "()V"⟩ ∈ AW := aw_in (aw_t1 41 rfl) rfl
theorem aw_1_42 : Cond.fieldLink RJx4a65c 39 RJx4a65c "DEFAULTCAPACITY_EMPTY_ELEMENTDATA" "[Ljava/lang/Object;" ∈ AW := aw_in (aw_t1 42 rfl) rfl
theorem tw_1_43 : Cond.laysStatic RJx4a65c "DEFAULTCAPACITY_EMPTY_ELEMENTDATA" "[Ljava/lang/Object;" ∈ lw_tbl := aw_t1 43 rfl
theorem aw_1_44 : Cond.fieldLink RJx4a65c 9 RJx4a65c "elementData" "[Ljava/lang/Object;" ∈ AW := aw_in (aw_t1 44 rfl) rfl
theorem aw_1_45 : Cond.fieldLink RJx4a65c 48 RJx4a65c "size" "I" ∈ AW := aw_in (aw_t1 45 rfl) rfl
theorem aw_1_46 : Cond.fieldLink RJxc12de 7 RJxc12de "modCount" "I" ∈ AW := aw_in (aw_t1 46 rfl) rfl
theorem aw_1_47 : Cond.fieldLink RJx4a65c 63 RJx4a65c "modCount" "I" ∈ AW := aw_in (aw_t1 47 rfl) rfl
theorem aw_1_48 : Cond.sameField RJx4a65c RJxc12de "modCount" "I" ∈ AW := aw_in (aw_t1 48 rfl) rfl
theorem aw_1_49 : Cond.lays RJx4a65c RJx4a65c "elementData" "[Ljava/lang/Object;" ∈ AW := aw_in (aw_t1 49 rfl) rfl
theorem aw_1_51 : Cond.lays RJx4a65c RJx4a65c "size" "I" ∈ AW := aw_in (aw_t1 51 rfl) rfl
theorem aw_1_53 : Cond.lays RJx4a65c RJxc12de "modCount" "I" ∈ AW := aw_in (aw_t1 53 rfl) rfl
theorem aw_1_55 : Cond.superclass RJx4a65c RJxc12de ∈ AW := aw_in (aw_t1 55 rfl) rfl
theorem aw_1_56 : Cond.classLink RX4 22 RX1 ∈ AW := aw_in (aw_t1 56 rfl) rfl
theorem aw_1_57 : Cond.instantiable RX1 1 ∈ AW := aw_in (aw_t1 57 rfl) rfl
theorem nw_1_58 : Cond.methodLinkNest RX4 24 yX1_init RX4 ∈ lw_tbl := aw_t1 58 rfl
theorem aw_1_59 : Cond.instanceMethod yX1_init ∈ AW := aw_in (aw_t1 59 rfl) rfl
theorem aw_1_60 : Cond.code yX1_init prog_3_method_1_code 1 (Option.none : Option Jvm.ClassFile.FieldType) ∈ AW := aw_in (aw_t1 60 rfl) rfl
theorem aw_1_61 : Cond.methodLink RX1 1 ⟨"java/lang/Object", "<init>", "()V"⟩ ∈ AW := aw_in (aw_t1 61 rfl) rfl
theorem aw_1_62 : Cond.fieldLink RX1 9 RX1 "values" "[I" ∈ AW := aw_in (aw_t1 62 rfl) rfl
theorem aw_1_63 : Cond.laysFinal RX1 RX1 "values" "[I" ∈ AW := aw_in (aw_t1 63 rfl) rfl
theorem aw_1_65 : Cond.superclass RX1 "java/lang/Object" ∈ AW := aw_in (aw_t1 65 rfl) rfl
theorem aw_1_66 : Cond.arrayClass Jvm.ClassFile.FieldType.int ∈ AW := aw_in (aw_t1 66 rfl) rfl
theorem aw_1_67 : Cond.fieldLink RX4 10 RX4 "stores" "Ljava/util/ArrayList;" ∈ AW := aw_in (aw_t1 67 rfl) rfl
theorem aw_1_68 : Cond.fieldLink RX4 16 RX4 "customers" "Ljava/util/ArrayList;" ∈ AW := aw_in (aw_t1 68 rfl) rfl
theorem aw_1_69 : Cond.fieldLink RX4 19 RX4 "laws" "Ljava/util/ArrayList;" ∈ AW := aw_in (aw_t1 69 rfl) rfl
theorem aw_1_70 : Cond.fieldLink RX4 25 RX4 "prices" "LGasvault$Hours;" ∈ AW := aw_in (aw_t1 70 rfl) rfl
theorem aw_1_71 : Cond.fieldLink RX4 29 RX4 "hour" "I" ∈ AW := aw_in (aw_t1 71 rfl) rfl
theorem aw_1_72 : Cond.fieldLink RX4 33 RX4 "heatOfWhatComes" "I" ∈ AW := aw_in (aw_t1 72 rfl) rfl
theorem aw_1_73 : Cond.fieldLink RX4 36 RX4 "lastHourIn" "I" ∈ AW := aw_in (aw_t1 73 rfl) rfl
theorem aw_1_74 : Cond.fieldLink RX4 39 RX4 "lastHourOut" "I" ∈ AW := aw_in (aw_t1 74 rfl) rfl
theorem aw_1_75 : Cond.fieldLink RX4 42 RX4 "came" "J" ∈ AW := aw_in (aw_t1 75 rfl) rfl
theorem aw_1_76 : Cond.fieldLink RX4 46 RX4 "wentOut" "J" ∈ AW := aw_in (aw_t1 76 rfl) rfl
theorem aw_1_77 : Cond.fieldLink RX4 49 RX4 "lost" "J" ∈ AW := aw_in (aw_t1 77 rfl) rfl
theorem aw_1_78 : Cond.laysFinal RX4 RX4 "stores" "Ljava/util/ArrayList;" ∈ AW := aw_in (aw_t1 78 rfl) rfl
theorem aw_1_80 : Cond.laysFinal RX4 RX4 "customers" "Ljava/util/ArrayList;" ∈ AW := aw_in (aw_t1 80 rfl) rfl
theorem aw_1_82 : Cond.laysFinal RX4 RX4 "laws" "Ljava/util/ArrayList;" ∈ AW := aw_in (aw_t1 82 rfl) rfl
theorem aw_1_84 : Cond.laysFinal RX4 RX4 "prices" "LGasvault$Hours;" ∈ AW := aw_in (aw_t1 84 rfl) rfl
theorem aw_1_86 : Cond.lays RX4 RX4 "hour" "I" ∈ AW := aw_in (aw_t1 86 rfl) rfl
theorem aw_1_88 : Cond.lays RX4 RX4 "heatOfWhatComes" "I" ∈ AW := aw_in (aw_t1 88 rfl) rfl
theorem aw_1_90 : Cond.lays RX4 RX4 "lastHourIn" "I" ∈ AW := aw_in (aw_t1 90 rfl) rfl
theorem aw_1_92 : Cond.lays RX4 RX4 "lastHourOut" "I" ∈ AW := aw_in (aw_t1 92 rfl) rfl
theorem aw_1_94 : Cond.lays RX4 RX4 "came" "J" ∈ AW := aw_in (aw_t1 94 rfl) rfl
theorem aw_1_96 : Cond.lays RX4 RX4 "wentOut" "J" ∈ AW := aw_in (aw_t1 96 rfl) rfl
theorem aw_1_98 : Cond.lays RX4 RX4 "lost" "J" ∈ AW := aw_in (aw_t1 98 rfl) rfl
theorem aw_1_100 : Cond.superclass RX4 "java/lang/Object" ∈ AW := aw_in (aw_t1 100 rfl) rfl
theorem aw_1_101 : Cond.methodLink RL 90 yL_store ∈ AW := aw_in (aw_t1 101 rfl) rfl
theorem aw_1_102 : Cond.static yL_store ∈ AW := aw_in (aw_t1 102 rfl) rfl
theorem aw_1_103 : Cond.codeWith yL_store method_3_code 9 (Option.some Jvm.ClassFile.FieldType.int) ([((0 : Nat), (18 : Nat), (21 : Nat), (13 : Nat)), ((0 : Nat), (18 : Nat), (25 : Nat), (15 : Nat))]) ∈ AW := aw_in (aw_t1 103 rfl) rfl
theorem aw_1_104 : Cond.classLink RL 13 "java/lang/IllegalArgumentException" ∈ AW := aw_in (aw_t1 104 rfl) rfl
theorem aw_1_105 : Cond.classLink RL 15 "java/lang/IllegalStateException" ∈ AW := aw_in (aw_t1 105 rfl) rfl
theorem aw_1_106 : Cond.methodLink RL 7 yX4_store ∈ AW := aw_in (aw_t1 106 rfl) rfl
theorem aw_1_107 : Cond.instanceMethod yX4_store ∈ AW := aw_in (aw_t1 107 rfl) rfl
theorem aw_1_108 : Cond.selects RX4 yX4_store yX4_store ∈ AW := aw_in (aw_t1 108 rfl) rfl
theorem aw_1_109 : Cond.code yX4_store prog_1_method_2_code 8 (Option.some Jvm.ClassFile.FieldType.int) ∈ AW := aw_in (aw_t1 109 rfl) rfl
theorem aw_1_110 : Cond.methodLink RX4 52 yX4_isWithin ∈ AW := aw_in (aw_t1 110 rfl) rfl
theorem aw_1_111 : Cond.static yX4_isWithin ∈ AW := aw_in (aw_t1 111 rfl) rfl
theorem aw_1_112 : Cond.code yX4_isWithin prog_1_method_23_code 3 (Option.some Jvm.ClassFile.FieldType.boolean) ∈ AW := aw_in (aw_t1 112 rfl) rfl
theorem aw_1_113 : Cond.constant RX4 56 (100000) ∈ AW := aw_in (aw_t1 113 rfl) rfl
theorem aw_1_114 : Cond.constant RX4 57 (1000000) ∈ AW := aw_in (aw_t1 114 rfl) rfl
theorem aw_1_115 : Cond.methodLink RX4 58 yX3_leastGasFor ∈ AW := aw_in (aw_t1 115 rfl) rfl
theorem aw_1_116 : Cond.static yX3_leastGasFor ∈ AW := aw_in (aw_t1 116 rfl) rfl
theorem aw_1_117 : Cond.code yX3_leastGasFor prog_5_method_2_code 2 (Option.some Jvm.ClassFile.FieldType.int) ∈ AW := aw_in (aw_t1 117 rfl) rfl
theorem aw_1_118 : Cond.methodLink RX4 64 yX3_mostGasFor ∈ AW := aw_in (aw_t1 118 rfl) rfl
theorem aw_1_119 : Cond.static yX3_mostGasFor ∈ AW := aw_in (aw_t1 119 rfl) rfl
theorem aw_1_120 : Cond.code yX3_mostGasFor prog_5_method_3_code 2 (Option.some Jvm.ClassFile.FieldType.int) ∈ AW := aw_in (aw_t1 120 rfl) rfl
theorem aw_1_121 : Cond.classLink RX4 67 "java/lang/IllegalArgumentException" ∈ AW := aw_in (aw_t1 121 rfl) rfl
theorem aw_1_122 : Cond.instantiable "java/lang/IllegalArgumentException" 6 ∈ AW := aw_in (aw_t1 122 rfl) rfl
theorem nw_1_123 : Cond.castable "java/lang/IllegalArgumentException" "java/lang/IllegalArgumentException" ∈ lw_tbl := aw_t1 123 rfl
theorem nw_1_124 : Cond.declares ⟨"java/lang/RuntimeException", "<init>", "()V"⟩ ∈ lw_tbl := aw_t1 124 rfl
theorem nw_1_125 : Cond.declares ⟨"java/lang/RuntimeException", "<init>", "(Ljava/lang/String;)V"⟩ ∈ lw_tbl := aw_t1 125 rfl
theorem nw_1_126 : Cond.declares ⟨"java/lang/Exception", "<init>", "()V"⟩ ∈ lw_tbl := aw_t1 126 rfl
theorem nw_1_127 : Cond.declares ⟨"java/lang/Exception", "<init>", "(Ljava/lang/String;)V"⟩ ∈ lw_tbl := aw_t1 127 rfl
theorem nw_1_128 : Cond.declares ⟨"java/lang/Throwable", "<init>", "()V"⟩ ∈ lw_tbl := aw_t1 128 rfl
theorem nw_1_129 : Cond.declares ⟨"java/lang/Throwable", "<init>", "(Ljava/lang/String;)V"⟩ ∈ lw_tbl := aw_t1 129 rfl
theorem aw_1_130 : Cond.selects "java/lang/IllegalArgumentException" ⟨"java/lang/Throwable", "fillInStackTrace", "(I)Ljava/lang/Throwable;"⟩ ⟨"java/lang/Throwable", "fillInStackTrace", "(I)Ljava/lang/Throwable;"⟩ ∈ AW := aw_in (aw_t1 130 rfl) rfl
theorem aw_1_131 : Cond.selects "java/lang/IllegalArgumentException" ⟨"java/lang/Throwable", "fillInStackTrace", "()Ljava/lang/Throwable;"⟩ ⟨"java/lang/Throwable", "fillInStackTrace", "()Ljava/lang/Throwable;"⟩ ∈ AW := aw_in (aw_t1 131 rfl) rfl
theorem aw_1_132 : Cond.lays "java/lang/IllegalArgumentException" "java/lang/Throwable" "cause" "Ljava/lang/Throwable;" ∈ AW := aw_in (aw_t1 132 rfl) rfl
theorem aw_1_133 : Cond.lays "java/lang/Throwable" "java/lang/Throwable" "cause" "Ljava/lang/Throwable;" ∈ AW := aw_in (aw_t1 133 rfl) rfl
theorem aw_1_134 : Cond.lays "java/lang/IllegalArgumentException" "java/lang/Throwable" "stackTrace" "[Ljava/lang/StackTraceElement;" ∈ AW := aw_in (aw_t1 134 rfl) rfl
theorem aw_1_135 : Cond.lays "java/lang/Throwable" "java/lang/Throwable" "stackTrace" "[Ljava/lang/StackTraceElement;" ∈ AW := aw_in (aw_t1 135 rfl) rfl
theorem aw_1_136 : Cond.lays "java/lang/IllegalArgumentException" "java/lang/Throwable" "suppressedExceptions" "Ljava/util/List;" ∈ AW := aw_in (aw_t1 136 rfl) rfl
theorem aw_1_137 : Cond.lays "java/lang/Throwable" "java/lang/Throwable" "suppressedExceptions" "Ljava/util/List;" ∈ AW := aw_in (aw_t1 137 rfl) rfl
theorem aw_1_138 : Cond.lays "java/lang/IllegalArgumentException" "java/lang/Throwable" "detailMessage" "Ljava/lang/String;" ∈ AW := aw_in (aw_t1 138 rfl) rfl
theorem aw_1_139 : Cond.lays "java/lang/Throwable" "java/lang/Throwable" "detailMessage" "Ljava/lang/String;" ∈ AW := aw_in (aw_t1 139 rfl) rfl
theorem aw_1_140 : Cond.lays "java/lang/IllegalArgumentException" "java/lang/Throwable" "backtrace" "Ljava/lang/Object;" ∈ AW := aw_in (aw_t1 140 rfl) rfl
theorem aw_1_141 : Cond.lays "java/lang/Throwable" "java/lang/Throwable" "backtrace" "Ljava/lang/Object;" ∈ AW := aw_in (aw_t1 141 rfl) rfl
theorem aw_1_142 : Cond.fieldLink "java/lang/Throwable" 198 "java/lang/Throwable" "backtrace" "Ljava/lang/Object;" ∈ AW := aw_in (aw_t1 142 rfl) rfl
theorem aw_1_143 : Cond.superclass "java/lang/Throwable" "java/lang/Object" ∈ AW := aw_in (aw_t1 143 rfl) rfl
theorem aw_1_144 : Cond.instanceMethod ⟨"java/lang/Throwable", "<init>", "()V"⟩ ∈ AW := aw_in (aw_t1 144 rfl) rfl
theorem aw_1_145 : Cond.code ⟨"java/lang/Throwable", "<init>", "()V"⟩ prog_19_method_1_code 1 (Option.none : Option Jvm.ClassFile.FieldType) ∈ AW := aw_in (aw_t1 145 rfl) rfl
theorem aw_1_146 : Cond.methodLink "java/lang/Throwable" 1 ⟨"java/lang/Object", "<init>", "()V"⟩ ∈ AW := aw_in (aw_t1 146 rfl) rfl
theorem aw_1_147 : Cond.fieldLink "java/lang/Throwable" 13 "java/lang/Throwable" "UNASSIGNED_STACK" "[Ljava/lang/StackTraceElement;" ∈ AW := aw_in (aw_t1 147 rfl) rfl
theorem tw_1_148 : Cond.laysStatic "java/lang/Throwable" "UNASSIGNED_STACK" "[Ljava/lang/StackTraceElement;" ∈ lw_tbl := aw_t1 148 rfl
theorem aw_1_149 : Cond.fieldLink "java/lang/Throwable" 20 "java/lang/Throwable" "SUPPRESSED_SENTINEL" "Ljava/util/List;" ∈ AW := aw_in (aw_t1 149 rfl) rfl
theorem tw_1_150 : Cond.laysStatic "java/lang/Throwable" "SUPPRESSED_SENTINEL" "Ljava/util/List;" ∈ lw_tbl := aw_t1 150 rfl
theorem aw_1_151 : Cond.methodLink "java/lang/Throwable" 27 ⟨"java/lang/Throwable", "fillInStackTrace", "()Ljava/lang/Throwable;"⟩ ∈ AW := aw_in (aw_t1 151 rfl) rfl
theorem aw_1_152 : Cond.instanceMethod ⟨"java/lang/Throwable", "fillInStackTrace", "()Ljava/lang/Throwable;"⟩ ∈ AW := aw_in (aw_t1 152 rfl) rfl
theorem aw_1_153 : Cond.sameMethod "java/lang/Throwable" "java/lang/Throwable" "fillInStackTrace" "()Ljava/lang/Throwable;" ∈ AW := aw_in (aw_t1 153 rfl) rfl
theorem aw_1_154 : Cond.selects "java/lang/IllegalStateException" ⟨"java/lang/Throwable", "fillInStackTrace", "()Ljava/lang/Throwable;"⟩ ⟨"java/lang/Throwable", "fillInStackTrace", "()Ljava/lang/Throwable;"⟩ ∈ AW := aw_in (aw_t1 154 rfl) rfl
theorem aw_1_155 : Cond.selects "java/lang/IndexOutOfBoundsException" ⟨"java/lang/Throwable", "fillInStackTrace", "()Ljava/lang/Throwable;"⟩ ⟨"java/lang/Throwable", "fillInStackTrace", "()Ljava/lang/Throwable;"⟩ ∈ AW := aw_in (aw_t1 155 rfl) rfl
theorem aw_1_156 : Cond.codeSync ⟨"java/lang/Throwable", "fillInStackTrace", "()Ljava/lang/Throwable;"⟩ prog_19_method_18_code 1 (Option.some (Jvm.ClassFile.FieldType.object "java/lang/Throwable")) ∈ AW := aw_in (aw_t1 156 rfl) rfl
theorem aw_1_157 : Cond.methodLink "java/lang/Throwable" 202 ⟨"java/lang/Throwable", "fillInStackTrace", "(I)Ljava/lang/Throwable;"⟩ ∈ AW := aw_in (aw_t1 157 rfl) rfl
theorem aw_1_159 : Cond.instanceMethod ⟨"java/lang/Throwable", "fillInStackTrace", "(I)Ljava/lang/Throwable;"⟩ ∈ AW := aw_in (aw_t1 159 rfl) rfl
theorem aw_1_160 : Cond.instantiable "java/lang/Throwable" 6 ∈ AW := aw_in (aw_t1 160 rfl) rfl
theorem aw_1_161 : Cond.native ⟨"java/lang/Throwable", "fillInStackTrace", "(I)Ljava/lang/Throwable;"⟩ ∈ AW := aw_in (aw_t1 161 rfl) rfl
theorem tw_1_162 : Cond.stringRef RX4 69 "an argument of the store is out of range" ∈ lw_tbl := aw_t1 162 rfl
theorem aw_1_163 : Cond.methodLink RX4 71 ⟨"java/lang/IllegalArgumentException", "<init>", "(Ljava/lang/String;)V"⟩ ∈ AW := aw_in (aw_t1 163 rfl) rfl
theorem aw_1_164 : Cond.instanceMethod ⟨"java/lang/IllegalArgumentException", "<init>", "(Ljava/lang/String;)V"⟩ ∈ AW := aw_in (aw_t1 164 rfl) rfl
theorem aw_1_165 : Cond.code ⟨"java/lang/IllegalArgumentException", "<init>", "(Ljava/lang/String;)V"⟩ prog_11_method_2_code 2 (Option.none : Option Jvm.ClassFile.FieldType) ∈ AW := aw_in (aw_t1 165 rfl) rfl
theorem aw_1_166 : Cond.methodLink "java/lang/IllegalArgumentException" 7 ⟨"java/lang/RuntimeException", "<init>", "(Ljava/lang/String;)V"⟩ ∈ AW := aw_in (aw_t1 166 rfl) rfl
theorem aw_1_167 : Cond.instanceMethod ⟨"java/lang/RuntimeException", "<init>", "(Ljava/lang/String;)V"⟩ ∈ AW := aw_in (aw_t1 167 rfl) rfl
theorem aw_1_168 : Cond.code ⟨"java/lang/RuntimeException", "<init>", "(Ljava/lang/String;)V"⟩ prog_16_method_2_code 2 (Option.none : Option Jvm.ClassFile.FieldType) ∈ AW := aw_in (aw_t1 168 rfl) rfl
theorem aw_1_169 : Cond.methodLink "java/lang/RuntimeException" 7 ⟨"java/lang/Exception", "<init>", "(Ljava/lang/String;)V"⟩ ∈ AW := aw_in (aw_t1 169 rfl) rfl
theorem aw_1_170 : Cond.instanceMethod ⟨"java/lang/Exception", "<init>", "(Ljava/lang/String;)V"⟩ ∈ AW := aw_in (aw_t1 170 rfl) rfl
theorem aw_1_171 : Cond.code ⟨"java/lang/Exception", "<init>", "(Ljava/lang/String;)V"⟩ prog_10_method_2_code 2 (Option.none : Option Jvm.ClassFile.FieldType) ∈ AW := aw_in (aw_t1 171 rfl) rfl
theorem aw_1_172 : Cond.methodLink "java/lang/Exception" 7 ⟨"java/lang/Throwable", "<init>", "(Ljava/lang/String;)V"⟩ ∈ AW := aw_in (aw_t1 172 rfl) rfl
theorem aw_1_173 : Cond.instanceMethod ⟨"java/lang/Throwable", "<init>", "(Ljava/lang/String;)V"⟩ ∈ AW := aw_in (aw_t1 173 rfl) rfl
theorem aw_1_174 : Cond.code ⟨"java/lang/Throwable", "<init>", "(Ljava/lang/String;)V"⟩ prog_19_method_2_code 2 (Option.none : Option Jvm.ClassFile.FieldType) ∈ AW := aw_in (aw_t1 174 rfl) rfl
theorem aw_1_175 : Cond.fieldLink "java/lang/Throwable" 198 "java/lang/Throwable" "backtrace" "Ljava/lang/Object;" ∈ AW := aw_in (aw_t1 175 rfl) rfl
theorem aw_1_176 : Cond.fieldLink "java/lang/Throwable" 31 "java/lang/Throwable" "detailMessage" "Ljava/lang/String;" ∈ AW := aw_in (aw_t1 176 rfl) rfl
theorem aw_1_177 : Cond.fieldLink "java/lang/Throwable" 7 "java/lang/Throwable" "cause" "Ljava/lang/Throwable;" ∈ AW := aw_in (aw_t1 177 rfl) rfl
theorem aw_1_178 : Cond.fieldLink "java/lang/Throwable" 17 "java/lang/Throwable" "stackTrace" "[Ljava/lang/StackTraceElement;" ∈ AW := aw_in (aw_t1 178 rfl) rfl
theorem aw_1_179 : Cond.fieldLink "java/lang/Throwable" 24 "java/lang/Throwable" "suppressedExceptions" "Ljava/util/List;" ∈ AW := aw_in (aw_t1 179 rfl) rfl
theorem aw_1_184 : Cond.lays "java/lang/IllegalArgumentException" "java/lang/Throwable" "depth" "I" ∈ AW := aw_in (aw_t1 184 rfl) rfl
theorem aw_1_187 : Cond.superclass "java/lang/IllegalArgumentException" "java/lang/RuntimeException" ∈ AW := aw_in (aw_t1 187 rfl) rfl
theorem aw_1_188 : Cond.arrayClass Jvm.ClassFile.FieldType.byte ∈ AW := aw_in (aw_t1 188 rfl) rfl
theorem aw_1_189 : Cond.methodLink RX4 74 yJx4a65c_size_8abf5 ∈ AW := aw_in (aw_t1 189 rfl) rfl
theorem aw_1_190 : Cond.instanceMethod yJx4a65c_size_8abf5 ∈ AW := aw_in (aw_t1 190 rfl) rfl
theorem aw_1_191 : Cond.selects RJx4a65c yJx4a65c_size_8abf5 yJx4a65c_size_8abf5 ∈ AW := aw_in (aw_t1 191 rfl) rfl
theorem aw_1_192 : Cond.code yJx4a65c_size_8abf5 prog_22_method_8_code 1 (Option.some Jvm.ClassFile.FieldType.int) ∈ AW := aw_in (aw_t1 192 rfl) rfl
theorem aw_1_193 : Cond.classLink RX4 78 "java/lang/IllegalStateException" ∈ AW := aw_in (aw_t1 193 rfl) rfl
theorem aw_1_194 : Cond.instantiable "java/lang/IllegalStateException" 6 ∈ AW := aw_in (aw_t1 194 rfl) rfl
theorem nw_1_195 : Cond.castable "java/lang/IllegalStateException" "java/lang/IllegalStateException" ∈ lw_tbl := aw_t1 195 rfl
theorem aw_1_196 : Cond.selects "java/lang/IllegalStateException" ⟨"java/lang/Throwable", "fillInStackTrace", "(I)Ljava/lang/Throwable;"⟩ ⟨"java/lang/Throwable", "fillInStackTrace", "(I)Ljava/lang/Throwable;"⟩ ∈ AW := aw_in (aw_t1 196 rfl) rfl
theorem aw_1_197 : Cond.lays "java/lang/IllegalStateException" "java/lang/Throwable" "cause" "Ljava/lang/Throwable;" ∈ AW := aw_in (aw_t1 197 rfl) rfl
theorem aw_1_198 : Cond.lays "java/lang/IllegalStateException" "java/lang/Throwable" "stackTrace" "[Ljava/lang/StackTraceElement;" ∈ AW := aw_in (aw_t1 198 rfl) rfl
theorem aw_1_199 : Cond.lays "java/lang/IllegalStateException" "java/lang/Throwable" "suppressedExceptions" "Ljava/util/List;" ∈ AW := aw_in (aw_t1 199 rfl) rfl
theorem aw_1_200 : Cond.lays "java/lang/IllegalStateException" "java/lang/Throwable" "detailMessage" "Ljava/lang/String;" ∈ AW := aw_in (aw_t1 200 rfl) rfl
theorem aw_1_201 : Cond.lays "java/lang/IllegalStateException" "java/lang/Throwable" "backtrace" "Ljava/lang/Object;" ∈ AW := aw_in (aw_t1 201 rfl) rfl
theorem tw_1_202 : Cond.stringRef RX4 80 "no more stores fit" ∈ lw_tbl := aw_t1 202 rfl
theorem aw_1_203 : Cond.methodLink RX4 82 ⟨"java/lang/IllegalStateException", "<init>", "(Ljava/lang/String;)V"⟩ ∈ AW := aw_in (aw_t1 203 rfl) rfl
theorem aw_1_204 : Cond.instanceMethod ⟨"java/lang/IllegalStateException", "<init>", "(Ljava/lang/String;)V"⟩ ∈ AW := aw_in (aw_t1 204 rfl) rfl
theorem aw_1_205 : Cond.code ⟨"java/lang/IllegalStateException", "<init>", "(Ljava/lang/String;)V"⟩ prog_12_method_2_code 2 (Option.none : Option Jvm.ClassFile.FieldType) ∈ AW := aw_in (aw_t1 205 rfl) rfl
theorem aw_1_206 : Cond.methodLink "java/lang/IllegalStateException" 7 ⟨"java/lang/RuntimeException", "<init>", "(Ljava/lang/String;)V"⟩ ∈ AW := aw_in (aw_t1 206 rfl) rfl
theorem aw_1_207 : Cond.lays "java/lang/IllegalStateException" "java/lang/Throwable" "depth" "I" ∈ AW := aw_in (aw_t1 207 rfl) rfl
theorem aw_1_208 : Cond.superclass "java/lang/IllegalStateException" "java/lang/RuntimeException" ∈ AW := aw_in (aw_t1 208 rfl) rfl
theorem aw_1_209 : Cond.classLink RX4 59 RX3 ∈ AW := aw_in (aw_t1 209 rfl) rfl
theorem aw_1_210 : Cond.instantiable RX3 11 ∈ AW := aw_in (aw_t1 210 rfl) rfl
theorem aw_1_211 : Cond.methodLink RX4 83 yX3_init ∈ AW := aw_in (aw_t1 211 rfl) rfl
theorem aw_1_212 : Cond.instanceMethod yX3_init ∈ AW := aw_in (aw_t1 212 rfl) rfl
theorem aw_1_213 : Cond.code yX3_init prog_5_method_1_code 6 (Option.none : Option Jvm.ClassFile.FieldType) ∈ AW := aw_in (aw_t1 213 rfl) rfl
theorem aw_1_214 : Cond.methodLink RX3 3 ⟨"java/lang/Object", "<init>", "()V"⟩ ∈ AW := aw_in (aw_t1 214 rfl) rfl
theorem aw_1_215 : Cond.fieldLink RX3 31 RX3 "kind" "I" ∈ AW := aw_in (aw_t1 215 rfl) rfl
theorem aw_1_216 : Cond.fieldLink RX4 116 RX3 "kind" "I" ∈ AW := aw_in (aw_t1 216 rfl) rfl
theorem aw_1_217 : Cond.fieldLink RX3 37 RX3 "least" "I" ∈ AW := aw_in (aw_t1 217 rfl) rfl
theorem aw_1_218 : Cond.fieldLink RX3 40 RX3 "greatest" "I" ∈ AW := aw_in (aw_t1 218 rfl) rfl
theorem aw_1_219 : Cond.fieldLink RX3 43 RX3 "mark" "I" ∈ AW := aw_in (aw_t1 219 rfl) rfl
theorem aw_1_220 : Cond.fieldLink RX3 34 RX3 "volume" "I" ∈ AW := aw_in (aw_t1 220 rfl) rfl
theorem aw_1_221 : Cond.fieldLink RX4 122 RX3 "volume" "I" ∈ AW := aw_in (aw_t1 221 rfl) rfl
theorem aw_1_222 : Cond.fieldLink RX3 9 RX3 "water" "I" ∈ AW := aw_in (aw_t1 222 rfl) rfl
theorem aw_1_223 : Cond.fieldLink RX4 190 RX3 "water" "I" ∈ AW := aw_in (aw_t1 223 rfl) rfl
theorem aw_1_224 : Cond.fieldLink RX3 15 RX3 "gas" "I" ∈ AW := aw_in (aw_t1 224 rfl) rfl
theorem aw_1_225 : Cond.fieldLink RX4 119 RX3 "gas" "I" ∈ AW := aw_in (aw_t1 225 rfl) rfl
theorem aw_1_226 : Cond.fieldLink RX3 18 RX3 "heat" "J" ∈ AW := aw_in (aw_t1 226 rfl) rfl
theorem aw_1_227 : Cond.fieldLink RX4 184 RX3 "heat" "J" ∈ AW := aw_in (aw_t1 227 rfl) rfl
theorem aw_1_228 : Cond.fieldLink RX3 22 RX3 "wells" "I" ∈ AW := aw_in (aw_t1 228 rfl) rfl
theorem aw_1_229 : Cond.fieldLink RX4 100 RX3 "wells" "I" ∈ AW := aw_in (aw_t1 229 rfl) rfl
theorem aw_1_230 : Cond.fieldLink RX3 25 RX3 "strength" "I" ∈ AW := aw_in (aw_t1 230 rfl) rfl
theorem aw_1_231 : Cond.fieldLink RX4 103 RX3 "strength" "I" ∈ AW := aw_in (aw_t1 231 rfl) rfl
theorem aw_1_232 : Cond.fieldLink RX3 28 RX3 "leak" "I" ∈ AW := aw_in (aw_t1 232 rfl) rfl
theorem aw_1_233 : Cond.fieldLink RX4 111 RX3 "leak" "I" ∈ AW := aw_in (aw_t1 233 rfl) rfl
theorem aw_1_234 : Cond.laysFinal RX3 RX3 "kind" "I" ∈ AW := aw_in (aw_t1 234 rfl) rfl
theorem aw_1_236 : Cond.laysFinal RX3 RX3 "least" "I" ∈ AW := aw_in (aw_t1 236 rfl) rfl
theorem aw_1_238 : Cond.laysFinal RX3 RX3 "greatest" "I" ∈ AW := aw_in (aw_t1 238 rfl) rfl
theorem aw_2_0 : Cond.laysFinal RX3 RX3 "mark" "I" ∈ AW := aw_in (aw_t2 0 rfl) rfl
theorem aw_2_2 : Cond.lays RX3 RX3 "volume" "I" ∈ AW := aw_in (aw_t2 2 rfl) rfl
theorem aw_2_4 : Cond.lays RX3 RX3 "water" "I" ∈ AW := aw_in (aw_t2 4 rfl) rfl
theorem aw_2_6 : Cond.lays RX3 RX3 "gas" "I" ∈ AW := aw_in (aw_t2 6 rfl) rfl
theorem aw_2_8 : Cond.lays RX3 RX3 "heat" "J" ∈ AW := aw_in (aw_t2 8 rfl) rfl
theorem aw_2_10 : Cond.lays RX3 RX3 "wells" "I" ∈ AW := aw_in (aw_t2 10 rfl) rfl
theorem aw_2_12 : Cond.lays RX3 RX3 "strength" "I" ∈ AW := aw_in (aw_t2 12 rfl) rfl
theorem aw_2_14 : Cond.lays RX3 RX3 "leak" "I" ∈ AW := aw_in (aw_t2 14 rfl) rfl
theorem aw_2_16 : Cond.superclass RX3 "java/lang/Object" ∈ AW := aw_in (aw_t2 16 rfl) rfl
theorem aw_2_17 : Cond.methodLink RX4 86 yX3_takeIn ∈ AW := aw_in (aw_t2 17 rfl) rfl
theorem aw_2_18 : Cond.instanceMethod yX3_takeIn ∈ AW := aw_in (aw_t2 18 rfl) rfl
theorem aw_2_19 : Cond.selects RX3 yX3_takeIn yX3_takeIn ∈ AW := aw_in (aw_t2 19 rfl) rfl
theorem aw_2_20 : Cond.code yX3_takeIn prog_5_method_11_code 3 (Option.none : Option Jvm.ClassFile.FieldType) ∈ AW := aw_in (aw_t2 20 rfl) rfl
theorem aw_2_21 : Cond.methodLink RX4 90 yJx4a65c_add_9ea2d ∈ AW := aw_in (aw_t2 21 rfl) rfl
theorem aw_2_22 : Cond.instanceMethod yJx4a65c_add_9ea2d ∈ AW := aw_in (aw_t2 22 rfl) rfl
theorem aw_2_23 : Cond.selects RJx4a65c yJx4a65c_add_9ea2d yJx4a65c_add_9ea2d ∈ AW := aw_in (aw_t2 23 rfl) rfl
theorem aw_2_24 : Cond.code yJx4a65c_add_9ea2d prog_22_method_25_code 2 (Option.some Jvm.ClassFile.FieldType.boolean) ∈ AW := aw_in (aw_t2 24 rfl) rfl
theorem aw_2_25 : Cond.methodLink RJx4a65c 131 yJx4a65c_add_72be8 ∈ AW := aw_in (aw_t2 25 rfl) rfl
theorem aw_2_27 : Cond.instanceMethod yJx4a65c_add_72be8 ∈ AW := aw_in (aw_t2 27 rfl) rfl
theorem aw_2_28 : Cond.code yJx4a65c_add_72be8 prog_22_method_24_code 4 (Option.none : Option Jvm.ClassFile.FieldType) ∈ AW := aw_in (aw_t2 28 rfl) rfl
theorem aw_2_29 : Cond.methodLink RJx4a65c 129 yJx4a65c_grow_d5877 ∈ AW := aw_in (aw_t2 29 rfl) rfl
theorem aw_2_31 : Cond.instanceMethod yJx4a65c_grow_d5877 ∈ AW := aw_in (aw_t2 31 rfl) rfl
theorem aw_2_32 : Cond.code yJx4a65c_grow_d5877 prog_22_method_7_code 1 (Option.some (Jvm.ClassFile.FieldType.array (Jvm.ClassFile.FieldType.object "java/lang/Object"))) ∈ AW := aw_in (aw_t2 32 rfl) rfl
theorem aw_2_33 : Cond.methodLink RJx4a65c 69 yJx4a65c_grow_92f84 ∈ AW := aw_in (aw_t2 33 rfl) rfl
theorem aw_2_35 : Cond.instanceMethod yJx4a65c_grow_92f84 ∈ AW := aw_in (aw_t2 35 rfl) rfl
theorem aw_2_36 : Cond.code yJx4a65c_grow_92f84 prog_22_method_6_code 4 (Option.some (Jvm.ClassFile.FieldType.array (Jvm.ClassFile.FieldType.object "java/lang/Object"))) ∈ AW := aw_in (aw_t2 36 rfl) rfl
theorem aw_2_37 : Cond.methodLink RJx4a65c 73 yJ8_newLength_cabcc ∈ AW := aw_in (aw_t2 37 rfl) rfl
theorem aw_2_38 : Cond.static yJ8_newLength_cabcc ∈ AW := aw_in (aw_t2 38 rfl) rfl
theorem aw_2_39 : Cond.code yJ8_newLength_cabcc prog_29_method_27_code 4 (Option.some Jvm.ClassFile.FieldType.int) ∈ AW := aw_in (aw_t2 39 rfl) rfl
theorem aw_2_40 : Cond.methodLink RJ8 194 yJ9_max_7cf53 ∈ AW := aw_in (aw_t2 40 rfl) rfl
theorem aw_2_41 : Cond.static yJ9_max_7cf53 ∈ AW := aw_in (aw_t2 41 rfl) rfl
theorem aw_2_42 : Cond.code yJ9_max_7cf53 prog_15_method_65_code 2 (Option.some Jvm.ClassFile.FieldType.int) ∈ AW := aw_in (aw_t2 42 rfl) rfl
theorem aw_2_43 : Cond.constant RJ8 200 (2147483639) ∈ AW := aw_in (aw_t2 43 rfl) rfl
theorem aw_2_44 : Cond.methodLink RJ8 201 yJ8_hugeLength_7cf53 ∈ AW := aw_in (aw_t2 44 rfl) rfl
theorem aw_2_45 : Cond.static yJ8_hugeLength_7cf53 ∈ AW := aw_in (aw_t2 45 rfl) rfl
theorem aw_2_46 : Cond.code yJ8_hugeLength_7cf53 prog_29_method_28_code 3 (Option.some Jvm.ClassFile.FieldType.int) ∈ AW := aw_in (aw_t2 46 rfl) rfl
theorem aw_2_47 : Cond.methodLink RJx4a65c 66 yJ7_copyOf_1904c ∈ AW := aw_in (aw_t2 47 rfl) rfl
theorem aw_2_48 : Cond.static yJ7_copyOf_1904c ∈ AW := aw_in (aw_t2 48 rfl) rfl
theorem aw_2_49 : Cond.code yJ7_copyOf_1904c prog_23_method_119_code 2 (Option.some (Jvm.ClassFile.FieldType.array (Jvm.ClassFile.FieldType.object "java/lang/Object"))) ∈ AW := aw_in (aw_t2 49 rfl) rfl
theorem aw_2_50 : Cond.methodLink RJ7 86 ⟨"java/lang/Object", "getClass", "()Ljava/lang/Class;"⟩ ∈ AW := aw_in (aw_t2 50 rfl) rfl
theorem aw_2_51 : Cond.instanceMethod ⟨"java/lang/Object", "getClass", "()Ljava/lang/Class;"⟩ ∈ AW := aw_in (aw_t2 51 rfl) rfl
theorem aw_2_52 : Cond.sameMethod "java/lang/Object" "java/lang/Object" "getClass" "()Ljava/lang/Class;" ∈ AW := aw_in (aw_t2 52 rfl) rfl
theorem aw_2_53 : Cond.selects RX4 ⟨"java/lang/Object", "getClass", "()Ljava/lang/Class;"⟩ ⟨"java/lang/Object", "getClass", "()Ljava/lang/Class;"⟩ ∈ AW := aw_in (aw_t2 53 rfl) rfl
theorem aw_2_54 : Cond.selects RX0 ⟨"java/lang/Object", "getClass", "()Ljava/lang/Class;"⟩ ⟨"java/lang/Object", "getClass", "()Ljava/lang/Class;"⟩ ∈ AW := aw_in (aw_t2 54 rfl) rfl
theorem aw_2_55 : Cond.selects RX1 ⟨"java/lang/Object", "getClass", "()Ljava/lang/Class;"⟩ ⟨"java/lang/Object", "getClass", "()Ljava/lang/Class;"⟩ ∈ AW := aw_in (aw_t2 55 rfl) rfl
theorem aw_2_56 : Cond.selects RX2 ⟨"java/lang/Object", "getClass", "()Ljava/lang/Class;"⟩ ⟨"java/lang/Object", "getClass", "()Ljava/lang/Class;"⟩ ∈ AW := aw_in (aw_t2 56 rfl) rfl
theorem aw_2_57 : Cond.selects RX3 ⟨"java/lang/Object", "getClass", "()Ljava/lang/Class;"⟩ ⟨"java/lang/Object", "getClass", "()Ljava/lang/Class;"⟩ ∈ AW := aw_in (aw_t2 57 rfl) rfl
theorem aw_2_58 : Cond.selects RX5 ⟨"java/lang/Object", "getClass", "()Ljava/lang/Class;"⟩ ⟨"java/lang/Object", "getClass", "()Ljava/lang/Class;"⟩ ∈ AW := aw_in (aw_t2 58 rfl) rfl
theorem aw_2_59 : Cond.selects "java/lang/IllegalArgumentException" ⟨"java/lang/Object", "getClass", "()Ljava/lang/Class;"⟩ ⟨"java/lang/Object", "getClass", "()Ljava/lang/Class;"⟩ ∈ AW := aw_in (aw_t2 59 rfl) rfl
theorem aw_2_60 : Cond.selects "java/lang/IllegalStateException" ⟨"java/lang/Object", "getClass", "()Ljava/lang/Class;"⟩ ⟨"java/lang/Object", "getClass", "()Ljava/lang/Class;"⟩ ∈ AW := aw_in (aw_t2 60 rfl) rfl
theorem aw_2_61 : Cond.selects "java/lang/IndexOutOfBoundsException" ⟨"java/lang/Object", "getClass", "()Ljava/lang/Class;"⟩ ⟨"java/lang/Object", "getClass", "()Ljava/lang/Class;"⟩ ∈ AW := aw_in (aw_t2 61 rfl) rfl
theorem aw_2_62 : Cond.selects RJx4a65c ⟨"java/lang/Object", "getClass", "()Ljava/lang/Class;"⟩ ⟨"java/lang/Object", "getClass", "()Ljava/lang/Class;"⟩ ∈ AW := aw_in (aw_t2 62 rfl) rfl
theorem aw_2_63 : Cond.native ⟨"java/lang/Object", "getClass", "()Ljava/lang/Class;"⟩ ∈ AW := aw_in (aw_t2 63 rfl) rfl
theorem aw_2_64 : Cond.methodLink RJ7 300 yJ7_copyOf_6403c ∈ AW := aw_in (aw_t2 64 rfl) rfl
theorem aw_2_65 : Cond.static yJ7_copyOf_6403c ∈ AW := aw_in (aw_t2 65 rfl) rfl
theorem aw_2_66 : Cond.code yJ7_copyOf_6403c prog_23_method_120_code 4 (Option.some (Jvm.ClassFile.FieldType.array (Jvm.ClassFile.FieldType.object "java/lang/Object"))) ∈ AW := aw_in (aw_t2 66 rfl) rfl
theorem aw_2_67 : Cond.classLink RJ7 110 "[Ljava/lang/Object;" ∈ AW := aw_in (aw_t2 67 rfl) rfl
theorem tw_2_68 : Cond.arrayOver (Jvm.ClassFile.FieldType.object "java/lang/Object") ∈ lw_tbl := aw_t2 68 rfl
theorem aw_2_69 : Cond.classLink RJ7 2 "java/lang/Object" ∈ AW := aw_in (aw_t2 69 rfl) rfl
theorem aw_2_70 : Cond.methodLink RJ7 304 yJ9_min_7cf53 ∈ AW := aw_in (aw_t2 70 rfl) rfl
theorem aw_2_71 : Cond.static yJ9_min_7cf53 ∈ AW := aw_in (aw_t2 71 rfl) rfl
theorem aw_2_72 : Cond.code yJ9_min_7cf53 prog_15_method_69_code 2 (Option.some Jvm.ClassFile.FieldType.int) ∈ AW := aw_in (aw_t2 72 rfl) rfl
theorem aw_2_73 : Cond.methodLink RJ7 150 ⟨"java/lang/System", "arraycopy", "(Ljava/lang/Object;ILjava/lang/Object;II)V"⟩ ∈ AW := aw_in (aw_t2 73 rfl) rfl
theorem aw_2_74 : Cond.static ⟨"java/lang/System", "arraycopy", "(Ljava/lang/Object;ILjava/lang/Object;II)V"⟩ ∈ AW := aw_in (aw_t2 74 rfl) rfl
theorem aw_2_75 : Cond.native ⟨"java/lang/System", "arraycopy", "(Ljava/lang/Object;ILjava/lang/Object;II)V"⟩ ∈ AW := aw_in (aw_t2 75 rfl) rfl
theorem aw_2_76 : Cond.methodLink RJx4a65c 79 yJ9_max_7cf53 ∈ AW := aw_in (aw_t2 76 rfl) rfl
theorem aw_2_77 : Cond.classLink RJx4a65c 7 "java/lang/Object" ∈ AW := aw_in (aw_t2 77 rfl) rfl
theorem aw_2_78 : Cond.methodLink RL 100 yL_wells ∈ AW := aw_in (aw_t2 78 rfl) rfl
theorem aw_2_79 : Cond.static yL_wells ∈ AW := aw_in (aw_t2 79 rfl) rfl
theorem aw_2_80 : Cond.codeWith yL_wells method_4_code 6 (Option.some Jvm.ClassFile.FieldType.int) ([((0 : Nat), (12 : Nat), (15 : Nat), (21 : Nat)), ((0 : Nat), (12 : Nat), (19 : Nat), (13 : Nat))]) ∈ AW := aw_in (aw_t2 80 rfl) rfl
theorem aw_2_81 : Cond.classLink RL 21 "java/lang/IndexOutOfBoundsException" ∈ AW := aw_in (aw_t2 81 rfl) rfl
theorem aw_2_82 : Cond.methodLink RL 17 yX4_wells ∈ AW := aw_in (aw_t2 82 rfl) rfl
theorem aw_2_83 : Cond.instanceMethod yX4_wells ∈ AW := aw_in (aw_t2 83 rfl) rfl
theorem aw_2_84 : Cond.selects RX4 yX4_wells yX4_wells ∈ AW := aw_in (aw_t2 84 rfl) rfl
theorem aw_2_85 : Cond.code yX4_wells prog_1_method_3_code 5 (Option.some Jvm.ClassFile.FieldType.int) ∈ AW := aw_in (aw_t2 85 rfl) rfl
theorem aw_2_86 : Cond.methodLink RX4 94 yX4_storeNumbered ∈ AW := aw_in (aw_t2 86 rfl) rfl
theorem aw_2_88 : Cond.instanceMethod yX4_storeNumbered ∈ AW := aw_in (aw_t2 88 rfl) rfl
theorem aw_2_89 : Cond.code yX4_storeNumbered prog_1_method_24_code 2 (Option.some (Jvm.ClassFile.FieldType.object "Gasvault$Store")) ∈ AW := aw_in (aw_t2 89 rfl) rfl
theorem aw_2_90 : Cond.classLink RX4 251 "java/lang/IndexOutOfBoundsException" ∈ AW := aw_in (aw_t2 90 rfl) rfl
theorem aw_2_91 : Cond.instantiable "java/lang/IndexOutOfBoundsException" 6 ∈ AW := aw_in (aw_t2 91 rfl) rfl
theorem nw_2_92 : Cond.castable "java/lang/IndexOutOfBoundsException" "java/lang/IndexOutOfBoundsException" ∈ lw_tbl := aw_t2 92 rfl
theorem aw_2_93 : Cond.selects "java/lang/IndexOutOfBoundsException" ⟨"java/lang/Throwable", "fillInStackTrace", "(I)Ljava/lang/Throwable;"⟩ ⟨"java/lang/Throwable", "fillInStackTrace", "(I)Ljava/lang/Throwable;"⟩ ∈ AW := aw_in (aw_t2 93 rfl) rfl
theorem aw_2_94 : Cond.lays "java/lang/IndexOutOfBoundsException" "java/lang/Throwable" "cause" "Ljava/lang/Throwable;" ∈ AW := aw_in (aw_t2 94 rfl) rfl
theorem aw_2_95 : Cond.lays "java/lang/IndexOutOfBoundsException" "java/lang/Throwable" "stackTrace" "[Ljava/lang/StackTraceElement;" ∈ AW := aw_in (aw_t2 95 rfl) rfl
theorem aw_2_96 : Cond.lays "java/lang/IndexOutOfBoundsException" "java/lang/Throwable" "suppressedExceptions" "Ljava/util/List;" ∈ AW := aw_in (aw_t2 96 rfl) rfl
theorem aw_2_97 : Cond.lays "java/lang/IndexOutOfBoundsException" "java/lang/Throwable" "detailMessage" "Ljava/lang/String;" ∈ AW := aw_in (aw_t2 97 rfl) rfl
theorem aw_2_98 : Cond.lays "java/lang/IndexOutOfBoundsException" "java/lang/Throwable" "backtrace" "Ljava/lang/Object;" ∈ AW := aw_in (aw_t2 98 rfl) rfl
theorem tw_2_99 : Cond.stringRef RX4 253 "no such store" ∈ lw_tbl := aw_t2 99 rfl
theorem aw_2_100 : Cond.methodLink RX4 255 ⟨"java/lang/IndexOutOfBoundsException", "<init>", "(Ljava/lang/String;)V"⟩ ∈ AW := aw_in (aw_t2 100 rfl) rfl
theorem aw_2_101 : Cond.instanceMethod ⟨"java/lang/IndexOutOfBoundsException", "<init>", "(Ljava/lang/String;)V"⟩ ∈ AW := aw_in (aw_t2 101 rfl) rfl
theorem aw_2_102 : Cond.code ⟨"java/lang/IndexOutOfBoundsException", "<init>", "(Ljava/lang/String;)V"⟩ prog_13_method_2_code 2 (Option.none : Option Jvm.ClassFile.FieldType) ∈ AW := aw_in (aw_t2 102 rfl) rfl
theorem aw_2_103 : Cond.methodLink "java/lang/IndexOutOfBoundsException" 7 ⟨"java/lang/RuntimeException", "<init>", "(Ljava/lang/String;)V"⟩ ∈ AW := aw_in (aw_t2 103 rfl) rfl
theorem aw_2_104 : Cond.lays "java/lang/IndexOutOfBoundsException" "java/lang/Throwable" "depth" "I" ∈ AW := aw_in (aw_t2 104 rfl) rfl
theorem aw_2_105 : Cond.superclass "java/lang/IndexOutOfBoundsException" "java/lang/RuntimeException" ∈ AW := aw_in (aw_t2 105 rfl) rfl
theorem aw_2_106 : Cond.methodLink RX4 256 yJx4a65c_get_915e3 ∈ AW := aw_in (aw_t2 106 rfl) rfl
theorem aw_2_107 : Cond.instanceMethod yJx4a65c_get_915e3 ∈ AW := aw_in (aw_t2 107 rfl) rfl
theorem aw_2_108 : Cond.selects RJx4a65c yJx4a65c_get_915e3 yJx4a65c_get_915e3 ∈ AW := aw_in (aw_t2 108 rfl) rfl
theorem aw_2_109 : Cond.code yJx4a65c_get_915e3 prog_22_method_20_code 2 (Option.some (Jvm.ClassFile.FieldType.object "java/lang/Object")) ∈ AW := aw_in (aw_t2 109 rfl) rfl
theorem aw_2_110 : Cond.methodLink RJx4a65c 118 yJ15_checkIndex_7cf53 ∈ AW := aw_in (aw_t2 110 rfl) rfl
theorem aw_2_111 : Cond.static yJ15_checkIndex_7cf53 ∈ AW := aw_in (aw_t2 111 rfl) rfl
theorem aw_2_112 : Cond.code yJ15_checkIndex_7cf53 prog_26_method_17_code 2 (Option.some Jvm.ClassFile.FieldType.int) ∈ AW := aw_in (aw_t2 112 rfl) rfl
theorem aw_2_113 : Cond.methodLink RJ15 105 yJ3_checkIndex_8e157 ∈ AW := aw_in (aw_t2 113 rfl) rfl
theorem aw_2_114 : Cond.static yJ3_checkIndex_8e157 ∈ AW := aw_in (aw_t2 114 rfl) rfl
theorem aw_2_115 : Cond.code yJ3_checkIndex_8e157 prog_30_method_11_code 3 (Option.some Jvm.ClassFile.FieldType.int) ∈ AW := aw_in (aw_t2 115 rfl) rfl
theorem aw_2_116 : Cond.methodLink RJx4a65c 123 yJx4a65c_elementData_915e3 ∈ AW := aw_in (aw_t2 116 rfl) rfl
theorem aw_2_117 : Cond.instanceMethod yJx4a65c_elementData_915e3 ∈ AW := aw_in (aw_t2 117 rfl) rfl
theorem aw_2_118 : Cond.selects RJx4a65c yJx4a65c_elementData_915e3 yJx4a65c_elementData_915e3 ∈ AW := aw_in (aw_t2 118 rfl) rfl
theorem aw_2_119 : Cond.code yJx4a65c_elementData_915e3 prog_22_method_18_code 2 (Option.some (Jvm.ClassFile.FieldType.object "java/lang/Object")) ∈ AW := aw_in (aw_t2 119 rfl) rfl
theorem tw_2_120 : Cond.stringRef RX4 98 "many or strength is out of range" ∈ lw_tbl := aw_t2 120 rfl
theorem aw_2_121 : Cond.methodLink RX4 106 yX3_rateOut ∈ AW := aw_in (aw_t2 121 rfl) rfl
theorem aw_2_122 : Cond.instanceMethod yX3_rateOut ∈ AW := aw_in (aw_t2 122 rfl) rfl
theorem aw_2_123 : Cond.selects RX3 yX3_rateOut yX3_rateOut ∈ AW := aw_in (aw_t2 123 rfl) rfl
theorem aw_2_124 : Cond.code yX3_rateOut prog_5_method_9_code 1 (Option.some Jvm.ClassFile.FieldType.int) ∈ AW := aw_in (aw_t2 124 rfl) rfl
theorem aw_2_125 : Cond.methodLink RX3 57 yX3_pressureNow ∈ AW := aw_in (aw_t2 125 rfl) rfl
theorem aw_2_126 : Cond.instanceMethod yX3_pressureNow ∈ AW := aw_in (aw_t2 126 rfl) rfl
theorem aw_2_127 : Cond.selects RX3 yX3_pressureNow yX3_pressureNow ∈ AW := aw_in (aw_t2 127 rfl) rfl
theorem aw_2_128 : Cond.code yX3_pressureNow prog_5_method_5_code 2 (Option.some Jvm.ClassFile.FieldType.int) ∈ AW := aw_in (aw_t2 128 rfl) rfl
theorem aw_2_129 : Cond.methodLink RX3 46 yX3_room ∈ AW := aw_in (aw_t2 129 rfl) rfl
theorem aw_2_130 : Cond.instanceMethod yX3_room ∈ AW := aw_in (aw_t2 130 rfl) rfl
theorem aw_2_131 : Cond.selects RX3 yX3_room yX3_room ∈ AW := aw_in (aw_t2 131 rfl) rfl
theorem aw_2_132 : Cond.code yX3_room prog_5_method_4_code 1 (Option.some Jvm.ClassFile.FieldType.int) ∈ AW := aw_in (aw_t2 132 rfl) rfl
theorem aw_2_133 : Cond.methodLink RX3 66 yX3_leastGas ∈ AW := aw_in (aw_t2 133 rfl) rfl
theorem aw_2_134 : Cond.instanceMethod yX3_leastGas ∈ AW := aw_in (aw_t2 134 rfl) rfl
theorem aw_2_135 : Cond.selects RX3 yX3_leastGas yX3_leastGas ∈ AW := aw_in (aw_t2 135 rfl) rfl
theorem aw_2_136 : Cond.code yX3_leastGas prog_5_method_6_code 1 (Option.some Jvm.ClassFile.FieldType.int) ∈ AW := aw_in (aw_t2 136 rfl) rfl
theorem aw_2_137 : Cond.methodLink RX3 50 yX3_leastGasFor ∈ AW := aw_in (aw_t2 137 rfl) rfl
theorem aw_2_138 : Cond.methodLink RX3 63 yX3_rateBy ∈ AW := aw_in (aw_t2 138 rfl) rfl
theorem aw_2_140 : Cond.instanceMethod yX3_rateBy ∈ AW := aw_in (aw_t2 140 rfl) rfl
theorem aw_2_141 : Cond.code yX3_rateBy prog_5_method_10_code 3 (Option.some Jvm.ClassFile.FieldType.int) ∈ AW := aw_in (aw_t2 141 rfl) rfl
theorem aw_2_142 : Cond.methodLink RX3 69 yJ9_min_7cf53 ∈ AW := aw_in (aw_t2 142 rfl) rfl
theorem aw_2_143 : Cond.methodLink RX3 74 yJ9_max_7cf53 ∈ AW := aw_in (aw_t2 143 rfl) rfl
theorem aw_2_144 : Cond.methodLink RL 104 yL_leak ∈ AW := aw_in (aw_t2 144 rfl) rfl
theorem aw_2_145 : Cond.static yL_leak ∈ AW := aw_in (aw_t2 145 rfl) rfl
theorem aw_2_146 : Cond.codeWith yL_leak method_5_code 5 (Option.some Jvm.ClassFile.FieldType.int) ([((0 : Nat), (10 : Nat), (13 : Nat), (21 : Nat)), ((0 : Nat), (10 : Nat), (17 : Nat), (13 : Nat))]) ∈ AW := aw_in (aw_t2 146 rfl) rfl
theorem aw_2_147 : Cond.methodLink RL 23 yX4_leak ∈ AW := aw_in (aw_t2 147 rfl) rfl
theorem aw_2_148 : Cond.instanceMethod yX4_leak ∈ AW := aw_in (aw_t2 148 rfl) rfl
theorem aw_2_149 : Cond.selects RX4 yX4_leak yX4_leak ∈ AW := aw_in (aw_t2 149 rfl) rfl
theorem aw_2_150 : Cond.code yX4_leak prog_1_method_4_code 5 (Option.some Jvm.ClassFile.FieldType.int) ∈ AW := aw_in (aw_t2 150 rfl) rfl
theorem tw_2_151 : Cond.stringRef RX4 109 "units is out of range" ∈ lw_tbl := aw_t2 151 rfl
theorem aw_2_152 : Cond.methodLink RL 108 yL_leach ∈ AW := aw_in (aw_t2 152 rfl) rfl
theorem aw_2_153 : Cond.static yL_leach ∈ AW := aw_in (aw_t2 153 rfl) rfl
theorem aw_2_154 : Cond.codeWith yL_leach method_6_code 5 (Option.some Jvm.ClassFile.FieldType.int) ([((0 : Nat), (10 : Nat), (13 : Nat), (21 : Nat)), ((0 : Nat), (10 : Nat), (17 : Nat), (13 : Nat)), ((0 : Nat), (10 : Nat), (21 : Nat), (15 : Nat))]) ∈ AW := aw_in (aw_t2 154 rfl) rfl
theorem aw_2_155 : Cond.methodLink RL 27 yX4_leach ∈ AW := aw_in (aw_t2 155 rfl) rfl
theorem aw_2_156 : Cond.instanceMethod yX4_leach ∈ AW := aw_in (aw_t2 156 rfl) rfl
theorem aw_2_157 : Cond.selects RX4 yX4_leach yX4_leach ∈ AW := aw_in (aw_t2 157 rfl) rfl
theorem aw_2_158 : Cond.code yX4_leach prog_1_method_5_code 4 (Option.some Jvm.ClassFile.FieldType.int) ∈ AW := aw_in (aw_t2 158 rfl) rfl
theorem tw_2_159 : Cond.stringRef RX4 114 "more is out of range" ∈ lw_tbl := aw_t2 159 rfl
theorem tw_2_160 : Cond.stringRef RX4 125 "only an empty cavern can be leached, up to the greatest volume" ∈ lw_tbl := aw_t2 160 rfl
theorem aw_2_161 : Cond.methodLink RL 111 yL_heat ∈ AW := aw_in (aw_t2 161 rfl) rfl
theorem aw_2_162 : Cond.static yL_heat ∈ AW := aw_in (aw_t2 162 rfl) rfl
theorem aw_2_163 : Cond.codeWith yL_heat method_7_code 4 (Option.some Jvm.ClassFile.FieldType.int) ([((0 : Nat), (9 : Nat), (12 : Nat), (13 : Nat))]) ∈ AW := aw_in (aw_t2 163 rfl) rfl
theorem aw_2_164 : Cond.methodLink RL 30 yX4_heat ∈ AW := aw_in (aw_t2 164 rfl) rfl
theorem aw_2_165 : Cond.instanceMethod yX4_heat ∈ AW := aw_in (aw_t2 165 rfl) rfl
theorem aw_2_166 : Cond.selects RX4 yX4_heat yX4_heat ∈ AW := aw_in (aw_t2 166 rfl) rfl
theorem aw_2_167 : Cond.code yX4_heat prog_1_method_6_code 3 (Option.some Jvm.ClassFile.FieldType.int) ∈ AW := aw_in (aw_t2 167 rfl) rfl
theorem tw_2_168 : Cond.stringRef RX4 127 "heat is out of range" ∈ lw_tbl := aw_t2 168 rfl
theorem aw_2_169 : Cond.methodLink RL 115 yL_customer ∈ AW := aw_in (aw_t2 169 rfl) rfl
theorem aw_2_170 : Cond.static yL_customer ∈ AW := aw_in (aw_t2 170 rfl) rfl
theorem aw_2_171 : Cond.codeWith yL_customer method_8_code 7 (Option.some Jvm.ClassFile.FieldType.int) ([((0 : Nat), (14 : Nat), (17 : Nat), (13 : Nat)), ((0 : Nat), (14 : Nat), (21 : Nat), (15 : Nat))]) ∈ AW := aw_in (aw_t2 171 rfl) rfl
theorem aw_2_172 : Cond.methodLink RL 34 yX4_customer ∈ AW := aw_in (aw_t2 172 rfl) rfl
theorem aw_2_173 : Cond.instanceMethod yX4_customer ∈ AW := aw_in (aw_t2 173 rfl) rfl
theorem aw_2_174 : Cond.selects RX4 yX4_customer yX4_customer ∈ AW := aw_in (aw_t2 174 rfl) rfl
theorem aw_2_175 : Cond.code yX4_customer prog_1_method_7_code 5 (Option.some Jvm.ClassFile.FieldType.int) ∈ AW := aw_in (aw_t2 175 rfl) rfl
theorem tw_2_176 : Cond.stringRef RX4 129 "an argument of the customer is out of range" ∈ lw_tbl := aw_t2 176 rfl
theorem tw_2_177 : Cond.stringRef RX4 131 "no more customers fit" ∈ lw_tbl := aw_t2 177 rfl
theorem aw_2_178 : Cond.classLink RX4 133 RX0 ∈ AW := aw_in (aw_t2 178 rfl) rfl
theorem aw_2_179 : Cond.instantiable RX0 12 ∈ AW := aw_in (aw_t2 179 rfl) rfl
theorem aw_2_180 : Cond.methodLink RX4 135 yX0_init ∈ AW := aw_in (aw_t2 180 rfl) rfl
theorem aw_2_181 : Cond.instanceMethod yX0_init ∈ AW := aw_in (aw_t2 181 rfl) rfl
theorem aw_2_182 : Cond.code yX0_init prog_2_method_1_code 5 (Option.none : Option Jvm.ClassFile.FieldType) ∈ AW := aw_in (aw_t2 182 rfl) rfl
theorem aw_2_183 : Cond.methodLink RX0 3 ⟨"java/lang/Object", "<init>", "()V"⟩ ∈ AW := aw_in (aw_t2 183 rfl) rfl
theorem aw_2_184 : Cond.classLink RX0 9 RX1 ∈ AW := aw_in (aw_t2 184 rfl) rfl
theorem nw_2_185 : Cond.methodLinkNest RX0 11 yX1_init RX4 ∈ lw_tbl := aw_t2 185 rfl
theorem aw_2_186 : Cond.fieldLink RX0 41 RX0 "volume" "I" ∈ AW := aw_in (aw_t2 186 rfl) rfl
theorem aw_2_187 : Cond.fieldLink RX4 156 RX0 "volume" "I" ∈ AW := aw_in (aw_t2 187 rfl) rfl
theorem aw_2_188 : Cond.fieldLink RX0 44 RX0 "in" "I" ∈ AW := aw_in (aw_t2 188 rfl) rfl
theorem aw_2_189 : Cond.fieldLink RX0 47 RX0 "out" "I" ∈ AW := aw_in (aw_t2 189 rfl) rfl
theorem aw_2_190 : Cond.fieldLink RX0 50 RX0 "rank" "I" ∈ AW := aw_in (aw_t2 190 rfl) rfl
theorem aw_2_191 : Cond.fieldLink RX4 295 RX0 "rank" "I" ∈ AW := aw_in (aw_t2 191 rfl) rfl
theorem aw_2_192 : Cond.fieldLink RX0 12 RX0 "nominations" "LGasvault$Hours;" ∈ AW := aw_in (aw_t2 192 rfl) rfl
theorem aw_2_193 : Cond.fieldLink RX4 145 RX0 "nominations" "LGasvault$Hours;" ∈ AW := aw_in (aw_t2 193 rfl) rfl
theorem aw_2_194 : Cond.fieldLink RX0 18 RX0 "inventory" "I" ∈ AW := aw_in (aw_t2 194 rfl) rfl
theorem aw_2_195 : Cond.fieldLink RX4 153 RX0 "inventory" "I" ∈ AW := aw_in (aw_t2 195 rfl) rfl
theorem aw_2_196 : Cond.fieldLink RX0 22 RX0 "brought" "J" ∈ AW := aw_in (aw_t2 196 rfl) rfl
theorem aw_2_197 : Cond.fieldLink RX4 208 RX0 "brought" "J" ∈ AW := aw_in (aw_t2 197 rfl) rfl
theorem aw_2_198 : Cond.fieldLink RX0 26 RX0 "taken" "J" ∈ AW := aw_in (aw_t2 198 rfl) rfl
theorem aw_2_199 : Cond.fieldLink RX4 211 RX0 "taken" "J" ∈ AW := aw_in (aw_t2 199 rfl) rfl
theorem aw_2_200 : Cond.fieldLink RX0 29 RX0 "curtailed" "J" ∈ AW := aw_in (aw_t2 200 rfl) rfl
theorem aw_2_201 : Cond.fieldLink RX4 214 RX0 "curtailed" "J" ∈ AW := aw_in (aw_t2 201 rfl) rfl
theorem aw_2_202 : Cond.fieldLink RX0 32 RX0 "planned" "I" ∈ AW := aw_in (aw_t2 202 rfl) rfl
theorem aw_2_203 : Cond.fieldLink RX4 220 RX0 "planned" "I" ∈ AW := aw_in (aw_t2 203 rfl) rfl
theorem aw_2_204 : Cond.fieldLink RX0 35 RX0 "cut" "I" ∈ AW := aw_in (aw_t2 204 rfl) rfl
theorem aw_2_205 : Cond.fieldLink RX0 38 RX0 "cause" "I" ∈ AW := aw_in (aw_t2 205 rfl) rfl
theorem aw_2_206 : Cond.fieldLink RX4 223 RX0 "cause" "I" ∈ AW := aw_in (aw_t2 206 rfl) rfl
theorem aw_2_207 : Cond.laysFinal RX0 RX0 "volume" "I" ∈ AW := aw_in (aw_t2 207 rfl) rfl
theorem aw_2_209 : Cond.laysFinal RX0 RX0 "in" "I" ∈ AW := aw_in (aw_t2 209 rfl) rfl
theorem aw_2_211 : Cond.laysFinal RX0 RX0 "out" "I" ∈ AW := aw_in (aw_t2 211 rfl) rfl
theorem aw_2_213 : Cond.laysFinal RX0 RX0 "rank" "I" ∈ AW := aw_in (aw_t2 213 rfl) rfl
theorem aw_2_215 : Cond.laysFinal RX0 RX0 "nominations" "LGasvault$Hours;" ∈ AW := aw_in (aw_t2 215 rfl) rfl
theorem aw_2_217 : Cond.lays RX0 RX0 "inventory" "I" ∈ AW := aw_in (aw_t2 217 rfl) rfl
theorem aw_2_219 : Cond.lays RX0 RX0 "brought" "J" ∈ AW := aw_in (aw_t2 219 rfl) rfl
theorem aw_2_221 : Cond.lays RX0 RX0 "taken" "J" ∈ AW := aw_in (aw_t2 221 rfl) rfl
theorem aw_2_223 : Cond.lays RX0 RX0 "curtailed" "J" ∈ AW := aw_in (aw_t2 223 rfl) rfl
theorem aw_2_225 : Cond.lays RX0 RX0 "planned" "I" ∈ AW := aw_in (aw_t2 225 rfl) rfl
theorem aw_2_227 : Cond.lays RX0 RX0 "cut" "I" ∈ AW := aw_in (aw_t2 227 rfl) rfl
theorem aw_2_229 : Cond.lays RX0 RX0 "cause" "I" ∈ AW := aw_in (aw_t2 229 rfl) rfl
theorem aw_2_231 : Cond.superclass RX0 "java/lang/Object" ∈ AW := aw_in (aw_t2 231 rfl) rfl
theorem aw_2_232 : Cond.methodLink RL 119 yL_nominate ∈ AW := aw_in (aw_t2 232 rfl) rfl
theorem aw_2_233 : Cond.static yL_nominate ∈ AW := aw_in (aw_t2 233 rfl) rfl
theorem aw_2_234 : Cond.codeWith yL_nominate method_9_code 6 (Option.some Jvm.ClassFile.FieldType.int) ([((0 : Nat), (12 : Nat), (15 : Nat), (21 : Nat)), ((0 : Nat), (12 : Nat), (19 : Nat), (13 : Nat))]) ∈ AW := aw_in (aw_t2 234 rfl) rfl
theorem aw_2_235 : Cond.methodLink RL 38 yX4_nominate ∈ AW := aw_in (aw_t2 235 rfl) rfl
theorem aw_2_236 : Cond.instanceMethod yX4_nominate ∈ AW := aw_in (aw_t2 236 rfl) rfl
theorem aw_2_237 : Cond.selects RX4 yX4_nominate yX4_nominate ∈ AW := aw_in (aw_t2 237 rfl) rfl
theorem aw_2_238 : Cond.code yX4_nominate prog_1_method_8_code 5 (Option.some Jvm.ClassFile.FieldType.int) ∈ AW := aw_in (aw_t2 238 rfl) rfl
theorem aw_2_239 : Cond.methodLink RX4 138 yX4_customerNumbered ∈ AW := aw_in (aw_t2 239 rfl) rfl
theorem aw_3_1 : Cond.instanceMethod yX4_customerNumbered ∈ AW := aw_in (aw_t3 1 rfl) rfl
theorem aw_3_2 : Cond.code yX4_customerNumbered prog_1_method_25_code 2 (Option.some (Jvm.ClassFile.FieldType.object "Gasvault$Customer")) ∈ AW := aw_in (aw_t3 2 rfl) rfl
theorem tw_3_3 : Cond.stringRef RX4 260 "no such customer" ∈ lw_tbl := aw_t3 3 rfl
theorem aw_3_4 : Cond.constant RX4 142 (-1000000) ∈ AW := aw_in (aw_t3 4 rfl) rfl
theorem tw_3_5 : Cond.stringRef RX4 143 "hour or units is out of range" ∈ lw_tbl := aw_t3 5 rfl
theorem aw_3_6 : Cond.methodLink RX4 148 yX1_put ∈ AW := aw_in (aw_t3 6 rfl) rfl
theorem aw_3_7 : Cond.instanceMethod yX1_put ∈ AW := aw_in (aw_t3 7 rfl) rfl
theorem aw_3_8 : Cond.selects RX1 yX1_put yX1_put ∈ AW := aw_in (aw_t3 8 rfl) rfl
theorem aw_3_9 : Cond.code yX1_put prog_3_method_3_code 5 (Option.some Jvm.ClassFile.FieldType.int) ∈ AW := aw_in (aw_t3 9 rfl) rfl
theorem aw_3_10 : Cond.methodLink RX1 13 yJ9_floorMod_7cf53 ∈ AW := aw_in (aw_t3 10 rfl) rfl
theorem aw_3_11 : Cond.static yJ9_floorMod_7cf53 ∈ AW := aw_in (aw_t3 11 rfl) rfl
theorem aw_3_12 : Cond.code yJ9_floorMod_7cf53 prog_15_method_50_code 3 (Option.some Jvm.ClassFile.FieldType.int) ∈ AW := aw_in (aw_t3 12 rfl) rfl
theorem aw_3_13 : Cond.methodLink RL 122 yL_transfer ∈ AW := aw_in (aw_t3 13 rfl) rfl
theorem aw_3_14 : Cond.static yL_transfer ∈ AW := aw_in (aw_t3 14 rfl) rfl
theorem aw_3_15 : Cond.codeWith yL_transfer method_10_code 6 (Option.some Jvm.ClassFile.FieldType.int) ([((0 : Nat), (12 : Nat), (15 : Nat), (21 : Nat)), ((0 : Nat), (12 : Nat), (19 : Nat), (13 : Nat)), ((0 : Nat), (12 : Nat), (23 : Nat), (15 : Nat))]) ∈ AW := aw_in (aw_t3 15 rfl) rfl
theorem aw_3_16 : Cond.methodLink RL 41 yX4_transfer ∈ AW := aw_in (aw_t3 16 rfl) rfl
theorem aw_3_17 : Cond.instanceMethod yX4_transfer ∈ AW := aw_in (aw_t3 17 rfl) rfl
theorem aw_3_18 : Cond.selects RX4 yX4_transfer yX4_transfer ∈ AW := aw_in (aw_t3 18 rfl) rfl
theorem aw_3_19 : Cond.code yX4_transfer prog_1_method_9_code 6 (Option.some Jvm.ClassFile.FieldType.int) ∈ AW := aw_in (aw_t3 19 rfl) rfl
theorem tw_3_20 : Cond.stringRef RX4 151 "both are the same, or units is out of range" ∈ lw_tbl := aw_t3 20 rfl
theorem tw_3_21 : Cond.stringRef RX4 157 "the one has less, or the other one has no room for it" ∈ lw_tbl := aw_t3 21 rfl
theorem aw_3_22 : Cond.methodLink RL 125 yL_law ∈ AW := aw_in (aw_t3 22 rfl) rfl
theorem aw_3_23 : Cond.static yL_law ∈ AW := aw_in (aw_t3 23 rfl) rfl
theorem aw_3_24 : Cond.codeWith yL_law method_11_code 6 (Option.some Jvm.ClassFile.FieldType.int) ([((0 : Nat), (12 : Nat), (15 : Nat), (13 : Nat)), ((0 : Nat), (12 : Nat), (19 : Nat), (15 : Nat))]) ∈ AW := aw_in (aw_t3 24 rfl) rfl
theorem aw_3_25 : Cond.methodLink RL 44 yX4_law ∈ AW := aw_in (aw_t3 25 rfl) rfl
theorem aw_3_26 : Cond.instanceMethod yX4_law ∈ AW := aw_in (aw_t3 26 rfl) rfl
theorem aw_3_27 : Cond.selects RX4 yX4_law yX4_law ∈ AW := aw_in (aw_t3 27 rfl) rfl
theorem aw_3_28 : Cond.code yX4_law prog_1_method_10_code 4 (Option.some Jvm.ClassFile.FieldType.int) ∈ AW := aw_in (aw_t3 28 rfl) rfl
theorem aw_3_29 : Cond.constant RX4 159 (10000000) ∈ AW := aw_in (aw_t3 29 rfl) rfl
theorem tw_3_30 : Cond.stringRef RX4 160 "an argument of the law is out of range" ∈ lw_tbl := aw_t3 30 rfl
theorem tw_3_31 : Cond.stringRef RX4 162 "no more laws fit" ∈ lw_tbl := aw_t3 31 rfl
theorem aw_3_32 : Cond.classLink RX4 164 RX2 ∈ AW := aw_in (aw_t3 32 rfl) rfl
theorem aw_3_33 : Cond.instantiable RX2 3 ∈ AW := aw_in (aw_t3 33 rfl) rfl
theorem aw_3_34 : Cond.methodLink RX4 166 yX2_init ∈ AW := aw_in (aw_t3 34 rfl) rfl
theorem aw_3_35 : Cond.instanceMethod yX2_init ∈ AW := aw_in (aw_t3 35 rfl) rfl
theorem aw_3_36 : Cond.code yX2_init prog_4_method_1_code 4 (Option.none : Option Jvm.ClassFile.FieldType) ∈ AW := aw_in (aw_t3 36 rfl) rfl
theorem aw_3_37 : Cond.methodLink RX2 1 ⟨"java/lang/Object", "<init>", "()V"⟩ ∈ AW := aw_in (aw_t3 37 rfl) rfl
theorem aw_3_38 : Cond.fieldLink RX2 7 RX2 "from" "I" ∈ AW := aw_in (aw_t3 38 rfl) rfl
theorem aw_3_39 : Cond.fieldLink RX4 262 RX2 "from" "I" ∈ AW := aw_in (aw_t3 39 rfl) rfl
theorem aw_3_40 : Cond.fieldLink RX2 13 RX2 "to" "I" ∈ AW := aw_in (aw_t3 40 rfl) rfl
theorem aw_3_41 : Cond.fieldLink RX4 265 RX2 "to" "I" ∈ AW := aw_in (aw_t3 41 rfl) rfl
theorem aw_3_42 : Cond.fieldLink RX2 16 RX2 "least" "I" ∈ AW := aw_in (aw_t3 42 rfl) rfl
theorem aw_3_43 : Cond.fieldLink RX4 268 RX2 "least" "I" ∈ AW := aw_in (aw_t3 43 rfl) rfl
theorem aw_3_44 : Cond.laysFinal RX2 RX2 "from" "I" ∈ AW := aw_in (aw_t3 44 rfl) rfl
theorem aw_3_46 : Cond.laysFinal RX2 RX2 "to" "I" ∈ AW := aw_in (aw_t3 46 rfl) rfl
theorem aw_3_48 : Cond.laysFinal RX2 RX2 "least" "I" ∈ AW := aw_in (aw_t3 48 rfl) rfl
theorem aw_3_50 : Cond.superclass RX2 "java/lang/Object" ∈ AW := aw_in (aw_t3 50 rfl) rfl
theorem aw_3_51 : Cond.methodLink RL 128 yL_price ∈ AW := aw_in (aw_t3 51 rfl) rfl
theorem aw_3_52 : Cond.static yL_price ∈ AW := aw_in (aw_t3 52 rfl) rfl
theorem aw_3_53 : Cond.codeWith yL_price method_12_code 5 (Option.some Jvm.ClassFile.FieldType.int) ([((0 : Nat), (10 : Nat), (13 : Nat), (13 : Nat))]) ∈ AW := aw_in (aw_t3 53 rfl) rfl
theorem aw_3_54 : Cond.methodLink RL 47 yX4_price ∈ AW := aw_in (aw_t3 54 rfl) rfl
theorem aw_3_55 : Cond.instanceMethod yX4_price ∈ AW := aw_in (aw_t3 55 rfl) rfl
theorem aw_3_56 : Cond.selects RX4 yX4_price yX4_price ∈ AW := aw_in (aw_t3 56 rfl) rfl
theorem aw_3_57 : Cond.code yX4_price prog_1_method_11_code 3 (Option.some Jvm.ClassFile.FieldType.int) ∈ AW := aw_in (aw_t3 57 rfl) rfl
theorem tw_3_58 : Cond.stringRef RX4 169 "hour or cents is out of range" ∈ lw_tbl := aw_t3 58 rfl
theorem aw_3_59 : Cond.methodLink RL 131 yL_pass ∈ AW := aw_in (aw_t3 59 rfl) rfl
theorem aw_3_60 : Cond.static yL_pass ∈ AW := aw_in (aw_t3 60 rfl) rfl
theorem aw_3_61 : Cond.codeWith yL_pass method_13_code 4 (Option.some Jvm.ClassFile.FieldType.int) ([((0 : Nat), (9 : Nat), (12 : Nat), (13 : Nat)), ((0 : Nat), (9 : Nat), (15 : Nat), (15 : Nat))]) ∈ AW := aw_in (aw_t3 61 rfl) rfl
theorem aw_3_62 : Cond.methodLink RL 50 yX4_pass ∈ AW := aw_in (aw_t3 62 rfl) rfl
theorem aw_3_63 : Cond.instanceMethod yX4_pass ∈ AW := aw_in (aw_t3 63 rfl) rfl
theorem aw_3_64 : Cond.selects RX4 yX4_pass yX4_pass ∈ AW := aw_in (aw_t3 64 rfl) rfl
theorem aw_3_65 : Cond.code yX4_pass prog_1_method_12_code 3 (Option.some Jvm.ClassFile.FieldType.int) ∈ AW := aw_in (aw_t3 65 rfl) rfl
theorem tw_3_66 : Cond.stringRef RX4 171 "hours is out of range" ∈ lw_tbl := aw_t3 66 rfl
theorem tw_3_67 : Cond.stringRef RX4 173 "the hour would be above the last one" ∈ lw_tbl := aw_t3 67 rfl
theorem aw_3_68 : Cond.methodLink RX4 175 yX4_goOneHour ∈ AW := aw_in (aw_t3 68 rfl) rfl
theorem aw_3_70 : Cond.instanceMethod yX4_goOneHour ∈ AW := aw_in (aw_t3 70 rfl) rfl
theorem aw_3_71 : Cond.code yX4_goOneHour prog_1_method_34_code 3 (Option.none : Option Jvm.ClassFile.FieldType) ∈ AW := aw_in (aw_t3 71 rfl) rfl
theorem aw_3_72 : Cond.methodLink RX4 217 yX4_planTheHour ∈ AW := aw_in (aw_t3 72 rfl) rfl
theorem aw_3_74 : Cond.instanceMethod yX4_planTheHour ∈ AW := aw_in (aw_t3 74 rfl) rfl
theorem aw_3_75 : Cond.code yX4_planTheHour prog_1_method_29_code 3 (Option.none : Option Jvm.ClassFile.FieldType) ∈ AW := aw_in (aw_t3 75 rfl) rfl
theorem aw_3_76 : Cond.methodLink RX4 271 yX0_planByRates ∈ AW := aw_in (aw_t3 76 rfl) rfl
theorem aw_3_77 : Cond.instanceMethod yX0_planByRates ∈ AW := aw_in (aw_t3 77 rfl) rfl
theorem aw_3_78 : Cond.selects RX0 yX0_planByRates yX0_planByRates ∈ AW := aw_in (aw_t3 78 rfl) rfl
theorem aw_3_79 : Cond.code yX0_planByRates prog_2_method_6_code 3 (Option.none : Option Jvm.ClassFile.FieldType) ∈ AW := aw_in (aw_t3 79 rfl) rfl
theorem aw_3_80 : Cond.methodLink RX0 66 yX1_at ∈ AW := aw_in (aw_t3 80 rfl) rfl
theorem aw_3_81 : Cond.instanceMethod yX1_at ∈ AW := aw_in (aw_t3 81 rfl) rfl
theorem aw_3_82 : Cond.selects RX1 yX1_at yX1_at ∈ AW := aw_in (aw_t3 82 rfl) rfl
theorem aw_3_83 : Cond.code yX1_at prog_3_method_2_code 2 (Option.some Jvm.ClassFile.FieldType.int) ∈ AW := aw_in (aw_t3 83 rfl) rfl
theorem aw_3_84 : Cond.methodLink RX0 69 yX0_mostOut ∈ AW := aw_in (aw_t3 84 rfl) rfl
theorem aw_3_85 : Cond.instanceMethod yX0_mostOut ∈ AW := aw_in (aw_t3 85 rfl) rfl
theorem aw_3_86 : Cond.selects RX0 yX0_mostOut yX0_mostOut ∈ AW := aw_in (aw_t3 86 rfl) rfl
theorem aw_3_87 : Cond.code yX0_mostOut prog_2_method_5_code 2 (Option.some Jvm.ClassFile.FieldType.int) ∈ AW := aw_in (aw_t3 87 rfl) rfl
theorem aw_3_88 : Cond.methodLink RX0 63 yX0_rateOutWith ∈ AW := aw_in (aw_t3 88 rfl) rfl
theorem aw_3_89 : Cond.instanceMethod yX0_rateOutWith ∈ AW := aw_in (aw_t3 89 rfl) rfl
theorem aw_3_90 : Cond.selects RX0 yX0_rateOutWith yX0_rateOutWith ∈ AW := aw_in (aw_t3 90 rfl) rfl
theorem aw_3_91 : Cond.code yX0_rateOutWith prog_2_method_3_code 2 (Option.some Jvm.ClassFile.FieldType.int) ∈ AW := aw_in (aw_t3 91 rfl) rfl
theorem aw_3_92 : Cond.methodLink RX0 57 yJ9_min_7cf53 ∈ AW := aw_in (aw_t3 92 rfl) rfl
theorem aw_3_93 : Cond.methodLink RX0 72 yX0_mostIn ∈ AW := aw_in (aw_t3 93 rfl) rfl
theorem aw_3_94 : Cond.instanceMethod yX0_mostIn ∈ AW := aw_in (aw_t3 94 rfl) rfl
theorem aw_3_95 : Cond.selects RX0 yX0_mostIn yX0_mostIn ∈ AW := aw_in (aw_t3 95 rfl) rfl
theorem aw_3_96 : Cond.code yX0_mostIn prog_2_method_4_code 2 (Option.some Jvm.ClassFile.FieldType.int) ∈ AW := aw_in (aw_t3 96 rfl) rfl
theorem aw_3_97 : Cond.methodLink RX0 53 yX0_rateInWith ∈ AW := aw_in (aw_t3 97 rfl) rfl
theorem aw_3_98 : Cond.instanceMethod yX0_rateInWith ∈ AW := aw_in (aw_t3 98 rfl) rfl
theorem aw_3_99 : Cond.selects RX0 yX0_rateInWith yX0_rateInWith ∈ AW := aw_in (aw_t3 99 rfl) rfl
theorem aw_3_100 : Cond.code yX0_rateInWith prog_2_method_2_code 2 (Option.some Jvm.ClassFile.FieldType.int) ∈ AW := aw_in (aw_t3 100 rfl) rfl
theorem aw_3_101 : Cond.methodLink RX0 75 yJ9_max_7cf53 ∈ AW := aw_in (aw_t3 101 rfl) rfl
theorem aw_3_102 : Cond.methodLink RX4 275 yX4_plannedAboveTheLaw ∈ AW := aw_in (aw_t3 102 rfl) rfl
theorem aw_3_104 : Cond.instanceMethod yX4_plannedAboveTheLaw ∈ AW := aw_in (aw_t3 104 rfl) rfl
theorem aw_3_105 : Cond.code yX4_plannedAboveTheLaw prog_1_method_30_code 4 (Option.some Jvm.ClassFile.FieldType.int) ∈ AW := aw_in (aw_t3 105 rfl) rfl
theorem aw_3_106 : Cond.methodLink RX4 246 yX4_leastByLaw ∈ AW := aw_in (aw_t3 106 rfl) rfl
theorem aw_3_108 : Cond.instanceMethod yX4_leastByLaw ∈ AW := aw_in (aw_t3 108 rfl) rfl
theorem aw_3_109 : Cond.code yX4_leastByLaw prog_1_method_28_code 3 (Option.some Jvm.ClassFile.FieldType.int) ∈ AW := aw_in (aw_t3 109 rfl) rfl
theorem aw_3_110 : Cond.methodLink RX4 292 yX0_sizeOfPlan ∈ AW := aw_in (aw_t3 110 rfl) rfl
theorem aw_3_111 : Cond.instanceMethod yX0_sizeOfPlan ∈ AW := aw_in (aw_t3 111 rfl) rfl
theorem aw_3_112 : Cond.selects RX0 yX0_sizeOfPlan yX0_sizeOfPlan ∈ AW := aw_in (aw_t3 112 rfl) rfl
theorem aw_3_113 : Cond.code yX0_sizeOfPlan prog_2_method_7_code 2 (Option.some Jvm.ClassFile.FieldType.int) ∈ AW := aw_in (aw_t3 113 rfl) rfl
theorem aw_3_114 : Cond.methodLink RX4 243 yX4_allInventories ∈ AW := aw_in (aw_t3 114 rfl) rfl
theorem aw_3_116 : Cond.instanceMethod yX4_allInventories ∈ AW := aw_in (aw_t3 116 rfl) rfl
theorem aw_3_117 : Cond.code yX4_allInventories prog_1_method_27_code 3 (Option.some Jvm.ClassFile.FieldType.int) ∈ AW := aw_in (aw_t3 117 rfl) rfl
theorem aw_3_118 : Cond.methodLink RX4 249 yJ9_max_7cf53 ∈ AW := aw_in (aw_t3 118 rfl) rfl
theorem aw_3_119 : Cond.methodLink RX4 278 yX4_curtail ∈ AW := aw_in (aw_t3 119 rfl) rfl
theorem aw_3_121 : Cond.instanceMethod yX4_curtail ∈ AW := aw_in (aw_t3 121 rfl) rfl
theorem aw_3_122 : Cond.code yX4_curtail prog_1_method_33_code 8 (Option.none : Option Jvm.ClassFile.FieldType) ∈ AW := aw_in (aw_t3 122 rfl) rfl
theorem aw_3_123 : Cond.methodLink RX4 298 yX0_cutBack ∈ AW := aw_in (aw_t3 123 rfl) rfl
theorem aw_3_124 : Cond.instanceMethod yX0_cutBack ∈ AW := aw_in (aw_t3 124 rfl) rfl
theorem aw_3_125 : Cond.selects RX0 yX0_cutBack yX0_cutBack ∈ AW := aw_in (aw_t3 125 rfl) rfl
theorem aw_3_126 : Cond.code yX0_cutBack prog_2_method_8_code 5 (Option.some Jvm.ClassFile.FieldType.int) ∈ AW := aw_in (aw_t3 126 rfl) rfl
theorem aw_3_127 : Cond.methodLink RX0 78 yX0_sizeOfPlan ∈ AW := aw_in (aw_t3 127 rfl) rfl
theorem aw_3_128 : Cond.methodLink RX4 282 yX4_plannedNet ∈ AW := aw_in (aw_t3 128 rfl) rfl
theorem aw_3_130 : Cond.instanceMethod yX4_plannedNet ∈ AW := aw_in (aw_t3 130 rfl) rfl
theorem aw_3_131 : Cond.code yX4_plannedNet prog_1_method_31_code 3 (Option.some Jvm.ClassFile.FieldType.int) ∈ AW := aw_in (aw_t3 131 rfl) rfl
theorem aw_3_132 : Cond.methodLink RX4 285 yJ9_abs_0f7a4 ∈ AW := aw_in (aw_t3 132 rfl) rfl
theorem aw_3_133 : Cond.static yJ9_abs_0f7a4 ∈ AW := aw_in (aw_t3 133 rfl) rfl
theorem aw_3_134 : Cond.code yJ9_abs_0f7a4 prog_15_method_59_code 1 (Option.some Jvm.ClassFile.FieldType.int) ∈ AW := aw_in (aw_t3 134 rfl) rfl
theorem aw_3_135 : Cond.methodLink RX4 288 yX4_capacityOfPlant ∈ AW := aw_in (aw_t3 135 rfl) rfl
theorem aw_3_137 : Cond.instanceMethod yX4_capacityOfPlant ∈ AW := aw_in (aw_t3 137 rfl) rfl
theorem aw_3_138 : Cond.code yX4_capacityOfPlant prog_1_method_32_code 6 (Option.some Jvm.ClassFile.FieldType.int) ∈ AW := aw_in (aw_t3 138 rfl) rfl
theorem aw_3_139 : Cond.methodLink RX4 181 yX3_rateIn ∈ AW := aw_in (aw_t3 139 rfl) rfl
theorem aw_3_140 : Cond.instanceMethod yX3_rateIn ∈ AW := aw_in (aw_t3 140 rfl) rfl
theorem aw_3_141 : Cond.selects RX3 yX3_rateIn yX3_rateIn ∈ AW := aw_in (aw_t3 141 rfl) rfl
theorem aw_3_142 : Cond.code yX3_rateIn prog_5_method_8_code 1 (Option.some Jvm.ClassFile.FieldType.int) ∈ AW := aw_in (aw_t3 142 rfl) rfl
theorem aw_3_143 : Cond.methodLink RX3 60 yX3_mostGas ∈ AW := aw_in (aw_t3 143 rfl) rfl
theorem aw_3_144 : Cond.instanceMethod yX3_mostGas ∈ AW := aw_in (aw_t3 144 rfl) rfl
theorem aw_3_145 : Cond.selects RX3 yX3_mostGas yX3_mostGas ∈ AW := aw_in (aw_t3 145 rfl) rfl
theorem aw_3_146 : Cond.code yX3_mostGas prog_5_method_7_code 1 (Option.some Jvm.ClassFile.FieldType.int) ∈ AW := aw_in (aw_t3 146 rfl) rfl
theorem aw_3_147 : Cond.methodLink RX3 54 yX3_mostGasFor ∈ AW := aw_in (aw_t3 147 rfl) rfl
theorem aw_3_148 : Cond.methodLink RX4 302 yX4_flowIn ∈ AW := aw_in (aw_t3 148 rfl) rfl
theorem aw_3_150 : Cond.instanceMethod yX4_flowIn ∈ AW := aw_in (aw_t3 150 rfl) rfl
theorem aw_3_151 : Cond.code yX4_flowIn prog_1_method_35_code 6 (Option.none : Option Jvm.ClassFile.FieldType) ∈ AW := aw_in (aw_t3 151 rfl) rfl
theorem aw_3_152 : Cond.methodLink RX4 317 yJ9_min_7cf53 ∈ AW := aw_in (aw_t3 152 rfl) rfl
theorem aw_3_153 : Cond.methodLink RX4 305 yX4_flowOut ∈ AW := aw_in (aw_t3 153 rfl) rfl
theorem aw_3_155 : Cond.instanceMethod yX4_flowOut ∈ AW := aw_in (aw_t3 155 rfl) rfl
theorem aw_3_156 : Cond.code yX4_flowOut prog_1_method_36_code 5 (Option.none : Option Jvm.ClassFile.FieldType) ∈ AW := aw_in (aw_t3 156 rfl) rfl
theorem aw_3_157 : Cond.methodLink RX4 320 yX3_giveAway ∈ AW := aw_in (aw_t3 157 rfl) rfl
theorem aw_3_158 : Cond.instanceMethod yX3_giveAway ∈ AW := aw_in (aw_t3 158 rfl) rfl
theorem aw_3_159 : Cond.selects RX3 yX3_giveAway yX3_giveAway ∈ AW := aw_in (aw_t3 159 rfl) rfl
theorem aw_3_160 : Cond.code yX3_giveAway prog_5_method_12_code 3 (Option.some Jvm.ClassFile.FieldType.int) ∈ AW := aw_in (aw_t3 160 rfl) rfl
theorem aw_3_161 : Cond.methodLink RX4 308 yX0_settle ∈ AW := aw_in (aw_t3 161 rfl) rfl
theorem aw_3_162 : Cond.instanceMethod yX0_settle ∈ AW := aw_in (aw_t3 162 rfl) rfl
theorem aw_3_163 : Cond.selects RX0 yX0_settle yX0_settle ∈ AW := aw_in (aw_t3 163 rfl) rfl
theorem aw_3_164 : Cond.code yX0_settle prog_2_method_9_code 2 (Option.none : Option Jvm.ClassFile.FieldType) ∈ AW := aw_in (aw_t3 164 rfl) rfl
theorem aw_3_165 : Cond.methodLink RX0 82 yX1_put ∈ AW := aw_in (aw_t3 165 rfl) rfl
theorem aw_3_166 : Cond.methodLink RX4 311 yX3_loseInAnHour ∈ AW := aw_in (aw_t3 166 rfl) rfl
theorem aw_3_167 : Cond.instanceMethod yX3_loseInAnHour ∈ AW := aw_in (aw_t3 167 rfl) rfl
theorem aw_3_168 : Cond.selects RX3 yX3_loseInAnHour yX3_loseInAnHour ∈ AW := aw_in (aw_t3 168 rfl) rfl
theorem aw_3_169 : Cond.code yX3_loseInAnHour prog_5_method_13_code 2 (Option.some Jvm.ClassFile.FieldType.int) ∈ AW := aw_in (aw_t3 169 rfl) rfl
theorem aw_3_170 : Cond.methodLink RX3 77 yX3_giveAway ∈ AW := aw_in (aw_t3 170 rfl) rfl
theorem aw_3_171 : Cond.methodLink RX4 314 yX4_endTheDay ∈ AW := aw_in (aw_t3 171 rfl) rfl
theorem aw_3_173 : Cond.instanceMethod yX4_endTheDay ∈ AW := aw_in (aw_t3 173 rfl) rfl
theorem aw_3_174 : Cond.code yX4_endTheDay prog_1_method_37_code 2 (Option.none : Option Jvm.ClassFile.FieldType) ∈ AW := aw_in (aw_t3 174 rfl) rfl
theorem aw_3_175 : Cond.methodLink RX4 323 yX3_loseAtDaysEnd ∈ AW := aw_in (aw_t3 175 rfl) rfl
theorem aw_3_176 : Cond.instanceMethod yX3_loseAtDaysEnd ∈ AW := aw_in (aw_t3 176 rfl) rfl
theorem aw_3_177 : Cond.selects RX3 yX3_loseAtDaysEnd yX3_loseAtDaysEnd ∈ AW := aw_in (aw_t3 177 rfl) rfl
theorem aw_3_178 : Cond.code yX3_loseAtDaysEnd prog_5_method_14_code 1 (Option.some Jvm.ClassFile.FieldType.int) ∈ AW := aw_in (aw_t3 178 rfl) rfl
theorem aw_3_179 : Cond.methodLink RX3 81 yX3_moveWater ∈ AW := aw_in (aw_t3 179 rfl) rfl
theorem aw_3_181 : Cond.instanceMethod yX3_moveWater ∈ AW := aw_in (aw_t3 181 rfl) rfl
theorem aw_3_182 : Cond.code yX3_moveWater prog_5_method_15_code 2 (Option.none : Option Jvm.ClassFile.FieldType) ∈ AW := aw_in (aw_t3 182 rfl) rfl
theorem aw_3_183 : Cond.methodLink RX3 84 yX3_creep ∈ AW := aw_in (aw_t3 183 rfl) rfl
theorem aw_3_185 : Cond.instanceMethod yX3_creep ∈ AW := aw_in (aw_t3 185 rfl) rfl
theorem aw_3_186 : Cond.code yX3_creep prog_5_method_16_code 3 (Option.none : Option Jvm.ClassFile.FieldType) ∈ AW := aw_in (aw_t3 186 rfl) rfl
theorem aw_3_187 : Cond.constantLong RX3 87 (100000) ∈ AW := aw_in (aw_t3 187 rfl) rfl
theorem aw_3_188 : Cond.methodLink RX3 89 yJ9_max_f86c9 ∈ AW := aw_in (aw_t3 188 rfl) rfl
theorem aw_3_189 : Cond.static yJ9_max_f86c9 ∈ AW := aw_in (aw_t3 189 rfl) rfl
theorem aw_3_190 : Cond.code yJ9_max_f86c9 prog_15_method_66_code 4 (Option.some Jvm.ClassFile.FieldType.long) ∈ AW := aw_in (aw_t3 190 rfl) rfl
theorem aw_3_191 : Cond.methodLink RL 134 yL_pressure ∈ AW := aw_in (aw_t3 191 rfl) rfl
theorem aw_3_192 : Cond.static yL_pressure ∈ AW := aw_in (aw_t3 192 rfl) rfl
theorem aw_3_193 : Cond.codeWith yL_pressure method_14_code 4 (Option.some Jvm.ClassFile.FieldType.int) ([((0 : Nat), (9 : Nat), (12 : Nat), (21 : Nat))]) ∈ AW := aw_in (aw_t3 193 rfl) rfl
theorem aw_3_194 : Cond.methodLink RL 53 yX4_pressure ∈ AW := aw_in (aw_t3 194 rfl) rfl
theorem aw_3_195 : Cond.instanceMethod yX4_pressure ∈ AW := aw_in (aw_t3 195 rfl) rfl
theorem aw_3_196 : Cond.selects RX4 yX4_pressure yX4_pressure ∈ AW := aw_in (aw_t3 196 rfl) rfl
theorem aw_3_197 : Cond.code yX4_pressure prog_1_method_13_code 2 (Option.some Jvm.ClassFile.FieldType.int) ∈ AW := aw_in (aw_t3 197 rfl) rfl
theorem aw_3_198 : Cond.methodLink RX4 178 yX3_pressureNow ∈ AW := aw_in (aw_t3 198 rfl) rfl
theorem aw_3_199 : Cond.methodLink RL 137 yL_rate ∈ AW := aw_in (aw_t3 199 rfl) rfl
theorem aw_3_200 : Cond.static yL_rate ∈ AW := aw_in (aw_t3 200 rfl) rfl
theorem aw_3_201 : Cond.codeWith yL_rate method_15_code 5 (Option.some Jvm.ClassFile.FieldType.int) ([((0 : Nat), (10 : Nat), (13 : Nat), (21 : Nat))]) ∈ AW := aw_in (aw_t3 201 rfl) rfl
theorem aw_3_202 : Cond.methodLink RL 56 yX4_rate ∈ AW := aw_in (aw_t3 202 rfl) rfl
theorem aw_3_203 : Cond.instanceMethod yX4_rate ∈ AW := aw_in (aw_t3 203 rfl) rfl
theorem aw_3_204 : Cond.selects RX4 yX4_rate yX4_rate ∈ AW := aw_in (aw_t3 204 rfl) rfl
theorem aw_3_205 : Cond.code yX4_rate prog_1_method_14_code 4 (Option.some Jvm.ClassFile.FieldType.int) ∈ AW := aw_in (aw_t3 205 rfl) rfl
theorem aw_3_206 : Cond.methodLink RL 141 yL_mix ∈ AW := aw_in (aw_t3 206 rfl) rfl
theorem aw_3_207 : Cond.static yL_mix ∈ AW := aw_in (aw_t3 207 rfl) rfl
theorem aw_3_208 : Cond.codeWith yL_mix method_16_code 4 (Option.some Jvm.ClassFile.FieldType.int) ([((0 : Nat), (9 : Nat), (12 : Nat), (21 : Nat))]) ∈ AW := aw_in (aw_t3 208 rfl) rfl
theorem aw_3_209 : Cond.methodLink RL 60 yX4_mix ∈ AW := aw_in (aw_t3 209 rfl) rfl
theorem aw_3_210 : Cond.instanceMethod yX4_mix ∈ AW := aw_in (aw_t3 210 rfl) rfl
theorem aw_3_211 : Cond.selects RX4 yX4_mix yX4_mix ∈ AW := aw_in (aw_t3 211 rfl) rfl
theorem aw_3_212 : Cond.code yX4_mix prog_1_method_15_code 3 (Option.some Jvm.ClassFile.FieldType.int) ∈ AW := aw_in (aw_t3 212 rfl) rfl
theorem aw_3_213 : Cond.methodLink RL 144 yL_ofStore ∈ AW := aw_in (aw_t3 213 rfl) rfl
theorem aw_3_214 : Cond.static yL_ofStore ∈ AW := aw_in (aw_t3 214 rfl) rfl
theorem aw_3_215 : Cond.codeWith yL_ofStore method_17_code 5 (Option.some Jvm.ClassFile.FieldType.int) ([((0 : Nat), (9 : Nat), (12 : Nat), (21 : Nat)), ((0 : Nat), (9 : Nat), (16 : Nat), (13 : Nat))]) ∈ AW := aw_in (aw_t3 215 rfl) rfl
theorem aw_3_216 : Cond.methodLink RL 63 yX4_ofStore ∈ AW := aw_in (aw_t3 216 rfl) rfl
theorem aw_3_217 : Cond.instanceMethod yX4_ofStore ∈ AW := aw_in (aw_t3 217 rfl) rfl
theorem aw_3_218 : Cond.selects RX4 yX4_ofStore yX4_ofStore ∈ AW := aw_in (aw_t3 218 rfl) rfl
theorem aw_3_219 : Cond.code yX4_ofStore prog_1_method_16_code 4 (Option.some Jvm.ClassFile.FieldType.long) ∈ AW := aw_in (aw_t3 219 rfl) rfl
theorem aw_3_220 : Cond.methodLink RX4 187 yX3_room ∈ AW := aw_in (aw_t3 220 rfl) rfl
theorem aw_3_221 : Cond.methodLink RX4 193 yX3_leastGas ∈ AW := aw_in (aw_t3 221 rfl) rfl
theorem aw_3_222 : Cond.methodLink RX4 196 yX3_mostGas ∈ AW := aw_in (aw_t3 222 rfl) rfl
theorem tw_3_223 : Cond.stringRef RX4 199 "what is out of range" ∈ lw_tbl := aw_t3 223 rfl
theorem aw_3_224 : Cond.methodLink RL 147 yL_ofCustomer ∈ AW := aw_in (aw_t3 224 rfl) rfl
theorem aw_3_225 : Cond.static yL_ofCustomer ∈ AW := aw_in (aw_t3 225 rfl) rfl
theorem aw_3_226 : Cond.codeWith yL_ofCustomer method_18_code 5 (Option.some Jvm.ClassFile.FieldType.int) ([((0 : Nat), (9 : Nat), (12 : Nat), (21 : Nat)), ((0 : Nat), (9 : Nat), (16 : Nat), (13 : Nat))]) ∈ AW := aw_in (aw_t3 226 rfl) rfl
theorem aw_3_227 : Cond.methodLink RL 67 yX4_ofCustomer ∈ AW := aw_in (aw_t3 227 rfl) rfl
theorem aw_3_228 : Cond.instanceMethod yX4_ofCustomer ∈ AW := aw_in (aw_t3 228 rfl) rfl
theorem aw_3_229 : Cond.selects RX4 yX4_ofCustomer yX4_ofCustomer ∈ AW := aw_in (aw_t3 229 rfl) rfl
theorem aw_3_230 : Cond.code yX4_ofCustomer prog_1_method_17_code 4 (Option.some Jvm.ClassFile.FieldType.long) ∈ AW := aw_in (aw_t3 230 rfl) rfl
theorem aw_3_231 : Cond.methodLink RX4 201 yX0_rateInWith ∈ AW := aw_in (aw_t3 231 rfl) rfl
theorem aw_3_232 : Cond.methodLink RX4 205 yX0_rateOutWith ∈ AW := aw_in (aw_t3 232 rfl) rfl
theorem aw_3_233 : Cond.methodLink RL 150 yL_flow ∈ AW := aw_in (aw_t3 233 rfl) rfl
theorem aw_3_234 : Cond.static yL_flow ∈ AW := aw_in (aw_t3 234 rfl) rfl
theorem aw_3_235 : Cond.codeWith yL_flow method_19_code 4 (Option.some Jvm.ClassFile.FieldType.int) ([((0 : Nat), (9 : Nat), (12 : Nat), (21 : Nat))]) ∈ AW := aw_in (aw_t3 235 rfl) rfl
theorem aw_3_236 : Cond.methodLink RL 70 yX4_flow ∈ AW := aw_in (aw_t3 236 rfl) rfl
theorem aw_3_237 : Cond.instanceMethod yX4_flow ∈ AW := aw_in (aw_t3 237 rfl) rfl
theorem aw_3_238 : Cond.selects RX4 yX4_flow yX4_flow ∈ AW := aw_in (aw_t3 238 rfl) rfl
theorem aw_3_239 : Cond.code yX4_flow prog_1_method_18_code 3 (Option.some Jvm.ClassFile.FieldType.int) ∈ AW := aw_in (aw_t3 239 rfl) rfl
theorem aw_4_0 : Cond.methodLink RL 153 yL_why ∈ AW := aw_in (aw_t4 0 rfl) rfl
theorem aw_4_1 : Cond.static yL_why ∈ AW := aw_in (aw_t4 1 rfl) rfl
theorem aw_4_2 : Cond.codeWith yL_why method_20_code 4 (Option.some Jvm.ClassFile.FieldType.int) ([((0 : Nat), (9 : Nat), (12 : Nat), (21 : Nat))]) ∈ AW := aw_in (aw_t4 2 rfl) rfl
theorem aw_4_3 : Cond.methodLink RL 73 yX4_why ∈ AW := aw_in (aw_t4 3 rfl) rfl
theorem aw_4_4 : Cond.instanceMethod yX4_why ∈ AW := aw_in (aw_t4 4 rfl) rfl
theorem aw_4_5 : Cond.selects RX4 yX4_why yX4_why ∈ AW := aw_in (aw_t4 5 rfl) rfl
theorem aw_4_6 : Cond.code yX4_why prog_1_method_19_code 3 (Option.some Jvm.ClassFile.FieldType.int) ∈ AW := aw_in (aw_t4 6 rfl) rfl
theorem aw_4_7 : Cond.methodLink RL 156 yL_worth ∈ AW := aw_in (aw_t4 7 rfl) rfl
theorem aw_4_8 : Cond.static yL_worth ∈ AW := aw_in (aw_t4 8 rfl) rfl
theorem aw_4_9 : Cond.codeWith yL_worth method_21_code 5 (Option.some Jvm.ClassFile.FieldType.int) ([((0 : Nat), (9 : Nat), (12 : Nat), (21 : Nat)), ((0 : Nat), (9 : Nat), (16 : Nat), (13 : Nat))]) ∈ AW := aw_in (aw_t4 9 rfl) rfl
theorem aw_4_10 : Cond.methodLink RL 76 yX4_worth ∈ AW := aw_in (aw_t4 10 rfl) rfl
theorem aw_4_11 : Cond.instanceMethod yX4_worth ∈ AW := aw_in (aw_t4 11 rfl) rfl
theorem aw_4_12 : Cond.selects RX4 yX4_worth yX4_worth ∈ AW := aw_in (aw_t4 12 rfl) rfl
theorem aw_4_13 : Cond.code yX4_worth prog_1_method_20_code 4 (Option.some Jvm.ClassFile.FieldType.long) ∈ AW := aw_in (aw_t4 13 rfl) rfl
theorem aw_4_14 : Cond.methodLink RX4 226 yX4_bestSum ∈ AW := aw_in (aw_t4 14 rfl) rfl
theorem aw_4_16 : Cond.instanceMethod yX4_bestSum ∈ AW := aw_in (aw_t4 16 rfl) rfl
theorem aw_4_17 : Cond.code yX4_bestSum prog_1_method_38_code 11 (Option.some Jvm.ClassFile.FieldType.long) ∈ AW := aw_in (aw_t4 17 rfl) rfl
theorem aw_4_18 : Cond.methodLink RX4 326 yX1_at ∈ AW := aw_in (aw_t4 18 rfl) rfl
theorem aw_4_19 : Cond.methodLink RX4 329 yX0_mostIn ∈ AW := aw_in (aw_t4 19 rfl) rfl
theorem aw_4_20 : Cond.methodLink RX4 234 yJ9_max_f86c9 ∈ AW := aw_in (aw_t4 20 rfl) rfl
theorem aw_4_21 : Cond.methodLink RX4 332 yX0_mostOut ∈ AW := aw_in (aw_t4 21 rfl) rfl
theorem aw_4_22 : Cond.methodLink RL 159 yL_worthAnew ∈ AW := aw_in (aw_t4 22 rfl) rfl
theorem aw_4_23 : Cond.static yL_worthAnew ∈ AW := aw_in (aw_t4 23 rfl) rfl
theorem aw_4_24 : Cond.codeWith yL_worthAnew method_22_code 5 (Option.some Jvm.ClassFile.FieldType.int) ([((0 : Nat), (9 : Nat), (12 : Nat), (21 : Nat)), ((0 : Nat), (9 : Nat), (16 : Nat), (13 : Nat))]) ∈ AW := aw_in (aw_t4 24 rfl) rfl
theorem aw_4_25 : Cond.methodLink RL 79 yX4_worthAnew ∈ AW := aw_in (aw_t4 25 rfl) rfl
theorem aw_4_26 : Cond.instanceMethod yX4_worthAnew ∈ AW := aw_in (aw_t4 26 rfl) rfl
theorem aw_4_27 : Cond.selects RX4 yX4_worthAnew yX4_worthAnew ∈ AW := aw_in (aw_t4 27 rfl) rfl
theorem aw_4_28 : Cond.code yX4_worthAnew prog_1_method_21_code 8 (Option.some Jvm.ClassFile.FieldType.long) ∈ AW := aw_in (aw_t4 28 rfl) rfl
theorem aw_4_29 : Cond.methodLink RX4 230 yX4_sumOfWay ∈ AW := aw_in (aw_t4 29 rfl) rfl
theorem aw_4_31 : Cond.instanceMethod yX4_sumOfWay ∈ AW := aw_in (aw_t4 31 rfl) rfl
theorem aw_4_32 : Cond.code yX4_sumOfWay prog_1_method_39_code 11 (Option.some Jvm.ClassFile.FieldType.long) ∈ AW := aw_in (aw_t4 32 rfl) rfl
theorem aw_4_33 : Cond.methodLink RL 162 yL_of ∈ AW := aw_in (aw_t4 33 rfl) rfl
theorem aw_4_34 : Cond.static yL_of ∈ AW := aw_in (aw_t4 34 rfl) rfl
theorem aw_4_35 : Cond.codeWith yL_of method_23_code 4 (Option.some Jvm.ClassFile.FieldType.int) ([((0 : Nat), (8 : Nat), (11 : Nat), (13 : Nat))]) ∈ AW := aw_in (aw_t4 35 rfl) rfl
theorem aw_4_36 : Cond.methodLink RL 82 yX4_of ∈ AW := aw_in (aw_t4 36 rfl) rfl
theorem aw_4_37 : Cond.instanceMethod yX4_of ∈ AW := aw_in (aw_t4 37 rfl) rfl
theorem aw_4_38 : Cond.selects RX4 yX4_of yX4_of ∈ AW := aw_in (aw_t4 38 rfl) rfl
theorem aw_4_39 : Cond.code yX4_of prog_1_method_22_code 2 (Option.some Jvm.ClassFile.FieldType.long) ∈ AW := aw_in (aw_t4 39 rfl) rfl
theorem aw_4_40 : Cond.methodLink RX4 240 yX4_gasInAllStores ∈ AW := aw_in (aw_t4 40 rfl) rfl
theorem aw_4_42 : Cond.instanceMethod yX4_gasInAllStores ∈ AW := aw_in (aw_t4 42 rfl) rfl
theorem aw_4_43 : Cond.code yX4_gasInAllStores prog_1_method_26_code 3 (Option.some Jvm.ClassFile.FieldType.int) ∈ AW := aw_in (aw_t4 43 rfl) rfl
theorem aw_4_44 : Cond.classLink RL 87 RX5 ∈ AW := aw_in (aw_t4 44 rfl) rfl
theorem aw_4_45 : Cond.instantiable RX5 40 ∈ AW := aw_in (aw_t4 45 rfl) rfl
theorem aw_4_46 : Cond.methodLink RL 89 yX5_init ∈ AW := aw_in (aw_t4 46 rfl) rfl
theorem aw_4_47 : Cond.instanceMethod yX5_init ∈ AW := aw_in (aw_t4 47 rfl) rfl
theorem aw_4_48 : Cond.code yX5_init prog_7_method_1_code 1 (Option.none : Option Jvm.ClassFile.FieldType) ∈ AW := aw_in (aw_t4 48 rfl) rfl
theorem aw_4_49 : Cond.methodLink RX5 1 ⟨"java/lang/Object", "<init>", "()V"⟩ ∈ AW := aw_in (aw_t4 49 rfl) rfl
theorem aw_4_50 : Cond.fieldLink RX5 102 RX5 "thrown" "I" ∈ AW := aw_in (aw_t4 50 rfl) rfl
theorem aw_4_51 : Cond.fieldLink RX5 151 RX5 "now" "I" ∈ AW := aw_in (aw_t4 51 rfl) rfl
theorem aw_4_52 : Cond.fieldLink RX5 105 RX5 "stores" "I" ∈ AW := aw_in (aw_t4 52 rfl) rfl
theorem aw_4_53 : Cond.fieldLink RX5 7 RX5 "kind" "[I" ∈ AW := aw_in (aw_t4 53 rfl) rfl
theorem aw_4_54 : Cond.fieldLink RX5 13 RX5 "volume" "[I" ∈ AW := aw_in (aw_t4 54 rfl) rfl
theorem aw_4_55 : Cond.fieldLink RX5 16 RX5 "water" "[I" ∈ AW := aw_in (aw_t4 55 rfl) rfl
theorem aw_4_56 : Cond.fieldLink RX5 19 RX5 "gas" "[I" ∈ AW := aw_in (aw_t4 56 rfl) rfl
theorem aw_4_57 : Cond.fieldLink RX5 22 RX5 "least" "[I" ∈ AW := aw_in (aw_t4 57 rfl) rfl
theorem aw_4_58 : Cond.fieldLink RX5 25 RX5 "greatest" "[I" ∈ AW := aw_in (aw_t4 58 rfl) rfl
theorem aw_4_59 : Cond.fieldLink RX5 28 RX5 "mark" "[I" ∈ AW := aw_in (aw_t4 59 rfl) rfl
theorem aw_4_60 : Cond.fieldLink RX5 31 RX5 "wells" "[I" ∈ AW := aw_in (aw_t4 60 rfl) rfl
theorem aw_4_61 : Cond.fieldLink RX5 34 RX5 "strength" "[I" ∈ AW := aw_in (aw_t4 61 rfl) rfl
theorem aw_4_62 : Cond.fieldLink RX5 37 RX5 "leak" "[I" ∈ AW := aw_in (aw_t4 62 rfl) rfl
theorem aw_4_63 : Cond.fieldLink RX5 40 RX5 "heat" "[J" ∈ AW := aw_in (aw_t4 63 rfl) rfl
theorem aw_4_64 : Cond.fieldLink RX5 44 RX5 "rateThen" "[I" ∈ AW := aw_in (aw_t4 64 rfl) rfl
theorem aw_4_65 : Cond.fieldLink RX5 47 RX5 "comes" "I" ∈ AW := aw_in (aw_t4 65 rfl) rfl
theorem aw_4_66 : Cond.fieldLink RX5 112 RX5 "customers" "I" ∈ AW := aw_in (aw_t4 66 rfl) rfl
theorem aw_4_67 : Cond.fieldLink RX5 51 RX5 "holds" "[I" ∈ AW := aw_in (aw_t4 67 rfl) rfl
theorem aw_4_68 : Cond.fieldLink RX5 54 RX5 "rateIn" "[I" ∈ AW := aw_in (aw_t4 68 rfl) rfl
theorem aw_4_69 : Cond.fieldLink RX5 57 RX5 "rateOut" "[I" ∈ AW := aw_in (aw_t4 69 rfl) rfl
theorem aw_4_70 : Cond.fieldLink RX5 60 RX5 "rank" "[I" ∈ AW := aw_in (aw_t4 70 rfl) rfl
theorem aw_4_71 : Cond.fieldLink RX5 63 RX5 "inventory" "[I" ∈ AW := aw_in (aw_t4 71 rfl) rfl
theorem aw_4_72 : Cond.fieldLink RX5 66 RX5 "brought" "[J" ∈ AW := aw_in (aw_t4 72 rfl) rfl
theorem aw_4_73 : Cond.fieldLink RX5 69 RX5 "taken" "[J" ∈ AW := aw_in (aw_t4 73 rfl) rfl
theorem aw_4_74 : Cond.fieldLink RX5 72 RX5 "curtailed" "[J" ∈ AW := aw_in (aw_t4 74 rfl) rfl
theorem aw_4_75 : Cond.fieldLink RX5 75 RX5 "nominated" "[I" ∈ AW := aw_in (aw_t4 75 rfl) rfl
theorem aw_4_76 : Cond.fieldLink RX5 78 RX5 "price" "[I" ∈ AW := aw_in (aw_t4 76 rfl) rfl
theorem aw_4_77 : Cond.fieldLink RX5 159 RX5 "laws" "I" ∈ AW := aw_in (aw_t4 77 rfl) rfl
theorem aw_4_78 : Cond.fieldLink RX5 81 RX5 "lawFrom" "[I" ∈ AW := aw_in (aw_t4 78 rfl) rfl
theorem aw_4_79 : Cond.fieldLink RX5 84 RX5 "lawTo" "[I" ∈ AW := aw_in (aw_t4 79 rfl) rfl
theorem aw_4_80 : Cond.fieldLink RX5 87 RX5 "lawLeast" "[I" ∈ AW := aw_in (aw_t4 80 rfl) rfl
theorem aw_4_81 : Cond.fieldLink RX5 169 RX5 "flowed" "I" ∈ AW := aw_in (aw_t4 81 rfl) rfl
theorem aw_4_82 : Cond.fieldLink RX5 172 RX5 "flowedAhead" "I" ∈ AW := aw_in (aw_t4 82 rfl) rfl
theorem aw_4_83 : Cond.fieldLink RX5 136 RX5 "came" "J" ∈ AW := aw_in (aw_t4 83 rfl) rfl
theorem aw_4_84 : Cond.fieldLink RX5 206 RX5 "went" "J" ∈ AW := aw_in (aw_t4 84 rfl) rfl
theorem aw_4_85 : Cond.fieldLink RX5 203 RX5 "lost" "J" ∈ AW := aw_in (aw_t4 85 rfl) rfl
theorem aw_4_86 : Cond.fieldLink RX5 90 RX5 "bring" "[I" ∈ AW := aw_in (aw_t4 86 rfl) rfl
theorem aw_4_87 : Cond.fieldLink RX5 93 RX5 "take" "[I" ∈ AW := aw_in (aw_t4 87 rfl) rfl
theorem aw_4_88 : Cond.fieldLink RX5 96 RX5 "less" "[I" ∈ AW := aw_in (aw_t4 88 rfl) rfl
theorem aw_4_89 : Cond.fieldLink RX5 99 RX5 "first" "[I" ∈ AW := aw_in (aw_t4 89 rfl) rfl
theorem aw_4_90 : Cond.lays RX5 RX5 "thrown" "I" ∈ AW := aw_in (aw_t4 90 rfl) rfl
theorem aw_4_92 : Cond.lays RX5 RX5 "now" "I" ∈ AW := aw_in (aw_t4 92 rfl) rfl
theorem aw_4_94 : Cond.lays RX5 RX5 "stores" "I" ∈ AW := aw_in (aw_t4 94 rfl) rfl
theorem aw_4_96 : Cond.laysFinal RX5 RX5 "kind" "[I" ∈ AW := aw_in (aw_t4 96 rfl) rfl
theorem aw_4_98 : Cond.laysFinal RX5 RX5 "volume" "[I" ∈ AW := aw_in (aw_t4 98 rfl) rfl
theorem aw_4_100 : Cond.laysFinal RX5 RX5 "water" "[I" ∈ AW := aw_in (aw_t4 100 rfl) rfl
theorem aw_4_102 : Cond.laysFinal RX5 RX5 "gas" "[I" ∈ AW := aw_in (aw_t4 102 rfl) rfl
theorem aw_4_104 : Cond.laysFinal RX5 RX5 "least" "[I" ∈ AW := aw_in (aw_t4 104 rfl) rfl
theorem aw_4_106 : Cond.laysFinal RX5 RX5 "greatest" "[I" ∈ AW := aw_in (aw_t4 106 rfl) rfl
theorem aw_4_108 : Cond.laysFinal RX5 RX5 "mark" "[I" ∈ AW := aw_in (aw_t4 108 rfl) rfl
theorem aw_4_110 : Cond.laysFinal RX5 RX5 "wells" "[I" ∈ AW := aw_in (aw_t4 110 rfl) rfl
theorem aw_4_112 : Cond.laysFinal RX5 RX5 "strength" "[I" ∈ AW := aw_in (aw_t4 112 rfl) rfl
theorem aw_4_114 : Cond.laysFinal RX5 RX5 "leak" "[I" ∈ AW := aw_in (aw_t4 114 rfl) rfl
theorem aw_4_116 : Cond.laysFinal RX5 RX5 "heat" "[J" ∈ AW := aw_in (aw_t4 116 rfl) rfl
theorem aw_4_118 : Cond.laysFinal RX5 RX5 "rateThen" "[I" ∈ AW := aw_in (aw_t4 118 rfl) rfl
theorem aw_4_120 : Cond.lays RX5 RX5 "comes" "I" ∈ AW := aw_in (aw_t4 120 rfl) rfl
theorem aw_4_122 : Cond.lays RX5 RX5 "customers" "I" ∈ AW := aw_in (aw_t4 122 rfl) rfl
theorem aw_4_124 : Cond.laysFinal RX5 RX5 "holds" "[I" ∈ AW := aw_in (aw_t4 124 rfl) rfl
theorem aw_4_126 : Cond.laysFinal RX5 RX5 "rateIn" "[I" ∈ AW := aw_in (aw_t4 126 rfl) rfl
theorem aw_4_128 : Cond.laysFinal RX5 RX5 "rateOut" "[I" ∈ AW := aw_in (aw_t4 128 rfl) rfl
theorem aw_4_130 : Cond.laysFinal RX5 RX5 "rank" "[I" ∈ AW := aw_in (aw_t4 130 rfl) rfl
theorem aw_4_132 : Cond.laysFinal RX5 RX5 "inventory" "[I" ∈ AW := aw_in (aw_t4 132 rfl) rfl
theorem aw_4_134 : Cond.laysFinal RX5 RX5 "brought" "[J" ∈ AW := aw_in (aw_t4 134 rfl) rfl
theorem aw_4_136 : Cond.laysFinal RX5 RX5 "taken" "[J" ∈ AW := aw_in (aw_t4 136 rfl) rfl
theorem aw_4_138 : Cond.laysFinal RX5 RX5 "curtailed" "[J" ∈ AW := aw_in (aw_t4 138 rfl) rfl
theorem aw_4_140 : Cond.laysFinal RX5 RX5 "nominated" "[I" ∈ AW := aw_in (aw_t4 140 rfl) rfl
theorem aw_4_142 : Cond.laysFinal RX5 RX5 "price" "[I" ∈ AW := aw_in (aw_t4 142 rfl) rfl
theorem aw_4_144 : Cond.lays RX5 RX5 "laws" "I" ∈ AW := aw_in (aw_t4 144 rfl) rfl
theorem aw_4_146 : Cond.laysFinal RX5 RX5 "lawFrom" "[I" ∈ AW := aw_in (aw_t4 146 rfl) rfl
theorem aw_4_148 : Cond.laysFinal RX5 RX5 "lawTo" "[I" ∈ AW := aw_in (aw_t4 148 rfl) rfl
theorem aw_4_150 : Cond.laysFinal RX5 RX5 "lawLeast" "[I" ∈ AW := aw_in (aw_t4 150 rfl) rfl
theorem aw_4_152 : Cond.lays RX5 RX5 "flowed" "I" ∈ AW := aw_in (aw_t4 152 rfl) rfl
theorem aw_4_154 : Cond.lays RX5 RX5 "flowedAhead" "I" ∈ AW := aw_in (aw_t4 154 rfl) rfl
theorem aw_4_156 : Cond.lays RX5 RX5 "came" "J" ∈ AW := aw_in (aw_t4 156 rfl) rfl
theorem aw_4_158 : Cond.lays RX5 RX5 "went" "J" ∈ AW := aw_in (aw_t4 158 rfl) rfl
theorem aw_4_160 : Cond.lays RX5 RX5 "lost" "J" ∈ AW := aw_in (aw_t4 160 rfl) rfl
theorem aw_4_162 : Cond.laysFinal RX5 RX5 "bring" "[I" ∈ AW := aw_in (aw_t4 162 rfl) rfl
theorem aw_4_164 : Cond.laysFinal RX5 RX5 "take" "[I" ∈ AW := aw_in (aw_t4 164 rfl) rfl
theorem aw_4_166 : Cond.laysFinal RX5 RX5 "less" "[I" ∈ AW := aw_in (aw_t4 166 rfl) rfl
theorem aw_4_168 : Cond.laysFinal RX5 RX5 "first" "[I" ∈ AW := aw_in (aw_t4 168 rfl) rfl
theorem aw_4_170 : Cond.superclass RX5 "java/lang/Object" ∈ AW := aw_in (aw_t4 170 rfl) rfl
theorem aw_4_171 : Cond.arrayClass Jvm.ClassFile.FieldType.long ∈ AW := aw_in (aw_t4 171 rfl) rfl
theorem aw_4_172 : Cond.methodLink RL 96 yX5_thrown ∈ AW := aw_in (aw_t4 172 rfl) rfl
theorem aw_4_173 : Cond.instanceMethod yX5_thrown ∈ AW := aw_in (aw_t4 173 rfl) rfl
theorem aw_4_174 : Cond.selects RX5 yX5_thrown yX5_thrown ∈ AW := aw_in (aw_t4 174 rfl) rfl
theorem aw_4_175 : Cond.code yX5_thrown prog_7_method_2_code 1 (Option.some Jvm.ClassFile.FieldType.int) ∈ AW := aw_in (aw_t4 175 rfl) rfl
theorem aw_4_176 : Cond.methodLink RL 95 yX5_store ∈ AW := aw_in (aw_t4 176 rfl) rfl
theorem aw_4_177 : Cond.instanceMethod yX5_store ∈ AW := aw_in (aw_t4 177 rfl) rfl
theorem aw_4_178 : Cond.selects RX5 yX5_store yX5_store ∈ AW := aw_in (aw_t4 178 rfl) rfl
theorem aw_4_179 : Cond.code yX5_store prog_7_method_13_code 9 (Option.some Jvm.ClassFile.FieldType.int) ∈ AW := aw_in (aw_t4 179 rfl) rfl
theorem aw_4_180 : Cond.methodLink RX5 108 yX5_isIn ∈ AW := aw_in (aw_t4 180 rfl) rfl
theorem aw_4_181 : Cond.static yX5_isIn ∈ AW := aw_in (aw_t4 181 rfl) rfl
theorem aw_4_182 : Cond.code yX5_isIn prog_7_method_4_code 3 (Option.some Jvm.ClassFile.FieldType.boolean) ∈ AW := aw_in (aw_t4 182 rfl) rfl
theorem aw_4_183 : Cond.constant RX5 131 (100000) ∈ AW := aw_in (aw_t4 183 rfl) rfl
theorem aw_4_184 : Cond.constant RX5 132 (1000000) ∈ AW := aw_in (aw_t4 184 rfl) rfl
theorem aw_4_185 : Cond.methodLink RX5 126 yX5_leastGas ∈ AW := aw_in (aw_t4 185 rfl) rfl
theorem aw_4_186 : Cond.static yX5_leastGas ∈ AW := aw_in (aw_t4 186 rfl) rfl
theorem aw_4_187 : Cond.code yX5_leastGas prog_7_method_9_code 2 (Option.some Jvm.ClassFile.FieldType.int) ∈ AW := aw_in (aw_t4 187 rfl) rfl
theorem aw_4_188 : Cond.methodLink RX5 122 yX5_mostGas ∈ AW := aw_in (aw_t4 188 rfl) rfl
theorem aw_4_189 : Cond.static yX5_mostGas ∈ AW := aw_in (aw_t4 189 rfl) rfl
theorem aw_4_190 : Cond.code yX5_mostGas prog_7_method_10_code 2 (Option.some Jvm.ClassFile.FieldType.int) ∈ AW := aw_in (aw_t4 190 rfl) rfl
theorem aw_4_191 : Cond.methodLink RX5 133 yX5_holds ∈ AW := aw_in (aw_t4 191 rfl) rfl
theorem aw_4_193 : Cond.instanceMethod yX5_holds ∈ AW := aw_in (aw_t4 193 rfl) rfl
theorem aw_4_194 : Cond.code yX5_holds prog_7_method_3_code 2 (Option.some Jvm.ClassFile.FieldType.boolean) ∈ AW := aw_in (aw_t4 194 rfl) rfl
theorem aw_4_195 : Cond.methodLink RL 103 yX5_wells ∈ AW := aw_in (aw_t4 195 rfl) rfl
theorem aw_4_196 : Cond.instanceMethod yX5_wells ∈ AW := aw_in (aw_t4 196 rfl) rfl
theorem aw_4_197 : Cond.selects RX5 yX5_wells yX5_wells ∈ AW := aw_in (aw_t4 197 rfl) rfl
theorem aw_4_198 : Cond.code yX5_wells prog_7_method_14_code 5 (Option.some Jvm.ClassFile.FieldType.int) ∈ AW := aw_in (aw_t4 198 rfl) rfl
theorem aw_4_199 : Cond.methodLink RX5 140 yX5_isStore ∈ AW := aw_in (aw_t4 199 rfl) rfl
theorem aw_4_201 : Cond.instanceMethod yX5_isStore ∈ AW := aw_in (aw_t4 201 rfl) rfl
theorem aw_4_202 : Cond.code yX5_isStore prog_7_method_5_code 2 (Option.some Jvm.ClassFile.FieldType.boolean) ∈ AW := aw_in (aw_t4 202 rfl) rfl
theorem aw_4_203 : Cond.methodLink RX5 143 yX5_rateOf ∈ AW := aw_in (aw_t4 203 rfl) rfl
theorem aw_4_205 : Cond.instanceMethod yX5_rateOf ∈ AW := aw_in (aw_t4 205 rfl) rfl
theorem aw_4_206 : Cond.code yX5_rateOf prog_7_method_12_code 8 (Option.some Jvm.ClassFile.FieldType.int) ∈ AW := aw_in (aw_t4 206 rfl) rfl
theorem aw_4_207 : Cond.methodLink RX5 119 yX5_pressureOf ∈ AW := aw_in (aw_t4 207 rfl) rfl
theorem aw_4_209 : Cond.instanceMethod yX5_pressureOf ∈ AW := aw_in (aw_t4 209 rfl) rfl
theorem aw_4_210 : Cond.code yX5_pressureOf prog_7_method_11_code 2 (Option.some Jvm.ClassFile.FieldType.int) ∈ AW := aw_in (aw_t4 210 rfl) rfl
theorem aw_4_211 : Cond.methodLink RX5 115 yX5_roomOf ∈ AW := aw_in (aw_t4 211 rfl) rfl
theorem aw_4_213 : Cond.instanceMethod yX5_roomOf ∈ AW := aw_in (aw_t4 213 rfl) rfl
theorem aw_4_214 : Cond.code yX5_roomOf prog_7_method_8_code 2 (Option.some Jvm.ClassFile.FieldType.int) ∈ AW := aw_in (aw_t4 214 rfl) rfl
theorem aw_4_215 : Cond.constantLong RX5 129 (100) ∈ AW := aw_in (aw_t4 215 rfl) rfl
theorem aw_4_216 : Cond.methodLink RL 107 yX5_leak ∈ AW := aw_in (aw_t4 216 rfl) rfl
theorem aw_4_217 : Cond.instanceMethod yX5_leak ∈ AW := aw_in (aw_t4 217 rfl) rfl
theorem aw_4_218 : Cond.selects RX5 yX5_leak yX5_leak ∈ AW := aw_in (aw_t4 218 rfl) rfl
theorem aw_4_219 : Cond.code yX5_leak prog_7_method_15_code 4 (Option.some Jvm.ClassFile.FieldType.int) ∈ AW := aw_in (aw_t4 219 rfl) rfl
theorem aw_4_220 : Cond.methodLink RL 110 yX5_leach ∈ AW := aw_in (aw_t4 220 rfl) rfl
theorem aw_4_221 : Cond.instanceMethod yX5_leach ∈ AW := aw_in (aw_t4 221 rfl) rfl
theorem aw_4_222 : Cond.selects RX5 yX5_leach yX5_leach ∈ AW := aw_in (aw_t4 222 rfl) rfl
theorem aw_4_223 : Cond.code yX5_leach prog_7_method_16_code 6 (Option.some Jvm.ClassFile.FieldType.int) ∈ AW := aw_in (aw_t4 223 rfl) rfl
theorem aw_4_224 : Cond.methodLink RL 114 yX5_heat ∈ AW := aw_in (aw_t4 224 rfl) rfl
theorem aw_4_225 : Cond.instanceMethod yX5_heat ∈ AW := aw_in (aw_t4 225 rfl) rfl
theorem aw_4_226 : Cond.selects RX5 yX5_heat yX5_heat ∈ AW := aw_in (aw_t4 226 rfl) rfl
theorem aw_4_227 : Cond.code yX5_heat prog_7_method_17_code 3 (Option.some Jvm.ClassFile.FieldType.int) ∈ AW := aw_in (aw_t4 227 rfl) rfl
theorem aw_4_228 : Cond.methodLink RL 118 yX5_customer ∈ AW := aw_in (aw_t4 228 rfl) rfl
theorem aw_4_229 : Cond.instanceMethod yX5_customer ∈ AW := aw_in (aw_t4 229 rfl) rfl
theorem aw_4_230 : Cond.selects RX5 yX5_customer yX5_customer ∈ AW := aw_in (aw_t4 230 rfl) rfl
theorem aw_4_231 : Cond.code yX5_customer prog_7_method_18_code 6 (Option.some Jvm.ClassFile.FieldType.int) ∈ AW := aw_in (aw_t4 231 rfl) rfl
theorem aw_4_232 : Cond.methodLink RL 121 yX5_nominate ∈ AW := aw_in (aw_t4 232 rfl) rfl
theorem aw_4_233 : Cond.instanceMethod yX5_nominate ∈ AW := aw_in (aw_t4 233 rfl) rfl
theorem aw_4_234 : Cond.selects RX5 yX5_nominate yX5_nominate ∈ AW := aw_in (aw_t4 234 rfl) rfl
theorem aw_4_235 : Cond.code yX5_nominate prog_7_method_20_code 7 (Option.some Jvm.ClassFile.FieldType.int) ∈ AW := aw_in (aw_t4 235 rfl) rfl
theorem aw_4_236 : Cond.constant RX5 154 (-1000000) ∈ AW := aw_in (aw_t4 236 rfl) rfl
theorem aw_4_237 : Cond.methodLink RX5 155 yX5_isCustomer ∈ AW := aw_in (aw_t4 237 rfl) rfl
theorem aw_4_239 : Cond.instanceMethod yX5_isCustomer ∈ AW := aw_in (aw_t4 239 rfl) rfl
theorem aw_5_0 : Cond.code yX5_isCustomer prog_7_method_6_code 2 (Option.some Jvm.ClassFile.FieldType.boolean) ∈ AW := aw_in (aw_t5 0 rfl) rfl
theorem aw_5_1 : Cond.methodLink RL 124 yX5_transfer ∈ AW := aw_in (aw_t5 1 rfl) rfl
theorem aw_5_2 : Cond.instanceMethod yX5_transfer ∈ AW := aw_in (aw_t5 2 rfl) rfl
theorem aw_5_3 : Cond.selects RX5 yX5_transfer yX5_transfer ∈ AW := aw_in (aw_t5 3 rfl) rfl
theorem aw_5_4 : Cond.code yX5_transfer prog_7_method_21_code 7 (Option.some Jvm.ClassFile.FieldType.int) ∈ AW := aw_in (aw_t5 4 rfl) rfl
theorem aw_5_5 : Cond.methodLink RL 127 yX5_law ∈ AW := aw_in (aw_t5 5 rfl) rfl
theorem aw_5_6 : Cond.instanceMethod yX5_law ∈ AW := aw_in (aw_t5 6 rfl) rfl
theorem aw_5_7 : Cond.selects RX5 yX5_law yX5_law ∈ AW := aw_in (aw_t5 7 rfl) rfl
theorem aw_5_8 : Cond.code yX5_law prog_7_method_22_code 5 (Option.some Jvm.ClassFile.FieldType.int) ∈ AW := aw_in (aw_t5 8 rfl) rfl
theorem aw_5_9 : Cond.constant RX5 158 (10000000) ∈ AW := aw_in (aw_t5 9 rfl) rfl
theorem aw_5_10 : Cond.methodLink RL 130 yX5_price ∈ AW := aw_in (aw_t5 10 rfl) rfl
theorem aw_5_11 : Cond.instanceMethod yX5_price ∈ AW := aw_in (aw_t5 11 rfl) rfl
theorem aw_5_12 : Cond.selects RX5 yX5_price yX5_price ∈ AW := aw_in (aw_t5 12 rfl) rfl
theorem aw_5_13 : Cond.code yX5_price prog_7_method_24_code 5 (Option.some Jvm.ClassFile.FieldType.int) ∈ AW := aw_in (aw_t5 13 rfl) rfl
theorem aw_5_14 : Cond.methodLink RL 133 yX5_pass ∈ AW := aw_in (aw_t5 14 rfl) rfl
theorem aw_5_15 : Cond.instanceMethod yX5_pass ∈ AW := aw_in (aw_t5 15 rfl) rfl
theorem aw_5_16 : Cond.selects RX5 yX5_pass yX5_pass ∈ AW := aw_in (aw_t5 16 rfl) rfl
theorem aw_5_17 : Cond.code yX5_pass prog_7_method_38_code 3 (Option.some Jvm.ClassFile.FieldType.int) ∈ AW := aw_in (aw_t5 17 rfl) rfl
theorem aw_5_18 : Cond.methodLink RX5 229 yX5_goesBy ∈ AW := aw_in (aw_t5 18 rfl) rfl
theorem aw_5_20 : Cond.instanceMethod yX5_goesBy ∈ AW := aw_in (aw_t5 20 rfl) rfl
theorem aw_5_21 : Cond.code yX5_goesBy prog_7_method_37_code 3 (Option.none : Option Jvm.ClassFile.FieldType) ∈ AW := aw_in (aw_t5 21 rfl) rfl
theorem aw_5_22 : Cond.methodLink RX5 217 yX5_lays ∈ AW := aw_in (aw_t5 22 rfl) rfl
theorem aw_5_24 : Cond.instanceMethod yX5_lays ∈ AW := aw_in (aw_t5 24 rfl) rfl
theorem aw_5_25 : Cond.code yX5_lays prog_7_method_30_code 5 (Option.none : Option Jvm.ClassFile.FieldType) ∈ AW := aw_in (aw_t5 25 rfl) rfl
theorem aw_5_26 : Cond.methodLink RX5 175 yX5_laysFirst ∈ AW := aw_in (aw_t5 26 rfl) rfl
theorem aw_5_28 : Cond.instanceMethod yX5_laysFirst ∈ AW := aw_in (aw_t5 28 rfl) rfl
theorem aw_5_29 : Cond.code yX5_laysFirst prog_7_method_28_code 5 (Option.none : Option Jvm.ClassFile.FieldType) ∈ AW := aw_in (aw_t5 29 rfl) rfl
theorem aw_5_30 : Cond.methodLink RX5 165 yX5_rateWith ∈ AW := aw_in (aw_t5 30 rfl) rfl
theorem aw_5_32 : Cond.instanceMethod yX5_rateWith ∈ AW := aw_in (aw_t5 32 rfl) rfl
theorem aw_5_33 : Cond.code yX5_rateWith prog_7_method_19_code 4 (Option.some Jvm.ClassFile.FieldType.int) ∈ AW := aw_in (aw_t5 33 rfl) rfl
theorem aw_5_34 : Cond.constantLong RX5 147 (3) ∈ AW := aw_in (aw_t5 34 rfl) rfl
theorem aw_5_35 : Cond.constantLong RX5 149 (2) ∈ AW := aw_in (aw_t5 35 rfl) rfl
theorem aw_5_36 : Cond.methodLink RX5 162 yX5_lesser ∈ AW := aw_in (aw_t5 36 rfl) rfl
theorem aw_5_37 : Cond.static yX5_lesser ∈ AW := aw_in (aw_t5 37 rfl) rfl
theorem aw_5_38 : Cond.code yX5_lesser prog_7_method_7_code 2 (Option.some Jvm.ClassFile.FieldType.int) ∈ AW := aw_in (aw_t5 38 rfl) rfl
theorem aw_5_39 : Cond.methodLink RX5 179 yX5_lawNow ∈ AW := aw_in (aw_t5 39 rfl) rfl
theorem aw_5_41 : Cond.instanceMethod yX5_lawNow ∈ AW := aw_in (aw_t5 41 rfl) rfl
theorem aw_5_42 : Cond.code yX5_lawNow prog_7_method_23_code 3 (Option.some Jvm.ClassFile.FieldType.int) ∈ AW := aw_in (aw_t5 42 rfl) rfl
theorem aw_5_43 : Cond.methodLink RX5 183 yX5_all ∈ AW := aw_in (aw_t5 43 rfl) rfl
theorem aw_5_45 : Cond.instanceMethod yX5_all ∈ AW := aw_in (aw_t5 45 rfl) rfl
theorem aw_5_46 : Cond.code yX5_all prog_7_method_25_code 4 (Option.some Jvm.ClassFile.FieldType.long) ∈ AW := aw_in (aw_t5 46 rfl) rfl
theorem aw_5_47 : Cond.methodLink RX5 187 yX5_sum ∈ AW := aw_in (aw_t5 47 rfl) rfl
theorem aw_5_49 : Cond.instanceMethod yX5_sum ∈ AW := aw_in (aw_t5 49 rfl) rfl
theorem aw_5_50 : Cond.code yX5_sum prog_7_method_26_code 4 (Option.some Jvm.ClassFile.FieldType.int) ∈ AW := aw_in (aw_t5 50 rfl) rfl
theorem aw_5_51 : Cond.methodLink RX5 191 yX5_curtails ∈ AW := aw_in (aw_t5 51 rfl) rfl
theorem aw_5_53 : Cond.instanceMethod yX5_curtails ∈ AW := aw_in (aw_t5 53 rfl) rfl
theorem aw_5_54 : Cond.code yX5_curtails prog_7_method_27_code 8 (Option.none : Option Jvm.ClassFile.FieldType) ∈ AW := aw_in (aw_t5 54 rfl) rfl
theorem aw_5_55 : Cond.methodLink RX5 195 yX5_can ∈ AW := aw_in (aw_t5 55 rfl) rfl
theorem aw_5_57 : Cond.instanceMethod yX5_can ∈ AW := aw_in (aw_t5 57 rfl) rfl
theorem aw_5_58 : Cond.code yX5_can prog_7_method_29_code 6 (Option.some Jvm.ClassFile.FieldType.long) ∈ AW := aw_in (aw_t5 58 rfl) rfl
theorem aw_5_59 : Cond.methodLink RX5 220 yX5_flows ∈ AW := aw_in (aw_t5 59 rfl) rfl
theorem aw_5_61 : Cond.instanceMethod yX5_flows ∈ AW := aw_in (aw_t5 61 rfl) rfl
theorem aw_5_62 : Cond.code yX5_flows prog_7_method_34_code 5 (Option.none : Option Jvm.ClassFile.FieldType) ∈ AW := aw_in (aw_t5 62 rfl) rfl
theorem aw_5_63 : Cond.methodLink RX5 209 yX5_gets ∈ AW := aw_in (aw_t5 63 rfl) rfl
theorem aw_5_65 : Cond.instanceMethod yX5_gets ∈ AW := aw_in (aw_t5 65 rfl) rfl
theorem aw_5_66 : Cond.code yX5_gets prog_7_method_32_code 3 (Option.none : Option Jvm.ClassFile.FieldType) ∈ AW := aw_in (aw_t5 66 rfl) rfl
theorem aw_5_67 : Cond.methodLink RX5 199 yX5_loses ∈ AW := aw_in (aw_t5 67 rfl) rfl
theorem aw_5_69 : Cond.instanceMethod yX5_loses ∈ AW := aw_in (aw_t5 69 rfl) rfl
theorem aw_5_70 : Cond.code yX5_loses prog_7_method_31_code 3 (Option.none : Option Jvm.ClassFile.FieldType) ∈ AW := aw_in (aw_t5 70 rfl) rfl
theorem aw_5_71 : Cond.methodLink RX5 223 yX5_leaks ∈ AW := aw_in (aw_t5 71 rfl) rfl
theorem aw_5_73 : Cond.instanceMethod yX5_leaks ∈ AW := aw_in (aw_t5 73 rfl) rfl
theorem aw_5_74 : Cond.code yX5_leaks prog_7_method_35_code 2 (Option.none : Option Jvm.ClassFile.FieldType) ∈ AW := aw_in (aw_t5 74 rfl) rfl
theorem aw_5_75 : Cond.methodLink RX5 212 yX5_isLost ∈ AW := aw_in (aw_t5 75 rfl) rfl
theorem aw_5_77 : Cond.instanceMethod yX5_isLost ∈ AW := aw_in (aw_t5 77 rfl) rfl
theorem aw_5_78 : Cond.code yX5_isLost prog_7_method_33_code 3 (Option.none : Option Jvm.ClassFile.FieldType) ∈ AW := aw_in (aw_t5 78 rfl) rfl
theorem aw_5_79 : Cond.methodLink RX5 226 yX5_endsDay ∈ AW := aw_in (aw_t5 79 rfl) rfl
theorem aw_5_81 : Cond.instanceMethod yX5_endsDay ∈ AW := aw_in (aw_t5 81 rfl) rfl
theorem aw_5_82 : Cond.code yX5_endsDay prog_7_method_36_code 5 (Option.none : Option Jvm.ClassFile.FieldType) ∈ AW := aw_in (aw_t5 82 rfl) rfl
theorem aw_5_83 : Cond.constantLong RX5 215 (100000) ∈ AW := aw_in (aw_t5 83 rfl) rfl
theorem aw_5_84 : Cond.methodLink RL 136 yX5_pressure ∈ AW := aw_in (aw_t5 84 rfl) rfl
theorem aw_5_85 : Cond.instanceMethod yX5_pressure ∈ AW := aw_in (aw_t5 85 rfl) rfl
theorem aw_5_86 : Cond.selects RX5 yX5_pressure yX5_pressure ∈ AW := aw_in (aw_t5 86 rfl) rfl
theorem aw_5_87 : Cond.code yX5_pressure prog_7_method_39_code 2 (Option.some Jvm.ClassFile.FieldType.int) ∈ AW := aw_in (aw_t5 87 rfl) rfl
theorem aw_5_88 : Cond.methodLink RL 140 yX5_rate ∈ AW := aw_in (aw_t5 88 rfl) rfl
theorem aw_5_89 : Cond.instanceMethod yX5_rate ∈ AW := aw_in (aw_t5 89 rfl) rfl
theorem aw_5_90 : Cond.selects RX5 yX5_rate yX5_rate ∈ AW := aw_in (aw_t5 90 rfl) rfl
theorem aw_5_91 : Cond.code yX5_rate prog_7_method_40_code 3 (Option.some Jvm.ClassFile.FieldType.int) ∈ AW := aw_in (aw_t5 91 rfl) rfl
theorem aw_5_92 : Cond.methodLink RL 143 yX5_mix ∈ AW := aw_in (aw_t5 92 rfl) rfl
theorem aw_5_93 : Cond.instanceMethod yX5_mix ∈ AW := aw_in (aw_t5 93 rfl) rfl
theorem aw_5_94 : Cond.selects RX5 yX5_mix yX5_mix ∈ AW := aw_in (aw_t5 94 rfl) rfl
theorem aw_5_95 : Cond.code yX5_mix prog_7_method_41_code 2 (Option.some Jvm.ClassFile.FieldType.int) ∈ AW := aw_in (aw_t5 95 rfl) rfl
theorem aw_5_96 : Cond.methodLink RL 146 yX5_ofStore ∈ AW := aw_in (aw_t5 96 rfl) rfl
theorem aw_5_97 : Cond.instanceMethod yX5_ofStore ∈ AW := aw_in (aw_t5 97 rfl) rfl
theorem aw_5_98 : Cond.selects RX5 yX5_ofStore yX5_ofStore ∈ AW := aw_in (aw_t5 98 rfl) rfl
theorem aw_5_99 : Cond.code yX5_ofStore prog_7_method_42_code 3 (Option.some Jvm.ClassFile.FieldType.long) ∈ AW := aw_in (aw_t5 99 rfl) rfl
theorem aw_5_100 : Cond.methodLink RL 149 yX5_ofCustomer ∈ AW := aw_in (aw_t5 100 rfl) rfl
theorem aw_5_101 : Cond.instanceMethod yX5_ofCustomer ∈ AW := aw_in (aw_t5 101 rfl) rfl
theorem aw_5_102 : Cond.selects RX5 yX5_ofCustomer yX5_ofCustomer ∈ AW := aw_in (aw_t5 102 rfl) rfl
theorem aw_5_103 : Cond.code yX5_ofCustomer prog_7_method_43_code 3 (Option.some Jvm.ClassFile.FieldType.long) ∈ AW := aw_in (aw_t5 103 rfl) rfl
theorem aw_5_104 : Cond.methodLink RL 152 yX5_flow ∈ AW := aw_in (aw_t5 104 rfl) rfl
theorem aw_5_105 : Cond.instanceMethod yX5_flow ∈ AW := aw_in (aw_t5 105 rfl) rfl
theorem aw_5_106 : Cond.selects RX5 yX5_flow yX5_flow ∈ AW := aw_in (aw_t5 106 rfl) rfl
theorem aw_5_107 : Cond.code yX5_flow prog_7_method_44_code 2 (Option.some Jvm.ClassFile.FieldType.int) ∈ AW := aw_in (aw_t5 107 rfl) rfl
theorem aw_5_108 : Cond.methodLink RL 155 yX5_why ∈ AW := aw_in (aw_t5 108 rfl) rfl
theorem aw_5_109 : Cond.instanceMethod yX5_why ∈ AW := aw_in (aw_t5 109 rfl) rfl
theorem aw_5_110 : Cond.selects RX5 yX5_why yX5_why ∈ AW := aw_in (aw_t5 110 rfl) rfl
theorem aw_5_111 : Cond.code yX5_why prog_7_method_45_code 2 (Option.some Jvm.ClassFile.FieldType.int) ∈ AW := aw_in (aw_t5 111 rfl) rfl
theorem aw_5_112 : Cond.methodLink RL 158 yX5_worth ∈ AW := aw_in (aw_t5 112 rfl) rfl
theorem aw_5_113 : Cond.instanceMethod yX5_worth ∈ AW := aw_in (aw_t5 113 rfl) rfl
theorem aw_5_114 : Cond.selects RX5 yX5_worth yX5_worth ∈ AW := aw_in (aw_t5 114 rfl) rfl
theorem aw_5_115 : Cond.code yX5_worth prog_7_method_47_code 5 (Option.some Jvm.ClassFile.FieldType.long) ∈ AW := aw_in (aw_t5 115 rfl) rfl
theorem aw_5_116 : Cond.methodLink RX5 232 yX5_bestOf ∈ AW := aw_in (aw_t5 116 rfl) rfl
theorem aw_5_118 : Cond.instanceMethod yX5_bestOf ∈ AW := aw_in (aw_t5 118 rfl) rfl
theorem aw_5_119 : Cond.code yX5_bestOf prog_7_method_46_code 16 (Option.some Jvm.ClassFile.FieldType.long) ∈ AW := aw_in (aw_t5 119 rfl) rfl
theorem aw_5_120 : Cond.methodLink RL 161 yX5_worthAnew ∈ AW := aw_in (aw_t5 120 rfl) rfl
theorem aw_5_121 : Cond.instanceMethod yX5_worthAnew ∈ AW := aw_in (aw_t5 121 rfl) rfl
theorem aw_5_122 : Cond.selects RX5 yX5_worthAnew yX5_worthAnew ∈ AW := aw_in (aw_t5 122 rfl) rfl
theorem aw_5_123 : Cond.code yX5_worthAnew prog_7_method_48_code 3 (Option.some Jvm.ClassFile.FieldType.long) ∈ AW := aw_in (aw_t5 123 rfl) rfl
theorem aw_5_124 : Cond.methodLink RX5 236 yX5_worth ∈ AW := aw_in (aw_t5 124 rfl) rfl
theorem aw_5_125 : Cond.methodLink RL 164 yX5_of ∈ AW := aw_in (aw_t5 125 rfl) rfl
theorem aw_5_126 : Cond.instanceMethod yX5_of ∈ AW := aw_in (aw_t5 126 rfl) rfl
theorem aw_5_127 : Cond.selects RX5 yX5_of yX5_of ∈ AW := aw_in (aw_t5 127 rfl) rfl
theorem aw_5_128 : Cond.code yX5_of prog_7_method_49_code 5 (Option.some Jvm.ClassFile.FieldType.long) ∈ AW := aw_in (aw_t5 128 rfl) rfl
theorem aw_5_129 : Cond.sameMethod "java/lang/Throwable" "java/lang/Throwable" "fillInStackTrace" "(I)Ljava/lang/Throwable;" ∈ AW := aw_in (aw_t5 129 rfl) rfl
theorem nw_5_130 : Cond.castable RX4 "java/lang/Object" ∈ lw_tbl := aw_t5 130 rfl
theorem nw_5_131 : Cond.castable RJx4a65c "java/lang/Object" ∈ lw_tbl := aw_t5 131 rfl
theorem nw_5_132 : Cond.castable RX1 "java/lang/Object" ∈ lw_tbl := aw_t5 132 rfl
theorem nw_5_133 : Cond.castable RX5 "java/lang/Object" ∈ lw_tbl := aw_t5 133 rfl
theorem nw_5_134 : Cond.castable "java/lang/IllegalArgumentException" "java/lang/Object" ∈ lw_tbl := aw_t5 134 rfl
theorem nw_5_135 : Cond.castable "java/lang/IllegalStateException" "java/lang/Object" ∈ lw_tbl := aw_t5 135 rfl
theorem nw_5_136 : Cond.castable RX3 "java/lang/Object" ∈ lw_tbl := aw_t5 136 rfl
theorem nw_5_137 : Cond.castable "java/lang/IndexOutOfBoundsException" "java/lang/Object" ∈ lw_tbl := aw_t5 137 rfl
theorem nw_5_138 : Cond.castable RX0 "java/lang/Object" ∈ lw_tbl := aw_t5 138 rfl
theorem nw_5_139 : Cond.castable RX2 "java/lang/Object" ∈ lw_tbl := aw_t5 139 rfl
theorem nw_5_140 : Cond.castable "java/lang/Throwable" "java/lang/Object" ∈ lw_tbl := aw_t5 140 rfl
theorem nw_5_141 : Cond.castable RJ0 "java/lang/Object" ∈ lw_tbl := aw_t5 141 rfl
theorem aw_5_142 : Cond.sameMethod "[Ljava/lang/Object;" "java/lang/Object" "getClass" "()Ljava/lang/Class;" ∈ AW := aw_in (aw_t5 142 rfl) rfl
theorem aw_5_143 : Cond.selects "[Ljava/lang/Object;" ⟨"java/lang/Object", "getClass", "()Ljava/lang/Class;"⟩ ⟨"java/lang/Object", "getClass", "()Ljava/lang/Class;"⟩ ∈ AW := aw_in (aw_t5 143 rfl) rfl
theorem nw_5_144 : Cond.declares ⟨"java/lang/Object", "getClass", "()Ljava/lang/Class;"⟩ ∈ lw_tbl := aw_t5 144 rfl
theorem nw_5_145 : Cond.castable "[I" "java/lang/Object" ∈ lw_tbl := aw_t5 145 rfl
theorem nw_5_146 : Cond.castable "[B" "java/lang/Object" ∈ lw_tbl := aw_t5 146 rfl
theorem nw_5_147 : Cond.castable "[Ljava/lang/Object;" "java/lang/Object" ∈ lw_tbl := aw_t5 147 rfl
theorem nw_5_148 : Cond.castable "[J" "java/lang/Object" ∈ lw_tbl := aw_t5 148 rfl
theorem aw_0_0 : Cond.selects "java/lang/Throwable" ⟨"java/lang/Throwable", "fillInStackTrace", "(I)Ljava/lang/Throwable;"⟩ ⟨"java/lang/Throwable", "fillInStackTrace", "(I)Ljava/lang/Throwable;"⟩ ∈ AW := aw_in (aw_t0 0 rfl) rfl
theorem aw_0_1 : Cond.selects RJx4a65c yJx4a65c_add_72be8 yJx4a65c_add_72be8 ∈ AW := aw_in (aw_t0 1 rfl) rfl
theorem aw_0_2 : Cond.selects RJx4a65c yJx4a65c_grow_d5877 yJx4a65c_grow_d5877 ∈ AW := aw_in (aw_t0 2 rfl) rfl
theorem aw_0_3 : Cond.selects RJx4a65c yJx4a65c_grow_92f84 yJx4a65c_grow_92f84 ∈ AW := aw_in (aw_t0 3 rfl) rfl
theorem aw_0_4 : Cond.selects RX4 yX4_storeNumbered yX4_storeNumbered ∈ AW := aw_in (aw_t0 4 rfl) rfl
theorem aw_0_5 : Cond.selects RX3 yX3_rateBy yX3_rateBy ∈ AW := aw_in (aw_t0 5 rfl) rfl
theorem aw_0_6 : Cond.selects RX4 yX4_customerNumbered yX4_customerNumbered ∈ AW := aw_in (aw_t0 6 rfl) rfl
theorem aw_0_7 : Cond.selects RX4 yX4_goOneHour yX4_goOneHour ∈ AW := aw_in (aw_t0 7 rfl) rfl
theorem aw_0_8 : Cond.selects RX4 yX4_planTheHour yX4_planTheHour ∈ AW := aw_in (aw_t0 8 rfl) rfl
theorem aw_0_9 : Cond.selects RX4 yX4_plannedAboveTheLaw yX4_plannedAboveTheLaw ∈ AW := aw_in (aw_t0 9 rfl) rfl
theorem aw_0_10 : Cond.selects RX4 yX4_leastByLaw yX4_leastByLaw ∈ AW := aw_in (aw_t0 10 rfl) rfl
theorem aw_0_11 : Cond.selects RX4 yX4_allInventories yX4_allInventories ∈ AW := aw_in (aw_t0 11 rfl) rfl
theorem aw_0_12 : Cond.selects RX4 yX4_curtail yX4_curtail ∈ AW := aw_in (aw_t0 12 rfl) rfl
theorem aw_0_13 : Cond.selects RX4 yX4_plannedNet yX4_plannedNet ∈ AW := aw_in (aw_t0 13 rfl) rfl
theorem aw_0_14 : Cond.selects RX4 yX4_capacityOfPlant yX4_capacityOfPlant ∈ AW := aw_in (aw_t0 14 rfl) rfl
theorem aw_0_15 : Cond.selects RX4 yX4_flowIn yX4_flowIn ∈ AW := aw_in (aw_t0 15 rfl) rfl
theorem aw_0_16 : Cond.selects RX4 yX4_flowOut yX4_flowOut ∈ AW := aw_in (aw_t0 16 rfl) rfl
theorem aw_0_17 : Cond.selects RX4 yX4_endTheDay yX4_endTheDay ∈ AW := aw_in (aw_t0 17 rfl) rfl
theorem aw_0_18 : Cond.selects RX3 yX3_moveWater yX3_moveWater ∈ AW := aw_in (aw_t0 18 rfl) rfl
theorem aw_0_19 : Cond.selects RX3 yX3_creep yX3_creep ∈ AW := aw_in (aw_t0 19 rfl) rfl
theorem aw_0_20 : Cond.selects RX4 yX4_bestSum yX4_bestSum ∈ AW := aw_in (aw_t0 20 rfl) rfl
theorem aw_0_21 : Cond.selects RX4 yX4_sumOfWay yX4_sumOfWay ∈ AW := aw_in (aw_t0 21 rfl) rfl
theorem aw_0_22 : Cond.selects RX4 yX4_gasInAllStores yX4_gasInAllStores ∈ AW := aw_in (aw_t0 22 rfl) rfl
theorem aw_0_23 : Cond.selects RX5 yX5_holds yX5_holds ∈ AW := aw_in (aw_t0 23 rfl) rfl
theorem aw_0_24 : Cond.selects RX5 yX5_isStore yX5_isStore ∈ AW := aw_in (aw_t0 24 rfl) rfl
theorem aw_0_25 : Cond.selects RX5 yX5_rateOf yX5_rateOf ∈ AW := aw_in (aw_t0 25 rfl) rfl
theorem aw_0_26 : Cond.selects RX5 yX5_pressureOf yX5_pressureOf ∈ AW := aw_in (aw_t0 26 rfl) rfl
theorem aw_0_27 : Cond.selects RX5 yX5_roomOf yX5_roomOf ∈ AW := aw_in (aw_t0 27 rfl) rfl
theorem aw_0_28 : Cond.selects RX5 yX5_isCustomer yX5_isCustomer ∈ AW := aw_in (aw_t0 28 rfl) rfl
theorem aw_0_29 : Cond.selects RX5 yX5_goesBy yX5_goesBy ∈ AW := aw_in (aw_t0 29 rfl) rfl
theorem aw_0_30 : Cond.selects RX5 yX5_lays yX5_lays ∈ AW := aw_in (aw_t0 30 rfl) rfl
theorem aw_0_31 : Cond.selects RX5 yX5_laysFirst yX5_laysFirst ∈ AW := aw_in (aw_t0 31 rfl) rfl
theorem aw_0_32 : Cond.selects RX5 yX5_rateWith yX5_rateWith ∈ AW := aw_in (aw_t0 32 rfl) rfl
theorem aw_0_33 : Cond.selects RX5 yX5_lawNow yX5_lawNow ∈ AW := aw_in (aw_t0 33 rfl) rfl
theorem aw_0_34 : Cond.selects RX5 yX5_all yX5_all ∈ AW := aw_in (aw_t0 34 rfl) rfl
theorem aw_0_35 : Cond.selects RX5 yX5_sum yX5_sum ∈ AW := aw_in (aw_t0 35 rfl) rfl
theorem aw_0_36 : Cond.selects RX5 yX5_curtails yX5_curtails ∈ AW := aw_in (aw_t0 36 rfl) rfl
theorem aw_0_37 : Cond.selects RX5 yX5_can yX5_can ∈ AW := aw_in (aw_t0 37 rfl) rfl
theorem aw_0_38 : Cond.selects RX5 yX5_flows yX5_flows ∈ AW := aw_in (aw_t0 38 rfl) rfl
theorem aw_0_39 : Cond.selects RX5 yX5_gets yX5_gets ∈ AW := aw_in (aw_t0 39 rfl) rfl
theorem aw_0_40 : Cond.selects RX5 yX5_loses yX5_loses ∈ AW := aw_in (aw_t0 40 rfl) rfl
theorem aw_0_41 : Cond.selects RX5 yX5_leaks yX5_leaks ∈ AW := aw_in (aw_t0 41 rfl) rfl
theorem aw_0_42 : Cond.selects RX5 yX5_isLost yX5_isLost ∈ AW := aw_in (aw_t0 42 rfl) rfl
theorem aw_0_43 : Cond.selects RX5 yX5_endsDay yX5_endsDay ∈ AW := aw_in (aw_t0 43 rfl) rfl
theorem aw_0_44 : Cond.selects RX5 yX5_bestOf yX5_bestOf ∈ AW := aw_in (aw_t0 44 rfl) rfl
end
section
/-! THE GROUND: heaps as functions, what stays in a run, a walk's judgement Y, contracts Ct -/
abbrev AH : Type := Nat → Option va_E
def hset (h : AH) (a : Nat) (e : va_E) : AH := fun b => if b = a then some e else h b
theorem hset_s {h : AH} {a : Nat} {e : va_E} : hset h a e a = some e := if_pos rfl
theorem hset_n {h : AH} {a b : Nat} {e : va_E} (n : b ≠ a) : hset h a e b = h b := if_neg n
theorem hset_d {h : AH} {a b : Nat} {e x y : va_E} (h1 : h b = some x) (h2 : h a = some y) (n : x ≠ y) : hset h a e b = some x := by
  rw [hset_n (fun q => n (by rw [q, h2] at h1; exact (Option.some.inj h1).symm))]; exact h1
/-- launch, classes and places of fields, array classes int, long, Object; the first address of the run's own; the empty row; the mirror; strings -/
abbrev OmT : Type := Launch × va_G × ClassId × ClassId × ClassId × Nat × Nat × Nat × (String → Nat → Nat)
abbrev OmL (Ω : OmT) : Launch := Ω.1
abbrev OmD (Ω : OmT) : va_G := Ω.2.1
abbrev OmI (Ω : OmT) : ClassId := Ω.2.2.1
abbrev OmJ (Ω : OmT) : ClassId := Ω.2.2.2.1
abbrev OmO (Ω : OmT) : ClassId := Ω.2.2.2.2.1
abbrev OmB (Ω : OmT) : Nat := Ω.2.2.2.2.2.1
abbrev OmE (Ω : OmT) : Nat := Ω.2.2.2.2.2.2.1
abbrev OmM (Ω : OmT) : Nat := Ω.2.2.2.2.2.2.2.1
abbrev OmS (Ω : OmT) : String → Nat → Nat := Ω.2.2.2.2.2.2.2.2
def OmA (Ω : OmT) : Nat → Prop := fun q => OmB Ω ≤ q
abbrev OmTy (Ω : OmT) : List (ClassId × FieldType) := [(OmI Ω, .int), (OmJ Ω, .long), (OmO Ω, .object "java/lang/Object")]
def isNW : Cond → Bool
  | .castable .. | .methodLinkNest .. | .declares _ => true
  | _ => false
def NW : List Cond := lw_tbl.filter isNW
theorem nw_in {w : Cond} (h : w ∈ lw_tbl) (g : isNW w = true) : w ∈ NW := List.mem_filter.mpr ⟨h, g⟩
theorem nw_on {w : Cond} (h : w ∈ NW) : w.onTables = true := by
  have g := (List.mem_filter.mp h).2
  cases w <;> first | rfl | (simp [isNW] at g; done)
theorem nw_warm {w : Cond} (h : w ∈ NW) {s U : State} (hW : s.WarmedH U.vm) (hZ : va_Nw w s) : va_Nw w U := by
  have g := (List.mem_filter.mp h).2
  cases w <;> first | exact va_Nw.warmC hW hZ | exact va_Nw.warmM hW hZ | exact va_tabs rfl (rfl : (s.setVm U.vm).vm = U.vm) (by rw [Cond.declares_setVm hW.alike]; exact hZ) | (simp [isNW] at g; done)
/-- the texts of exceptions, by their places -/
def SW : List (String × Nat × String) := lw_tbl.filterMap fun w => match w with
  | .stringRef o k t => some (o, k, t)
  | _ => none
theorem sw_in {o t : String} {k : Nat} (h : Cond.stringRef o k t ∈ lw_tbl) : (o, k, t) ∈ SW := List.mem_filterMap.mpr ⟨_, h, rfl⟩
abbrev sIA : String := "java/lang/IllegalArgumentException"
abbrev sIS : String := "java/lang/IllegalStateException"
abbrev sIB : String := "java/lang/IndexOutOfBoundsException"
def NCW : List (String × String) := [(sIA, sIS), (sIA, sIB), (sIS, sIA), (sIS, sIB), (sIB, sIA), (sIB, sIS)]
abbrev tyO : FieldType := .object "java/lang/Object"
/-- what stays: the tables of a method's start, and the old part of the heap -/
def WK (Ω : OmT) (U : State) : Prop :=
  va_K (OmD Ω) vwCl (OmTy Ω) U ∧ OmB Ω ≤ U.heap.size ∧ (OmL Ω).stackTraces = false ∧ (∀ w ∈ NW, va_Nw w U) ∧ (∀ q ∈ SW, vk_R q.1 q.2.1 q.2.2 (OmS Ω q.1 q.2.1) U) ∧
  va_AO "java/lang/Object" U ∧ va_Mi "[Ljava/lang/Object;" (OmM Ω) U ∧
  vx_Zq Bundle.tN "UNASSIGNED_STACK" Bundle.steD (OmA Ω) U U.heap ∧ vx_Zq Bundle.tN "SUPPRESSED_SENTINEL" Bundle.listD (OmA Ω) U U.heap ∧
  va_Z "java/util/ArrayList" "DEFAULTCAPACITY_EMPTY_ELEMENTDATA" "[Ljava/lang/Object;" (.ref (OmE Ω)) (OmA Ω) U U.heap ∧
  va_T tyO (OmE Ω) 0 (fun _ => .null) (OmA Ω) U U.heap ∧ (∀ q ∈ NCW, va_Nc q.1 q.2 U) ∧ OmE Ω < OmB Ω
theorem WK.call {Ω : OmT} {s U : State} {H : Heap} {locs : List Loc} (h : WK Ω s) (hS : va_S (OmA Ω) s.heap H locs) (hU : U.heap = H) (hW : s.WarmedH U.vm) : WK Ω U := by
  obtain ⟨h1, h2, h3, h4, h5, h6, h7, h8, h9, h10, h11, h12, h13⟩ := h
  have hk : ∀ a : Nat, a < s.heap.size → ¬ OmA Ω a → U.heap[a]? = s.heap[a]? := fun a q1 q2 => by rw [hU]; exact hS.2.1 a q1 q2
  refine ⟨va_K.moved hW.alike h1, ?_, h3, fun w hw => nw_warm hw hW (h4 w hw), fun q hq => vk_R.warm hW (h5 q hq), va_AO.moved hW.alike h6, va_Mi.moved hW.alike h7, vx_Zq.moved hW.alike (h8.kept hk), vx_Zq.moved hW.alike (h9.kept hk), va_Z.moved hW.alike (h10.kept hk), va_T.moved hW.alike (h11.kept hk), fun q hq => va_Nc.moved hW.alike (h12 q hq), h13⟩
  rw [hU]; exact Nat.le_trans h2 hS.1
theorem WK.blind {Ω : OmT} {U : State} {g : JFrame} {mk : MethodId} {a : Array Value} (h : WK Ω U) : WK Ω (U.calling g mk a) := by
  obtain ⟨h1, h2, h3, h4, h5, h6, h7, h8, h9, h10, h11, h12, h13⟩ := h
  have hv : U.vm.Alike (U.calling g mk a).vm := Vm.Alike.refl U.vm
  exact ⟨va_K.moved hv h1, h2, h3, fun w hw => va_Nw.same (nw_on hw) (u := U) (U := U.calling g mk a) rfl (h4 w hw), fun q hq => vk_R.same (u := U) (U := U.calling g mk a) rfl (h5 q hq), va_AO.moved hv h6, va_Mi.moved hv h7, vx_Zq.moved hv h8, vx_Zq.moved hv h9, va_Z.moved hv h10, va_T.moved hv h11, fun q hq => va_Nc.moved hv (h12 q hq), h13⟩
/-- a part of the heap and the rest, as the heap has them -/
def R1 (Ω : OmT) (h : AH) (H : Heap) : Prop := ∀ (a : Nat) (e : va_E), h a = some e → OmB Ω ≤ a ∧ va_at (OmD Ω) vwCl (a, e) H
def Rel (Ω : OmT) (h hR : AH) (H : Heap) : Prop := R1 Ω h H ∧ R1 Ω hR H ∧ ∀ a : Nat, h a ≠ none → hR a = none
theorem Rel.swap {Ω : OmT} {h hR : AH} {H : Heap} (r : Rel Ω h hR H) : Rel Ω hR h H := ⟨r.2.1, r.1, fun a ha => by
  cases hq : h a with
  | none => rfl
  | some e => exact absurd (r.2.2 a (by rw [hq]; exact fun z => by cases z)) ha⟩
theorem R1.P {Ω : OmT} {h : AH} {H : Heap} (r : R1 Ω h H) {a : Nat} {e : va_E} (ha : h a = some e) : va_P (OmD Ω) vwCl [(a, e)] H := fun k q hk => by
  have hz : k < 1 := (List.getElem?_eq_some_iff.mp hk).1
  rw [show k = 0 by omega] at hk
  cases hk
  exact (r a e ha).2
theorem R1.lt {Ω : OmT} {h : AH} {H : Heap} (r : R1 Ω h H) {a : Nat} {e : va_E} (ha : h a = some e) : a < H.size := (r a e ha).2.lt
theorem R1.new {Ω : OmT} {h : AH} {H : Heap} (r : R1 Ω h H) : h H.size = none := by
  cases hq : h H.size with
  | none => rfl
  | some e => exact absurd (r.lt hq) (Nat.lt_irrefl _)
theorem R1.kept {Ω : OmT} {h : AH} {H H1 : Heap} (r : R1 Ω h H) (hk : ∀ (a : Nat) (e : va_E), h a = some e → H1[a]? = H[a]?) : R1 Ω h H1 := fun a e ha => ⟨(r a e ha).1, (r a e ha).2.kept (hk a e ha)⟩
theorem Rel.set {Ω : OmT} {h hR : AH} {H H1 : Heap} (r : Rel Ω h hR H) {a : Nat} {e0 e : va_E} (ha : h a = some e0) (he : va_at (OmD Ω) vwCl (a, e) H1) (oq : ∀ q : Nat, q ≠ a → H1[q]? = H[q]?) : Rel Ω (hset h a e) hR H1 := by
  refine ⟨fun b x hb => ?_, r.2.1.kept (fun b x hb => oq b (fun q => ?_)), fun b hb => ?_⟩
  · by_cases hq : b = a
    · subst hq; rw [hset_s] at hb; cases hb; exact ⟨(r.1 b e0 ha).1, he⟩
    · rw [hset_n hq] at hb; exact ⟨(r.1 b x hb).1, (r.1 b x hb).2.kept (oq b hq)⟩
  · have := r.2.2 a (by rw [ha]; exact fun z => by cases z)
    rw [q, this] at hb; cases hb
  · by_cases hq : b = a
    · subst hq; exact r.2.2 b (by rw [ha]; exact fun z => by cases z)
    · rw [hset_n hq] at hb; exact r.2.2 b hb
theorem Rel.push {Ω : OmT} {h hR : AH} {H H1 : Heap} (r : Rel Ω h hR H) (hB : OmB Ω ≤ H.size) {e : va_E} (he : va_at (OmD Ω) vwCl (H.size, e) H1) (oq : ∀ q : Nat, q < H.size → H1[q]? = H[q]?) : Rel Ω (hset h H.size e) hR H1 := by
  refine ⟨fun b x hb => ?_, r.2.1.kept (fun b x hb => oq b (r.2.1.lt hb)), fun b hb => ?_⟩
  · by_cases hq : b = H.size
    · subst hq; rw [hset_s] at hb; cases hb; exact ⟨hB, he⟩
    · rw [hset_n hq] at hb; exact ⟨(r.1 b x hb).1, (r.1 b x hb).2.kept (oq b (r.1.lt hb))⟩
  · by_cases hq : b = H.size
    · subst hq; exact r.2.1.new
    · rw [hset_n hq] at hb; exact r.2.2 b hb
/-- a walk's surroundings -/
abbrev KxT : Type := Program × Env × Room × State × MethodId × Array Value × List Frame × Method × Code × (State → Prop) × Nat
abbrev kp (κ : KxT) : Program := κ.1
abbrev ke (κ : KxT) : Env := κ.2.1
abbrev kR (κ : KxT) : Room := κ.2.2.1
abbrev ks (κ : KxT) : State := κ.2.2.2.1
abbrev km (κ : KxT) : MethodId := κ.2.2.2.2.1
abbrev ka (κ : KxT) : Array Value := κ.2.2.2.2.2.1
abbrev kb (κ : KxT) : List Frame := κ.2.2.2.2.2.2.1
abbrev kt (κ : KxT) : Method := κ.2.2.2.2.2.2.2.1
abbrev kc (κ : KxT) : Code := κ.2.2.2.2.2.2.2.2.1
abbrev kQ (κ : KxT) : State → Prop := κ.2.2.2.2.2.2.2.2.2.1
abbrev kn (κ : KxT) : Nat := κ.2.2.2.2.2.2.2.2.2.2
def Y (Ω : OmT) (κ : KxT) (Φ : AH → Prop) (hR : AH) (cs sl pc : Nat) (L : List (Nat × Value)) (st : List Value) : Prop :=
  ∀ (h : AH) (H : Heap) (locs : List Loc) (ls : Array Slot), Φ h → Rel Ω h hR H → va_S (OmA Ω) (ks κ).heap H locs → lv_has ls (kn κ) L → W (kp κ) (OmL Ω) (ke κ) (kR κ) (ks κ) (km κ) (ka κ) (kb κ) (kt κ) (kc κ) H locs cs sl (kQ κ) (F0 (km κ) pc ls st)
/-- an exception leaves the instruction at pc -/
def YX (Ω : OmT) (κ : KxT) (E : String) (Φ : AH → Prop) (hR : AH) (cs sl pc : Nat) (L : List (Nat × Value)) (st : List Value) : Prop :=
  ∀ (h : AH) (H : Heap) (locs : List Loc) (ls : Array Slot) (q : Addr) (ce : Cell), Φ h → Rel Ω h hR H → va_S (OmA Ω) (ks κ).heap H locs → lv_has ls (kn κ) L → H[q]? = some ce → ce.vm = .none → (ks κ).vm.findClass E = some ce.cls →
    vx_W (kp κ) (OmL Ω) (ke κ) (kR κ) (ks κ) (km κ) (ka κ) (kb κ) (kt κ) (kc κ) H locs cs sl (kQ κ) (F0 (km κ) pc ls st) q
def QC (Ω : OmT) (hR : AH) (Ψ : Option Value → AH → Prop) : Array Value → State → Outcome → State → Prop := fun _ st o t => (∃ (rv : Option Value) (h' : AH), o = .returned rv ∧ Ψ rv h' ∧ Rel Ω h' hR t.heap) ∧ va_F (OmA Ω) st t
def XCx (Ω : OmT) (hR : AH) (Ξ : String → AH → Prop) : String → State → State → Prop := fun E st t => (∃ h' : AH, Ξ E h' ∧ Rel Ω h' hR t.heap) ∧ va_F (OmA Ω) st t
abbrev ws_ (y : MethodName) (cc : ByteArray) (maxL : Nat) (ret : Option FieldType) : List Cond := Cond.code y cc maxL ret :: AW
/-- a contract: with these arguments, from a heap with Φ beside the rest hR: it returns with Ψ or throws with Ξ -/
def Ct (Ω : OmT) (y : MethodName) (cc : ByteArray) (maxL : Nat) (ret : Option FieldType) (rm : Room) (av : List Value) (Φ : AH → Prop) (hR : AH) (Ψ : Option Value → AH → Prop) (Ξ : String → AH → Prop) : Prop :=
  vx_Met (OmL Ω) y (ws_ y cc maxL ret) rm (va_Pc av (fun U => WK Ω U ∧ ∃ h, Φ h ∧ Rel Ω h hR U.heap)) (QC Ω hR Ψ) (XCx Ω hR Ξ) rm.cells rm.slots (OmA Ω)
/-- a value and a heap; nothing and a heap; no exception -/
def RV (v : Value) (Φ : AH → Prop) : Option Value → AH → Prop := fun rv h => rv = some v ∧ Φ h
def RU (Φ : AH → Prop) : Option Value → AH → Prop := fun rv h => rv = none ∧ Φ h
def NX : String → AH → Prop := fun _ _ => False
/-- what a row of a walk knows of its method -/
def Cx (Ω : OmT) (κ : KxT) (own : String) (cc : ByteArray) : Prop :=
  (kp κ).tables.exec = Jvm.exec ∧ (kc κ).code = cc ∧ (kc κ).maxLocals = kn κ ∧ (ks κ).vm.findClass own = some (km κ).cls ∧ (∀ w ∈ AW, w.before (ka κ) (ks κ) = true) ∧ WK Ω (ks κ) ∧ (kt κ).locks = false
/-- what a contract's walk knows of its end -/
def Ce (Ω : OmT) (κ : KxT) (ret : Option FieldType) (rm : Room) (hR : AH) (Ψ : Option Value → AH → Prop) (Ξ : String → AH → Prop) : Prop :=
  (kt κ).sig.returnType = ret ∧ kR κ = rm ∧ (∀ x ∈ (kc κ).exceptionTable.toList, False) ∧ kQ κ = vx_MQ (kb κ) (QC Ω hR Ψ) (XCx Ω hR Ξ) (ka κ) (ks κ) rm.cells rm.slots (OmA Ω)
set_option maxHeartbeats 4000000 in
theorem Ct.of {Ω : OmT} {y : MethodName} {own : String} {cc : ByteArray} {maxL : Nat} {ret : Option FieldType} {rm : Room} {av : List Value} {Φ : AH → Prop} {hR : AH} {Ψ : Option Value → AH → Prop} {Ξ : String → AH → Prop} {L : List (Nat × Value)}
    (hy : plainName y.cls = true) (ho : y.cls = own) (hn : (lg_sl av).length ≤ maxL) (hL : lv_args 0 av = L)
    (body : ∀ κ : KxT, Cx Ω κ own cc → kn κ = maxL → Ce Ω κ ret rm hR Ψ Ξ → (y.name = "<init>" → (kt κ).name = "<init>") → Y Ω κ Φ hR 0 0 0 L []) : Ct Ω y cc maxL ret rm av Φ hR Ψ Ξ := by
  refine vx_ofW (cc := cc) (maxL := maxL) (ret := ret) hy rfl ?_
  intro p e s m args below meth c s₁ B hml hex hv
  obtain ⟨rfl, hW, h, hΦ, hRel⟩ := hv
  have hts : ∀ w ∈ AW, w.before av.toArray s = true := fun w hw => atoms_spec (ws := ws_ y cc maxL ret) B.pre w (List.mem_cons_of_mem _ hw)
  have hown : s.vm.findClass own = some m.cls := by rw [← ho]; exact findClass_of_methodNamed B.named
  have hl := lv_entry av (n := maxL) hn
  rw [lg_entry_eq]
  subst hL
  exact body ((p, e, rm, s, m, av.toArray, below, meth, c, _, maxL) : KxT) ⟨B.exec, B.bytes, hml, hown, hts, hW, B.notSynchronized⟩ rfl ⟨B.returns, rfl, hex, rfl⟩ (fun hi => (name_of_methodNamed B.named B.method).1.trans hi) h s.heap [] _ hΦ hRel va_S.rf hl
theorem Ct.blind {Ω : OmT} {av : List Value} {Φ : AH → Prop} {hR : AH} : FrameBlind (va_Pc av (fun U => WK Ω U ∧ ∃ h, Φ h ∧ Rel Ω h hR U.heap)) := fun a U g mk q => ⟨q.1, q.2.1.blind, q.2.2⟩
theorem Y.imp {Ω : OmT} {κ : KxT} {Φ Φ' : AH → Prop} {hR : AH} {cs sl pc : Nat} {L : List (Nat × Value)} {st : List Value} (i : ∀ h, Φ h → Φ' h) (k : Y Ω κ Φ' hR cs sl pc L st) : Y Ω κ Φ hR cs sl pc L st := fun h H locs ls hh => k h H locs ls (i h hh)
theorem Y.ex {α : Sort _} {Ω : OmT} {κ : KxT} {Φ : α → AH → Prop} {hR : AH} {cs sl pc : Nat} {L : List (Nat × Value)} {st : List Value} (k : ∀ x, Y Ω κ (Φ x) hR cs sl pc L st) : Y Ω κ (fun h => ∃ x, Φ x h) hR cs sl pc L st := fun h H locs ls ⟨x, hh⟩ => k x h H locs ls hh
theorem Y.and {P : Prop} {Ω : OmT} {κ : KxT} {Φ : AH → Prop} {hR : AH} {cs sl pc : Nat} {L : List (Nat × Value)} {st : List Value} (k : P → Y Ω κ Φ hR cs sl pc L st) : Y Ω κ (fun h => P ∧ Φ h) hR cs sl pc L st := fun h H locs ls ⟨x, hh⟩ => k x h H locs ls hh
theorem Y.at {Ω : OmT} {κ : KxT} {Φ : AH → Prop} {hR : AH} {cs sl pc : Nat} {L : List (Nat × Value)} {st : List Value} (k : ∀ h0, Φ h0 → Y Ω κ (fun h => h = h0) hR cs sl pc L st) : Y Ω κ Φ hR cs sl pc L st := fun h H locs ls hh => k h hh h H locs ls rfl
theorem Y.wide {Ω : OmT} {κ : KxT} {Φ : AH → Prop} {hR : AH} {cs sl cs' sl' pc : Nat} {L : List (Nat × Value)} {st : List Value} (h1 : cs ≤ cs') (h2 : sl ≤ sl') (k : Y Ω κ Φ hR cs' sl' pc L st) : Y Ω κ Φ hR cs sl pc L st := fun h H locs ls a b c d => W.widen h1 h2 (k h H locs ls a b c d)
theorem Y.sub {Ω : OmT} {κ : KxT} {Φ : AH → Prop} {hR : AH} {cs sl pc : Nat} {L L' : List (Nat × Value)} {st : List Value} (is : List Nat) (hl : lv_pick L is = L') (k : Y Ω κ Φ hR cs sl pc L' st) : Y Ω κ Φ hR cs sl pc L st := fun h H locs ls a b c d => k h H locs ls a b c (lv_sub d is hl)
theorem Ct.pre {Ω : OmT} {y : MethodName} {cc : ByteArray} {maxL : Nat} {ret : Option FieldType} {rm : Room} {av : List Value} {Φ Φ' : AH → Prop} {hR : AH} {Ψ : Option Value → AH → Prop} {Ξ : String → AH → Prop} (i : ∀ h, Φ' h → Φ h) (c : Ct Ω y cc maxL ret rm av Φ hR Ψ Ξ) : Ct Ω y cc maxL ret rm av Φ' hR Ψ Ξ := by
  intro p e ha hc hk s m args below hf happ hP ht
  exact c p e ha hc hk s m args below hf happ ⟨hP.1, hP.2.1, by obtain ⟨h, a, b⟩ := hP.2.2; exact ⟨h, i h a, b⟩⟩ ht
end
section
/-! NUMBERS: an Int32 and an Int64 by their numbers -/
def iv (z : Int) : Int32 := Int32.ofInt z
def jv (z : Int) : Int64 := Int64.ofInt z
theorem iv_i (x : Int32) : iv x.toInt = x := Int32.ofInt_toInt x
theorem iv_t {z : Int} (h1 : -2147483648 ≤ z) (h2 : z < 2147483648) : (iv z).toInt = z := Int32.toInt_ofInt_of_le h1 h2
theorem jv_t {z : Int} (h1 : -9223372036854775808 ≤ z) (h2 : z < 9223372036854775808) : (jv z).toInt = z := Int64.toInt_ofInt_of_le h1 h2
theorem iv_r (x : Int32) : -2147483648 ≤ x.toInt ∧ x.toInt < 2147483648 := ⟨by have := Int32.le_toInt x; omega, by have := Int32.toInt_lt x; omega⟩
theorem iv_add (x y : Int) : iv x + iv y = iv (x + y) := (Int32.ofInt_add x y).symm
theorem iv_sub (x y : Int) : iv x - iv y = iv (x - y) := (Int32.ofInt_sub x y).symm
theorem iv_mul (x y : Int) : iv x * iv y = iv (x * y) := (Int32.ofInt_mul x y).symm
theorem iv_neg (x : Int) : -iv x = iv (-x) := (Int32.ofInt_neg x).symm
theorem jv_add (x y : Int) : jv x + jv y = jv (x + y) := (Int64.ofInt_add x y).symm
theorem jv_sub (x y : Int) : jv x - jv y = jv (x - y) := (Int64.ofInt_sub x y).symm
theorem jv_mul (x y : Int) : jv x * jv y = jv (x * y) := (Int64.ofInt_mul x y).symm
theorem iv_lo : Int32.minValue.toInt = -2147483648 := by decide
theorem iv_hi : Int32.maxValue.toInt = 2147483647 := by decide
theorem jv_lo : Int64.minValue.toInt = -9223372036854775808 := by decide
theorem jv_hi : Int64.maxValue.toInt = 9223372036854775807 := by decide
theorem iv_div {x y : Int} (a : -2147483648 ≤ x) (b : x < 2147483648) (c : -2147483648 ≤ y) (d : y < 2147483648) : iv x / iv y = iv (x.tdiv y) := (Int32.ofInt_tdiv (by rw [iv_lo]; exact a) (by rw [iv_hi]; omega) (by rw [iv_lo]; exact c) (by rw [iv_hi]; omega)).symm
theorem iv_mod {x y : Int} (a : -2147483648 ≤ x) (b : x < 2147483648) (c : -2147483648 ≤ y) (d : y < 2147483648) : iv x % iv y = iv (x.tmod y) := (Int32.ofInt_tmod (by rw [iv_lo]; exact a) (by rw [iv_hi]; omega) (by rw [iv_lo]; exact c) (by rw [iv_hi]; omega)).symm
theorem jv_div {x y : Int} (a : -9223372036854775808 ≤ x) (b : x < 9223372036854775808) (c : -9223372036854775808 ≤ y) (d : y < 9223372036854775808) : jv x / jv y = jv (x.tdiv y) := (Int64.ofInt_tdiv (by rw [jv_lo]; exact a) (by rw [jv_hi]; omega) (by rw [jv_lo]; exact c) (by rw [jv_hi]; omega)).symm
theorem iv_le {x y : Int} (a : -2147483648 ≤ x) (b : x < 2147483648) (c : -2147483648 ≤ y) (d : y < 2147483648) : iv x ≤ iv y ↔ x ≤ y := Int32.ofInt_le_iff_le (by rw [iv_lo]; exact a) (by rw [iv_hi]; omega) (by rw [iv_lo]; exact c) (by rw [iv_hi]; omega)
theorem iv_lt {x y : Int} (a : -2147483648 ≤ x) (b : x < 2147483648) (c : -2147483648 ≤ y) (d : y < 2147483648) : iv x < iv y ↔ x < y := Int32.ofInt_lt_iff_lt (by rw [iv_lo]; exact a) (by rw [iv_hi]; omega) (by rw [iv_lo]; exact c) (by rw [iv_hi]; omega)
theorem jv_lt {x y : Int} (a : -9223372036854775808 ≤ x) (b : x < 9223372036854775808) (c : -9223372036854775808 ≤ y) (d : y < 9223372036854775808) : jv x < jv y ↔ x < y := Int64.ofInt_lt_iff_lt (by rw [jv_lo]; exact a) (by rw [jv_hi]; omega) (by rw [jv_lo]; exact c) (by rw [jv_hi]; omega)
theorem iv_eq {x y : Int} (a : -2147483648 ≤ x) (b : x < 2147483648) (c : -2147483648 ≤ y) (d : y < 2147483648) : iv x = iv y ↔ x = y := ⟨fun h => by rw [← iv_t a b, ← iv_t c d, h], fun h => by rw [h]⟩
theorem jv_eq {x y : Int} (a : -9223372036854775808 ≤ x) (b : x < 9223372036854775808) (c : -9223372036854775808 ≤ y) (d : y < 9223372036854775808) : jv x = jv y ↔ x = y := ⟨fun h => by rw [← jv_t a b, ← jv_t c d, h], fun h => by rw [h]⟩
theorem iv_l {x : Int} (a : -2147483648 ≤ x) (b : x < 2147483648) : (iv x).toInt64 = jv x := Int32.toInt64_ofInt (by rw [iv_lo]; exact a) (by rw [iv_hi]; omega)
theorem jv_i (x : Int) : (jv x).toInt32 = iv x := Int64.toInt32_ofInt
theorem iv_0 : iv 0 = 0 := by decide
theorem jv_0 : jv 0 = 0 := by decide
theorem iv_nI (n : Nat) : iv n = nI n := Int32.ofInt_eq_ofNat
theorem iv_cl {x : Int} (a : 0 ≤ x) (b : x < 2147483648) : (iv x).toNatClampNeg = x.toNat := by
  obtain ⟨n, rfl⟩ := Int.eq_ofNat_of_zero_le a
  rw [iv_nI, nI_clamp (by omega)]; rfl
theorem iv_in {x : Int} {n : Nat} (a : 0 ≤ x) (b : x.toNat < n) (c : x < 2147483648) : vp_in (iv x) n := by
  rintro (h | h)
  · rw [← iv_0, iv_lt (by omega) c (by decide) (by decide)] at h; omega
  · rw [iv_cl a c] at h; omega
theorem iv_cmp {x y : Int} (a : -9223372036854775808 ≤ x) (b : x < 9223372036854775808) (c : -9223372036854775808 ≤ y) (d : y < 9223372036854775808) : lg_cmp (jv x) (jv y) = iv (if y < x then 1 else if x = y then 0 else -1) := by
  unfold lg_cmp
  have e1 : (jv x > jv y) ↔ y < x := jv_lt c d a b
  have e2 : (jv x = jv y) ↔ x = y := jv_eq a b c d
  by_cases h1 : y < x
  · rw [if_pos h1, if_pos (e1.mpr h1)]; decide
  · rw [if_neg h1, if_neg (fun q => h1 (e1.mp q))]
    by_cases h2 : x = y
    · rw [if_pos h2, if_pos (e2.mpr h2)]; decide
    · rw [if_neg h2, if_neg (fun q => h2 (e2.mp q))]; decide
/-- a truth as a number -/
def bz (b : Bool) : Int := if b = true then 1 else 0
theorem bz_01 (b : Bool) : 0 ≤ bz b ∧ bz b ≤ 1 := by cases b <;> decide
theorem bz_t {b : Bool} : bz b = 0 ↔ b = false := by cases b <;> decide
theorem bz_tt : bz true = 1 := rfl
theorem bz_ff : bz false = 0 := rfl
section YROWS
variable {Ω : OmT} {κ : KxT} {Φ : AH → Prop} {hR : AH} {cs sl pc : Nat} {L L' : List (Nat × Value)} {st : List Value} {own : String} {cc : ByteArray}
theorem y_iconst (C : Cx Ω κ own cc) {z : Int} (dg : decode cc pc = .ok (.iconst z, 1))
    (k : Y Ω κ Φ hR cs sl (pc + 1) L (.int (iv z) :: st)) : Y Ω κ Φ hR cs sl pc L (st) :=
  fun h H locs ls a b c d => lv_iconst C.1 C.2.1 dg rfl (k h H locs ls a b c d)
theorem y_bipush (C : Cx Ω κ own cc) {n z : Int} (dg : decode cc pc = .ok (.bipush n, 2)) (hv : (Int8.ofInt n).toInt32 = iv z)
    (k : Y Ω κ Φ hR cs sl (pc + 2) L (.int (iv z) :: st)) : Y Ω κ Φ hR cs sl pc L (st) :=
  fun h H locs ls a b c d => lv_bipush C.1 C.2.1 dg hv (k h H locs ls a b c d)
theorem y_sipush (C : Cx Ω κ own cc) {n z : Int} (dg : decode cc pc = .ok (.sipush n, 3)) (hv : (Int16.ofInt n).toInt32 = iv z)
    (k : Y Ω κ Φ hR cs sl (pc + 3) L (.int (iv z) :: st)) : Y Ω κ Φ hR cs sl pc L (st) :=
  fun h H locs ls a b c d => lv_sipush C.1 C.2.1 dg hv (k h H locs ls a b c d)
theorem y_lconst (C : Cx Ω κ own cc) {n : Fin 2} {z : Int} (dg : decode cc pc = .ok (.lconst n, 1)) (hv : Int64.ofNat (n : Nat) = jv z)
    (k : Y Ω κ Φ hR cs sl (pc + 1) L (.long (jv z) :: st)) : Y Ω κ Φ hR cs sl pc L (st) :=
  fun h H locs ls a b c d => lv_lconst C.1 C.2.1 dg hv (k h H locs ls a b c d)
theorem y_ldc (C : Cx Ω κ own cc) {idx : Nat} {v : Int32} {z : Int} (w : Cond.constant own idx v ∈ AW) (hv : v = iv z) (dg : decode cc pc = .ok (.ldc idx, 2))
    (k : Y Ω κ Φ hR cs sl (pc + 2) L (.int (iv z) :: st)) : Y Ω κ Φ hR cs sl pc L (st) :=
  fun h H locs ls a b c d => lv_ldc C.1 C.2.1 C.2.2.2.1 (C.2.2.2.2.1 _ w) dg (by subst hv; exact k h H locs ls a b c d)
theorem y_ldc2 (C : Cx Ω κ own cc) {idx : Nat} {v : Int64} {z : Int} (w : Cond.constantLong own idx v ∈ AW) (hv : v = jv z) (dg : decode cc pc = .ok (.ldc2_w idx, 3))
    (k : Y Ω κ Φ hR cs sl (pc + 3) L (.long (jv z) :: st)) : Y Ω κ Φ hR cs sl pc L (st) :=
  fun h H locs ls a b c d => lv_ldc2 C.1 C.2.1 C.2.2.2.1 (C.2.2.2.2.1 _ w) dg (by subst hv; exact k h H locs ls a b c d)
theorem y_iload_n (C : Cx Ω κ own cc) {i : Fin 4} {x : Int32} (dg : decode cc pc = .ok (.iload_n i, 1)) (j : Nat) (hl : L[j]? = some ((i : Nat), .int x))
    (k : Y Ω κ Φ hR cs sl (pc + 1) L (.int x :: st)) : Y Ω κ Φ hR cs sl pc L (st) :=
  fun h H locs ls a b c d => lv_iload_n C.1 C.2.1 dg rfl (lv_at d j hl) (k h H locs ls a b c d)
theorem y_iload (C : Cx Ω κ own cc) {i : Nat} {x : Int32} (dg : decode cc pc = .ok (.iload i, 2)) (j : Nat) (hl : L[j]? = some (i, .int x))
    (k : Y Ω κ Φ hR cs sl (pc + 2) L (.int x :: st)) : Y Ω κ Φ hR cs sl pc L (st) :=
  fun h H locs ls a b c d => lv_iload C.1 C.2.1 dg (lv_at d j hl) (k h H locs ls a b c d)
theorem y_istore_n (C : Cx Ω κ own cc) {i : Fin 4} {x : Int32} (dg : decode cc pc = .ok (.istore_n i, 1)) (hn : (i : Nat) < kn κ) (hl : ((i : Nat), Value.int x) :: L.filter (fun q => !(q.1 == (i : Nat)) && !(q.1 + 1 == (i : Nat) && q.2.category == 2)) = L')
    (k : Y Ω κ Φ hR cs sl (pc + 1) L' st) : Y Ω κ Φ hR cs sl pc L (.int x :: st) :=
  fun h H locs ls a b c d => lv_istore_n C.1 C.2.1 dg rfl d hn hl (fun ls2 d2 => k h H locs ls2 a b c d2)
theorem y_istore (C : Cx Ω κ own cc) {i : Nat} {x : Int32} (dg : decode cc pc = .ok (.istore i, 2)) (hn : i < kn κ) (hl : ((i : Nat), Value.int x) :: L.filter (fun q => !(q.1 == i) && !(q.1 + 1 == i && q.2.category == 2)) = L')
    (k : Y Ω κ Φ hR cs sl (pc + 2) L' st) : Y Ω κ Φ hR cs sl pc L (.int x :: st) :=
  fun h H locs ls a b c d => lv_istore C.1 C.2.1 dg d hn hl (fun ls2 d2 => k h H locs ls2 a b c d2)
theorem y_lload_n (C : Cx Ω κ own cc) {i : Fin 4} {x : Int64} (dg : decode cc pc = .ok (.lload_n i, 1)) (j : Nat) (hl : L[j]? = some ((i : Nat), .long x))
    (k : Y Ω κ Φ hR cs sl (pc + 1) L (.long x :: st)) : Y Ω κ Φ hR cs sl pc L (st) :=
  fun h H locs ls a b c d => lv_lload_n C.1 C.2.1 dg rfl (lv_at d j hl) (k h H locs ls a b c d)
theorem y_lload (C : Cx Ω κ own cc) {i : Nat} {x : Int64} (dg : decode cc pc = .ok (.lload i, 2)) (j : Nat) (hl : L[j]? = some (i, .long x))
    (k : Y Ω κ Φ hR cs sl (pc + 2) L (.long x :: st)) : Y Ω κ Φ hR cs sl pc L (st) :=
  fun h H locs ls a b c d => lv_lload C.1 C.2.1 dg (lv_at d j hl) (k h H locs ls a b c d)
theorem y_lstore_n (C : Cx Ω κ own cc) {i : Fin 4} {x : Int64} (dg : decode cc pc = .ok (.lstore_n i, 1)) (hn : (i : Nat) + 1 < kn κ) (hl : ((i : Nat), Value.long x) :: L.filter (fun q => !(q.1 == (i : Nat)) && (!(q.1 == (i : Nat) + 1) && !(q.1 + 1 == (i : Nat) && q.2.category == 2))) = L')
    (k : Y Ω κ Φ hR cs sl (pc + 1) L' st) : Y Ω κ Φ hR cs sl pc L (.long x :: st) :=
  fun h H locs ls a b c d => lv_lstore_n C.1 C.2.1 dg rfl d hn hl (fun ls2 d2 => k h H locs ls2 a b c d2)
theorem y_lstore (C : Cx Ω κ own cc) {i : Nat} {x : Int64} (dg : decode cc pc = .ok (.lstore i, 2)) (hn : i + 1 < kn κ) (hl : ((i : Nat), Value.long x) :: L.filter (fun q => !(q.1 == i) && (!(q.1 == i + 1) && !(q.1 + 1 == i && q.2.category == 2))) = L')
    (k : Y Ω κ Φ hR cs sl (pc + 2) L' st) : Y Ω κ Φ hR cs sl pc L (.long x :: st) :=
  fun h H locs ls a b c d => lv_lstore C.1 C.2.1 dg d hn hl (fun ls2 d2 => k h H locs ls2 a b c d2)
theorem y_aload_n (C : Cx Ω κ own cc) {i : Fin 4} {x : Nat} (dg : decode cc pc = .ok (.aload_n i, 1)) (j : Nat) (hl : L[j]? = some ((i : Nat), .ref x))
    (k : Y Ω κ Φ hR cs sl (pc + 1) L (.ref x :: st)) : Y Ω κ Φ hR cs sl pc L (st) :=
  fun h H locs ls a b c d => lv_aload_n C.1 C.2.1 dg rfl (lv_at d j hl) (k h H locs ls a b c d)
theorem y_aload (C : Cx Ω κ own cc) {i : Nat} {x : Nat} (dg : decode cc pc = .ok (.aload i, 2)) (j : Nat) (hl : L[j]? = some (i, .ref x))
    (k : Y Ω κ Φ hR cs sl (pc + 2) L (.ref x :: st)) : Y Ω κ Φ hR cs sl pc L (st) :=
  fun h H locs ls a b c d => lv_aload C.1 C.2.1 dg (lv_at d j hl) (k h H locs ls a b c d)
theorem y_astore_n (C : Cx Ω κ own cc) {i : Fin 4} {x : Nat} (dg : decode cc pc = .ok (.astore_n i, 1)) (hn : (i : Nat) < kn κ) (hl : ((i : Nat), Value.ref x) :: L.filter (fun q => !(q.1 == (i : Nat)) && !(q.1 + 1 == (i : Nat) && q.2.category == 2)) = L')
    (k : Y Ω κ Φ hR cs sl (pc + 1) L' st) : Y Ω κ Φ hR cs sl pc L (.ref x :: st) :=
  fun h H locs ls a b c d => lv_astore_n C.1 C.2.1 dg rfl d hn hl (fun ls2 d2 => k h H locs ls2 a b c d2)
theorem y_astore (C : Cx Ω κ own cc) {i : Nat} {x : Nat} (dg : decode cc pc = .ok (.astore i, 2)) (hn : i < kn κ) (hl : ((i : Nat), Value.ref x) :: L.filter (fun q => !(q.1 == i) && !(q.1 + 1 == i && q.2.category == 2)) = L')
    (k : Y Ω κ Φ hR cs sl (pc + 2) L' st) : Y Ω κ Φ hR cs sl pc L (.ref x :: st) :=
  fun h H locs ls a b c d => lv_astore C.1 C.2.1 dg d hn hl (fun ls2 d2 => k h H locs ls2 a b c d2)
theorem y_iinc (C : Cx Ω κ own cc) {i : Nat} {n x : Int} (dg : decode cc pc = .ok (.iinc i n, 3)) (j : Nat) (hj : L[j]? = some (i, .int (iv x))) (hn : i < kn κ) (hl : (i, Value.int (iv (x + n))) :: L.filter (fun q => !(q.1 == i) && !(q.1 + 1 == i && q.2.category == 2)) = L')
    (k : Y Ω κ Φ hR cs sl (pc + 3) L' st) : Y Ω κ Φ hR cs sl pc L st :=
  fun h H locs ls a b c d => lv_iinc C.1 C.2.1 dg d hj (iv_add x n) hn hl (fun ls2 d2 => k h H locs ls2 a b c d2)
theorem y_iadd (C : Cx Ω κ own cc) {x y : Int} (dg : decode cc pc = .ok (.iadd, 1))
    (k : Y Ω κ Φ hR cs sl (pc + 1) L (.int (iv (x + y)) :: st)) : Y Ω κ Φ hR cs sl pc L (.int (iv y) :: .int (iv x) :: st) :=
  fun h H locs ls a b c d => lv_iadd C.1 C.2.1 dg (by rw [iv_add]; exact k h H locs ls a b c d)
theorem y_isub (C : Cx Ω κ own cc) {x y : Int} (dg : decode cc pc = .ok (.isub, 1))
    (k : Y Ω κ Φ hR cs sl (pc + 1) L (.int (iv (x - y)) :: st)) : Y Ω κ Φ hR cs sl pc L (.int (iv y) :: .int (iv x) :: st) :=
  fun h H locs ls a b c d => lv_isub C.1 C.2.1 dg (by rw [iv_sub]; exact k h H locs ls a b c d)
theorem y_imul (C : Cx Ω κ own cc) {x y : Int} (dg : decode cc pc = .ok (.imul, 1))
    (k : Y Ω κ Φ hR cs sl (pc + 1) L (.int (iv (x * y)) :: st)) : Y Ω κ Φ hR cs sl pc L (.int (iv y) :: .int (iv x) :: st) :=
  fun h H locs ls a b c d => lv_imul C.1 C.2.1 dg (by rw [iv_mul]; exact k h H locs ls a b c d)
theorem y_ineg (C : Cx Ω κ own cc) {x : Int} (dg : decode cc pc = .ok (.ineg, 1))
    (k : Y Ω κ Φ hR cs sl (pc + 1) L (.int (iv (-x)) :: st)) : Y Ω κ Φ hR cs sl pc L (.int (iv x) :: st) :=
  fun h H locs ls a b c d => lv_ineg C.1 C.2.1 dg (by rw [iv_neg]; exact k h H locs ls a b c d)
theorem y_idiv (C : Cx Ω κ own cc) {x y : Int} (dg : decode cc pc = .ok (.idiv, 1)) (h1 : -2147483648 ≤ x) (h2 : x < 2147483648) (h3 : -2147483648 ≤ y) (h4 : y < 2147483648) (h5 : y ≠ 0)
    (k : Y Ω κ Φ hR cs sl (pc + 1) L (.int (iv (x.tdiv y)) :: st)) : Y Ω κ Φ hR cs sl pc L (.int (iv y) :: .int (iv x) :: st) :=
  fun h H locs ls a b c d => lv_idiv C.1 C.2.1 dg (by rw [← iv_0, iv_eq h3 h4 (by decide) (by decide)]; exact h5) (by rw [iv_div h1 h2 h3 h4]; exact k h H locs ls a b c d)
theorem y_idivP (C : Cx Ω κ own cc) {x y : Int} (dg : decode cc pc = .ok (.idiv, 1)) (h1 : 0 ≤ x) (h2 : x < 2147483648) (h3 : 0 < y) (h4 : y < 2147483648)
    (k : Y Ω κ Φ hR cs sl (pc + 1) L (.int (iv (x / y)) :: st)) : Y Ω κ Φ hR cs sl pc L (.int (iv y) :: .int (iv x) :: st) :=
  fun h H locs ls a b c d => y_idiv C dg (by omega) h2 (by omega) h4 (by omega) (by rw [Int.tdiv_eq_ediv_of_nonneg h1]; exact k) h H locs ls a b c d
theorem y_irem (C : Cx Ω κ own cc) {x y : Int} (dg : decode cc pc = .ok (.irem, 1)) (h1 : 0 ≤ x) (h2 : x < 2147483648) (h3 : 0 < y) (h4 : y < 2147483648)
    (k : Y Ω κ Φ hR cs sl (pc + 1) L (.int (iv (x % y)) :: st)) : Y Ω κ Φ hR cs sl pc L (.int (iv y) :: .int (iv x) :: st) :=
  fun h H locs ls a b c d => lv_irem C.1 C.2.1 dg (by rw [← iv_0, iv_eq (by omega) h4 (by decide) (by decide)]; omega) (by rw [irem_eq_mod, iv_mod (by omega) h2 (by omega) h4, Int.tmod_eq_emod_of_nonneg h1]; exact k h H locs ls a b c d)
theorem y_i2l (C : Cx Ω κ own cc) {x : Int} (dg : decode cc pc = .ok (.i2l, 1)) (h1 : -2147483648 ≤ x) (h2 : x < 2147483648)
    (k : Y Ω κ Φ hR cs sl (pc + 1) L (.long (jv x) :: st)) : Y Ω κ Φ hR cs sl pc L (.int (iv x) :: st) :=
  fun h H locs ls a b c d => lv_i2l C.1 C.2.1 dg (iv_l h1 h2) (k h H locs ls a b c d)
theorem y_l2i (C : Cx Ω κ own cc) {x : Int} (dg : decode cc pc = .ok (.l2i, 1))
    (k : Y Ω κ Φ hR cs sl (pc + 1) L (.int (iv x) :: st)) : Y Ω κ Φ hR cs sl pc L (.long (jv x) :: st) :=
  fun h H locs ls a b c d => lv_l2i C.1 C.2.1 dg (jv_i x) (k h H locs ls a b c d)
theorem y_ladd (C : Cx Ω κ own cc) {x y : Int} (dg : decode cc pc = .ok (.ladd, 1))
    (k : Y Ω κ Φ hR cs sl (pc + 1) L (.long (jv (x + y)) :: st)) : Y Ω κ Φ hR cs sl pc L (.long (jv y) :: .long (jv x) :: st) :=
  fun h H locs ls a b c d => lv_ladd C.1 C.2.1 dg (by rw [jv_add]; exact k h H locs ls a b c d)
theorem y_laddR (C : Cx Ω κ own cc) {x y : Int64} (dg : decode cc pc = .ok (.ladd, 1))
    (k : Y Ω κ Φ hR cs sl (pc + 1) L (.long (x + y) :: st)) : Y Ω κ Φ hR cs sl pc L (.long y :: .long x :: st) :=
  fun h H locs ls a b c d => lv_ladd C.1 C.2.1 dg (k h H locs ls a b c d)
theorem y_lsub (C : Cx Ω κ own cc) {x y : Int} (dg : decode cc pc = .ok (.lsub, 1))
    (k : Y Ω κ Φ hR cs sl (pc + 1) L (.long (jv (x - y)) :: st)) : Y Ω κ Φ hR cs sl pc L (.long (jv y) :: .long (jv x) :: st) :=
  fun h H locs ls a b c d => lv_lsub C.1 C.2.1 dg (by rw [jv_sub]; exact k h H locs ls a b c d)
theorem y_lsubR (C : Cx Ω κ own cc) {x y : Int64} (dg : decode cc pc = .ok (.lsub, 1))
    (k : Y Ω κ Φ hR cs sl (pc + 1) L (.long (x - y) :: st)) : Y Ω κ Φ hR cs sl pc L (.long y :: .long x :: st) :=
  fun h H locs ls a b c d => lv_lsub C.1 C.2.1 dg (k h H locs ls a b c d)
theorem y_lmul (C : Cx Ω κ own cc) {x y : Int} (dg : decode cc pc = .ok (.lmul, 1))
    (k : Y Ω κ Φ hR cs sl (pc + 1) L (.long (jv (x * y)) :: st)) : Y Ω κ Φ hR cs sl pc L (.long (jv y) :: .long (jv x) :: st) :=
  fun h H locs ls a b c d => lv_lmul C.1 C.2.1 dg (by rw [jv_mul]; exact k h H locs ls a b c d)
theorem y_lmulR (C : Cx Ω κ own cc) {x y : Int64} (dg : decode cc pc = .ok (.lmul, 1))
    (k : Y Ω κ Φ hR cs sl (pc + 1) L (.long (x * y) :: st)) : Y Ω κ Φ hR cs sl pc L (.long y :: .long x :: st) :=
  fun h H locs ls a b c d => lv_lmul C.1 C.2.1 dg (k h H locs ls a b c d)
theorem y_ldiv (C : Cx Ω κ own cc) {x y : Int} (dg : decode cc pc = .ok (.ldiv, 1)) (h1 : -9223372036854775808 ≤ x) (h2 : x < 9223372036854775808) (h3 : -9223372036854775808 ≤ y) (h4 : y < 9223372036854775808) (h5 : y ≠ 0)
    (k : Y Ω κ Φ hR cs sl (pc + 1) L (.long (jv (x.tdiv y)) :: st)) : Y Ω κ Φ hR cs sl pc L (.long (jv y) :: .long (jv x) :: st) :=
  fun h H locs ls a b c d => lv_ldiv C.1 C.2.1 dg (by rw [← jv_0, jv_eq h3 h4 (by decide) (by decide)]; exact h5) (by rw [jv_div h1 h2 h3 h4]; exact k h H locs ls a b c d)
theorem y_ldivP (C : Cx Ω κ own cc) {x y : Int} (dg : decode cc pc = .ok (.ldiv, 1)) (h1 : 0 ≤ x) (h2 : x < 9223372036854775808) (h3 : 0 < y) (h4 : y < 9223372036854775808)
    (k : Y Ω κ Φ hR cs sl (pc + 1) L (.long (jv (x / y)) :: st)) : Y Ω κ Φ hR cs sl pc L (.long (jv y) :: .long (jv x) :: st) :=
  fun h H locs ls a b c d => y_ldiv C dg (by omega) h2 (by omega) h4 (by omega) (by rw [Int.tdiv_eq_ediv_of_nonneg h1]; exact k) h H locs ls a b c d
theorem y_ldivR (C : Cx Ω κ own cc) {x y : Int64} (dg : decode cc pc = .ok (.ldiv, 1)) (h5 : ¬ y = 0)
    (k : Y Ω κ Φ hR cs sl (pc + 1) L (.long (x / y) :: st)) : Y Ω κ Φ hR cs sl pc L (.long y :: .long x :: st) :=
  fun h H locs ls a b c d => lv_ldiv C.1 C.2.1 dg h5 (k h H locs ls a b c d)
theorem y_dup (C : Cx Ω κ own cc) {v : Value} (dg : decode cc pc = .ok (.dup, 1)) (hv : v.category = 1)
    (k : Y Ω κ Φ hR cs sl (pc + 1) L (v :: v :: st)) : Y Ω κ Φ hR cs sl pc L (v :: st) :=
  fun h H locs ls a b c d => lv_dup C.1 C.2.1 dg hv (k h H locs ls a b c d)
theorem y_pop (C : Cx Ω κ own cc) {v : Value} (dg : decode cc pc = .ok (.pop, 1)) (hv : v.category = 1)
    (k : Y Ω κ Φ hR cs sl (pc + 1) L (st)) : Y Ω κ Φ hR cs sl pc L (v :: st) :=
  fun h H locs ls a b c d => lv_pop C.1 C.2.1 dg hv (k h H locs ls a b c d)
theorem y_dup2 (C : Cx Ω κ own cc) {v w : Value} (dg : decode cc pc = .ok (.dup2, 1)) (hv : v.category = 1) (hw : w.category = 1)
    (k : Y Ω κ Φ hR cs sl (pc + 1) L (v :: w :: v :: w :: st)) : Y Ω κ Φ hR cs sl pc L (v :: w :: st) :=
  fun h H locs ls a b c d => lv_dup2_11 C.1 C.2.1 dg hv hw (k h H locs ls a b c d)
theorem y_dup_x1 (C : Cx Ω κ own cc) {v w : Value} (dg : decode cc pc = .ok (.dup_x1, 1)) (hv : v.category = 1) (hw : w.category = 1)
    (k : Y Ω κ Φ hR cs sl (pc + 1) L (v :: w :: v :: st)) : Y Ω κ Φ hR cs sl pc L (v :: w :: st) :=
  fun h H locs ls a b c d => lv_dup_x1 C.1 C.2.1 dg hv hw (k h H locs ls a b c d)
theorem y_null (C : Cx Ω κ own cc) (dg : decode cc pc = .ok (.aconst_null, 1))
    (k : Y Ω κ Φ hR cs sl (pc + 1) L (.null :: st)) : Y Ω κ Φ hR cs sl pc L (st) :=
  fun h H locs ls a b c d => lv_null C.1 C.2.1 dg (k h H locs ls a b c d)
theorem y_goto (C : Cx Ω κ own cc) {off : Int} {tgt : Nat} (dg : decode cc pc = .ok (.goto off, 3)) (ht : (pc : Int) + off = (tgt : Int))
    (k : Y Ω κ Φ hR cs sl tgt L (st)) : Y Ω κ Φ hR cs sl pc L (st) :=
  fun h H locs ls a b c d => lv_goto C.1 C.2.1 dg ht (k h H locs ls a b c d)
theorem y_icmp_eq (C : Cx Ω κ own cc) {x y off : Int} {tgt : Nat} (dg : decode cc pc = .ok (.if_icmp .eq off, 3)) (ht : (pc : Int) + off = (tgt : Int)) (h1 : -2147483648 ≤ x) (h2 : x < 2147483648) (h3 : -2147483648 ≤ y) (h4 : y < 2147483648)
    (kt : x = y → Y Ω κ Φ hR cs sl tgt L st) (kf : ¬ (x = y) → Y Ω κ Φ hR cs sl (pc + 3) L st) : Y Ω κ Φ hR cs sl pc L (.int (iv y) :: .int (iv x) :: st) :=
  fun h H locs ls a b c d => lv_icmp_eq C.1 C.2.1 dg ht (fun q => kt ((iv_eq h1 h2 h3 h4).mp q) h H locs ls a b c d) (fun q => kf (fun z => q ((iv_eq h1 h2 h3 h4).mpr z)) h H locs ls a b c d)
theorem y_if_eq (C : Cx Ω κ own cc) {x off : Int} {tgt : Nat} (dg : decode cc pc = .ok (.ifCond .eq off, 3)) (ht : (pc : Int) + off = (tgt : Int)) (h1 : -2147483648 ≤ x) (h2 : x < 2147483648)
    (kt : x = 0 → Y Ω κ Φ hR cs sl tgt L st) (kf : ¬ (x = 0) → Y Ω κ Φ hR cs sl (pc + 3) L st) : Y Ω κ Φ hR cs sl pc L (.int (iv x) :: st) :=
  fun h H locs ls a b c d => lv_if_eq C.1 C.2.1 dg ht (fun q => kt ((iv_eq h1 h2 (by decide) (by decide)).mp (by rw [iv_0]; exact q)) h H locs ls a b c d) (fun q => kf (fun z => q (by have w := (iv_eq h1 h2 (by decide) (by decide)).mpr z; rw [iv_0] at w; exact w)) h H locs ls a b c d)
theorem y_lcmp_eq (C : Cx Ω κ own cc) {x y off : Int} {tgt : Nat} (dg : decode cc pc = .ok (.lcmp, 1)) (dg2 : decode cc (pc + 1) = .ok (.ifCond .eq off, 3)) (ht : ((pc + 1 : Nat) : Int) + off = (tgt : Int)) (h1 : -9223372036854775808 ≤ x) (h2 : x < 9223372036854775808) (h3 : -9223372036854775808 ≤ y) (h4 : y < 9223372036854775808)
    (kt : x = y → Y Ω κ Φ hR cs sl tgt L st) (kf : ¬ (x = y) → Y Ω κ Φ hR cs sl (pc + 1 + 3) L st) : Y Ω κ Φ hR cs sl pc L (.long (jv y) :: .long (jv x) :: st) :=
  fun h H locs ls a b c d => W.lcmp C.1 C.2.1 dg (by
    rw [iv_cmp h1 h2 h3 h4]
    refine y_if_eq C dg2 ht (by split <;> first | decide | (split <;> decide)) (by split <;> first | decide | (split <;> decide)) (fun q => kt ?_) (fun q => kf ?_) h H locs ls a b c d
    · split at q <;> first | omega | (split at q <;> omega)
    · split at q <;> first | omega | (split at q <;> omega))
theorem y_icmp_ne (C : Cx Ω κ own cc) {x y off : Int} {tgt : Nat} (dg : decode cc pc = .ok (.if_icmp .ne off, 3)) (ht : (pc : Int) + off = (tgt : Int)) (h1 : -2147483648 ≤ x) (h2 : x < 2147483648) (h3 : -2147483648 ≤ y) (h4 : y < 2147483648)
    (kt : ¬ x = y → Y Ω κ Φ hR cs sl tgt L st) (kf : x = y → Y Ω κ Φ hR cs sl (pc + 3) L st) : Y Ω κ Φ hR cs sl pc L (.int (iv y) :: .int (iv x) :: st) :=
  fun h H locs ls a b c d => lv_icmp_ne C.1 C.2.1 dg ht (fun q => kt (fun z => q (by rw [z])) h H locs ls a b c d) (fun q => kf ((iv_eq h1 h2 h3 h4).mp q) h H locs ls a b c d)
theorem y_if_ne (C : Cx Ω κ own cc) {x off : Int} {tgt : Nat} (dg : decode cc pc = .ok (.ifCond .ne off, 3)) (ht : (pc : Int) + off = (tgt : Int)) (h1 : -2147483648 ≤ x) (h2 : x < 2147483648)
    (kt : ¬ x = 0 → Y Ω κ Φ hR cs sl tgt L st) (kf : x = 0 → Y Ω κ Φ hR cs sl (pc + 3) L st) : Y Ω κ Φ hR cs sl pc L (.int (iv x) :: st) :=
  fun h H locs ls a b c d => lv_if_ne C.1 C.2.1 dg ht (fun q => kt (fun z => q (by rw [z]; exact iv_0)) h H locs ls a b c d) (fun q => kf ((iv_eq h1 h2 (by decide) (by decide)).mp (by rw [iv_0]; exact q)) h H locs ls a b c d)
theorem y_icmp_lt (C : Cx Ω κ own cc) {x y off : Int} {tgt : Nat} (dg : decode cc pc = .ok (.if_icmp .lt off, 3)) (ht : (pc : Int) + off = (tgt : Int)) (h1 : -2147483648 ≤ x) (h2 : x < 2147483648) (h3 : -2147483648 ≤ y) (h4 : y < 2147483648)
    (kt : x < y → Y Ω κ Φ hR cs sl tgt L st) (kf : ¬ (x < y) → Y Ω κ Φ hR cs sl (pc + 3) L st) : Y Ω κ Φ hR cs sl pc L (.int (iv y) :: .int (iv x) :: st) :=
  fun h H locs ls a b c d => lv_icmp_lt C.1 C.2.1 dg ht (fun q => kt ((iv_lt h1 h2 h3 h4).mp q) h H locs ls a b c d) (fun q => kf (fun z => q ((iv_lt h1 h2 h3 h4).mpr z)) h H locs ls a b c d)
theorem y_if_lt (C : Cx Ω κ own cc) {x off : Int} {tgt : Nat} (dg : decode cc pc = .ok (.ifCond .lt off, 3)) (ht : (pc : Int) + off = (tgt : Int)) (h1 : -2147483648 ≤ x) (h2 : x < 2147483648)
    (kt : x < 0 → Y Ω κ Φ hR cs sl tgt L st) (kf : ¬ (x < 0) → Y Ω κ Φ hR cs sl (pc + 3) L st) : Y Ω κ Φ hR cs sl pc L (.int (iv x) :: st) :=
  fun h H locs ls a b c d => lv_if_lt C.1 C.2.1 dg ht (fun q => kt ((iv_lt h1 h2 (by decide) (by decide)).mp (by rw [iv_0]; exact q)) h H locs ls a b c d) (fun q => kf (fun z => q (by have w := (iv_lt h1 h2 (by decide) (by decide)).mpr z; rw [iv_0] at w; exact w)) h H locs ls a b c d)
theorem y_lcmp_lt (C : Cx Ω κ own cc) {x y off : Int} {tgt : Nat} (dg : decode cc pc = .ok (.lcmp, 1)) (dg2 : decode cc (pc + 1) = .ok (.ifCond .lt off, 3)) (ht : ((pc + 1 : Nat) : Int) + off = (tgt : Int)) (h1 : -9223372036854775808 ≤ x) (h2 : x < 9223372036854775808) (h3 : -9223372036854775808 ≤ y) (h4 : y < 9223372036854775808)
    (kt : x < y → Y Ω κ Φ hR cs sl tgt L st) (kf : ¬ (x < y) → Y Ω κ Φ hR cs sl (pc + 1 + 3) L st) : Y Ω κ Φ hR cs sl pc L (.long (jv y) :: .long (jv x) :: st) :=
  fun h H locs ls a b c d => W.lcmp C.1 C.2.1 dg (by
    rw [iv_cmp h1 h2 h3 h4]
    refine y_if_lt C dg2 ht (by split <;> first | decide | (split <;> decide)) (by split <;> first | decide | (split <;> decide)) (fun q => kt ?_) (fun q => kf ?_) h H locs ls a b c d
    · split at q <;> first | omega | (split at q <;> omega)
    · split at q <;> first | omega | (split at q <;> omega))
theorem y_icmp_ge (C : Cx Ω κ own cc) {x y off : Int} {tgt : Nat} (dg : decode cc pc = .ok (.if_icmp .ge off, 3)) (ht : (pc : Int) + off = (tgt : Int)) (h1 : -2147483648 ≤ x) (h2 : x < 2147483648) (h3 : -2147483648 ≤ y) (h4 : y < 2147483648)
    (kt : y ≤ x → Y Ω κ Φ hR cs sl tgt L st) (kf : ¬ (y ≤ x) → Y Ω κ Φ hR cs sl (pc + 3) L st) : Y Ω κ Φ hR cs sl pc L (.int (iv y) :: .int (iv x) :: st) :=
  fun h H locs ls a b c d => lv_icmp_ge C.1 C.2.1 dg ht (fun q => kt ((iv_le h3 h4 h1 h2).mp q) h H locs ls a b c d) (fun q => kf (fun z => q ((iv_le h3 h4 h1 h2).mpr z)) h H locs ls a b c d)
theorem y_if_ge (C : Cx Ω κ own cc) {x off : Int} {tgt : Nat} (dg : decode cc pc = .ok (.ifCond .ge off, 3)) (ht : (pc : Int) + off = (tgt : Int)) (h1 : -2147483648 ≤ x) (h2 : x < 2147483648)
    (kt : 0 ≤ x → Y Ω κ Φ hR cs sl tgt L st) (kf : ¬ (0 ≤ x) → Y Ω κ Φ hR cs sl (pc + 3) L st) : Y Ω κ Φ hR cs sl pc L (.int (iv x) :: st) :=
  fun h H locs ls a b c d => lv_if_ge C.1 C.2.1 dg ht (fun q => kt ((iv_le (by decide) (by decide) h1 h2).mp (by rw [iv_0]; exact q)) h H locs ls a b c d) (fun q => kf (fun z => q (by have w := (iv_le (by decide) (by decide) h1 h2).mpr z; rw [iv_0] at w; exact w)) h H locs ls a b c d)
theorem y_lcmp_ge (C : Cx Ω κ own cc) {x y off : Int} {tgt : Nat} (dg : decode cc pc = .ok (.lcmp, 1)) (dg2 : decode cc (pc + 1) = .ok (.ifCond .ge off, 3)) (ht : ((pc + 1 : Nat) : Int) + off = (tgt : Int)) (h1 : -9223372036854775808 ≤ x) (h2 : x < 9223372036854775808) (h3 : -9223372036854775808 ≤ y) (h4 : y < 9223372036854775808)
    (kt : y ≤ x → Y Ω κ Φ hR cs sl tgt L st) (kf : ¬ (y ≤ x) → Y Ω κ Φ hR cs sl (pc + 1 + 3) L st) : Y Ω κ Φ hR cs sl pc L (.long (jv y) :: .long (jv x) :: st) :=
  fun h H locs ls a b c d => W.lcmp C.1 C.2.1 dg (by
    rw [iv_cmp h1 h2 h3 h4]
    refine y_if_ge C dg2 ht (by split <;> first | decide | (split <;> decide)) (by split <;> first | decide | (split <;> decide)) (fun q => kt ?_) (fun q => kf ?_) h H locs ls a b c d
    · split at q <;> first | omega | (split at q <;> omega)
    · split at q <;> first | omega | (split at q <;> omega))
theorem y_icmp_gt (C : Cx Ω κ own cc) {x y off : Int} {tgt : Nat} (dg : decode cc pc = .ok (.if_icmp .gt off, 3)) (ht : (pc : Int) + off = (tgt : Int)) (h1 : -2147483648 ≤ x) (h2 : x < 2147483648) (h3 : -2147483648 ≤ y) (h4 : y < 2147483648)
    (kt : y < x → Y Ω κ Φ hR cs sl tgt L st) (kf : ¬ (y < x) → Y Ω κ Φ hR cs sl (pc + 3) L st) : Y Ω κ Φ hR cs sl pc L (.int (iv y) :: .int (iv x) :: st) :=
  fun h H locs ls a b c d => lv_icmp_gt C.1 C.2.1 dg ht (fun q => kt ((iv_lt h3 h4 h1 h2).mp q) h H locs ls a b c d) (fun q => kf (fun z => q ((iv_lt h3 h4 h1 h2).mpr z)) h H locs ls a b c d)
theorem y_if_gt (C : Cx Ω κ own cc) {x off : Int} {tgt : Nat} (dg : decode cc pc = .ok (.ifCond .gt off, 3)) (ht : (pc : Int) + off = (tgt : Int)) (h1 : -2147483648 ≤ x) (h2 : x < 2147483648)
    (kt : 0 < x → Y Ω κ Φ hR cs sl tgt L st) (kf : ¬ (0 < x) → Y Ω κ Φ hR cs sl (pc + 3) L st) : Y Ω κ Φ hR cs sl pc L (.int (iv x) :: st) :=
  fun h H locs ls a b c d => lv_if_gt C.1 C.2.1 dg ht (fun q => kt ((iv_lt (by decide) (by decide) h1 h2).mp (by rw [iv_0]; exact q)) h H locs ls a b c d) (fun q => kf (fun z => q (by have w := (iv_lt (by decide) (by decide) h1 h2).mpr z; rw [iv_0] at w; exact w)) h H locs ls a b c d)
theorem y_lcmp_gt (C : Cx Ω κ own cc) {x y off : Int} {tgt : Nat} (dg : decode cc pc = .ok (.lcmp, 1)) (dg2 : decode cc (pc + 1) = .ok (.ifCond .gt off, 3)) (ht : ((pc + 1 : Nat) : Int) + off = (tgt : Int)) (h1 : -9223372036854775808 ≤ x) (h2 : x < 9223372036854775808) (h3 : -9223372036854775808 ≤ y) (h4 : y < 9223372036854775808)
    (kt : y < x → Y Ω κ Φ hR cs sl tgt L st) (kf : ¬ (y < x) → Y Ω κ Φ hR cs sl (pc + 1 + 3) L st) : Y Ω κ Φ hR cs sl pc L (.long (jv y) :: .long (jv x) :: st) :=
  fun h H locs ls a b c d => W.lcmp C.1 C.2.1 dg (by
    rw [iv_cmp h1 h2 h3 h4]
    refine y_if_gt C dg2 ht (by split <;> first | decide | (split <;> decide)) (by split <;> first | decide | (split <;> decide)) (fun q => kt ?_) (fun q => kf ?_) h H locs ls a b c d
    · split at q <;> first | omega | (split at q <;> omega)
    · split at q <;> first | omega | (split at q <;> omega))
theorem y_icmp_le (C : Cx Ω κ own cc) {x y off : Int} {tgt : Nat} (dg : decode cc pc = .ok (.if_icmp .le off, 3)) (ht : (pc : Int) + off = (tgt : Int)) (h1 : -2147483648 ≤ x) (h2 : x < 2147483648) (h3 : -2147483648 ≤ y) (h4 : y < 2147483648)
    (kt : x ≤ y → Y Ω κ Φ hR cs sl tgt L st) (kf : ¬ (x ≤ y) → Y Ω κ Φ hR cs sl (pc + 3) L st) : Y Ω κ Φ hR cs sl pc L (.int (iv y) :: .int (iv x) :: st) :=
  fun h H locs ls a b c d => lv_icmp_le C.1 C.2.1 dg ht (fun q => kt ((iv_le h1 h2 h3 h4).mp q) h H locs ls a b c d) (fun q => kf (fun z => q ((iv_le h1 h2 h3 h4).mpr z)) h H locs ls a b c d)
theorem y_if_le (C : Cx Ω κ own cc) {x off : Int} {tgt : Nat} (dg : decode cc pc = .ok (.ifCond .le off, 3)) (ht : (pc : Int) + off = (tgt : Int)) (h1 : -2147483648 ≤ x) (h2 : x < 2147483648)
    (kt : x ≤ 0 → Y Ω κ Φ hR cs sl tgt L st) (kf : ¬ (x ≤ 0) → Y Ω κ Φ hR cs sl (pc + 3) L st) : Y Ω κ Φ hR cs sl pc L (.int (iv x) :: st) :=
  fun h H locs ls a b c d => lv_if_le C.1 C.2.1 dg ht (fun q => kt ((iv_le h1 h2 (by decide) (by decide)).mp (by rw [iv_0]; exact q)) h H locs ls a b c d) (fun q => kf (fun z => q (by have w := (iv_le h1 h2 (by decide) (by decide)).mpr z; rw [iv_0] at w; exact w)) h H locs ls a b c d)
theorem y_lcmp_le (C : Cx Ω κ own cc) {x y off : Int} {tgt : Nat} (dg : decode cc pc = .ok (.lcmp, 1)) (dg2 : decode cc (pc + 1) = .ok (.ifCond .le off, 3)) (ht : ((pc + 1 : Nat) : Int) + off = (tgt : Int)) (h1 : -9223372036854775808 ≤ x) (h2 : x < 9223372036854775808) (h3 : -9223372036854775808 ≤ y) (h4 : y < 9223372036854775808)
    (kt : x ≤ y → Y Ω κ Φ hR cs sl tgt L st) (kf : ¬ (x ≤ y) → Y Ω κ Φ hR cs sl (pc + 1 + 3) L st) : Y Ω κ Φ hR cs sl pc L (.long (jv y) :: .long (jv x) :: st) :=
  fun h H locs ls a b c d => W.lcmp C.1 C.2.1 dg (by
    rw [iv_cmp h1 h2 h3 h4]
    refine y_if_le C dg2 ht (by split <;> first | decide | (split <;> decide)) (by split <;> first | decide | (split <;> decide)) (fun q => kt ?_) (fun q => kf ?_) h H locs ls a b c d
    · split at q <;> first | omega | (split at q <;> omega)
    · split at q <;> first | omega | (split at q <;> omega))
theorem y_ifb_eq (C : Cx Ω κ own cc) {b : Bool} {off : Int} {tgt : Nat} (dg : decode cc pc = .ok (.ifCond .eq off, 3)) (ht : (pc : Int) + off = (tgt : Int))
    (kt : b = false → Y Ω κ Φ hR cs sl tgt L st) (kf : b = true → Y Ω κ Φ hR cs sl (pc + 3) L st) : Y Ω κ Φ hR cs sl pc L (.int (iv (bz b)) :: st) :=
  y_if_eq C dg ht (by have := bz_01 b; omega) (by have := bz_01 b; omega) (fun q => kt (bz_t.mp q)) (fun q => kf (by cases b <;> first | rfl | exact absurd rfl q))
theorem y_ifb_ne (C : Cx Ω κ own cc) {b : Bool} {off : Int} {tgt : Nat} (dg : decode cc pc = .ok (.ifCond .ne off, 3)) (ht : (pc : Int) + off = (tgt : Int))
    (kt : b = true → Y Ω κ Φ hR cs sl tgt L st) (kf : b = false → Y Ω κ Φ hR cs sl (pc + 3) L st) : Y Ω κ Φ hR cs sl pc L (.int (iv (bz b)) :: st) :=
  y_if_ne C dg ht (by have := bz_01 b; omega) (by have := bz_01 b; omega) (fun q => kt (by cases b <;> first | rfl | exact absurd rfl q)) (fun q => kf (bz_t.mp q))
end YROWS
end
section
/-! ROWS THAT READ AND WRITE THE HEAP -/
def CLs (q : vw_C) : Prop := (∀ w ∈ u_ws q.1 q.2.1 q.2.2, w ∈ AW) ∧ (∃ ty0 : Nat → FieldType, ∀ k, k < q.2.2 → parseFieldDescriptor (q.2.1 k).2.2.1 = some (ty0 k)) ∧ (∀ a, a < q.2.2 → ∀ b, b < q.2.2 → a ≠ b → (q.2.1 a).2.1 ≠ (q.2.1 b).2.1)
/-- a field by its place in the pool: read; written -/
def FG (own : String) (idx ci k : Nat) : Prop := ∃ (q : vw_C) (ref : String), vwCl[ci]? = some q ∧ k < q.2.2 ∧ CLs q ∧ Cond.fieldLink own idx ref (q.2.1 k).2.1 (q.2.1 k).2.2.1 ∈ AW ∧ ((q.2.1 k).1 = ref ∨ Cond.sameField ref (q.2.1 k).1 (q.2.1 k).2.1 (q.2.1 k).2.2.1 ∈ AW)
def FP (own : String) (idx ci k : Nat) (ty : FieldType) : Prop := ∃ (q : vw_C) (ref : String), vwCl[ci]? = some q ∧ k < q.2.2 ∧ CLs q ∧ Cond.fieldLink own idx ref (q.2.1 k).2.1 (q.2.1 k).2.2.1 ∈ AW ∧ ((q.2.1 k).1 = ref ∨ Cond.sameField ref (q.2.1 k).1 (q.2.1 k).2.1 (q.2.1 k).2.2.1 ∈ AW) ∧ (q.2.1 k).2.2.2 = false ∧ parseFieldDescriptor (q.2.1 k).2.2.1 = some ty
def FF (own : String) (idx ci k : Nat) (ty : FieldType) : Prop := ∃ (q : vw_C) (ref : String), vwCl[ci]? = some q ∧ k < q.2.2 ∧ CLs q ∧ Cond.fieldLink own idx ref (q.2.1 k).2.1 (q.2.1 k).2.2.1 ∈ AW ∧ (q.2.1 k).1 = ref ∧ (q.2.1 k).2.2.2 = true ∧ (q.2.1 k).1 = own ∧ parseFieldDescriptor (q.2.1 k).2.2.1 = some ty
/-- a class by its place in the pool: made -/
def FN (own : String) (idx ci N : Nat) (fs : List Value) : Prop := ∃ (q : vw_C) (ty : Nat → FieldType), vwCl[ci]? = some q ∧ q.2.2 = N ∧ CLs q ∧ (∀ k, k < q.2.2 → parseFieldDescriptor (q.2.1 k).2.2.1 = some (ty k)) ∧ Cond.classLink own idx q.1 ∈ AW ∧ Cond.instantiable q.1 q.2.2 ∈ AW ∧ Cond.initialized q.1 ∈ AW ∧ (∀ j, j < q.2.2 → defaultValue (ty j) = vp_V fs j)
section YHEAP
variable {Ω : OmT} {κ : KxT} {Φ Φ' : AH → Prop} {hR : AH} {cs sl pc : Nat} {L L' : List (Nat × Value)} {st : List Value} {own : String} {cc : ByteArray} {idx ci k a : Nat} {v : Value} {ty : FieldType}
theorem fg_same {s : State} {args : Array Value} {ref o n d : String} (hts : ∀ w ∈ AW, w.before args s = true) (h : o = ref ∨ Cond.sameField ref o n d ∈ AW) : ∀ x, s.fieldFound? o n d = some x → s.fieldFound? ref n d = some x := by
  intro x hx
  rcases h with rfl | h
  · exact hx
  · exact u_same (hts _ h) x hx
theorem y_get (C : Cx Ω κ own cc) (fg : FG own idx ci k) (dg : decode cc pc = .ok (.getfield idx, 3)) (hΦ : ∀ h, Φ h → ∃ fs, h a = some (.inr (ci, fs)) ∧ fs[k]? = some v) (kk : Y Ω κ Φ hR cs sl (pc + 3) L (v :: st)) : Y Ω κ Φ hR cs sl pc L (.ref a :: st) := by
  intro h H locs ls a1 b1 c1 d1
  obtain ⟨fs, e1, e2⟩ := hΦ h a1
  obtain ⟨⟨Cn, T, N⟩, ref, g1, g2, g3, g4, g5⟩ := fg
  exact va_get (D := OmD Ω) C.1 C.2.1 C.2.2.2.2.1 g3.1 C.2.2.2.1 C.2.2.2.2.2.1.1 (b1.1.P e1) 0 rfl g1 k g2 (C.2.2.2.2.1 _ g4) (fg_same C.2.2.2.2.1 g5) e2 dg (kk h H locs ls a1 b1 c1 d1)
theorem y_put (C : Cx Ω κ own cc) (fp : FP own idx ci k ty) (dg : decode cc pc = .ok (.putfield idx, 3)) (hn : narrow ty v = v) (hf : fits ty v = true) (hΦ : ∀ h, Φ h → ∃ fs, h a = some (.inr (ci, fs)) ∧ k < fs.length ∧ Φ' (hset h a (.inr (ci, fs.set k v)))) (kk : Y Ω κ Φ' hR cs sl (pc + 3) L st) : Y Ω κ Φ hR cs sl pc L (v :: .ref a :: st) := by
  intro h H locs ls a1 b1 c1 d1
  obtain ⟨fs, e1, e2, e3⟩ := hΦ h a1
  obtain ⟨⟨Cn, T, N⟩, ref, g1, g2, ⟨g3, ⟨ty0, g6⟩, g7⟩, g4, g5, g8, g9⟩ := fp
  have hts := C.2.2.2.2.1
  have hK := C.2.2.2.2.2.1.1
  have hap := va_apart (own := own) hts g3 ty0 g6 g7 hK g1
  obtain ⟨r, h1, cell, q1, q2, q3, q4⟩ := (b1.1 a _ e1).2
  have hr : r = (Cn, T, N) := Option.some.inj (h1.symm.trans g1)
  subst hr
  obtain ⟨hS, hfc, kC, hkC, hkind⟩ := hK.1 ci _ g1
  obtain ⟨cf, kf, fi, f, hi, hsl⟩ := hS k g2
  have hlay := hts _ (g3 _ (u_in_lay g2))
  unfold u_lay at hlay
  rw [if_neg (by rw [g8]; decide)] at hlay
  have hst := (u_facts hfc hkC (u_lays hts g3 g2) hi).1
  have h6 := u_store hfc hkC hkind hlay hi g9 hn hf
  refine W.putK C.1 C.2.1 (f := f) ⟨C.2.2.2.1, hts _ g4, ⟨_, _, _, fg_same hts g5 _ hi⟩, hst⟩ (by rw [q2]; exact h6) q1 q3 (by rw [hsl]; exact k2_hasslot (q4 k g2)) rfl rfl dg fun H' f1 f2 f3 => ?_
  rw [hsl] at f1 ⊢
  exact kk _ H' _ _ e3 (b1.set e1 ⟨_, g1, t_OB.to (V := updV (vp_V fs) k v) ⟨_, f1, q2, q3, t_set q4 hap g2 v⟩ (fun j _ => vp_updV_set e2 v j)⟩ f3) (c1.put f2 f3 (b1.1 a _ e1).1) d1
theorem y_putF (C : Cx Ω κ own cc) (hi0 : (kt κ).name = "<init>") (ff : FF own idx ci k ty) (dg : decode cc pc = .ok (.putfield idx, 3)) (hn : narrow ty v = v) (hf : fits ty v = true) (hΦ : ∀ h, Φ h → ∃ fs, h a = some (.inr (ci, fs)) ∧ k < fs.length ∧ Φ' (hset h a (.inr (ci, fs.set k v)))) (kk : Y Ω κ Φ' hR cs sl (pc + 3) L st) : Y Ω κ Φ hR cs sl pc L (v :: .ref a :: st) := by
  intro h H locs ls a1 b1 c1 d1
  obtain ⟨fs, e1, e2, e3⟩ := hΦ h a1
  obtain ⟨⟨Cn, T, N⟩, ref, g1, g2, ⟨g3, ⟨ty0, g6⟩, g7⟩, g4, g5, g8, g10, g9⟩ := ff
  have hts := C.2.2.2.2.1
  have hK := C.2.2.2.2.2.1.1
  have hap := va_apart (own := own) hts g3 ty0 g6 g7 hK g1
  obtain ⟨r, h1, cell, q1, q2, q3, q4⟩ := (b1.1 a _ e1).2
  have hr : r = (Cn, T, N) := Option.some.inj (h1.symm.trans g1)
  subst hr
  obtain ⟨hS, hfc, kC, hkC, hkind⟩ := hK.1 ci _ g1
  obtain ⟨cf, kf, fi, f, hi, hsl⟩ := hS k g2
  have hlay := hts _ (g3 _ (u_in_lay g2))
  unfold u_lay at hlay
  rw [if_pos g8] at hlay
  have hst := (u_facts hfc hkC (u_lays hts g3 g2) hi).1
  have hcf : (km κ).cls = cf := by
    obtain ⟨_, _, c', _, _, _, -, -, hf', -, -, -, hown2, -⟩ := Cond.laysFinal_spec hlay
    have f1 : c' = cf := by have := hi.symm.trans hf'; simp at this; exact this.1.symm
    rw [g10] at hown2
    rw [← f1]; exact Option.some.inj (C.2.2.2.1.symm.trans hown2)
  have h6 := u_fits hfc hkC hkind (Or.inr hlay) hi g9 hn hf
  refine W.putFinK C.1 C.2.1 C.2.2.2.1 (hts _ g4) (fg_same hts (Or.inl g5) _ hi) hst hcf hi0 (by rw [q2]; exact h6) q1 q3 (by rw [hsl]; exact k2_hasslot (q4 k g2)) rfl rfl dg fun H' f1 f2 f3 => ?_
  rw [hsl] at f1 ⊢
  exact kk _ H' _ _ e3 (b1.set e1 ⟨_, g1, t_OB.to (V := updV (vp_V fs) k v) ⟨_, f1, q2, q3, t_set q4 hap g2 v⟩ (fun j _ => vp_updV_set e2 v j)⟩ f3) (c1.put f2 f3 (b1.1 a _ e1).1) d1
theorem y_iald (C : Cx Ω κ own cc) {z : Int} {x : Int32} (dg : decode cc pc = .ok (.iaload, 1)) (h0 : 0 ≤ z) (h1 : z < 2147483648) (hΦ : ∀ h, Φ h → ∃ (n : Nat) (f : Nat → Int32), h a = some (.inl (OmI Ω, n, .inl f)) ∧ z.toNat < n ∧ f z.toNat = x) (kk : Y Ω κ Φ hR cs sl (pc + 1) L (.int x :: st)) : Y Ω κ Φ hR cs sl pc L (.int (iv z) :: .ref a :: st) := by
  intro h H locs ls a1 b1 c1 d1
  obtain ⟨n, f, e1, e2, e3⟩ := hΦ h a1
  refine va_iald (D := OmD Ω) C.1 C.2.1 C.2.2.2.2.2.1.1 (b1.1.P e1) 0 0 rfl rfl (iv_in h0 e2 h1) dg ?_
  rw [iv_cl h0 h1, e3]
  exact kk h H locs ls a1 b1 c1 d1
theorem y_lald (C : Cx Ω κ own cc) {z : Int} {x : Int64} (dg : decode cc pc = .ok (.laload, 1)) (h0 : 0 ≤ z) (h1 : z < 2147483648) (hΦ : ∀ h, Φ h → ∃ (n : Nat) (f : Nat → Int64), h a = some (.inl (OmJ Ω, n, .inr (.inl f))) ∧ z.toNat < n ∧ f z.toNat = x) (kk : Y Ω κ Φ hR cs sl (pc + 1) L (.long x :: st)) : Y Ω κ Φ hR cs sl pc L (.int (iv z) :: .ref a :: st) := by
  intro h H locs ls a1 b1 c1 d1
  obtain ⟨n, f, e1, e2, e3⟩ := hΦ h a1
  refine va_lald (D := OmD Ω) C.1 C.2.1 C.2.2.2.2.2.1.1 (b1.1.P e1) 0 1 rfl rfl (iv_in h0 e2 h1) dg ?_
  rw [iv_cl h0 h1, e3]
  exact kk h H locs ls a1 b1 c1 d1
theorem y_aald (C : Cx Ω κ own cc) {z : Int} {x : Value} (dg : decode cc pc = .ok (.aaload, 1)) (h0 : 0 ≤ z) (h1 : z < 2147483648) (hΦ : ∀ h, Φ h → ∃ (n : Nat) (f : Nat → Option Nat), h a = some (.inl (OmO Ω, n, .inr (.inr (.inr (.inr f))))) ∧ z.toNat < n ∧ va_rf (f z.toNat) = x) (kk : Y Ω κ Φ hR cs sl (pc + 1) L (x :: st)) : Y Ω κ Φ hR cs sl pc L (.int (iv z) :: .ref a :: st) := by
  intro h H locs ls a1 b1 c1 d1
  obtain ⟨n, f, e1, e2, e3⟩ := hΦ h a1
  refine va_aldq (D := OmD Ω) C.1 C.2.1 C.2.2.2.2.2.1.1 (b1.1.P e1) 0 2 rfl rfl (iv_in h0 e2 h1) dg ?_
  rw [iv_cl h0 h1, e3]
  exact kk h H locs ls a1 b1 c1 d1
theorem y_ialen (C : Cx Ω κ own cc) {z : Int} (dg : decode cc pc = .ok (.arraylength, 1)) (hΦ : ∀ h, Φ h → ∃ (n : Nat) (f : Nat → Int32), h a = some (.inl (OmI Ω, n, .inl f)) ∧ (n : Int) = z) (kk : Y Ω κ Φ hR cs sl (pc + 1) L (.int (iv z) :: st)) : Y Ω κ Φ hR cs sl pc L (.ref a :: st) := by
  intro h H locs ls a1 b1 c1 d1
  obtain ⟨n, f, e1, e3⟩ := hΦ h a1
  exact va_alen (D := OmD Ω) C.1 C.2.1 C.2.2.2.2.2.1.1 (b1.1.P e1) 0 0 rfl rfl (v := iv z) (by rw [← e3]; exact (iv_nI n).symm) dg (kk h H locs ls a1 b1 c1 d1)
theorem y_aalen (C : Cx Ω κ own cc) {z : Int} (dg : decode cc pc = .ok (.arraylength, 1)) (hΦ : ∀ h, Φ h → ∃ (n : Nat) (f : Nat → Option Nat), h a = some (.inl (OmO Ω, n, .inr (.inr (.inr (.inr f))))) ∧ (n : Int) = z) (kk : Y Ω κ Φ hR cs sl (pc + 1) L (.int (iv z) :: st)) : Y Ω κ Φ hR cs sl pc L (.ref a :: st) := by
  intro h H locs ls a1 b1 c1 d1
  obtain ⟨n, f, e1, e3⟩ := hΦ h a1
  exact va_alen (D := OmD Ω) C.1 C.2.1 C.2.2.2.2.2.1.1 (b1.1.P e1) 0 2 rfl rfl (v := iv z) (by rw [← e3]; exact (iv_nI n).symm) dg (kk h H locs ls a1 b1 c1 d1)
/-- the length of the empty row that new lists share -/
theorem y_elen (C : Cx Ω κ own cc) (dg : decode cc pc = .ok (.arraylength, 1)) (kk : Y Ω κ Φ hR cs sl (pc + 1) L (.int (iv 0) :: st)) : Y Ω κ Φ hR cs sl pc L (.ref (OmE Ω) :: st) := by
  intro h H locs ls a1 b1 c1 d1
  obtain ⟨-, -, -, -, -, -, -, -, -, -, h11, -⟩ := C.2.2.2.2.2.1
  exact va_tlen C.1 C.2.1 h11 c1 (v := iv 0) (by decide) dg (kk h H locs ls a1 b1 c1 d1)
theorem y_iast (C : Cx Ω κ own cc) {z : Int} {x : Int32} (dg : decode cc pc = .ok (.iastore, 1)) (h0 : 0 ≤ z) (h1 : z < 2147483648) (hΦ : ∀ h, Φ h → ∃ (n : Nat) (f : Nat → Int32), h a = some (.inl (OmI Ω, n, .inl f)) ∧ z.toNat < n ∧ Φ' (hset h a (.inl (OmI Ω, n, .inl (upd f z.toNat x))))) (kk : Y Ω κ Φ' hR cs sl (pc + 1) L st) : Y Ω κ Φ hR cs sl pc L (.int x :: .int (iv z) :: .ref a :: st) := by
  intro h H locs ls a1 b1 c1 d1
  obtain ⟨n, f, e1, e2, e3⟩ := hΦ h a1
  have hin := iv_in h0 e2 h1
  refine W.iast C.1 C.2.1 (b1.1 a _ e1).2 ((C.2.2.2.2.2.1.1.2 0 _ rfl).1 n (fun j => .int (f j))) (fun q => by cases q) (by show ¬ (iv z < 0 ∨ (arrV _ _ _).slots.size ≤ _); rw [arrV_size]; exact hin) rfl rfl dg fun H1 f1 f2 f3 => ?_
  refine kk _ H1 _ _ e3 (b1.set e1 ?_ f3) (c1.put f2 f3 (b1.1 a _ e1).1) d1
  show H1[a]? = some (vp_cell _ _)
  rw [f1, vp_cell_i, vp_cell_i, arrV_store, iv_cl h0 h1]
  congr 2
  funext q
  by_cases hq : q = z.toNat
  · subst hq; simp [updV, upd]
  · simp [updV, upd, hq]
theorem y_last (C : Cx Ω κ own cc) {z : Int} {x : Int64} (dg : decode cc pc = .ok (.lastore, 1)) (h0 : 0 ≤ z) (h1 : z < 2147483648) (hΦ : ∀ h, Φ h → ∃ (n : Nat) (f : Nat → Int64), h a = some (.inl (OmJ Ω, n, .inr (.inl f))) ∧ z.toNat < n ∧ Φ' (hset h a (.inl (OmJ Ω, n, .inr (.inl (vp_updL f z.toNat x)))))) (kk : Y Ω κ Φ' hR cs sl (pc + 1) L st) : Y Ω κ Φ hR cs sl pc L (.long x :: .int (iv z) :: .ref a :: st) := by
  intro h H locs ls a1 b1 c1 d1
  obtain ⟨n, f, e1, e2, e3⟩ := hΦ h a1
  have hin := iv_in h0 e2 h1
  refine W.last C.1 C.2.1 (b1.1 a _ e1).2 ((C.2.2.2.2.2.1.1.2 1 _ rfl).1 n (fun j => .long (f j))) (fun q => by cases q) (by show ¬ (iv z < 0 ∨ (arrV _ _ _).slots.size ≤ _); rw [arrV_size]; exact hin) rfl rfl dg fun H1 f1 f2 f3 => ?_
  refine kk _ H1 _ _ e3 (b1.set e1 ?_ f3) (c1.put f2 f3 (b1.1 a _ e1).1) d1
  show H1[a]? = some (vp_cell _ _)
  rw [f1, vp_cell_l, vp_cell_l, arrV_store, iv_cl h0 h1]
  congr 2
  funext q
  by_cases hq : q = z.toNat
  · subst hq; simp [updV, vp_updL]
  · simp [updV, vp_updL, hq]
/-- an object of a class into a row of Objects -/
theorem y_aast (C : Cx Ω κ own cc) {z : Int} {o co : Nat} {qc : vw_C} (hco : vwCl[co]? = some qc) (hcast : Cond.castable qc.1 "java/lang/Object" ∈ NW) (dg : decode cc pc = .ok (.aastore, 1)) (h0 : 0 ≤ z) (h1 : z < 2147483648) (hΦ : ∀ h, Φ h → (∃ vs, h o = some (.inr (co, vs))) ∧ ∃ (n : Nat) (f : Nat → Option Nat), h a = some (.inl (OmO Ω, n, .inr (.inr (.inr (.inr f))))) ∧ z.toNat < n ∧ Φ' (hset h a (.inl (OmO Ω, n, .inr (.inr (.inr (.inr (va_up f z.toNat (some o))))))))) (kk : Y Ω κ Φ' hR cs sl (pc + 1) L st) : Y Ω κ Φ hR cs sl pc L (.ref o :: .int (iv z) :: .ref a :: st) := by
  intro h H locs ls a1 b1 c1 d1
  obtain ⟨⟨vs, e0⟩, n, f, e1, e2, e3⟩ := hΦ h a1
  have hin := iv_in h0 e2 h1
  have hK := C.2.2.2.2.2.1.1
  obtain ⟨r', hr', cellV, g1, g2, g3, -⟩ := (b1.1 o _ e0).2
  have hcls := (hK.1 co qc hco).2
  obtain ⟨kA, comp, k1, k2, k3, -⟩ := (hK.2 2 _ rfl).2
  obtain ⟨kE, hkE, -⟩ := Vm.findClass_spec k3
  obtain ⟨c0, t1, f1, f2, f3⟩ := Cond.castable_spec (va_Nw.use (A := ka κ) rfl (C.2.2.2.2.2.1.2.2.2.1 _ hcast))
  cases hcls.1.symm.trans f1
  cases k3.symm.trans f2
  obtain ⟨kC, hkC, -⟩ := hcls.2
  have g2' : cellV.cls = (OmD Ω).1 co := g2
  refine W.aast C.1 C.2.1 (b1.1 a _ e1).2 (fun q h => by cases h) (fun h => by cases h) k1 k2 rfl hkE ⟨fun q => hin (Or.inl q), by show _ < (arrV _ _ _).slots.size; rw [arrV_size]; exact Nat.not_le.mp fun q => hin (Or.inr q)⟩ g1 (fun q h => by rw [g3] at h; cases h) (by rw [g2']; exact hkC) (by rw [g2']; exact f3) rfl rfl dg fun H1 x1 x2 x3 => ?_
  refine kk _ H1 _ _ e3 (b1.set e1 ?_ x3) (c1.put x2 x3 (b1.1 a _ e1).1) d1
  show H1[a]? = some (vp_cell _ _)
  rw [x1, vp_cell_q, vp_cell_q, arrV_store, iv_cl h0 h1]
  congr 2
  funext q
  by_cases hq : q = z.toNat
  · subst hq; simp [updV, va_up, va_rf]
  · simp [updV, va_up, hq]
/-- a new object; its fields have their defaults -/
theorem y_new (C : Cx Ω κ own cc) {N : Nat} {fs : List Value} (fn : FN own idx ci N fs) (dg : decode cc pc = .ok (.new idx, 3)) (hc : cs + 1 ≤ (kR κ).cells) (hs : sl + N ≤ (kR κ).slots)
    (kk : ∀ a : Nat, Y Ω κ (fun h => ∃ h0, Φ h0 ∧ h0 a = none ∧ hR a = none ∧ h = hset h0 a (.inr (ci, fs))) hR (cs + 1) (sl + N) (pc + 3) L (.ref a :: st)) : Y Ω κ Φ hR cs sl pc L st := by
  intro h H locs ls a1 b1 c1 d1
  obtain ⟨⟨Cn, T, N'⟩, ty, g1, g2, ⟨g3, -⟩, g4, g5, g6, g7, g8⟩ := fn
  have hts := C.2.2.2.2.1
  have hKn := C.2.2.2.2.2.1.1.1 ci _ g1
  have hsz : OmB Ω ≤ H.size := Nat.le_trans C.2.2.2.2.2.1.2.1 c1.1
  subst g2
  refine W.newcK C.1 C.2.1 C.2.2.2.1 (hts _ g5) (hts _ g6) (hts _ g7) rfl dg hc hs hKn.2.1 rfl fun H1 kC hkC e1 z1 o1 => ?_
  refine kk H.size _ H1 _ _ ⟨h, a1, b1.1.new, b1.2.1.new, rfl⟩ (b1.push hsz ⟨_, g1, (u_born ty hts g3 hKn hkC e1 g4).to g8⟩ o1) ⟨Nat.le_trans c1.1 (by omega), fun x h1 h2 => (o1 x (Nat.lt_of_lt_of_le h1 c1.1)).trans (c1.2.1 x h1 h2), c1.2.2⟩ d1
theorem y_newI (C : Cx Ω κ own cc) {z : Int} {n : Nat} (w : Cond.arrayClass .int ∈ AW) (dg : decode cc pc = .ok (.newarray .int, 2)) (hz : z = n) (hb : n ≤ 100000) (hc : cs + 1 ≤ (kR κ).cells) (hs : sl + n ≤ (kR κ).slots)
    (kk : ∀ a : Nat, Y Ω κ (fun h => ∃ h0, Φ h0 ∧ h0 a = none ∧ hR a = none ∧ h = hset h0 a (.inl (OmI Ω, n, .inl (fun _ => 0)))) hR (cs + 1) (sl + n) (pc + 2) L (.ref a :: st)) : Y Ω κ Φ hR cs sl pc L (.int (iv z) :: st) := by
  intro h H locs ls a1 b1 c1 d1
  subst hz
  have hsz : OmB Ω ≤ H.size := Nat.le_trans C.2.2.2.2.2.1.2.1 c1.1
  refine va_newaK (atype := .int) C.1 C.2.1 (C.2.2.2.2.1 _ w) rfl dg rfl (by rw [iv_nI]; exact nI_pos (by omega)) (N := n) (by rw [iv_nI]; exact nI_clamp (by omega)) (by show n * 4 ≤ _; omega) hc hs rfl fun H1 cA e1 z1 o1 hAr hNm => ?_
  have hA : cA = OmI Ω := Option.some.inj (hNm.symm.trans (C.2.2.2.2.2.1.1.2 0 _ rfl).2)
  subst hA
  exact kk H.size _ H1 _ _ ⟨h, a1, b1.1.new, b1.2.1.new, rfl⟩ (b1.push hsz (e := .inl (OmI Ω, n, .inl (fun _ => 0))) e1 o1) ⟨Nat.le_trans c1.1 (by omega), fun x h1 h2 => (o1 x (Nat.lt_of_lt_of_le h1 c1.1)).trans (c1.2.1 x h1 h2), c1.2.2⟩ d1
theorem y_newJ (C : Cx Ω κ own cc) {z : Int} {n : Nat} (w : Cond.arrayClass .long ∈ AW) (dg : decode cc pc = .ok (.newarray .long, 2)) (hz : z = n) (hb : n ≤ 50000) (hc : cs + 1 ≤ (kR κ).cells) (hs : sl + n ≤ (kR κ).slots)
    (kk : ∀ a : Nat, Y Ω κ (fun h => ∃ h0, Φ h0 ∧ h0 a = none ∧ hR a = none ∧ h = hset h0 a (.inl (OmJ Ω, n, .inr (.inl (fun _ => 0))))) hR (cs + 1) (sl + n) (pc + 2) L (.ref a :: st)) : Y Ω κ Φ hR cs sl pc L (.int (iv z) :: st) := by
  intro h H locs ls a1 b1 c1 d1
  subst hz
  have hsz : OmB Ω ≤ H.size := Nat.le_trans C.2.2.2.2.2.1.2.1 c1.1
  refine va_newaK (atype := .long) C.1 C.2.1 (C.2.2.2.2.1 _ w) rfl dg rfl (by rw [iv_nI]; exact nI_pos (by omega)) (N := n) (by rw [iv_nI]; exact nI_clamp (by omega)) (by show n * 8 ≤ _; omega) hc hs rfl fun H1 cA e1 z1 o1 hAr hNm => ?_
  have hA : cA = OmJ Ω := Option.some.inj (hNm.symm.trans (C.2.2.2.2.2.1.1.2 1 _ rfl).2)
  subst hA
  exact kk H.size _ H1 _ _ ⟨h, a1, b1.1.new, b1.2.1.new, rfl⟩ (b1.push hsz (e := .inl (OmJ Ω, n, .inr (.inl (fun _ => 0)))) e1 o1) ⟨Nat.le_trans c1.1 (by omega), fun x h1 h2 => (o1 x (Nat.lt_of_lt_of_le h1 c1.1)).trans (c1.2.1 x h1 h2), c1.2.2⟩ d1
theorem y_newO (C : Cx Ω κ own cc) {z : Int} {n : Nat} (w : Cond.classLink own idx "java/lang/Object" ∈ AW) (dg : decode cc pc = .ok (.anewarray idx, 3)) (hz : z = n) (hb : n ≤ 100000) (hc : cs + 1 ≤ (kR κ).cells) (hs : sl + n ≤ (kR κ).slots)
    (kk : ∀ a : Nat, Y Ω κ (fun h => ∃ h0, Φ h0 ∧ h0 a = none ∧ hR a = none ∧ h = hset h0 a (.inl (OmO Ω, n, .inr (.inr (.inr (.inr (fun _ => none))))))) hR (cs + 1) (sl + n) (pc + 3) L (.ref a :: st)) : Y Ω κ Φ hR cs sl pc L (.int (iv z) :: st) := by
  intro h H locs ls a1 b1 c1 d1
  subst hz
  have hsz : OmB Ω ≤ H.size := Nat.le_trans C.2.2.2.2.2.1.2.1 c1.1
  have hcl : (nI n).toNatClampNeg = n := nI_clamp (by omega)
  rw [iv_nI]
  refine W.anew C.1 C.2.1 C.2.2.2.1 (C.2.2.2.2.1 _ w) (va_AO.use C.2.2.2.2.2.1.2.2.2.2.2.1) rfl dg rfl (nI_pos (by omega)) (by rw [hcl]; omega) hc (by rw [hcl]; exact hs) fun cA kA comp f1 f2 f3 f4 => ?_
  rw [hcl]
  obtain ⟨kB, cB, g1, g2, g3, g4⟩ := (C.2.2.2.2.2.1.1.2 2 _ rfl).2
  have hA : cA = OmO Ω := Option.some.inj (f1.symm.trans g4)
  subst hA
  generalize hH1 : H.push ({ cls := OmO Ω, slots := Array.replicate n .null, vm := .none } : Cell) = H1
  have z1 : H1.size = H.size + 1 := by rw [← hH1, Array.size_push]
  have e1 : H1[H.size]? = some (arrV (OmO Ω) n (fun _ => .null)) := by rw [← hH1, Array.getElem?_push_size, ← arrV_new]
  have o1 : ∀ q : Nat, q < H.size → H1[q]? = H[q]? := fun q hq => by rw [← hH1, Array.getElem?_push, if_neg (Nat.ne_of_lt hq)]
  exact kk H.size _ H1 _ _ ⟨h, a1, b1.1.new, b1.2.1.new, rfl⟩ (b1.push hsz (e := .inl (OmO Ω, n, .inr (.inr (.inr (.inr (fun _ => none)))))) e1 o1) ⟨Nat.le_trans c1.1 (by omega), fun x h1 h2 => (o1 x (Nat.lt_of_lt_of_le h1 c1.1)).trans (c1.2.1 x h1 h2), c1.2.2⟩ d1
/-- a cast to the object's own class -/
theorem y_cast (C : Cx Ω κ own cc) {qc : vw_C} (hci : vwCl[ci]? = some qc) (w : Cond.classLink own idx qc.1 ∈ AW) (dg : decode cc pc = .ok (.checkcast idx, 3)) (hΦ : ∀ h, Φ h → ∃ fs, h a = some (.inr (ci, fs))) (kk : Y Ω κ Φ hR cs sl (pc + 3) L (.ref a :: st)) : Y Ω κ Φ hR cs sl pc L (.ref a :: st) := by
  intro h H locs ls a1 b1 c1 d1
  obtain ⟨fs, e1⟩ := hΦ h a1
  have hK := C.2.2.2.2.2.1.1
  exact va_castS C.1 C.2.1 C.2.2.2.1 (C.2.2.2.2.1 _ w) (hK.1 ci qc hci).2 (va_recv hK (b1.1.P e1) (q0 := 0) hci rfl) dg (kk h H locs ls a1 b1 c1 d1)
end YHEAP
end
section
/-! CALLS, ENDS, EXCEPTIONS -/
def CV (own : String) (idx : Nat) (Cn : String) (y : MethodName) (c2 : ByteArray) (mL : Nat) (ret : Option FieldType) (n : Nat) : Prop :=
  Cond.methodLink own idx y ∈ AW ∧ Cond.instanceMethod y ∈ AW ∧ Cond.selects Cn y y ∈ AW ∧ Cond.initialized Cn ∈ AW ∧ Cond.code y c2 mL ret ∈ AW ∧ y.cls = Cn ∧ y.cls ≠ "java/lang/invoke/MethodHandle" ∧ y.cls ≠ "java/lang/invoke/VarHandle" ∧ (parseMethodDescriptor y.desc).map (fun d => d.parameters.length) = some n
def CS (own : String) (idx : Nat) (y : MethodName) (c2 : ByteArray) (mL : Nat) (ret : Option FieldType) (n : Nat) : Prop :=
  Cond.methodLink own idx y ∈ AW ∧ Cond.static y ∈ AW ∧ Cond.initialized y.cls ∈ AW ∧ Cond.code y c2 mL ret ∈ AW ∧ y.cls ≠ "java/lang/invoke/MethodHandle" ∧ y.cls ≠ "java/lang/invoke/VarHandle" ∧ (parseMethodDescriptor y.desc).map (fun d => d.parameters.length) = some n
def CI (own : String) (idx : Nat) (y : MethodName) (c2 : ByteArray) (mL : Nat) (n : Nat) : Prop :=
  Cond.methodLink own idx y ∈ AW ∧ Cond.instanceMethod y ∈ AW ∧ Cond.initialized y.cls ∈ AW ∧ Cond.code y c2 mL none ∈ AW ∧ y.name = "<init>" ∧ y.cls ≠ "java/lang/invoke/MethodHandle" ∧ y.cls ≠ "java/lang/invoke/VarHandle" ∧ (parseMethodDescriptor y.desc).map (fun d => d.parameters.length) = some n
def CN (own : String) (idx : Nat) (y : MethodName) (host : String) (c2 : ByteArray) (mL : Nat) (n : Nat) : Prop :=
  Cond.methodLinkNest own idx y host ∈ NW ∧ Cond.instanceMethod y ∈ AW ∧ Cond.initialized y.cls ∈ AW ∧ Cond.code y c2 mL none ∈ AW ∧ y.name = "<init>" ∧ y.cls ≠ "java/lang/invoke/MethodHandle" ∧ y.cls ≠ "java/lang/invoke/VarHandle" ∧ (parseMethodDescriptor y.desc).map (fun d => d.parameters.length) = some n
/-- a callee's room within a caller's -/
def RmIn (rm2 : Room) (mL : Nat) (rm : Room) (cs sl : Nat) : Prop := rm2.frames + 1 ≤ rm.frames ∧ 8 + (mL + 11) + rm2.locals ≤ rm.locals ∧ cs + rm2.cells ≤ rm.cells ∧ sl + rm2.slots ≤ rm.slots
/-- rooms: k levels; with cells and slots -/
abbrev rk (k : Nat) : Room := { frames := k, cells := 0, slots := 0, locals := 40 * k }
abbrev rkc (k c s : Nat) : Room := { frames := k, cells := c, slots := s, locals := 40 * k }
theorem aw_g : GoodIn AW AW := fun w h => ⟨h, good_of_word (aw_ok w h)⟩
theorem aw_gc {w : Cond} (h : w ∈ AW) : GoodIn AW (w :: AW) := fun x hx => (List.mem_cons.mp hx).elim (fun e => by subst e; exact aw_g _ h) (fun k => aw_g _ k)
theorem aw_ga {l1 l2 : List Cond} (h1 : ∀ w ∈ l1, w ∈ AW) (h2 : GoodIn AW l2) : GoodIn AW (l1 ++ l2) := fun x hx => (List.mem_append.mp hx).elim (fun k => aw_g _ (h1 x k)) (fun k => h2 x k)
theorem Ct.met {Ω : OmT} {y : MethodName} {cc : ByteArray} {maxL : Nat} {ret : Option FieldType} {rm : Room} {av : List Value} {Φ : AH → Prop} {hR : AH} {Ψ : Option Value → AH → Prop} (c : Ct Ω y cc maxL ret rm av Φ hR Ψ NX) :
    Met (OmL Ω) y (ws_ y cc maxL ret) rm (va_Pc av (fun U => WK Ω U ∧ ∃ h, Φ h ∧ Rel Ω h hR U.heap)) (QC Ω hR Ψ) rm.cells rm.slots (OmA Ω) := by
  intro p e ha hc hk s m args below hf happ hP ht
  obtain ⟨k, o, h1, h2, h3, hQ⟩ := c p e ha hc hk s m args below hf happ hP ht
  refine ⟨k, o, h1, h2, h3, ?_⟩
  rcases hQ with h | ⟨q, _, E, ce, L, ⟨⟨h', hf, _⟩, _⟩, _⟩
  · exact h
  · exact hf.elim
section YCALL
variable {Ω : OmT} {κ : KxT} {Φ Φ' : AH → Prop} {hR : AH} {cs sl pc : Nat} {L L' : List (Nat × Value)} {st stk As : List Value} {own : String} {cc c2 : ByteArray} {idx mL n b : Nat} {v : Value} {y : MethodName} {Cn host : String} {ret ret0 : Option FieldType} {rm rm2 : Room} {Ψ Ψ' : Option Value → AH → Prop} {Ξ Ξ' : String → AH → Prop}
abbrev RunX (Ω : OmT) (κ : KxT) (H : Heap) (locs : List Loc) (ls : Array Slot) (hR : AH) (cs sl mc ms pc : Nat) (stk st : List Value) (Ψ' : Option Value → AH → Prop) (Ξ' : String → AH → Prop) (av : List Value) : Prop :=
  vx_Run (kp κ) (OmL Ω) (ke κ) (kR κ) (ks κ) (km κ) (ka κ) (kb κ) (kt κ) (kc κ) H locs cs sl mc ms (F0 (km κ) pc ls stk) st (QC Ω hR Ψ' av.toArray) (XCx Ω hR Ξ') (OmA Ω)
theorem y_runX {mc ms : Nat} {av : List Value} (hr : ∀ h H locs ls, Φ h → Rel Ω h hR H → va_S (OmA Ω) (ks κ).heap H locs → lv_has ls (kn κ) L → RunX Ω κ H locs ls hR cs sl mc ms pc stk st Ψ' Ξ' av)
    (kk : ∀ rv, Y Ω κ (Ψ' rv) hR (cs + mc) (sl + ms) (pc + 3) L (rv.toList ++ st)) (kx : ∀ E, YX Ω κ E (Ξ' E) hR (cs + mc) (sl + ms) pc L st) : Y Ω κ Φ hR cs sl pc L stk := by
  intro h H locs ls a1 b1 c1 d1 T hT X
  rcases hr h H locs ls a1 b1 c1 d1 T hT X with ⟨rv, st₀, t, T', L9, h0, X', hL, e1, e2, ⟨⟨rv', h', hv, hp, hb⟩, hF⟩, sp⟩ | ⟨q, st₀, t, T', L9, E, ce, h0, X', hL, e1, e2, ⟨⟨h', hp, hb⟩, hF⟩, hce, hcv, hcl, sp⟩
  · cases hv
    obtain ⟨k1, k2, k3⟩ := vx_keep h0 e1 c1 (fun _ _ z => z) (fun _ z => z) hL hF
    obtain ⟨t2, a2, b2⟩ := kk rv h' T'.heap (locs ++ L9) ls hp (by rw [e1]; exact hb) k3 d1 T' rfl X'
    exact ⟨t2, sp t2 a2, b2⟩
  · obtain ⟨k1, k2, k3⟩ := vx_keep h0 e1 c1 (fun _ _ z => z) (fun _ z => z) hL hF
    obtain ⟨t2, a2, b2⟩ := kx E h' T'.heap (locs ++ L9) ls q ce hp (by rw [e1]; exact hb) k3 d1 (by rw [e1]; exact hce) hcv hcl T' rfl X'
    exact ⟨t2, sp.trans a2, b2⟩
theorem y_runM {mc ms : Nat} {av : List Value} (hr : ∀ h H locs ls, Φ h → Rel Ω h hR H → va_S (OmA Ω) (ks κ).heap H locs → lv_has ls (kn κ) L → va_Run (kp κ) (OmL Ω) (ke κ) (kR κ) (ks κ) (km κ) (ka κ) (kb κ) (kt κ) (kc κ) H locs cs sl mc ms (F0 (km κ) pc ls stk) st (QC Ω hR Ψ' av.toArray) (OmA Ω))
    (kk : ∀ rv, Y Ω κ (Ψ' rv) hR (cs + mc) (sl + ms) (pc + 3) L (rv.toList ++ st)) : Y Ω κ Φ hR cs sl pc L stk := by
  intro h H locs ls a1 b1 c1 d1 T hT X
  obtain ⟨rv, st₀, t, T', L9, h0, X', hL, e1, e2, ⟨⟨rv', h', hv, hp, hb⟩, hF⟩, sp⟩ := hr h H locs ls a1 b1 c1 d1 T hT X
  cases hv
  obtain ⟨k1, k2, k3⟩ := vx_keep h0 e1 c1 (fun _ _ z => z) (fun _ z => z) hL hF
  obtain ⟨t2, a2, b2⟩ := kk rv h' T'.heap (locs ++ L9) ls hp (by rw [e1]; exact hb) k3 d1 T' rfl X'
  exact ⟨t2, sp t2 a2, b2⟩
theorem y_pre (C : Cx Ω κ own cc) {h : AH} {H : Heap} {locs : List Loc} (a1 : Φ h) (b1 : Rel Ω h hR H) (c1 : va_S (OmA Ω) (ks κ).heap H locs) {av : List Value} : ∀ U : State, U.heap = H → (ks κ).WarmedH U.vm → va_Pc av (fun U => WK Ω U ∧ ∃ h, Φ h ∧ Rel Ω h hR U.heap) av.toArray U :=
  fun U hU hW => ⟨rfl, C.2.2.2.2.2.1.call c1 hU hW, h, a1, by rw [hU]; exact b1⟩
theorem y_room (C : Cx Ω κ own cc) (hr : kR κ = rm) (hm : RmIn rm2 mL rm cs sl) (hcode : Cond.code y c2 mL ret ∈ AW) (hini : Cond.initialized y.cls ∈ AW) (hmh : y.cls ≠ "java/lang/invoke/MethodHandle" ∧ y.cls ≠ "java/lang/invoke/VarHandle" ∧ (parseMethodDescriptor y.desc).map (fun d => d.parameters.length) = some n) (hl : Cond.methodLink own idx y ∈ AW) :
    CallB (kR κ) (ks κ) (ka κ) own idx y c2 mL ret (ws_ y c2 mL ret) rm2 rm2.cells rm2.slots n :=
  callB_of n C.2.2.2.2.1 (aw_gc hcode) rfl rfl rfl (C.2.2.2.2.1 _ hini) (C.2.2.2.2.1 _ hl) hmh (by rw [hr]; exact ⟨hm.1, hm.2.1⟩)
/-- a virtual call, whatever comes of it -/
theorem y_callVX (C : Cx Ω κ own cc) (hr : kR κ = rm) (cv : CV own idx Cn y c2 mL ret n) {qc : vw_C} {ci : Nat} (hci : vwCl[ci]? = some qc) (hCn : qc.1 = Cn) (ct : Ct Ω y c2 mL ret rm2 (.ref b :: As) Φ hR Ψ' Ξ') (recv : ∀ h, Φ h → ∃ fs, h b = some (.inr (ci, fs))) (hn : As.length = n) (hst : As.reverse ++ .ref b :: st = stk) (hcat : (st.map fun v => v.category).sum ≤ 8) (hm : RmIn rm2 mL rm cs sl) (dg : decode cc pc = .ok (.invokevirtual idx, 3))
    (kk : ∀ rv, Y Ω κ (Ψ' rv) hR (cs + rm2.cells) (sl + rm2.slots) (pc + 3) L (rv.toList ++ st)) (kx : ∀ E, YX Ω κ E (Ξ' E) hR (cs + rm2.cells) (sl + rm2.slots) pc L st) : Y Ω κ Φ hR cs sl pc L stk := by
  refine y_runX (av := .ref b :: As) (fun h H locs ls a1 b1 c1 d1 => ?_) kk kx
  obtain ⟨w1, w2, w3, w4, w5, w6, w7⟩ := cv
  obtain ⟨fs, e1⟩ := recv h a1
  have hts := C.2.2.2.2.1
  exact vx_runV (As := As) (rest := st) ⟨C.1, C.2.1, C.2.2.1, C.2.2.2.1, hts⟩ ct ⟨y_room C hr hm w5 (by rw [w6]; exact w4) w7 w1, hts _ w2, hts _ w3⟩ ⟨Ct.blind, by have := va_recv C.2.2.2.2.2.1.1 (b1.1.P e1) (q0 := 0) hci rfl; rw [hCn] at this; exact this, y_pre C a1 b1 c1⟩ rfl hn d1.1 hst.symm (lv_room hcat) dg (by rw [hr]; exact ⟨hm.2.2.1, hm.2.2.2⟩)
theorem y_callSX (C : Cx Ω κ own cc) (hr : kR κ = rm) (cv : CS own idx y c2 mL ret n) (ct : Ct Ω y c2 mL ret rm2 As Φ hR Ψ' Ξ') (hn : As.length = n) (hst : As.reverse ++ st = stk) (hcat : (st.map fun v => v.category).sum ≤ 8) (hm : RmIn rm2 mL rm cs sl) (dg : decode cc pc = .ok (.invokestatic idx, 3))
    (kk : ∀ rv, Y Ω κ (Ψ' rv) hR (cs + rm2.cells) (sl + rm2.slots) (pc + 3) L (rv.toList ++ st)) (kx : ∀ E, YX Ω κ E (Ξ' E) hR (cs + rm2.cells) (sl + rm2.slots) pc L st) : Y Ω κ Φ hR cs sl pc L stk := by
  refine y_runX (av := As) (fun h H locs ls a1 b1 c1 d1 => ?_) kk kx
  obtain ⟨w1, w2, w3, w4, w5⟩ := cv
  have hts := C.2.2.2.2.1
  exact vx_runS (As := As) (rest := st) ⟨C.1, C.2.1, C.2.2.1, C.2.2.2.1, hts⟩ ct ⟨y_room C hr hm w4 w3 w5 w1, hts _ w2⟩ ⟨Ct.blind, y_pre C a1 b1 c1⟩ rfl hn d1.1 hst.symm (lv_room hcat) dg (by rw [hr]; exact ⟨hm.2.2.1, hm.2.2.2⟩)
theorem y_nx {E : String} : YX Ω κ E (NX E) hR cs sl pc L st := fun _ _ _ _ _ _ a => a.elim
/-- a virtual call that returns v -/
theorem y_callV (C : Cx Ω κ own cc) (hr : kR κ = rm) (cv : CV own idx Cn y c2 mL ret n) {qc : vw_C} {ci : Nat} (hci : vwCl[ci]? = some qc) (hCn : qc.1 = Cn) (ct : Ct Ω y c2 mL ret rm2 (.ref b :: As) Φ hR (RV v Φ') NX) (recv : ∀ h, Φ h → ∃ fs, h b = some (.inr (ci, fs))) (hn : As.length = n) (hst : As.reverse ++ .ref b :: st = stk) (hcat : (st.map fun v => v.category).sum ≤ 8) (hm : RmIn rm2 mL rm cs sl) (dg : decode cc pc = .ok (.invokevirtual idx, 3)) (h0 : rm2.cells = 0 ∧ rm2.slots = 0)
    (kk : Y Ω κ Φ' hR cs sl (pc + 3) L (v :: st)) : Y Ω κ Φ hR cs sl pc L stk :=
  y_callVX C hr cv hci hCn ct recv hn hst hcat hm dg (fun rv => Y.and (fun e => by subst e; rw [h0.1, h0.2]; exact kk)) (fun E => y_nx)
theorem y_callVv (C : Cx Ω κ own cc) (hr : kR κ = rm) (cv : CV own idx Cn y c2 mL ret n) {qc : vw_C} {ci : Nat} (hci : vwCl[ci]? = some qc) (hCn : qc.1 = Cn) (ct : Ct Ω y c2 mL ret rm2 (.ref b :: As) Φ hR (RU Φ') NX) (recv : ∀ h, Φ h → ∃ fs, h b = some (.inr (ci, fs))) (hn : As.length = n) (hst : As.reverse ++ .ref b :: st = stk) (hcat : (st.map fun v => v.category).sum ≤ 8) (hm : RmIn rm2 mL rm cs sl) (dg : decode cc pc = .ok (.invokevirtual idx, 3)) (h0 : rm2.cells = 0 ∧ rm2.slots = 0)
    (kk : Y Ω κ Φ' hR cs sl (pc + 3) L st) : Y Ω κ Φ hR cs sl pc L stk :=
  y_callVX C hr cv hci hCn ct recv hn hst hcat hm dg (fun rv => Y.and (fun e => by subst e; rw [h0.1, h0.2]; exact kk)) (fun E => y_nx)
theorem y_callS (C : Cx Ω κ own cc) (hr : kR κ = rm) (cv : CS own idx y c2 mL ret n) (ct : Ct Ω y c2 mL ret rm2 As Φ hR (RV v Φ') NX) (hn : As.length = n) (hst : As.reverse ++ st = stk) (hcat : (st.map fun v => v.category).sum ≤ 8) (hm : RmIn rm2 mL rm cs sl) (dg : decode cc pc = .ok (.invokestatic idx, 3)) (h0 : rm2.cells = 0 ∧ rm2.slots = 0)
    (kk : Y Ω κ Φ' hR cs sl (pc + 3) L (v :: st)) : Y Ω κ Φ hR cs sl pc L stk :=
  y_callSX C hr cv ct hn hst hcat hm dg (fun rv => Y.and (fun e => by subst e; rw [h0.1, h0.2]; exact kk)) (fun E => y_nx)
/-- with new cells: a virtual call that returns v -/
theorem y_callVc {cs' sl' : Nat} (C : Cx Ω κ own cc) (hr : kR κ = rm) (cv : CV own idx Cn y c2 mL ret n) {qc : vw_C} {ci : Nat} (hci : vwCl[ci]? = some qc) (hCn : qc.1 = Cn) (ct : Ct Ω y c2 mL ret rm2 (.ref b :: As) Φ hR (RV v Φ') NX) (recv : ∀ h, Φ h → ∃ fs, h b = some (.inr (ci, fs))) (hn : As.length = n) (hst : As.reverse ++ .ref b :: st = stk) (hcat : (st.map fun v => v.category).sum ≤ 8) (hm : RmIn rm2 mL rm cs sl) (dg : decode cc pc = .ok (.invokevirtual idx, 3)) (h0 : cs + rm2.cells = cs' ∧ sl + rm2.slots = sl')
    (kk : Y Ω κ Φ' hR cs' sl' (pc + 3) L (v :: st)) : Y Ω κ Φ hR cs sl pc L stk :=
  y_callVX C hr cv hci hCn ct recv hn hst hcat hm dg (fun rv => Y.and (fun e => by subst e; rw [h0.1, h0.2]; exact kk)) (fun E => y_nx)
theorem y_callSc {cs' sl' : Nat} (C : Cx Ω κ own cc) (hr : kR κ = rm) (cv : CS own idx y c2 mL ret n) (ct : Ct Ω y c2 mL ret rm2 As Φ hR (RV v Φ') NX) (hn : As.length = n) (hst : As.reverse ++ st = stk) (hcat : (st.map fun v => v.category).sum ≤ 8) (hm : RmIn rm2 mL rm cs sl) (dg : decode cc pc = .ok (.invokestatic idx, 3)) (h0 : cs + rm2.cells = cs' ∧ sl + rm2.slots = sl')
    (kk : Y Ω κ Φ' hR cs' sl' (pc + 3) L (v :: st)) : Y Ω κ Φ hR cs sl pc L stk :=
  y_callSX C hr cv ct hn hst hcat hm dg (fun rv => Y.and (fun e => by subst e; rw [h0.1, h0.2]; exact kk)) (fun E => y_nx)
/-- a constructor -/
theorem y_callI {cs' sl' : Nat} (C : Cx Ω κ own cc) (hr : kR κ = rm) (cv : CI own idx y c2 mL n) (ct : Ct Ω y c2 mL none rm2 (.ref b :: As) Φ hR (RU Φ') NX) (hn : As.length = n) (hst : As.reverse ++ .ref b :: st = stk) (hcat : (st.map fun v => v.category).sum ≤ 8) (hm : RmIn rm2 mL rm cs sl) (dg : decode cc pc = .ok (.invokespecial idx, 3)) (h0 : cs + rm2.cells = cs' ∧ sl + rm2.slots = sl')
    (kk : Y Ω κ Φ' hR cs' sl' (pc + 3) L st) : Y Ω κ Φ hR cs sl pc L stk := by
  refine y_runM (av := .ref b :: As) (st := st) (Ψ' := RU Φ') (mc := rm2.cells) (ms := rm2.slots) (fun h H locs ls a1 b1 c1 d1 => ?_) (fun rv => Y.and (fun e => by subst e; rw [h0.1, h0.2]; exact kk))
  obtain ⟨w1, w2, w3, w4, w5, w6⟩ := cv
  have hts := C.2.2.2.2.1
  exact va_runI (As := As) (rest := st) ⟨C.1, C.2.1, C.2.2.1, C.2.2.2.1, hts⟩ ct.met ⟨y_room C hr hm w4 w3 w6 w1, w5, hts _ w2⟩ ⟨Ct.blind, y_pre C a1 b1 c1⟩ rfl hn d1.1 hst.symm (lv_room hcat) dg (by rw [hr]; exact ⟨hm.2.2.1, hm.2.2.2⟩)
/-- a nest mate's private constructor -/
theorem y_callN {cs' sl' : Nat} (C : Cx Ω κ own cc) (hr : kR κ = rm) (cv : CN own idx y host c2 mL n) (ct : Ct Ω y c2 mL none rm2 (.ref b :: As) Φ hR (RU Φ') NX) (hn : As.length = n) (hst : As.reverse ++ .ref b :: st = stk) (hcat : (st.map fun v => v.category).sum ≤ 8) (hm : RmIn rm2 mL rm cs sl) (dg : decode cc pc = .ok (.invokespecial idx, 3)) (h0 : cs + rm2.cells = cs' ∧ sl + rm2.slots = sl')
    (kk : Y Ω κ Φ' hR cs' sl' (pc + 3) L st) : Y Ω κ Φ hR cs sl pc L stk := by
  refine y_runM (av := .ref b :: As) (st := st) (Ψ' := RU Φ') (mc := rm2.cells) (ms := rm2.slots) (fun h H locs ls a1 b1 c1 d1 => ?_) (fun rv => Y.and (fun e => by subst e; rw [h0.1, h0.2]; exact kk))
  obtain ⟨w1, w2, w3, w4, w5, w6⟩ := cv
  have hts := C.2.2.2.2.1
  exact va_runIN (As := As) (rest := st) ⟨C.1, C.2.1, C.2.2.1, C.2.2.2.1, hts⟩ ct.met ⟨va_cnB n hts (aw_gc w4) rfl rfl rfl (C.2.2.2.2.2.1.2.2.2.1 _ w1) (hts _ w3) w6 (by rw [hr]; exact ⟨hm.1, hm.2.1⟩), w5, hts _ w2⟩ ⟨Ct.blind, y_pre C a1 b1 c1⟩ rfl hn d1.1 hst.symm (lv_room hcat) dg (by rw [hr]; exact ⟨hm.2.2.1, hm.2.2.2⟩)
/-- Object's own constructor -/
theorem y_objI (C : Cx Ω κ own cc) (hr : kR κ = rm) (w1 : Cond.methodLink own idx objectInit ∈ AW) (w2 : Cond.instanceMethod objectInit ∈ AW) (w3 : Cond.code objectInit ⟨#[0xb1]⟩ 1 none ∈ AW) (hf : 1 ≤ rm.frames) (hl : (st.map fun v => v.category).sum + 12 ≤ rm.locals) (dg : decode cc pc = .ok (.invokespecial idx, 3)) (kk : Y Ω κ Φ hR cs sl (pc + 3) L st) : Y Ω κ Φ hR cs sl pc L (.ref b :: st) := by
  intro h H locs ls a1 b1 c1 d1
  have hts := C.2.2.2.2.1
  refine W.objInit C.1 C.2.1 C.2.2.2.1 (hts _ w1) (hts _ w2) (hts _ w3) rfl (by rw [C.2.2.1]; exact d1.1) rfl dg (by rw [hr]; exact hf) ?_ (kk h H locs ls a1 b1 c1 d1)
  rw [hr]
  show 2 * 0 + _ + 12 ≤ _
  omega
/-! the JDK's Math -/
abbrev mxI : MethodName := Lib.Math.max.name
abbrev mnI : MethodName := Lib.Math.min.name
abbrev abI : MethodName := Lib.Math.abs.name
abbrev mxL : MethodName := Lib.MathLoose.max_long.x
theorem y_max (C : Cx Ω κ own cc) {x z : Int} (hr : kR κ = rm) (w1 : Cond.methodLink own idx mxI ∈ AW) (w2 : Cond.static mxI ∈ AW) (w3 : Cond.initialized "java/lang/Math" ∈ AW) (w4 : Cond.code mxI Lib.Math.max.code 2 (some .int) ∈ AW) (hf : 1 ≤ rm.frames) (hl : (st.map fun v => v.category).sum + 13 ≤ rm.locals) (hc : cs ≤ rm.cells) (hs : sl ≤ rm.slots) (h1 : -2147483648 ≤ x) (h2 : x < 2147483648) (h3 : -2147483648 ≤ z) (h4 : z < 2147483648) (dg : decode cc pc = .ok (.invokestatic idx, 3)) (kk : Y Ω κ Φ hR cs sl (pc + 3) L (.int (iv (max x z)) :: st)) : Y Ω κ Φ hR cs sl pc L (.int (iv z) :: .int (iv x) :: st) := by
  intro h H locs ls a1 b1 c1 d1
  have hts := C.2.2.2.2.1
  refine va_mmax C.1 C.2.1 (by rw [C.2.2.1]; exact d1.1.symm) C.2.2.2.1 (hts _ w1) (hts _ w2) (hts _ w3) (hts _ w4) (by rw [hr]; exact hf) (by rw [hr]; exact hl) (by rw [hr]; exact hc) (by rw [hr]; exact hs) dg ?_
  have e : (if iv x < iv z then iv z else iv x) = iv (max x z) := by
    by_cases q : x < z
    · rw [if_pos ((iv_lt h1 h2 h3 h4).mpr q), Int.max_eq_right (by omega)]
    · rw [if_neg (fun w => q ((iv_lt h1 h2 h3 h4).mp w)), Int.max_eq_left (by omega)]
  rw [e]
  exact kk h H locs ls a1 b1 c1 d1
theorem y_min (C : Cx Ω κ own cc) {x z : Int} (hr : kR κ = rm) (w1 : Cond.methodLink own idx mnI ∈ AW) (w2 : Cond.static mnI ∈ AW) (w3 : Cond.initialized "java/lang/Math" ∈ AW) (w4 : Cond.code mnI Lib.Math.min.code 2 (some .int) ∈ AW) (hf : 1 ≤ rm.frames) (hl : (st.map fun v => v.category).sum + 13 ≤ rm.locals) (hc : cs ≤ rm.cells) (hs : sl ≤ rm.slots) (h1 : -2147483648 ≤ x) (h2 : x < 2147483648) (h3 : -2147483648 ≤ z) (h4 : z < 2147483648) (dg : decode cc pc = .ok (.invokestatic idx, 3)) (kk : Y Ω κ Φ hR cs sl (pc + 3) L (.int (iv (min x z)) :: st)) : Y Ω κ Φ hR cs sl pc L (.int (iv z) :: .int (iv x) :: st) := by
  intro h H locs ls a1 b1 c1 d1
  have hts := C.2.2.2.2.1
  refine va_mmin C.1 C.2.1 (by rw [C.2.2.1]; exact d1.1.symm) C.2.2.2.1 (hts _ w1) (hts _ w2) (hts _ w3) (hts _ w4) (by rw [hr]; exact hf) (by rw [hr]; exact hl) (by rw [hr]; exact hc) (by rw [hr]; exact hs) dg ?_
  have e : (if iv z < iv x then iv z else iv x) = iv (min x z) := by
    by_cases q : z < x
    · rw [if_pos ((iv_lt h3 h4 h1 h2).mpr q), Int.min_eq_right (by omega)]
    · rw [if_neg (fun w => q ((iv_lt h3 h4 h1 h2).mp w)), Int.min_eq_left (by omega)]
  rw [e]
  exact kk h H locs ls a1 b1 c1 d1
theorem y_abs (C : Cx Ω κ own cc) {x : Int} (hr : kR κ = rm) (w1 : Cond.methodLink own idx abI ∈ AW) (w2 : Cond.static abI ∈ AW) (w3 : Cond.initialized "java/lang/Math" ∈ AW) (w4 : Cond.code abI Lib.Math.abs.code 1 (some .int) ∈ AW) (hf : 1 ≤ rm.frames) (hl : (st.map fun v => v.category).sum + 13 ≤ rm.locals) (hc : cs ≤ rm.cells) (hs : sl ≤ rm.slots) (h1 : -2147483648 ≤ x) (h2 : x < 2147483648) (dg : decode cc pc = .ok (.invokestatic idx, 3)) (kk : Y Ω κ Φ hR cs sl (pc + 3) L (.int (iv (if 0 ≤ x then x else -x)) :: st)) : Y Ω κ Φ hR cs sl pc L (.int (iv x) :: st) := by
  intro h H locs ls a1 b1 c1 d1
  have hts := C.2.2.2.2.1
  refine va_mabs C.1 C.2.1 (by rw [C.2.2.1]; exact d1.1.symm) C.2.2.2.1 (hts _ w1) (hts _ w2) (hts _ w3) (hts _ w4) (by rw [hr]; exact hf) (by rw [hr]; exact hl) (by rw [hr]; exact hc) (by rw [hr]; exact hs) dg ?_
  have e : (if 0 ≤ iv x then iv x else 0 - iv x) = iv (if 0 ≤ x then x else -x) := by
    have w := iv_le (x := 0) (y := x) (by decide) (by decide) h1 h2
    rw [iv_0] at w
    by_cases q : 0 ≤ x
    · rw [if_pos (w.mpr q), if_pos q]
    · rw [if_neg (fun z => q (w.mp z)), if_neg q, ← iv_0, iv_sub, Int.zero_sub]
  rw [e]
  exact kk h H locs ls a1 b1 c1 d1
theorem y_maxL (C : Cx Ω κ own cc) {x z : Int} (hr : kR κ = rm) (w1 : Cond.methodLink own idx mxL ∈ AW) (w2 : Cond.static mxL ∈ AW) (w3 : Cond.initialized "java/lang/Math" ∈ AW) (w4 : Cond.code mxL Lib.MathLoose.max_long.code 4 (some .long) ∈ AW) (hf : 1 ≤ rm.frames) (hl : (st.map fun v => v.category).sum + 15 ≤ rm.locals) (hc : cs ≤ rm.cells) (hs : sl ≤ rm.slots) (h1 : -9223372036854775808 ≤ x) (h2 : x < 9223372036854775808) (h3 : -9223372036854775808 ≤ z) (h4 : z < 9223372036854775808) (dg : decode cc pc = .ok (.invokestatic idx, 3)) (kk : Y Ω κ Φ hR cs sl (pc + 3) L (.long (jv (max x z)) :: st)) : Y Ω κ Φ hR cs sl pc L (.long (jv z) :: .long (jv x) :: st) := by
  intro h H locs ls a1 b1 c1 d1
  have hts := C.2.2.2.2.1
  refine va_mmax_long C.1 C.2.1 (by rw [C.2.2.1]; exact d1.1.symm) C.2.2.2.1 (hts _ w1) (hts _ w2) (hts _ w3) (hts _ w4) (by rw [hr]; exact hf) (by rw [hr]; exact hl) (by rw [hr]; exact hc) (by rw [hr]; exact hs) dg ?_
  have e : (if jv z < jv x then jv x else jv z) = jv (max x z) := by
    by_cases q : z < x
    · rw [if_pos ((jv_lt h3 h4 h1 h2).mpr q), Int.max_eq_left (by omega)]
    · rw [if_neg (fun w => q ((jv_lt h3 h4 h1 h2).mp w)), Int.max_eq_right (by omega)]
  rw [e]
  exact kk h H locs ls a1 b1 c1 d1
/-! ends -/
theorem y_end (E : Ce Ω κ ret rm hR Ψ Ξ) {g : JFrame} {H : Heap} {locs : List Loc} (hc : cs ≤ rm.cells) (hs : sl ≤ rm.slots) (k : W (kp κ) (OmL Ω) (ke κ) (kR κ) (ks κ) (km κ) (ka κ) (kb κ) (kt κ) (kc κ) H locs rm.cells rm.slots (MQ (kb κ) (QC Ω hR Ψ) (ka κ) (ks κ) rm.cells rm.slots (OmA Ω)) g) : W (kp κ) (OmL Ω) (ke κ) (kR κ) (ks κ) (km κ) (ka κ) (kb κ) (kt κ) (kc κ) H locs cs sl (kQ κ) g := by
  rw [E.2.2.2]
  exact W.widen hc hs (vx_ret k)
theorem y_post (C : Cx Ω κ own cc) {h : AH} {H : Heap} {locs : List Loc} {rv : Option Value} (a1 : Ψ rv h) (b1 : Rel Ω h hR H) (c1 : va_S (OmA Ω) (ks κ).heap H locs) : ∀ t : State, t.heap = H → (ks κ).WarmedH t.vm → QC Ω hR Ψ (ka κ) (ks κ) (.returned rv) t :=
  fun t ht _ => ⟨⟨rv, h, rfl, a1, by rw [ht]; exact b1⟩, c1.F ht⟩
theorem y_iret (C : Cx Ω κ own cc) (E : Ce Ω κ (some .int) rm hR Ψ Ξ) {x : Int32} (dg : decode cc pc = .ok (.ireturn, 1)) (hc : cs ≤ rm.cells) (hs : sl ≤ rm.slots) (hΨ : ∀ h, Φ h → Ψ (some (.int x)) h) : Y Ω κ Φ hR cs sl pc L [.int x] :=
  fun h H locs ls a1 b1 c1 d1 => y_end E hc hs (W.iret (hlocks := C.2.2.2.2.2.2) C.1 C.2.1 E.1 (y_post C (hΨ h a1) b1 c1) c1.2.2 dg)
theorem y_zret (C : Cx Ω κ own cc) (E : Ce Ω κ (some .boolean) rm hR Ψ Ξ) {b : Bool} (dg : decode cc pc = .ok (.ireturn, 1)) (hc : cs ≤ rm.cells) (hs : sl ≤ rm.slots) (hΨ : ∀ h, Φ h → Ψ (some (.int (iv (bz b)))) h) : Y Ω κ Φ hR cs sl pc L [.int (iv (bz b))] :=
  fun h H locs ls a1 b1 c1 d1 => y_end E hc hs (W.zret (hlocks := C.2.2.2.2.2.2) C.1 C.2.1 E.1 (by cases b <;> decide) (y_post C (hΨ h a1) b1 c1) c1.2.2 dg)
theorem y_lret (C : Cx Ω κ own cc) (E : Ce Ω κ (some .long) rm hR Ψ Ξ) {x : Int64} (dg : decode cc pc = .ok (.lreturn, 1)) (hc : cs ≤ rm.cells) (hs : sl ≤ rm.slots) (hΨ : ∀ h, Φ h → Ψ (some (.long x)) h) : Y Ω κ Φ hR cs sl pc L [.long x] :=
  fun h H locs ls a1 b1 c1 d1 => y_end E hc hs (W.lret (hlocks := C.2.2.2.2.2.2) C.1 C.2.1 E.1 (y_post C (hΨ h a1) b1 c1) c1.2.2 dg)
theorem y_aret (C : Cx Ω κ own cc) {rt : FieldType} (E : Ce Ω κ (some rt) rm hR Ψ Ξ) (hrt : (∃ n, rt = .object n) ∨ ∃ t, rt = .array t) (dg : decode cc pc = .ok (.areturn, 1)) (hc : cs ≤ rm.cells) (hs : sl ≤ rm.slots) (hΨ : ∀ h, Φ h → Ψ (some (.ref b)) h) : Y Ω κ Φ hR cs sl pc L [.ref b] :=
  fun h H locs ls a1 b1 c1 d1 => y_end E hc hs (W.aret (hlocks := C.2.2.2.2.2.2) C.1 C.2.1 E.1 hrt (Or.inr ⟨b, rfl⟩) (y_post C (hΨ h a1) b1 c1) c1.2.2 dg)
theorem y_vret (C : Cx Ω κ own cc) (E : Ce Ω κ none rm hR Ψ Ξ) (dg : decode cc pc = .ok (.return_, 1)) (hc : cs ≤ rm.cells) (hs : sl ≤ rm.slots) (hΨ : ∀ h, Φ h → Ψ none h) : Y Ω κ Φ hR cs sl pc L [] :=
  fun h H locs ls a1 b1 c1 d1 => y_end E hc hs (W.vret (hlocks := C.2.2.2.2.2.2) C.1 C.2.1 E.1 (y_post C (hΨ h a1) b1 c1) c1.2.2 dg)
/-- an exception goes on to the caller -/
theorem y_out {E0 : String} (C : Cx Ω κ own cc) (E : Ce Ω κ ret rm hR Ψ Ξ) (hc : cs ≤ rm.cells) (hs : sl ≤ rm.slots) (hΞ : ∀ h, Φ h → Ξ E0 h) : YX Ω κ E0 Φ hR cs sl pc L st := by
  intro h H locs ls q ce a1 b1 c1 d1 e1 e2 e3
  rw [E.2.2.2]
  exact vx_out (fun x hx => (E.2.2.1 x hx).elim) C.2.2.2.2.2.2 e1 e2 e3 (fun t ht _ => ⟨⟨h, hΞ h a1, by rw [ht]; exact b1⟩, c1.F ht⟩) c1.2.2 hc hs
end YCALL
end
section
theorem in_Jx4a65c : ∀ w ∈ u_ws RJx4a65c TJx4a65c 3, w ∈ AW := by
  intro w hw
  obtain ⟨k, hk, rfl⟩ := List.mem_map.mp hw
  have h := List.mem_range.mp hk
  match k, h with
  | 0, _ => exact aw_1_53
  | 1, _ => exact aw_1_49
  | 2, _ => exact aw_1_51
  | k + 3, h => exact absurd h (by omega)
theorem cl_Jx4a65c : CLs (RJx4a65c, TJx4a65c, 3) := ⟨in_Jx4a65c, ⟨tyJx4a65c, tyJx4a65c_ok⟩, nmJx4a65c⟩
theorem in_X0 : ∀ w ∈ u_ws RX0 TX0 12, w ∈ AW := by
  intro w hw
  obtain ⟨k, hk, rfl⟩ := List.mem_map.mp hw
  have h := List.mem_range.mp hk
  match k, h with
  | 0, _ => exact aw_2_207
  | 1, _ => exact aw_2_209
  | 2, _ => exact aw_2_211
  | 3, _ => exact aw_2_213
  | 4, _ => exact aw_2_215
  | 5, _ => exact aw_2_217
  | 6, _ => exact aw_2_219
  | 7, _ => exact aw_2_221
  | 8, _ => exact aw_2_223
  | 9, _ => exact aw_2_225
  | 10, _ => exact aw_2_227
  | 11, _ => exact aw_2_229
  | k + 12, h => exact absurd h (by omega)
theorem cl_X0 : CLs (RX0, TX0, 12) := ⟨in_X0, ⟨tyX0, tyX0_ok⟩, nmX0⟩
theorem in_X1 : ∀ w ∈ u_ws RX1 TX1 1, w ∈ AW := by
  intro w hw
  obtain ⟨k, hk, rfl⟩ := List.mem_map.mp hw
  have h := List.mem_range.mp hk
  match k, h with
  | 0, _ => exact aw_1_63
  | k + 1, h => exact absurd h (by omega)
theorem cl_X1 : CLs (RX1, TX1, 1) := ⟨in_X1, ⟨tyX1, tyX1_ok⟩, nmX1⟩
theorem in_X2 : ∀ w ∈ u_ws RX2 TX2 3, w ∈ AW := by
  intro w hw
  obtain ⟨k, hk, rfl⟩ := List.mem_map.mp hw
  have h := List.mem_range.mp hk
  match k, h with
  | 0, _ => exact aw_3_44
  | 1, _ => exact aw_3_46
  | 2, _ => exact aw_3_48
  | k + 3, h => exact absurd h (by omega)
theorem cl_X2 : CLs (RX2, TX2, 3) := ⟨in_X2, ⟨tyX2, tyX2_ok⟩, nmX2⟩
theorem in_X3 : ∀ w ∈ u_ws RX3 TX3 11, w ∈ AW := by
  intro w hw
  obtain ⟨k, hk, rfl⟩ := List.mem_map.mp hw
  have h := List.mem_range.mp hk
  match k, h with
  | 0, _ => exact aw_1_234
  | 1, _ => exact aw_1_236
  | 2, _ => exact aw_1_238
  | 3, _ => exact aw_2_0
  | 4, _ => exact aw_2_2
  | 5, _ => exact aw_2_4
  | 6, _ => exact aw_2_6
  | 7, _ => exact aw_2_8
  | 8, _ => exact aw_2_10
  | 9, _ => exact aw_2_12
  | 10, _ => exact aw_2_14
  | k + 11, h => exact absurd h (by omega)
theorem cl_X3 : CLs (RX3, TX3, 11) := ⟨in_X3, ⟨tyX3, tyX3_ok⟩, nmX3⟩
theorem in_X4 : ∀ w ∈ u_ws RX4 TX4 11, w ∈ AW := by
  intro w hw
  obtain ⟨k, hk, rfl⟩ := List.mem_map.mp hw
  have h := List.mem_range.mp hk
  match k, h with
  | 0, _ => exact aw_1_78
  | 1, _ => exact aw_1_80
  | 2, _ => exact aw_1_82
  | 3, _ => exact aw_1_84
  | 4, _ => exact aw_1_86
  | 5, _ => exact aw_1_88
  | 6, _ => exact aw_1_90
  | 7, _ => exact aw_1_92
  | 8, _ => exact aw_1_94
  | 9, _ => exact aw_1_96
  | 10, _ => exact aw_1_98
  | k + 11, h => exact absurd h (by omega)
theorem cl_X4 : CLs (RX4, TX4, 11) := ⟨in_X4, ⟨tyX4, tyX4_ok⟩, nmX4⟩
theorem in_X5 : ∀ w ∈ u_ws RX5 TX5 40, w ∈ AW := by
  intro w hw
  obtain ⟨k, hk, rfl⟩ := List.mem_map.mp hw
  have h := List.mem_range.mp hk
  match k, h with
  | 0, _ => exact aw_4_90
  | 1, _ => exact aw_4_92
  | 2, _ => exact aw_4_94
  | 3, _ => exact aw_4_96
  | 4, _ => exact aw_4_98
  | 5, _ => exact aw_4_100
  | 6, _ => exact aw_4_102
  | 7, _ => exact aw_4_104
  | 8, _ => exact aw_4_106
  | 9, _ => exact aw_4_108
  | 10, _ => exact aw_4_110
  | 11, _ => exact aw_4_112
  | 12, _ => exact aw_4_114
  | 13, _ => exact aw_4_116
  | 14, _ => exact aw_4_118
  | 15, _ => exact aw_4_120
  | 16, _ => exact aw_4_122
  | 17, _ => exact aw_4_124
  | 18, _ => exact aw_4_126
  | 19, _ => exact aw_4_128
  | 20, _ => exact aw_4_130
  | 21, _ => exact aw_4_132
  | 22, _ => exact aw_4_134
  | 23, _ => exact aw_4_136
  | 24, _ => exact aw_4_138
  | 25, _ => exact aw_4_140
  | 26, _ => exact aw_4_142
  | 27, _ => exact aw_4_144
  | 28, _ => exact aw_4_146
  | 29, _ => exact aw_4_148
  | 30, _ => exact aw_4_150
  | 31, _ => exact aw_4_152
  | 32, _ => exact aw_4_154
  | 33, _ => exact aw_4_156
  | 34, _ => exact aw_4_158
  | 35, _ => exact aw_4_160
  | 36, _ => exact aw_4_162
  | 37, _ => exact aw_4_164
  | 38, _ => exact aw_4_166
  | 39, _ => exact aw_4_168
  | k + 40, h => exact absurd h (by omega)
theorem cl_X5 : CLs (RX5, TX5, 40) := ⟨in_X5, ⟨tyX5, tyX5_ok⟩, nmX5⟩
theorem fg_Jx4a65c_9 : FG RJx4a65c 9 0 1 := ⟨(RJx4a65c, TJx4a65c, 3), RJx4a65c, rfl, by decide, cl_Jx4a65c, aw_1_44, Or.inl rfl⟩
theorem fp_Jx4a65c_9 : FP RJx4a65c 9 0 1 (.array (.object "java/lang/Object")) := ⟨(RJx4a65c, TJx4a65c, 3), RJx4a65c, rfl, by decide, cl_Jx4a65c, aw_1_44, Or.inl rfl, rfl, by decide +kernel⟩
theorem fg_Jx4a65c_48 : FG RJx4a65c 48 0 2 := ⟨(RJx4a65c, TJx4a65c, 3), RJx4a65c, rfl, by decide, cl_Jx4a65c, aw_1_45, Or.inl rfl⟩
theorem fp_Jx4a65c_48 : FP RJx4a65c 48 0 2 .int := ⟨(RJx4a65c, TJx4a65c, 3), RJx4a65c, rfl, by decide, cl_Jx4a65c, aw_1_45, Or.inl rfl, rfl, by decide +kernel⟩
theorem fg_Jxc12de_7 : FG RJxc12de 7 0 0 := ⟨(RJx4a65c, TJx4a65c, 3), RJxc12de, rfl, by decide, cl_Jx4a65c, aw_1_46, Or.inl rfl⟩
theorem fp_Jxc12de_7 : FP RJxc12de 7 0 0 .int := ⟨(RJx4a65c, TJx4a65c, 3), RJxc12de, rfl, by decide, cl_Jx4a65c, aw_1_46, Or.inl rfl, rfl, by decide +kernel⟩
theorem fg_Jx4a65c_63 : FG RJx4a65c 63 0 0 := ⟨(RJx4a65c, TJx4a65c, 3), RJx4a65c, rfl, by decide, cl_Jx4a65c, aw_1_47, Or.inr aw_1_48⟩
theorem fp_Jx4a65c_63 : FP RJx4a65c 63 0 0 .int := ⟨(RJx4a65c, TJx4a65c, 3), RJx4a65c, rfl, by decide, cl_Jx4a65c, aw_1_47, Or.inr aw_1_48, rfl, by decide +kernel⟩
theorem fg_X1_9 : FG RX1 9 2 0 := ⟨(RX1, TX1, 1), RX1, rfl, by decide, cl_X1, aw_1_62, Or.inl rfl⟩
theorem ff_X1_9 : FF RX1 9 2 0 (.array .int) := ⟨(RX1, TX1, 1), RX1, rfl, by decide, cl_X1, aw_1_62, rfl, rfl, rfl, by decide +kernel⟩
theorem fg_X4_10 : FG RX4 10 5 0 := ⟨(RX4, TX4, 11), RX4, rfl, by decide, cl_X4, aw_1_67, Or.inl rfl⟩
theorem ff_X4_10 : FF RX4 10 5 0 (.object "java/util/ArrayList") := ⟨(RX4, TX4, 11), RX4, rfl, by decide, cl_X4, aw_1_67, rfl, rfl, rfl, by decide +kernel⟩
theorem fg_X4_16 : FG RX4 16 5 1 := ⟨(RX4, TX4, 11), RX4, rfl, by decide, cl_X4, aw_1_68, Or.inl rfl⟩
theorem ff_X4_16 : FF RX4 16 5 1 (.object "java/util/ArrayList") := ⟨(RX4, TX4, 11), RX4, rfl, by decide, cl_X4, aw_1_68, rfl, rfl, rfl, by decide +kernel⟩
theorem fg_X4_19 : FG RX4 19 5 2 := ⟨(RX4, TX4, 11), RX4, rfl, by decide, cl_X4, aw_1_69, Or.inl rfl⟩
theorem ff_X4_19 : FF RX4 19 5 2 (.object "java/util/ArrayList") := ⟨(RX4, TX4, 11), RX4, rfl, by decide, cl_X4, aw_1_69, rfl, rfl, rfl, by decide +kernel⟩
theorem fg_X4_25 : FG RX4 25 5 3 := ⟨(RX4, TX4, 11), RX4, rfl, by decide, cl_X4, aw_1_70, Or.inl rfl⟩
theorem ff_X4_25 : FF RX4 25 5 3 (.object "Gasvault$Hours") := ⟨(RX4, TX4, 11), RX4, rfl, by decide, cl_X4, aw_1_70, rfl, rfl, rfl, by decide +kernel⟩
theorem fg_X4_29 : FG RX4 29 5 4 := ⟨(RX4, TX4, 11), RX4, rfl, by decide, cl_X4, aw_1_71, Or.inl rfl⟩
theorem fp_X4_29 : FP RX4 29 5 4 .int := ⟨(RX4, TX4, 11), RX4, rfl, by decide, cl_X4, aw_1_71, Or.inl rfl, rfl, by decide +kernel⟩
theorem fg_X4_33 : FG RX4 33 5 5 := ⟨(RX4, TX4, 11), RX4, rfl, by decide, cl_X4, aw_1_72, Or.inl rfl⟩
theorem fp_X4_33 : FP RX4 33 5 5 .int := ⟨(RX4, TX4, 11), RX4, rfl, by decide, cl_X4, aw_1_72, Or.inl rfl, rfl, by decide +kernel⟩
theorem fg_X4_36 : FG RX4 36 5 6 := ⟨(RX4, TX4, 11), RX4, rfl, by decide, cl_X4, aw_1_73, Or.inl rfl⟩
theorem fp_X4_36 : FP RX4 36 5 6 .int := ⟨(RX4, TX4, 11), RX4, rfl, by decide, cl_X4, aw_1_73, Or.inl rfl, rfl, by decide +kernel⟩
theorem fg_X4_39 : FG RX4 39 5 7 := ⟨(RX4, TX4, 11), RX4, rfl, by decide, cl_X4, aw_1_74, Or.inl rfl⟩
theorem fp_X4_39 : FP RX4 39 5 7 .int := ⟨(RX4, TX4, 11), RX4, rfl, by decide, cl_X4, aw_1_74, Or.inl rfl, rfl, by decide +kernel⟩
theorem fg_X4_42 : FG RX4 42 5 8 := ⟨(RX4, TX4, 11), RX4, rfl, by decide, cl_X4, aw_1_75, Or.inl rfl⟩
theorem fp_X4_42 : FP RX4 42 5 8 .long := ⟨(RX4, TX4, 11), RX4, rfl, by decide, cl_X4, aw_1_75, Or.inl rfl, rfl, by decide +kernel⟩
theorem fg_X4_46 : FG RX4 46 5 9 := ⟨(RX4, TX4, 11), RX4, rfl, by decide, cl_X4, aw_1_76, Or.inl rfl⟩
theorem fp_X4_46 : FP RX4 46 5 9 .long := ⟨(RX4, TX4, 11), RX4, rfl, by decide, cl_X4, aw_1_76, Or.inl rfl, rfl, by decide +kernel⟩
theorem fg_X4_49 : FG RX4 49 5 10 := ⟨(RX4, TX4, 11), RX4, rfl, by decide, cl_X4, aw_1_77, Or.inl rfl⟩
theorem fp_X4_49 : FP RX4 49 5 10 .long := ⟨(RX4, TX4, 11), RX4, rfl, by decide, cl_X4, aw_1_77, Or.inl rfl, rfl, by decide +kernel⟩
theorem fg_X3_31 : FG RX3 31 4 0 := ⟨(RX3, TX3, 11), RX3, rfl, by decide, cl_X3, aw_1_215, Or.inl rfl⟩
theorem ff_X3_31 : FF RX3 31 4 0 .int := ⟨(RX3, TX3, 11), RX3, rfl, by decide, cl_X3, aw_1_215, rfl, rfl, rfl, by decide +kernel⟩
theorem fg_X4_116 : FG RX4 116 4 0 := ⟨(RX3, TX3, 11), RX3, rfl, by decide, cl_X3, aw_1_216, Or.inl rfl⟩
theorem fg_X3_37 : FG RX3 37 4 1 := ⟨(RX3, TX3, 11), RX3, rfl, by decide, cl_X3, aw_1_217, Or.inl rfl⟩
theorem ff_X3_37 : FF RX3 37 4 1 .int := ⟨(RX3, TX3, 11), RX3, rfl, by decide, cl_X3, aw_1_217, rfl, rfl, rfl, by decide +kernel⟩
theorem fg_X3_40 : FG RX3 40 4 2 := ⟨(RX3, TX3, 11), RX3, rfl, by decide, cl_X3, aw_1_218, Or.inl rfl⟩
theorem ff_X3_40 : FF RX3 40 4 2 .int := ⟨(RX3, TX3, 11), RX3, rfl, by decide, cl_X3, aw_1_218, rfl, rfl, rfl, by decide +kernel⟩
theorem fg_X3_43 : FG RX3 43 4 3 := ⟨(RX3, TX3, 11), RX3, rfl, by decide, cl_X3, aw_1_219, Or.inl rfl⟩
theorem ff_X3_43 : FF RX3 43 4 3 .int := ⟨(RX3, TX3, 11), RX3, rfl, by decide, cl_X3, aw_1_219, rfl, rfl, rfl, by decide +kernel⟩
theorem fg_X3_34 : FG RX3 34 4 4 := ⟨(RX3, TX3, 11), RX3, rfl, by decide, cl_X3, aw_1_220, Or.inl rfl⟩
theorem fp_X3_34 : FP RX3 34 4 4 .int := ⟨(RX3, TX3, 11), RX3, rfl, by decide, cl_X3, aw_1_220, Or.inl rfl, rfl, by decide +kernel⟩
theorem fg_X4_122 : FG RX4 122 4 4 := ⟨(RX3, TX3, 11), RX3, rfl, by decide, cl_X3, aw_1_221, Or.inl rfl⟩
theorem fp_X4_122 : FP RX4 122 4 4 .int := ⟨(RX3, TX3, 11), RX3, rfl, by decide, cl_X3, aw_1_221, Or.inl rfl, rfl, by decide +kernel⟩
theorem fg_X3_9 : FG RX3 9 4 5 := ⟨(RX3, TX3, 11), RX3, rfl, by decide, cl_X3, aw_1_222, Or.inl rfl⟩
theorem fp_X3_9 : FP RX3 9 4 5 .int := ⟨(RX3, TX3, 11), RX3, rfl, by decide, cl_X3, aw_1_222, Or.inl rfl, rfl, by decide +kernel⟩
theorem fg_X4_190 : FG RX4 190 4 5 := ⟨(RX3, TX3, 11), RX3, rfl, by decide, cl_X3, aw_1_223, Or.inl rfl⟩
theorem fp_X4_190 : FP RX4 190 4 5 .int := ⟨(RX3, TX3, 11), RX3, rfl, by decide, cl_X3, aw_1_223, Or.inl rfl, rfl, by decide +kernel⟩
theorem fg_X3_15 : FG RX3 15 4 6 := ⟨(RX3, TX3, 11), RX3, rfl, by decide, cl_X3, aw_1_224, Or.inl rfl⟩
theorem fp_X3_15 : FP RX3 15 4 6 .int := ⟨(RX3, TX3, 11), RX3, rfl, by decide, cl_X3, aw_1_224, Or.inl rfl, rfl, by decide +kernel⟩
theorem fg_X4_119 : FG RX4 119 4 6 := ⟨(RX3, TX3, 11), RX3, rfl, by decide, cl_X3, aw_1_225, Or.inl rfl⟩
theorem fp_X4_119 : FP RX4 119 4 6 .int := ⟨(RX3, TX3, 11), RX3, rfl, by decide, cl_X3, aw_1_225, Or.inl rfl, rfl, by decide +kernel⟩
theorem fg_X3_18 : FG RX3 18 4 7 := ⟨(RX3, TX3, 11), RX3, rfl, by decide, cl_X3, aw_1_226, Or.inl rfl⟩
theorem fp_X3_18 : FP RX3 18 4 7 .long := ⟨(RX3, TX3, 11), RX3, rfl, by decide, cl_X3, aw_1_226, Or.inl rfl, rfl, by decide +kernel⟩
theorem fg_X4_184 : FG RX4 184 4 7 := ⟨(RX3, TX3, 11), RX3, rfl, by decide, cl_X3, aw_1_227, Or.inl rfl⟩
theorem fp_X4_184 : FP RX4 184 4 7 .long := ⟨(RX3, TX3, 11), RX3, rfl, by decide, cl_X3, aw_1_227, Or.inl rfl, rfl, by decide +kernel⟩
theorem fg_X3_22 : FG RX3 22 4 8 := ⟨(RX3, TX3, 11), RX3, rfl, by decide, cl_X3, aw_1_228, Or.inl rfl⟩
theorem fp_X3_22 : FP RX3 22 4 8 .int := ⟨(RX3, TX3, 11), RX3, rfl, by decide, cl_X3, aw_1_228, Or.inl rfl, rfl, by decide +kernel⟩
theorem fg_X4_100 : FG RX4 100 4 8 := ⟨(RX3, TX3, 11), RX3, rfl, by decide, cl_X3, aw_1_229, Or.inl rfl⟩
theorem fp_X4_100 : FP RX4 100 4 8 .int := ⟨(RX3, TX3, 11), RX3, rfl, by decide, cl_X3, aw_1_229, Or.inl rfl, rfl, by decide +kernel⟩
theorem fg_X3_25 : FG RX3 25 4 9 := ⟨(RX3, TX3, 11), RX3, rfl, by decide, cl_X3, aw_1_230, Or.inl rfl⟩
theorem fp_X3_25 : FP RX3 25 4 9 .int := ⟨(RX3, TX3, 11), RX3, rfl, by decide, cl_X3, aw_1_230, Or.inl rfl, rfl, by decide +kernel⟩
theorem fg_X4_103 : FG RX4 103 4 9 := ⟨(RX3, TX3, 11), RX3, rfl, by decide, cl_X3, aw_1_231, Or.inl rfl⟩
theorem fp_X4_103 : FP RX4 103 4 9 .int := ⟨(RX3, TX3, 11), RX3, rfl, by decide, cl_X3, aw_1_231, Or.inl rfl, rfl, by decide +kernel⟩
theorem fg_X3_28 : FG RX3 28 4 10 := ⟨(RX3, TX3, 11), RX3, rfl, by decide, cl_X3, aw_1_232, Or.inl rfl⟩
theorem fp_X3_28 : FP RX3 28 4 10 .int := ⟨(RX3, TX3, 11), RX3, rfl, by decide, cl_X3, aw_1_232, Or.inl rfl, rfl, by decide +kernel⟩
theorem fg_X4_111 : FG RX4 111 4 10 := ⟨(RX3, TX3, 11), RX3, rfl, by decide, cl_X3, aw_1_233, Or.inl rfl⟩
theorem fp_X4_111 : FP RX4 111 4 10 .int := ⟨(RX3, TX3, 11), RX3, rfl, by decide, cl_X3, aw_1_233, Or.inl rfl, rfl, by decide +kernel⟩
theorem fg_X0_41 : FG RX0 41 1 0 := ⟨(RX0, TX0, 12), RX0, rfl, by decide, cl_X0, aw_2_186, Or.inl rfl⟩
theorem ff_X0_41 : FF RX0 41 1 0 .int := ⟨(RX0, TX0, 12), RX0, rfl, by decide, cl_X0, aw_2_186, rfl, rfl, rfl, by decide +kernel⟩
theorem fg_X4_156 : FG RX4 156 1 0 := ⟨(RX0, TX0, 12), RX0, rfl, by decide, cl_X0, aw_2_187, Or.inl rfl⟩
theorem fg_X0_44 : FG RX0 44 1 1 := ⟨(RX0, TX0, 12), RX0, rfl, by decide, cl_X0, aw_2_188, Or.inl rfl⟩
theorem ff_X0_44 : FF RX0 44 1 1 .int := ⟨(RX0, TX0, 12), RX0, rfl, by decide, cl_X0, aw_2_188, rfl, rfl, rfl, by decide +kernel⟩
theorem fg_X0_47 : FG RX0 47 1 2 := ⟨(RX0, TX0, 12), RX0, rfl, by decide, cl_X0, aw_2_189, Or.inl rfl⟩
theorem ff_X0_47 : FF RX0 47 1 2 .int := ⟨(RX0, TX0, 12), RX0, rfl, by decide, cl_X0, aw_2_189, rfl, rfl, rfl, by decide +kernel⟩
theorem fg_X0_50 : FG RX0 50 1 3 := ⟨(RX0, TX0, 12), RX0, rfl, by decide, cl_X0, aw_2_190, Or.inl rfl⟩
theorem ff_X0_50 : FF RX0 50 1 3 .int := ⟨(RX0, TX0, 12), RX0, rfl, by decide, cl_X0, aw_2_190, rfl, rfl, rfl, by decide +kernel⟩
theorem fg_X4_295 : FG RX4 295 1 3 := ⟨(RX0, TX0, 12), RX0, rfl, by decide, cl_X0, aw_2_191, Or.inl rfl⟩
theorem fg_X0_12 : FG RX0 12 1 4 := ⟨(RX0, TX0, 12), RX0, rfl, by decide, cl_X0, aw_2_192, Or.inl rfl⟩
theorem ff_X0_12 : FF RX0 12 1 4 (.object "Gasvault$Hours") := ⟨(RX0, TX0, 12), RX0, rfl, by decide, cl_X0, aw_2_192, rfl, rfl, rfl, by decide +kernel⟩
theorem fg_X4_145 : FG RX4 145 1 4 := ⟨(RX0, TX0, 12), RX0, rfl, by decide, cl_X0, aw_2_193, Or.inl rfl⟩
theorem fg_X0_18 : FG RX0 18 1 5 := ⟨(RX0, TX0, 12), RX0, rfl, by decide, cl_X0, aw_2_194, Or.inl rfl⟩
theorem fp_X0_18 : FP RX0 18 1 5 .int := ⟨(RX0, TX0, 12), RX0, rfl, by decide, cl_X0, aw_2_194, Or.inl rfl, rfl, by decide +kernel⟩
theorem fg_X4_153 : FG RX4 153 1 5 := ⟨(RX0, TX0, 12), RX0, rfl, by decide, cl_X0, aw_2_195, Or.inl rfl⟩
theorem fp_X4_153 : FP RX4 153 1 5 .int := ⟨(RX0, TX0, 12), RX0, rfl, by decide, cl_X0, aw_2_195, Or.inl rfl, rfl, by decide +kernel⟩
theorem fg_X0_22 : FG RX0 22 1 6 := ⟨(RX0, TX0, 12), RX0, rfl, by decide, cl_X0, aw_2_196, Or.inl rfl⟩
theorem fp_X0_22 : FP RX0 22 1 6 .long := ⟨(RX0, TX0, 12), RX0, rfl, by decide, cl_X0, aw_2_196, Or.inl rfl, rfl, by decide +kernel⟩
theorem fg_X4_208 : FG RX4 208 1 6 := ⟨(RX0, TX0, 12), RX0, rfl, by decide, cl_X0, aw_2_197, Or.inl rfl⟩
theorem fp_X4_208 : FP RX4 208 1 6 .long := ⟨(RX0, TX0, 12), RX0, rfl, by decide, cl_X0, aw_2_197, Or.inl rfl, rfl, by decide +kernel⟩
theorem fg_X0_26 : FG RX0 26 1 7 := ⟨(RX0, TX0, 12), RX0, rfl, by decide, cl_X0, aw_2_198, Or.inl rfl⟩
theorem fp_X0_26 : FP RX0 26 1 7 .long := ⟨(RX0, TX0, 12), RX0, rfl, by decide, cl_X0, aw_2_198, Or.inl rfl, rfl, by decide +kernel⟩
theorem fg_X4_211 : FG RX4 211 1 7 := ⟨(RX0, TX0, 12), RX0, rfl, by decide, cl_X0, aw_2_199, Or.inl rfl⟩
theorem fp_X4_211 : FP RX4 211 1 7 .long := ⟨(RX0, TX0, 12), RX0, rfl, by decide, cl_X0, aw_2_199, Or.inl rfl, rfl, by decide +kernel⟩
theorem fg_X0_29 : FG RX0 29 1 8 := ⟨(RX0, TX0, 12), RX0, rfl, by decide, cl_X0, aw_2_200, Or.inl rfl⟩
theorem fp_X0_29 : FP RX0 29 1 8 .long := ⟨(RX0, TX0, 12), RX0, rfl, by decide, cl_X0, aw_2_200, Or.inl rfl, rfl, by decide +kernel⟩
theorem fg_X4_214 : FG RX4 214 1 8 := ⟨(RX0, TX0, 12), RX0, rfl, by decide, cl_X0, aw_2_201, Or.inl rfl⟩
theorem fp_X4_214 : FP RX4 214 1 8 .long := ⟨(RX0, TX0, 12), RX0, rfl, by decide, cl_X0, aw_2_201, Or.inl rfl, rfl, by decide +kernel⟩
theorem fg_X0_32 : FG RX0 32 1 9 := ⟨(RX0, TX0, 12), RX0, rfl, by decide, cl_X0, aw_2_202, Or.inl rfl⟩
theorem fp_X0_32 : FP RX0 32 1 9 .int := ⟨(RX0, TX0, 12), RX0, rfl, by decide, cl_X0, aw_2_202, Or.inl rfl, rfl, by decide +kernel⟩
theorem fg_X4_220 : FG RX4 220 1 9 := ⟨(RX0, TX0, 12), RX0, rfl, by decide, cl_X0, aw_2_203, Or.inl rfl⟩
theorem fp_X4_220 : FP RX4 220 1 9 .int := ⟨(RX0, TX0, 12), RX0, rfl, by decide, cl_X0, aw_2_203, Or.inl rfl, rfl, by decide +kernel⟩
theorem fg_X0_35 : FG RX0 35 1 10 := ⟨(RX0, TX0, 12), RX0, rfl, by decide, cl_X0, aw_2_204, Or.inl rfl⟩
theorem fp_X0_35 : FP RX0 35 1 10 .int := ⟨(RX0, TX0, 12), RX0, rfl, by decide, cl_X0, aw_2_204, Or.inl rfl, rfl, by decide +kernel⟩
theorem fg_X0_38 : FG RX0 38 1 11 := ⟨(RX0, TX0, 12), RX0, rfl, by decide, cl_X0, aw_2_205, Or.inl rfl⟩
theorem fp_X0_38 : FP RX0 38 1 11 .int := ⟨(RX0, TX0, 12), RX0, rfl, by decide, cl_X0, aw_2_205, Or.inl rfl, rfl, by decide +kernel⟩
theorem fg_X4_223 : FG RX4 223 1 11 := ⟨(RX0, TX0, 12), RX0, rfl, by decide, cl_X0, aw_2_206, Or.inl rfl⟩
theorem fp_X4_223 : FP RX4 223 1 11 .int := ⟨(RX0, TX0, 12), RX0, rfl, by decide, cl_X0, aw_2_206, Or.inl rfl, rfl, by decide +kernel⟩
theorem fg_X2_7 : FG RX2 7 3 0 := ⟨(RX2, TX2, 3), RX2, rfl, by decide, cl_X2, aw_3_38, Or.inl rfl⟩
theorem ff_X2_7 : FF RX2 7 3 0 .int := ⟨(RX2, TX2, 3), RX2, rfl, by decide, cl_X2, aw_3_38, rfl, rfl, rfl, by decide +kernel⟩
theorem fg_X4_262 : FG RX4 262 3 0 := ⟨(RX2, TX2, 3), RX2, rfl, by decide, cl_X2, aw_3_39, Or.inl rfl⟩
theorem fg_X2_13 : FG RX2 13 3 1 := ⟨(RX2, TX2, 3), RX2, rfl, by decide, cl_X2, aw_3_40, Or.inl rfl⟩
theorem ff_X2_13 : FF RX2 13 3 1 .int := ⟨(RX2, TX2, 3), RX2, rfl, by decide, cl_X2, aw_3_40, rfl, rfl, rfl, by decide +kernel⟩
theorem fg_X4_265 : FG RX4 265 3 1 := ⟨(RX2, TX2, 3), RX2, rfl, by decide, cl_X2, aw_3_41, Or.inl rfl⟩
theorem fg_X2_16 : FG RX2 16 3 2 := ⟨(RX2, TX2, 3), RX2, rfl, by decide, cl_X2, aw_3_42, Or.inl rfl⟩
theorem ff_X2_16 : FF RX2 16 3 2 .int := ⟨(RX2, TX2, 3), RX2, rfl, by decide, cl_X2, aw_3_42, rfl, rfl, rfl, by decide +kernel⟩
theorem fg_X4_268 : FG RX4 268 3 2 := ⟨(RX2, TX2, 3), RX2, rfl, by decide, cl_X2, aw_3_43, Or.inl rfl⟩
theorem fg_X5_102 : FG RX5 102 6 0 := ⟨(RX5, TX5, 40), RX5, rfl, by decide, cl_X5, aw_4_50, Or.inl rfl⟩
theorem fp_X5_102 : FP RX5 102 6 0 .int := ⟨(RX5, TX5, 40), RX5, rfl, by decide, cl_X5, aw_4_50, Or.inl rfl, rfl, by decide +kernel⟩
theorem fg_X5_151 : FG RX5 151 6 1 := ⟨(RX5, TX5, 40), RX5, rfl, by decide, cl_X5, aw_4_51, Or.inl rfl⟩
theorem fp_X5_151 : FP RX5 151 6 1 .int := ⟨(RX5, TX5, 40), RX5, rfl, by decide, cl_X5, aw_4_51, Or.inl rfl, rfl, by decide +kernel⟩
theorem fg_X5_105 : FG RX5 105 6 2 := ⟨(RX5, TX5, 40), RX5, rfl, by decide, cl_X5, aw_4_52, Or.inl rfl⟩
theorem fp_X5_105 : FP RX5 105 6 2 .int := ⟨(RX5, TX5, 40), RX5, rfl, by decide, cl_X5, aw_4_52, Or.inl rfl, rfl, by decide +kernel⟩
theorem fg_X5_7 : FG RX5 7 6 3 := ⟨(RX5, TX5, 40), RX5, rfl, by decide, cl_X5, aw_4_53, Or.inl rfl⟩
theorem ff_X5_7 : FF RX5 7 6 3 (.array .int) := ⟨(RX5, TX5, 40), RX5, rfl, by decide, cl_X5, aw_4_53, rfl, rfl, rfl, by decide +kernel⟩
theorem fg_X5_13 : FG RX5 13 6 4 := ⟨(RX5, TX5, 40), RX5, rfl, by decide, cl_X5, aw_4_54, Or.inl rfl⟩
theorem ff_X5_13 : FF RX5 13 6 4 (.array .int) := ⟨(RX5, TX5, 40), RX5, rfl, by decide, cl_X5, aw_4_54, rfl, rfl, rfl, by decide +kernel⟩
theorem fg_X5_16 : FG RX5 16 6 5 := ⟨(RX5, TX5, 40), RX5, rfl, by decide, cl_X5, aw_4_55, Or.inl rfl⟩
theorem ff_X5_16 : FF RX5 16 6 5 (.array .int) := ⟨(RX5, TX5, 40), RX5, rfl, by decide, cl_X5, aw_4_55, rfl, rfl, rfl, by decide +kernel⟩
theorem fg_X5_19 : FG RX5 19 6 6 := ⟨(RX5, TX5, 40), RX5, rfl, by decide, cl_X5, aw_4_56, Or.inl rfl⟩
theorem ff_X5_19 : FF RX5 19 6 6 (.array .int) := ⟨(RX5, TX5, 40), RX5, rfl, by decide, cl_X5, aw_4_56, rfl, rfl, rfl, by decide +kernel⟩
theorem fg_X5_22 : FG RX5 22 6 7 := ⟨(RX5, TX5, 40), RX5, rfl, by decide, cl_X5, aw_4_57, Or.inl rfl⟩
theorem ff_X5_22 : FF RX5 22 6 7 (.array .int) := ⟨(RX5, TX5, 40), RX5, rfl, by decide, cl_X5, aw_4_57, rfl, rfl, rfl, by decide +kernel⟩
theorem fg_X5_25 : FG RX5 25 6 8 := ⟨(RX5, TX5, 40), RX5, rfl, by decide, cl_X5, aw_4_58, Or.inl rfl⟩
theorem ff_X5_25 : FF RX5 25 6 8 (.array .int) := ⟨(RX5, TX5, 40), RX5, rfl, by decide, cl_X5, aw_4_58, rfl, rfl, rfl, by decide +kernel⟩
theorem fg_X5_28 : FG RX5 28 6 9 := ⟨(RX5, TX5, 40), RX5, rfl, by decide, cl_X5, aw_4_59, Or.inl rfl⟩
theorem ff_X5_28 : FF RX5 28 6 9 (.array .int) := ⟨(RX5, TX5, 40), RX5, rfl, by decide, cl_X5, aw_4_59, rfl, rfl, rfl, by decide +kernel⟩
theorem fg_X5_31 : FG RX5 31 6 10 := ⟨(RX5, TX5, 40), RX5, rfl, by decide, cl_X5, aw_4_60, Or.inl rfl⟩
theorem ff_X5_31 : FF RX5 31 6 10 (.array .int) := ⟨(RX5, TX5, 40), RX5, rfl, by decide, cl_X5, aw_4_60, rfl, rfl, rfl, by decide +kernel⟩
theorem fg_X5_34 : FG RX5 34 6 11 := ⟨(RX5, TX5, 40), RX5, rfl, by decide, cl_X5, aw_4_61, Or.inl rfl⟩
theorem ff_X5_34 : FF RX5 34 6 11 (.array .int) := ⟨(RX5, TX5, 40), RX5, rfl, by decide, cl_X5, aw_4_61, rfl, rfl, rfl, by decide +kernel⟩
theorem fg_X5_37 : FG RX5 37 6 12 := ⟨(RX5, TX5, 40), RX5, rfl, by decide, cl_X5, aw_4_62, Or.inl rfl⟩
theorem ff_X5_37 : FF RX5 37 6 12 (.array .int) := ⟨(RX5, TX5, 40), RX5, rfl, by decide, cl_X5, aw_4_62, rfl, rfl, rfl, by decide +kernel⟩
theorem fg_X5_40 : FG RX5 40 6 13 := ⟨(RX5, TX5, 40), RX5, rfl, by decide, cl_X5, aw_4_63, Or.inl rfl⟩
theorem ff_X5_40 : FF RX5 40 6 13 (.array .long) := ⟨(RX5, TX5, 40), RX5, rfl, by decide, cl_X5, aw_4_63, rfl, rfl, rfl, by decide +kernel⟩
theorem fg_X5_44 : FG RX5 44 6 14 := ⟨(RX5, TX5, 40), RX5, rfl, by decide, cl_X5, aw_4_64, Or.inl rfl⟩
theorem ff_X5_44 : FF RX5 44 6 14 (.array .int) := ⟨(RX5, TX5, 40), RX5, rfl, by decide, cl_X5, aw_4_64, rfl, rfl, rfl, by decide +kernel⟩
theorem fg_X5_47 : FG RX5 47 6 15 := ⟨(RX5, TX5, 40), RX5, rfl, by decide, cl_X5, aw_4_65, Or.inl rfl⟩
theorem fp_X5_47 : FP RX5 47 6 15 .int := ⟨(RX5, TX5, 40), RX5, rfl, by decide, cl_X5, aw_4_65, Or.inl rfl, rfl, by decide +kernel⟩
theorem fg_X5_112 : FG RX5 112 6 16 := ⟨(RX5, TX5, 40), RX5, rfl, by decide, cl_X5, aw_4_66, Or.inl rfl⟩
theorem fp_X5_112 : FP RX5 112 6 16 .int := ⟨(RX5, TX5, 40), RX5, rfl, by decide, cl_X5, aw_4_66, Or.inl rfl, rfl, by decide +kernel⟩
theorem fg_X5_51 : FG RX5 51 6 17 := ⟨(RX5, TX5, 40), RX5, rfl, by decide, cl_X5, aw_4_67, Or.inl rfl⟩
theorem ff_X5_51 : FF RX5 51 6 17 (.array .int) := ⟨(RX5, TX5, 40), RX5, rfl, by decide, cl_X5, aw_4_67, rfl, rfl, rfl, by decide +kernel⟩
theorem fg_X5_54 : FG RX5 54 6 18 := ⟨(RX5, TX5, 40), RX5, rfl, by decide, cl_X5, aw_4_68, Or.inl rfl⟩
theorem ff_X5_54 : FF RX5 54 6 18 (.array .int) := ⟨(RX5, TX5, 40), RX5, rfl, by decide, cl_X5, aw_4_68, rfl, rfl, rfl, by decide +kernel⟩
theorem fg_X5_57 : FG RX5 57 6 19 := ⟨(RX5, TX5, 40), RX5, rfl, by decide, cl_X5, aw_4_69, Or.inl rfl⟩
theorem ff_X5_57 : FF RX5 57 6 19 (.array .int) := ⟨(RX5, TX5, 40), RX5, rfl, by decide, cl_X5, aw_4_69, rfl, rfl, rfl, by decide +kernel⟩
theorem fg_X5_60 : FG RX5 60 6 20 := ⟨(RX5, TX5, 40), RX5, rfl, by decide, cl_X5, aw_4_70, Or.inl rfl⟩
theorem ff_X5_60 : FF RX5 60 6 20 (.array .int) := ⟨(RX5, TX5, 40), RX5, rfl, by decide, cl_X5, aw_4_70, rfl, rfl, rfl, by decide +kernel⟩
theorem fg_X5_63 : FG RX5 63 6 21 := ⟨(RX5, TX5, 40), RX5, rfl, by decide, cl_X5, aw_4_71, Or.inl rfl⟩
theorem ff_X5_63 : FF RX5 63 6 21 (.array .int) := ⟨(RX5, TX5, 40), RX5, rfl, by decide, cl_X5, aw_4_71, rfl, rfl, rfl, by decide +kernel⟩
theorem fg_X5_66 : FG RX5 66 6 22 := ⟨(RX5, TX5, 40), RX5, rfl, by decide, cl_X5, aw_4_72, Or.inl rfl⟩
theorem ff_X5_66 : FF RX5 66 6 22 (.array .long) := ⟨(RX5, TX5, 40), RX5, rfl, by decide, cl_X5, aw_4_72, rfl, rfl, rfl, by decide +kernel⟩
theorem fg_X5_69 : FG RX5 69 6 23 := ⟨(RX5, TX5, 40), RX5, rfl, by decide, cl_X5, aw_4_73, Or.inl rfl⟩
theorem ff_X5_69 : FF RX5 69 6 23 (.array .long) := ⟨(RX5, TX5, 40), RX5, rfl, by decide, cl_X5, aw_4_73, rfl, rfl, rfl, by decide +kernel⟩
theorem fg_X5_72 : FG RX5 72 6 24 := ⟨(RX5, TX5, 40), RX5, rfl, by decide, cl_X5, aw_4_74, Or.inl rfl⟩
theorem ff_X5_72 : FF RX5 72 6 24 (.array .long) := ⟨(RX5, TX5, 40), RX5, rfl, by decide, cl_X5, aw_4_74, rfl, rfl, rfl, by decide +kernel⟩
theorem fg_X5_75 : FG RX5 75 6 25 := ⟨(RX5, TX5, 40), RX5, rfl, by decide, cl_X5, aw_4_75, Or.inl rfl⟩
theorem ff_X5_75 : FF RX5 75 6 25 (.array .int) := ⟨(RX5, TX5, 40), RX5, rfl, by decide, cl_X5, aw_4_75, rfl, rfl, rfl, by decide +kernel⟩
theorem fg_X5_78 : FG RX5 78 6 26 := ⟨(RX5, TX5, 40), RX5, rfl, by decide, cl_X5, aw_4_76, Or.inl rfl⟩
theorem ff_X5_78 : FF RX5 78 6 26 (.array .int) := ⟨(RX5, TX5, 40), RX5, rfl, by decide, cl_X5, aw_4_76, rfl, rfl, rfl, by decide +kernel⟩
theorem fg_X5_159 : FG RX5 159 6 27 := ⟨(RX5, TX5, 40), RX5, rfl, by decide, cl_X5, aw_4_77, Or.inl rfl⟩
theorem fp_X5_159 : FP RX5 159 6 27 .int := ⟨(RX5, TX5, 40), RX5, rfl, by decide, cl_X5, aw_4_77, Or.inl rfl, rfl, by decide +kernel⟩
theorem fg_X5_81 : FG RX5 81 6 28 := ⟨(RX5, TX5, 40), RX5, rfl, by decide, cl_X5, aw_4_78, Or.inl rfl⟩
theorem ff_X5_81 : FF RX5 81 6 28 (.array .int) := ⟨(RX5, TX5, 40), RX5, rfl, by decide, cl_X5, aw_4_78, rfl, rfl, rfl, by decide +kernel⟩
theorem fg_X5_84 : FG RX5 84 6 29 := ⟨(RX5, TX5, 40), RX5, rfl, by decide, cl_X5, aw_4_79, Or.inl rfl⟩
theorem ff_X5_84 : FF RX5 84 6 29 (.array .int) := ⟨(RX5, TX5, 40), RX5, rfl, by decide, cl_X5, aw_4_79, rfl, rfl, rfl, by decide +kernel⟩
theorem fg_X5_87 : FG RX5 87 6 30 := ⟨(RX5, TX5, 40), RX5, rfl, by decide, cl_X5, aw_4_80, Or.inl rfl⟩
theorem ff_X5_87 : FF RX5 87 6 30 (.array .int) := ⟨(RX5, TX5, 40), RX5, rfl, by decide, cl_X5, aw_4_80, rfl, rfl, rfl, by decide +kernel⟩
theorem fg_X5_169 : FG RX5 169 6 31 := ⟨(RX5, TX5, 40), RX5, rfl, by decide, cl_X5, aw_4_81, Or.inl rfl⟩
theorem fp_X5_169 : FP RX5 169 6 31 .int := ⟨(RX5, TX5, 40), RX5, rfl, by decide, cl_X5, aw_4_81, Or.inl rfl, rfl, by decide +kernel⟩
theorem fg_X5_172 : FG RX5 172 6 32 := ⟨(RX5, TX5, 40), RX5, rfl, by decide, cl_X5, aw_4_82, Or.inl rfl⟩
theorem fp_X5_172 : FP RX5 172 6 32 .int := ⟨(RX5, TX5, 40), RX5, rfl, by decide, cl_X5, aw_4_82, Or.inl rfl, rfl, by decide +kernel⟩
theorem fg_X5_136 : FG RX5 136 6 33 := ⟨(RX5, TX5, 40), RX5, rfl, by decide, cl_X5, aw_4_83, Or.inl rfl⟩
theorem fp_X5_136 : FP RX5 136 6 33 .long := ⟨(RX5, TX5, 40), RX5, rfl, by decide, cl_X5, aw_4_83, Or.inl rfl, rfl, by decide +kernel⟩
theorem fg_X5_206 : FG RX5 206 6 34 := ⟨(RX5, TX5, 40), RX5, rfl, by decide, cl_X5, aw_4_84, Or.inl rfl⟩
theorem fp_X5_206 : FP RX5 206 6 34 .long := ⟨(RX5, TX5, 40), RX5, rfl, by decide, cl_X5, aw_4_84, Or.inl rfl, rfl, by decide +kernel⟩
theorem fg_X5_203 : FG RX5 203 6 35 := ⟨(RX5, TX5, 40), RX5, rfl, by decide, cl_X5, aw_4_85, Or.inl rfl⟩
theorem fp_X5_203 : FP RX5 203 6 35 .long := ⟨(RX5, TX5, 40), RX5, rfl, by decide, cl_X5, aw_4_85, Or.inl rfl, rfl, by decide +kernel⟩
theorem fg_X5_90 : FG RX5 90 6 36 := ⟨(RX5, TX5, 40), RX5, rfl, by decide, cl_X5, aw_4_86, Or.inl rfl⟩
theorem ff_X5_90 : FF RX5 90 6 36 (.array .int) := ⟨(RX5, TX5, 40), RX5, rfl, by decide, cl_X5, aw_4_86, rfl, rfl, rfl, by decide +kernel⟩
theorem fg_X5_93 : FG RX5 93 6 37 := ⟨(RX5, TX5, 40), RX5, rfl, by decide, cl_X5, aw_4_87, Or.inl rfl⟩
theorem ff_X5_93 : FF RX5 93 6 37 (.array .int) := ⟨(RX5, TX5, 40), RX5, rfl, by decide, cl_X5, aw_4_87, rfl, rfl, rfl, by decide +kernel⟩
theorem fg_X5_96 : FG RX5 96 6 38 := ⟨(RX5, TX5, 40), RX5, rfl, by decide, cl_X5, aw_4_88, Or.inl rfl⟩
theorem ff_X5_96 : FF RX5 96 6 38 (.array .int) := ⟨(RX5, TX5, 40), RX5, rfl, by decide, cl_X5, aw_4_88, rfl, rfl, rfl, by decide +kernel⟩
theorem fg_X5_99 : FG RX5 99 6 39 := ⟨(RX5, TX5, 40), RX5, rfl, by decide, cl_X5, aw_4_89, Or.inl rfl⟩
theorem ff_X5_99 : FF RX5 99 6 39 (.array .int) := ⟨(RX5, TX5, 40), RX5, rfl, by decide, cl_X5, aw_4_89, rfl, rfl, rfl, by decide +kernel⟩
theorem fn_L_8 : FN RL 8 5 11 [.null, .null, .null, .null, .int 0, .int 0, .int 0, .int 0, .long 0, .long 0, .long 0] := ⟨(RX4, TX4, 11), tyX4, rfl, rfl, cl_X4, tyX4_ok, aw_1_22, aw_1_23, aw_1_1, fun j hj => by
  have hj : j < 11 := hj
  match j, hj with
  | 0, _ => rfl
  | 1, _ => rfl
  | 2, _ => rfl
  | 3, _ => rfl
  | 4, _ => rfl
  | 5, _ => rfl
  | 6, _ => rfl
  | 7, _ => rfl
  | 8, _ => rfl
  | 9, _ => rfl
  | 10, _ => rfl
  | j + 11, h => exact absurd h (by omega)⟩
theorem fn_X4_7 : FN RX4 7 0 3 [.int 0, .null, .int 0] := ⟨(RJx4a65c, TJx4a65c, 3), tyJx4a65c, rfl, rfl, cl_Jx4a65c, tyJx4a65c_ok, aw_1_30, aw_1_31, aw_1_4, fun j hj => by
  have hj : j < 3 := hj
  match j, hj with
  | 0, _ => rfl
  | 1, _ => rfl
  | 2, _ => rfl
  | j + 3, h => exact absurd h (by omega)⟩
theorem fn_X4_22 : FN RX4 22 2 1 [.null] := ⟨(RX1, TX1, 1), tyX1, rfl, rfl, cl_X1, tyX1_ok, aw_1_56, aw_1_57, aw_1_5, fun j hj => by
  have hj : j < 1 := hj
  match j, hj with
  | 0, _ => rfl
  | j + 1, h => exact absurd h (by omega)⟩
theorem fn_X4_59 : FN RX4 59 4 11 [.int 0, .int 0, .int 0, .int 0, .int 0, .int 0, .int 0, .long 0, .int 0, .int 0, .int 0] := ⟨(RX3, TX3, 11), tyX3, rfl, rfl, cl_X3, tyX3_ok, aw_1_209, aw_1_210, aw_1_7, fun j hj => by
  have hj : j < 11 := hj
  match j, hj with
  | 0, _ => rfl
  | 1, _ => rfl
  | 2, _ => rfl
  | 3, _ => rfl
  | 4, _ => rfl
  | 5, _ => rfl
  | 6, _ => rfl
  | 7, _ => rfl
  | 8, _ => rfl
  | 9, _ => rfl
  | 10, _ => rfl
  | j + 11, h => exact absurd h (by omega)⟩
theorem fn_X4_133 : FN RX4 133 1 12 [.int 0, .int 0, .int 0, .int 0, .null, .int 0, .long 0, .long 0, .long 0, .int 0, .int 0, .int 0] := ⟨(RX0, TX0, 12), tyX0, rfl, rfl, cl_X0, tyX0_ok, aw_2_178, aw_2_179, aw_1_20, fun j hj => by
  have hj : j < 12 := hj
  match j, hj with
  | 0, _ => rfl
  | 1, _ => rfl
  | 2, _ => rfl
  | 3, _ => rfl
  | 4, _ => rfl
  | 5, _ => rfl
  | 6, _ => rfl
  | 7, _ => rfl
  | 8, _ => rfl
  | 9, _ => rfl
  | 10, _ => rfl
  | 11, _ => rfl
  | j + 12, h => exact absurd h (by omega)⟩
theorem fn_X0_9 : FN RX0 9 2 1 [.null] := ⟨(RX1, TX1, 1), tyX1, rfl, rfl, cl_X1, tyX1_ok, aw_2_184, aw_1_57, aw_1_5, fun j hj => by
  have hj : j < 1 := hj
  match j, hj with
  | 0, _ => rfl
  | j + 1, h => exact absurd h (by omega)⟩
theorem fn_X4_164 : FN RX4 164 3 3 [.int 0, .int 0, .int 0] := ⟨(RX2, TX2, 3), tyX2, rfl, rfl, cl_X2, tyX2_ok, aw_3_32, aw_3_33, aw_1_21, fun j hj => by
  have hj : j < 3 := hj
  match j, hj with
  | 0, _ => rfl
  | 1, _ => rfl
  | 2, _ => rfl
  | j + 3, h => exact absurd h (by omega)⟩
theorem fn_L_87 : FN RL 87 6 40 [.int 0, .int 0, .int 0, .null, .null, .null, .null, .null, .null, .null, .null, .null, .null, .null, .null, .int 0, .int 0, .null, .null, .null, .null, .null, .null, .null, .null, .null, .null, .int 0, .null, .null, .null, .int 0, .int 0, .long 0, .long 0, .long 0, .null, .null, .null, .null] := ⟨(RX5, TX5, 40), tyX5, rfl, rfl, cl_X5, tyX5_ok, aw_4_44, aw_4_45, aw_1_6, fun j hj => by
  have hj : j < 40 := hj
  match j, hj with
  | 0, _ => rfl
  | 1, _ => rfl
  | 2, _ => rfl
  | 3, _ => rfl
  | 4, _ => rfl
  | 5, _ => rfl
  | 6, _ => rfl
  | 7, _ => rfl
  | 8, _ => rfl
  | 9, _ => rfl
  | 10, _ => rfl
  | 11, _ => rfl
  | 12, _ => rfl
  | 13, _ => rfl
  | 14, _ => rfl
  | 15, _ => rfl
  | 16, _ => rfl
  | 17, _ => rfl
  | 18, _ => rfl
  | 19, _ => rfl
  | 20, _ => rfl
  | 21, _ => rfl
  | 22, _ => rfl
  | 23, _ => rfl
  | 24, _ => rfl
  | 25, _ => rfl
  | 26, _ => rfl
  | 27, _ => rfl
  | 28, _ => rfl
  | 29, _ => rfl
  | 30, _ => rfl
  | 31, _ => rfl
  | 32, _ => rfl
  | 33, _ => rfl
  | 34, _ => rfl
  | 35, _ => rfl
  | 36, _ => rfl
  | 37, _ => rfl
  | 38, _ => rfl
  | 39, _ => rfl
  | j + 40, h => exact absurd h (by omega)⟩
theorem ci_L_86 : CI RL 86 yX4_init cX4_init 1 0 := ⟨aw_1_24, aw_1_25, aw_1_1, aw_1_26, rfl, by decide +kernel, by decide +kernel, by decide +kernel⟩
theorem ci_X4_9 : CI RX4 9 yJx4a65c_init_da8c8 cJx4a65c_init_da8c8 1 0 := ⟨aw_1_32, aw_1_33, aw_1_4, aw_1_34, rfl, by decide +kernel, by decide +kernel, by decide +kernel⟩
theorem ci_Jx4a65c_1 : CI RJx4a65c 1 yJxc12de_init_da8c8 cJxc12de_init_da8c8 1 0 := ⟨aw_1_35, aw_1_36, aw_1_3, aw_1_37, rfl, by decide +kernel, by decide +kernel, by decide +kernel⟩
theorem ci_Jxc12de_1 : CI RJxc12de 1 yJxa1e45_init_da8c8 cJxa1e45_init_da8c8 1 0 := ⟨aw_1_38, aw_1_39, aw_1_2, aw_1_40, rfl, by decide +kernel, by decide +kernel, by decide +kernel⟩
theorem cn_X4_24 : CN RX4 24 yX1_init RX4 cX1_init 1 0 := ⟨nw_in nw_1_58 rfl, aw_1_59, aw_1_5, aw_1_60, rfl, by decide +kernel, by decide +kernel, by decide +kernel⟩
theorem cv_L_7 : CV RL 7 RX4 yX4_store cX4_store 8 (some FieldType.int) 6 := ⟨aw_1_106, aw_1_107, aw_1_108, aw_1_1, aw_1_109, rfl, by decide +kernel, by decide +kernel, by decide +kernel⟩
theorem cs_X4_52 : CS RX4 52 yX4_isWithin cX4_isWithin 3 (some FieldType.boolean) 3 := ⟨aw_1_110, aw_1_111, aw_1_1, aw_1_112, by decide +kernel, by decide +kernel, by decide +kernel⟩
theorem cs_X4_58 : CS RX4 58 yX3_leastGasFor cX3_leastGasFor 2 (some FieldType.int) 2 := ⟨aw_1_115, aw_1_116, aw_1_7, aw_1_117, by decide +kernel, by decide +kernel, by decide +kernel⟩
theorem cs_X4_64 : CS RX4 64 yX3_mostGasFor cX3_mostGasFor 2 (some FieldType.int) 2 := ⟨aw_1_118, aw_1_119, aw_1_7, aw_1_120, by decide +kernel, by decide +kernel, by decide +kernel⟩
theorem cv_X4_74 : CV RX4 74 RJx4a65c yJx4a65c_size_8abf5 cJx4a65c_size_8abf5 1 (some FieldType.int) 0 := ⟨aw_1_189, aw_1_190, aw_1_191, aw_1_4, aw_1_192, rfl, by decide +kernel, by decide +kernel, by decide +kernel⟩
theorem ci_X4_83 : CI RX4 83 yX3_init cX3_init 6 5 := ⟨aw_1_211, aw_1_212, aw_1_7, aw_1_213, rfl, by decide +kernel, by decide +kernel, by decide +kernel⟩
theorem cv_X4_86 : CV RX4 86 RX3 yX3_takeIn cX3_takeIn 3 none 2 := ⟨aw_2_17, aw_2_18, aw_2_19, aw_1_7, aw_2_20, rfl, by decide +kernel, by decide +kernel, by decide +kernel⟩
theorem cv_X4_90 : CV RX4 90 RJx4a65c yJx4a65c_add_9ea2d cJx4a65c_add_9ea2d 2 (some FieldType.boolean) 1 := ⟨aw_2_21, aw_2_22, aw_2_23, aw_1_4, aw_2_24, rfl, by decide +kernel, by decide +kernel, by decide +kernel⟩
theorem cv_Jx4a65c_131 : CV RJx4a65c 131 RJx4a65c yJx4a65c_add_72be8 cJx4a65c_add_72be8 4 none 3 := ⟨aw_2_25, aw_2_27, aw_0_1, aw_1_4, aw_2_28, rfl, by decide +kernel, by decide +kernel, by decide +kernel⟩
theorem cv_Jx4a65c_129 : CV RJx4a65c 129 RJx4a65c yJx4a65c_grow_d5877 cJx4a65c_grow_d5877 1 (some (FieldType.array (FieldType.object "java/lang/Object"))) 0 := ⟨aw_2_29, aw_2_31, aw_0_2, aw_1_4, aw_2_32, rfl, by decide +kernel, by decide +kernel, by decide +kernel⟩
theorem cv_Jx4a65c_69 : CV RJx4a65c 69 RJx4a65c yJx4a65c_grow_92f84 cJx4a65c_grow_92f84 4 (some (FieldType.array (FieldType.object "java/lang/Object"))) 1 := ⟨aw_2_33, aw_2_35, aw_0_3, aw_1_4, aw_2_36, rfl, by decide +kernel, by decide +kernel, by decide +kernel⟩
theorem cs_Jx4a65c_73 : CS RJx4a65c 73 yJ8_newLength_cabcc cJ8_newLength_cabcc 4 (some FieldType.int) 3 := ⟨aw_2_37, aw_2_38, aw_1_13, aw_2_39, by decide +kernel, by decide +kernel, by decide +kernel⟩
theorem cs_J8_194 : CS RJ8 194 yJ9_max_7cf53 cJ9_max_7cf53 2 (some FieldType.int) 2 := ⟨aw_2_40, aw_2_41, aw_1_14, aw_2_42, by decide +kernel, by decide +kernel, by decide +kernel⟩
theorem cs_J8_201 : CS RJ8 201 yJ8_hugeLength_7cf53 cJ8_hugeLength_7cf53 3 (some FieldType.int) 2 := ⟨aw_2_44, aw_2_45, aw_1_13, aw_2_46, by decide +kernel, by decide +kernel, by decide +kernel⟩
theorem cs_Jx4a65c_66 : CS RJx4a65c 66 yJ7_copyOf_1904c cJ7_copyOf_1904c 2 (some (FieldType.array (FieldType.object "java/lang/Object"))) 2 := ⟨aw_2_47, aw_2_48, aw_1_15, aw_2_49, by decide +kernel, by decide +kernel, by decide +kernel⟩
theorem cs_J7_300 : CS RJ7 300 yJ7_copyOf_6403c cJ7_copyOf_6403c 4 (some (FieldType.array (FieldType.object "java/lang/Object"))) 3 := ⟨aw_2_64, aw_2_65, aw_1_15, aw_2_66, by decide +kernel, by decide +kernel, by decide +kernel⟩
theorem cs_J7_304 : CS RJ7 304 yJ9_min_7cf53 cJ9_min_7cf53 2 (some FieldType.int) 2 := ⟨aw_2_70, aw_2_71, aw_1_14, aw_2_72, by decide +kernel, by decide +kernel, by decide +kernel⟩
theorem cs_Jx4a65c_79 : CS RJx4a65c 79 yJ9_max_7cf53 cJ9_max_7cf53 2 (some FieldType.int) 2 := ⟨aw_2_76, aw_2_41, aw_1_14, aw_2_42, by decide +kernel, by decide +kernel, by decide +kernel⟩
theorem cv_L_17 : CV RL 17 RX4 yX4_wells cX4_wells 5 (some FieldType.int) 3 := ⟨aw_2_82, aw_2_83, aw_2_84, aw_1_1, aw_2_85, rfl, by decide +kernel, by decide +kernel, by decide +kernel⟩
theorem cv_X4_94 : CV RX4 94 RX4 yX4_storeNumbered cX4_storeNumbered 2 (some (FieldType.object "Gasvault$Store")) 1 := ⟨aw_2_86, aw_2_88, aw_0_4, aw_1_1, aw_2_89, rfl, by decide +kernel, by decide +kernel, by decide +kernel⟩
theorem cv_X4_256 : CV RX4 256 RJx4a65c yJx4a65c_get_915e3 cJx4a65c_get_915e3 2 (some (FieldType.object "java/lang/Object")) 1 := ⟨aw_2_106, aw_2_107, aw_2_108, aw_1_4, aw_2_109, rfl, by decide +kernel, by decide +kernel, by decide +kernel⟩
theorem cs_Jx4a65c_118 : CS RJx4a65c 118 yJ15_checkIndex_7cf53 cJ15_checkIndex_7cf53 2 (some FieldType.int) 2 := ⟨aw_2_110, aw_2_111, aw_1_18, aw_2_112, by decide +kernel, by decide +kernel, by decide +kernel⟩
theorem cs_J15_105 : CS RJ15 105 yJ3_checkIndex_8e157 cJ3_checkIndex_8e157 3 (some FieldType.int) 3 := ⟨aw_2_113, aw_2_114, aw_1_19, aw_2_115, by decide +kernel, by decide +kernel, by decide +kernel⟩
theorem cv_Jx4a65c_123 : CV RJx4a65c 123 RJx4a65c yJx4a65c_elementData_915e3 cJx4a65c_elementData_915e3 2 (some (FieldType.object "java/lang/Object")) 1 := ⟨aw_2_116, aw_2_117, aw_2_118, aw_1_4, aw_2_119, rfl, by decide +kernel, by decide +kernel, by decide +kernel⟩
theorem cv_X4_106 : CV RX4 106 RX3 yX3_rateOut cX3_rateOut 1 (some FieldType.int) 0 := ⟨aw_2_121, aw_2_122, aw_2_123, aw_1_7, aw_2_124, rfl, by decide +kernel, by decide +kernel, by decide +kernel⟩
theorem cv_X3_57 : CV RX3 57 RX3 yX3_pressureNow cX3_pressureNow 2 (some FieldType.int) 0 := ⟨aw_2_125, aw_2_126, aw_2_127, aw_1_7, aw_2_128, rfl, by decide +kernel, by decide +kernel, by decide +kernel⟩
theorem cv_X3_46 : CV RX3 46 RX3 yX3_room cX3_room 1 (some FieldType.int) 0 := ⟨aw_2_129, aw_2_130, aw_2_131, aw_1_7, aw_2_132, rfl, by decide +kernel, by decide +kernel, by decide +kernel⟩
theorem cv_X3_66 : CV RX3 66 RX3 yX3_leastGas cX3_leastGas 1 (some FieldType.int) 0 := ⟨aw_2_133, aw_2_134, aw_2_135, aw_1_7, aw_2_136, rfl, by decide +kernel, by decide +kernel, by decide +kernel⟩
theorem cs_X3_50 : CS RX3 50 yX3_leastGasFor cX3_leastGasFor 2 (some FieldType.int) 2 := ⟨aw_2_137, aw_1_116, aw_1_7, aw_1_117, by decide +kernel, by decide +kernel, by decide +kernel⟩
theorem cv_X3_63 : CV RX3 63 RX3 yX3_rateBy cX3_rateBy 3 (some FieldType.int) 2 := ⟨aw_2_138, aw_2_140, aw_0_5, aw_1_7, aw_2_141, rfl, by decide +kernel, by decide +kernel, by decide +kernel⟩
theorem cs_X3_69 : CS RX3 69 yJ9_min_7cf53 cJ9_min_7cf53 2 (some FieldType.int) 2 := ⟨aw_2_142, aw_2_71, aw_1_14, aw_2_72, by decide +kernel, by decide +kernel, by decide +kernel⟩
theorem cs_X3_74 : CS RX3 74 yJ9_max_7cf53 cJ9_max_7cf53 2 (some FieldType.int) 2 := ⟨aw_2_143, aw_2_41, aw_1_14, aw_2_42, by decide +kernel, by decide +kernel, by decide +kernel⟩
theorem cv_L_23 : CV RL 23 RX4 yX4_leak cX4_leak 5 (some FieldType.int) 2 := ⟨aw_2_147, aw_2_148, aw_2_149, aw_1_1, aw_2_150, rfl, by decide +kernel, by decide +kernel, by decide +kernel⟩
theorem cv_L_27 : CV RL 27 RX4 yX4_leach cX4_leach 4 (some FieldType.int) 2 := ⟨aw_2_155, aw_2_156, aw_2_157, aw_1_1, aw_2_158, rfl, by decide +kernel, by decide +kernel, by decide +kernel⟩
theorem cv_L_30 : CV RL 30 RX4 yX4_heat cX4_heat 3 (some FieldType.int) 1 := ⟨aw_2_164, aw_2_165, aw_2_166, aw_1_1, aw_2_167, rfl, by decide +kernel, by decide +kernel, by decide +kernel⟩
theorem cv_L_34 : CV RL 34 RX4 yX4_customer cX4_customer 5 (some FieldType.int) 4 := ⟨aw_2_172, aw_2_173, aw_2_174, aw_1_1, aw_2_175, rfl, by decide +kernel, by decide +kernel, by decide +kernel⟩
theorem ci_X4_135 : CI RX4 135 yX0_init cX0_init 5 4 := ⟨aw_2_180, aw_2_181, aw_1_20, aw_2_182, rfl, by decide +kernel, by decide +kernel, by decide +kernel⟩
theorem cn_X0_11 : CN RX0 11 yX1_init RX4 cX1_init 1 0 := ⟨nw_in nw_2_185 rfl, aw_1_59, aw_1_5, aw_1_60, rfl, by decide +kernel, by decide +kernel, by decide +kernel⟩
theorem cv_L_38 : CV RL 38 RX4 yX4_nominate cX4_nominate 5 (some FieldType.int) 3 := ⟨aw_2_235, aw_2_236, aw_2_237, aw_1_1, aw_2_238, rfl, by decide +kernel, by decide +kernel, by decide +kernel⟩
theorem cv_X4_138 : CV RX4 138 RX4 yX4_customerNumbered cX4_customerNumbered 2 (some (FieldType.object "Gasvault$Customer")) 1 := ⟨aw_2_239, aw_3_1, aw_0_6, aw_1_1, aw_3_2, rfl, by decide +kernel, by decide +kernel, by decide +kernel⟩
theorem cv_X4_148 : CV RX4 148 RX1 yX1_put cX1_put 5 (some FieldType.int) 2 := ⟨aw_3_6, aw_3_7, aw_3_8, aw_1_5, aw_3_9, rfl, by decide +kernel, by decide +kernel, by decide +kernel⟩
theorem cs_X1_13 : CS RX1 13 yJ9_floorMod_7cf53 cJ9_floorMod_7cf53 3 (some FieldType.int) 2 := ⟨aw_3_10, aw_3_11, aw_1_14, aw_3_12, by decide +kernel, by decide +kernel, by decide +kernel⟩
theorem cv_L_41 : CV RL 41 RX4 yX4_transfer cX4_transfer 6 (some FieldType.int) 3 := ⟨aw_3_16, aw_3_17, aw_3_18, aw_1_1, aw_3_19, rfl, by decide +kernel, by decide +kernel, by decide +kernel⟩
theorem cv_L_44 : CV RL 44 RX4 yX4_law cX4_law 4 (some FieldType.int) 3 := ⟨aw_3_25, aw_3_26, aw_3_27, aw_1_1, aw_3_28, rfl, by decide +kernel, by decide +kernel, by decide +kernel⟩
theorem ci_X4_166 : CI RX4 166 yX2_init cX2_init 4 3 := ⟨aw_3_34, aw_3_35, aw_1_21, aw_3_36, rfl, by decide +kernel, by decide +kernel, by decide +kernel⟩
theorem cv_L_47 : CV RL 47 RX4 yX4_price cX4_price 3 (some FieldType.int) 2 := ⟨aw_3_54, aw_3_55, aw_3_56, aw_1_1, aw_3_57, rfl, by decide +kernel, by decide +kernel, by decide +kernel⟩
theorem cv_L_50 : CV RL 50 RX4 yX4_pass cX4_pass 3 (some FieldType.int) 1 := ⟨aw_3_62, aw_3_63, aw_3_64, aw_1_1, aw_3_65, rfl, by decide +kernel, by decide +kernel, by decide +kernel⟩
theorem cv_X4_175 : CV RX4 175 RX4 yX4_goOneHour cX4_goOneHour 3 none 0 := ⟨aw_3_68, aw_3_70, aw_0_7, aw_1_1, aw_3_71, rfl, by decide +kernel, by decide +kernel, by decide +kernel⟩
theorem cv_X4_217 : CV RX4 217 RX4 yX4_planTheHour cX4_planTheHour 3 none 0 := ⟨aw_3_72, aw_3_74, aw_0_8, aw_1_1, aw_3_75, rfl, by decide +kernel, by decide +kernel, by decide +kernel⟩
theorem cv_X4_271 : CV RX4 271 RX0 yX0_planByRates cX0_planByRates 3 none 1 := ⟨aw_3_76, aw_3_77, aw_3_78, aw_1_20, aw_3_79, rfl, by decide +kernel, by decide +kernel, by decide +kernel⟩
theorem cv_X0_66 : CV RX0 66 RX1 yX1_at cX1_at 2 (some FieldType.int) 1 := ⟨aw_3_80, aw_3_81, aw_3_82, aw_1_5, aw_3_83, rfl, by decide +kernel, by decide +kernel, by decide +kernel⟩
theorem cv_X0_69 : CV RX0 69 RX0 yX0_mostOut cX0_mostOut 2 (some FieldType.int) 1 := ⟨aw_3_84, aw_3_85, aw_3_86, aw_1_20, aw_3_87, rfl, by decide +kernel, by decide +kernel, by decide +kernel⟩
theorem cv_X0_63 : CV RX0 63 RX0 yX0_rateOutWith cX0_rateOutWith 2 (some FieldType.int) 1 := ⟨aw_3_88, aw_3_89, aw_3_90, aw_1_20, aw_3_91, rfl, by decide +kernel, by decide +kernel, by decide +kernel⟩
theorem cs_X0_57 : CS RX0 57 yJ9_min_7cf53 cJ9_min_7cf53 2 (some FieldType.int) 2 := ⟨aw_3_92, aw_2_71, aw_1_14, aw_2_72, by decide +kernel, by decide +kernel, by decide +kernel⟩
theorem cv_X0_72 : CV RX0 72 RX0 yX0_mostIn cX0_mostIn 2 (some FieldType.int) 1 := ⟨aw_3_93, aw_3_94, aw_3_95, aw_1_20, aw_3_96, rfl, by decide +kernel, by decide +kernel, by decide +kernel⟩
theorem cv_X0_53 : CV RX0 53 RX0 yX0_rateInWith cX0_rateInWith 2 (some FieldType.int) 1 := ⟨aw_3_97, aw_3_98, aw_3_99, aw_1_20, aw_3_100, rfl, by decide +kernel, by decide +kernel, by decide +kernel⟩
theorem cs_X0_75 : CS RX0 75 yJ9_max_7cf53 cJ9_max_7cf53 2 (some FieldType.int) 2 := ⟨aw_3_101, aw_2_41, aw_1_14, aw_2_42, by decide +kernel, by decide +kernel, by decide +kernel⟩
theorem cv_X4_275 : CV RX4 275 RX4 yX4_plannedAboveTheLaw cX4_plannedAboveTheLaw 4 (some FieldType.int) 0 := ⟨aw_3_102, aw_3_104, aw_0_9, aw_1_1, aw_3_105, rfl, by decide +kernel, by decide +kernel, by decide +kernel⟩
theorem cv_X4_246 : CV RX4 246 RX4 yX4_leastByLaw cX4_leastByLaw 3 (some FieldType.int) 0 := ⟨aw_3_106, aw_3_108, aw_0_10, aw_1_1, aw_3_109, rfl, by decide +kernel, by decide +kernel, by decide +kernel⟩
theorem cv_X4_292 : CV RX4 292 RX0 yX0_sizeOfPlan cX0_sizeOfPlan 2 (some FieldType.int) 1 := ⟨aw_3_110, aw_3_111, aw_3_112, aw_1_20, aw_3_113, rfl, by decide +kernel, by decide +kernel, by decide +kernel⟩
theorem cv_X4_243 : CV RX4 243 RX4 yX4_allInventories cX4_allInventories 3 (some FieldType.int) 0 := ⟨aw_3_114, aw_3_116, aw_0_11, aw_1_1, aw_3_117, rfl, by decide +kernel, by decide +kernel, by decide +kernel⟩
theorem cs_X4_249 : CS RX4 249 yJ9_max_7cf53 cJ9_max_7cf53 2 (some FieldType.int) 2 := ⟨aw_3_118, aw_2_41, aw_1_14, aw_2_42, by decide +kernel, by decide +kernel, by decide +kernel⟩
theorem cv_X4_278 : CV RX4 278 RX4 yX4_curtail cX4_curtail 8 none 3 := ⟨aw_3_119, aw_3_121, aw_0_12, aw_1_1, aw_3_122, rfl, by decide +kernel, by decide +kernel, by decide +kernel⟩
theorem cv_X4_298 : CV RX4 298 RX0 yX0_cutBack cX0_cutBack 5 (some FieldType.int) 3 := ⟨aw_3_123, aw_3_124, aw_3_125, aw_1_20, aw_3_126, rfl, by decide +kernel, by decide +kernel, by decide +kernel⟩
theorem cv_X0_78 : CV RX0 78 RX0 yX0_sizeOfPlan cX0_sizeOfPlan 2 (some FieldType.int) 1 := ⟨aw_3_127, aw_3_111, aw_3_112, aw_1_20, aw_3_113, rfl, by decide +kernel, by decide +kernel, by decide +kernel⟩
theorem cv_X4_282 : CV RX4 282 RX4 yX4_plannedNet cX4_plannedNet 3 (some FieldType.int) 0 := ⟨aw_3_128, aw_3_130, aw_0_13, aw_1_1, aw_3_131, rfl, by decide +kernel, by decide +kernel, by decide +kernel⟩
theorem cs_X4_285 : CS RX4 285 yJ9_abs_0f7a4 cJ9_abs_0f7a4 1 (some FieldType.int) 1 := ⟨aw_3_132, aw_3_133, aw_1_14, aw_3_134, by decide +kernel, by decide +kernel, by decide +kernel⟩
theorem cv_X4_288 : CV RX4 288 RX4 yX4_capacityOfPlant cX4_capacityOfPlant 6 (some FieldType.int) 1 := ⟨aw_3_135, aw_3_137, aw_0_14, aw_1_1, aw_3_138, rfl, by decide +kernel, by decide +kernel, by decide +kernel⟩
theorem cv_X4_181 : CV RX4 181 RX3 yX3_rateIn cX3_rateIn 1 (some FieldType.int) 0 := ⟨aw_3_139, aw_3_140, aw_3_141, aw_1_7, aw_3_142, rfl, by decide +kernel, by decide +kernel, by decide +kernel⟩
theorem cv_X3_60 : CV RX3 60 RX3 yX3_mostGas cX3_mostGas 1 (some FieldType.int) 0 := ⟨aw_3_143, aw_3_144, aw_3_145, aw_1_7, aw_3_146, rfl, by decide +kernel, by decide +kernel, by decide +kernel⟩
theorem cs_X3_54 : CS RX3 54 yX3_mostGasFor cX3_mostGasFor 2 (some FieldType.int) 2 := ⟨aw_3_147, aw_1_119, aw_1_7, aw_1_120, by decide +kernel, by decide +kernel, by decide +kernel⟩
theorem cv_X4_302 : CV RX4 302 RX4 yX4_flowIn cX4_flowIn 6 none 1 := ⟨aw_3_148, aw_3_150, aw_0_15, aw_1_1, aw_3_151, rfl, by decide +kernel, by decide +kernel, by decide +kernel⟩
theorem cs_X4_317 : CS RX4 317 yJ9_min_7cf53 cJ9_min_7cf53 2 (some FieldType.int) 2 := ⟨aw_3_152, aw_2_71, aw_1_14, aw_2_72, by decide +kernel, by decide +kernel, by decide +kernel⟩
theorem cv_X4_305 : CV RX4 305 RX4 yX4_flowOut cX4_flowOut 5 none 1 := ⟨aw_3_153, aw_3_155, aw_0_16, aw_1_1, aw_3_156, rfl, by decide +kernel, by decide +kernel, by decide +kernel⟩
theorem cv_X4_320 : CV RX4 320 RX3 yX3_giveAway cX3_giveAway 3 (some FieldType.int) 1 := ⟨aw_3_157, aw_3_158, aw_3_159, aw_1_7, aw_3_160, rfl, by decide +kernel, by decide +kernel, by decide +kernel⟩
theorem cv_X4_308 : CV RX4 308 RX0 yX0_settle cX0_settle 2 none 1 := ⟨aw_3_161, aw_3_162, aw_3_163, aw_1_20, aw_3_164, rfl, by decide +kernel, by decide +kernel, by decide +kernel⟩
theorem cv_X0_82 : CV RX0 82 RX1 yX1_put cX1_put 5 (some FieldType.int) 2 := ⟨aw_3_165, aw_3_7, aw_3_8, aw_1_5, aw_3_9, rfl, by decide +kernel, by decide +kernel, by decide +kernel⟩
theorem cv_X4_311 : CV RX4 311 RX3 yX3_loseInAnHour cX3_loseInAnHour 2 (some FieldType.int) 0 := ⟨aw_3_166, aw_3_167, aw_3_168, aw_1_7, aw_3_169, rfl, by decide +kernel, by decide +kernel, by decide +kernel⟩
theorem cv_X3_77 : CV RX3 77 RX3 yX3_giveAway cX3_giveAway 3 (some FieldType.int) 1 := ⟨aw_3_170, aw_3_158, aw_3_159, aw_1_7, aw_3_160, rfl, by decide +kernel, by decide +kernel, by decide +kernel⟩
theorem cv_X4_314 : CV RX4 314 RX4 yX4_endTheDay cX4_endTheDay 2 none 0 := ⟨aw_3_171, aw_3_173, aw_0_17, aw_1_1, aw_3_174, rfl, by decide +kernel, by decide +kernel, by decide +kernel⟩
theorem cv_X4_323 : CV RX4 323 RX3 yX3_loseAtDaysEnd cX3_loseAtDaysEnd 1 (some FieldType.int) 0 := ⟨aw_3_175, aw_3_176, aw_3_177, aw_1_7, aw_3_178, rfl, by decide +kernel, by decide +kernel, by decide +kernel⟩
theorem cv_X3_81 : CV RX3 81 RX3 yX3_moveWater cX3_moveWater 2 none 0 := ⟨aw_3_179, aw_3_181, aw_0_18, aw_1_7, aw_3_182, rfl, by decide +kernel, by decide +kernel, by decide +kernel⟩
theorem cv_X3_84 : CV RX3 84 RX3 yX3_creep cX3_creep 3 none 0 := ⟨aw_3_183, aw_3_185, aw_0_19, aw_1_7, aw_3_186, rfl, by decide +kernel, by decide +kernel, by decide +kernel⟩
theorem cs_X3_89 : CS RX3 89 yJ9_max_f86c9 cJ9_max_f86c9 4 (some FieldType.long) 2 := ⟨aw_3_188, aw_3_189, aw_1_14, aw_3_190, by decide +kernel, by decide +kernel, by decide +kernel⟩
theorem cv_L_53 : CV RL 53 RX4 yX4_pressure cX4_pressure 2 (some FieldType.int) 1 := ⟨aw_3_194, aw_3_195, aw_3_196, aw_1_1, aw_3_197, rfl, by decide +kernel, by decide +kernel, by decide +kernel⟩
theorem cv_X4_178 : CV RX4 178 RX3 yX3_pressureNow cX3_pressureNow 2 (some FieldType.int) 0 := ⟨aw_3_198, aw_2_126, aw_2_127, aw_1_7, aw_2_128, rfl, by decide +kernel, by decide +kernel, by decide +kernel⟩
theorem cv_L_56 : CV RL 56 RX4 yX4_rate cX4_rate 4 (some FieldType.int) 2 := ⟨aw_3_202, aw_3_203, aw_3_204, aw_1_1, aw_3_205, rfl, by decide +kernel, by decide +kernel, by decide +kernel⟩
theorem cv_L_60 : CV RL 60 RX4 yX4_mix cX4_mix 3 (some FieldType.int) 1 := ⟨aw_3_209, aw_3_210, aw_3_211, aw_1_1, aw_3_212, rfl, by decide +kernel, by decide +kernel, by decide +kernel⟩
theorem cv_L_63 : CV RL 63 RX4 yX4_ofStore cX4_ofStore 4 (some FieldType.long) 2 := ⟨aw_3_216, aw_3_217, aw_3_218, aw_1_1, aw_3_219, rfl, by decide +kernel, by decide +kernel, by decide +kernel⟩
theorem cv_X4_187 : CV RX4 187 RX3 yX3_room cX3_room 1 (some FieldType.int) 0 := ⟨aw_3_220, aw_2_130, aw_2_131, aw_1_7, aw_2_132, rfl, by decide +kernel, by decide +kernel, by decide +kernel⟩
theorem cv_X4_193 : CV RX4 193 RX3 yX3_leastGas cX3_leastGas 1 (some FieldType.int) 0 := ⟨aw_3_221, aw_2_134, aw_2_135, aw_1_7, aw_2_136, rfl, by decide +kernel, by decide +kernel, by decide +kernel⟩
theorem cv_X4_196 : CV RX4 196 RX3 yX3_mostGas cX3_mostGas 1 (some FieldType.int) 0 := ⟨aw_3_222, aw_3_144, aw_3_145, aw_1_7, aw_3_146, rfl, by decide +kernel, by decide +kernel, by decide +kernel⟩
theorem cv_L_67 : CV RL 67 RX4 yX4_ofCustomer cX4_ofCustomer 4 (some FieldType.long) 2 := ⟨aw_3_227, aw_3_228, aw_3_229, aw_1_1, aw_3_230, rfl, by decide +kernel, by decide +kernel, by decide +kernel⟩
theorem cv_X4_201 : CV RX4 201 RX0 yX0_rateInWith cX0_rateInWith 2 (some FieldType.int) 1 := ⟨aw_3_231, aw_3_98, aw_3_99, aw_1_20, aw_3_100, rfl, by decide +kernel, by decide +kernel, by decide +kernel⟩
theorem cv_X4_205 : CV RX4 205 RX0 yX0_rateOutWith cX0_rateOutWith 2 (some FieldType.int) 1 := ⟨aw_3_232, aw_3_89, aw_3_90, aw_1_20, aw_3_91, rfl, by decide +kernel, by decide +kernel, by decide +kernel⟩
theorem cv_L_70 : CV RL 70 RX4 yX4_flow cX4_flow 3 (some FieldType.int) 1 := ⟨aw_3_236, aw_3_237, aw_3_238, aw_1_1, aw_3_239, rfl, by decide +kernel, by decide +kernel, by decide +kernel⟩
theorem cv_L_73 : CV RL 73 RX4 yX4_why cX4_why 3 (some FieldType.int) 1 := ⟨aw_4_3, aw_4_4, aw_4_5, aw_1_1, aw_4_6, rfl, by decide +kernel, by decide +kernel, by decide +kernel⟩
theorem cv_L_76 : CV RL 76 RX4 yX4_worth cX4_worth 4 (some FieldType.long) 2 := ⟨aw_4_10, aw_4_11, aw_4_12, aw_1_1, aw_4_13, rfl, by decide +kernel, by decide +kernel, by decide +kernel⟩
theorem cv_X4_226 : CV RX4 226 RX4 yX4_bestSum cX4_bestSum 11 (some FieldType.long) 4 := ⟨aw_4_14, aw_4_16, aw_0_20, aw_1_1, aw_4_17, rfl, by decide +kernel, by decide +kernel, by decide +kernel⟩
theorem cv_X4_326 : CV RX4 326 RX1 yX1_at cX1_at 2 (some FieldType.int) 1 := ⟨aw_4_18, aw_3_81, aw_3_82, aw_1_5, aw_3_83, rfl, by decide +kernel, by decide +kernel, by decide +kernel⟩
theorem cv_X4_329 : CV RX4 329 RX0 yX0_mostIn cX0_mostIn 2 (some FieldType.int) 1 := ⟨aw_4_19, aw_3_94, aw_3_95, aw_1_20, aw_3_96, rfl, by decide +kernel, by decide +kernel, by decide +kernel⟩
theorem cs_X4_234 : CS RX4 234 yJ9_max_f86c9 cJ9_max_f86c9 4 (some FieldType.long) 2 := ⟨aw_4_20, aw_3_189, aw_1_14, aw_3_190, by decide +kernel, by decide +kernel, by decide +kernel⟩
theorem cv_X4_332 : CV RX4 332 RX0 yX0_mostOut cX0_mostOut 2 (some FieldType.int) 1 := ⟨aw_4_21, aw_3_85, aw_3_86, aw_1_20, aw_3_87, rfl, by decide +kernel, by decide +kernel, by decide +kernel⟩
theorem cv_L_79 : CV RL 79 RX4 yX4_worthAnew cX4_worthAnew 8 (some FieldType.long) 2 := ⟨aw_4_25, aw_4_26, aw_4_27, aw_1_1, aw_4_28, rfl, by decide +kernel, by decide +kernel, by decide +kernel⟩
theorem cv_X4_230 : CV RX4 230 RX4 yX4_sumOfWay cX4_sumOfWay 11 (some FieldType.long) 3 := ⟨aw_4_29, aw_4_31, aw_0_21, aw_1_1, aw_4_32, rfl, by decide +kernel, by decide +kernel, by decide +kernel⟩
theorem cv_L_82 : CV RL 82 RX4 yX4_of cX4_of 2 (some FieldType.long) 1 := ⟨aw_4_36, aw_4_37, aw_4_38, aw_1_1, aw_4_39, rfl, by decide +kernel, by decide +kernel, by decide +kernel⟩
theorem cv_X4_240 : CV RX4 240 RX4 yX4_gasInAllStores cX4_gasInAllStores 3 (some FieldType.int) 0 := ⟨aw_4_40, aw_4_42, aw_0_22, aw_1_1, aw_4_43, rfl, by decide +kernel, by decide +kernel, by decide +kernel⟩
theorem ci_L_89 : CI RL 89 yX5_init cX5_init 1 0 := ⟨aw_4_46, aw_4_47, aw_1_6, aw_4_48, rfl, by decide +kernel, by decide +kernel, by decide +kernel⟩
theorem cv_L_96 : CV RL 96 RX5 yX5_thrown cX5_thrown 1 (some FieldType.int) 0 := ⟨aw_4_172, aw_4_173, aw_4_174, aw_1_6, aw_4_175, rfl, by decide +kernel, by decide +kernel, by decide +kernel⟩
theorem cv_L_95 : CV RL 95 RX5 yX5_store cX5_store 9 (some FieldType.int) 6 := ⟨aw_4_176, aw_4_177, aw_4_178, aw_1_6, aw_4_179, rfl, by decide +kernel, by decide +kernel, by decide +kernel⟩
theorem cs_X5_108 : CS RX5 108 yX5_isIn cX5_isIn 3 (some FieldType.boolean) 3 := ⟨aw_4_180, aw_4_181, aw_1_6, aw_4_182, by decide +kernel, by decide +kernel, by decide +kernel⟩
theorem cs_X5_126 : CS RX5 126 yX5_leastGas cX5_leastGas 2 (some FieldType.int) 2 := ⟨aw_4_185, aw_4_186, aw_1_6, aw_4_187, by decide +kernel, by decide +kernel, by decide +kernel⟩
theorem cs_X5_122 : CS RX5 122 yX5_mostGas cX5_mostGas 2 (some FieldType.int) 2 := ⟨aw_4_188, aw_4_189, aw_1_6, aw_4_190, by decide +kernel, by decide +kernel, by decide +kernel⟩
theorem cv_X5_133 : CV RX5 133 RX5 yX5_holds cX5_holds 2 (some FieldType.boolean) 1 := ⟨aw_4_191, aw_4_193, aw_0_23, aw_1_6, aw_4_194, rfl, by decide +kernel, by decide +kernel, by decide +kernel⟩
theorem cv_L_103 : CV RL 103 RX5 yX5_wells cX5_wells 5 (some FieldType.int) 3 := ⟨aw_4_195, aw_4_196, aw_4_197, aw_1_6, aw_4_198, rfl, by decide +kernel, by decide +kernel, by decide +kernel⟩
theorem cv_X5_140 : CV RX5 140 RX5 yX5_isStore cX5_isStore 2 (some FieldType.boolean) 1 := ⟨aw_4_199, aw_4_201, aw_0_24, aw_1_6, aw_4_202, rfl, by decide +kernel, by decide +kernel, by decide +kernel⟩
theorem cv_X5_143 : CV RX5 143 RX5 yX5_rateOf cX5_rateOf 8 (some FieldType.int) 2 := ⟨aw_4_203, aw_4_205, aw_0_25, aw_1_6, aw_4_206, rfl, by decide +kernel, by decide +kernel, by decide +kernel⟩
theorem cv_X5_119 : CV RX5 119 RX5 yX5_pressureOf cX5_pressureOf 2 (some FieldType.int) 1 := ⟨aw_4_207, aw_4_209, aw_0_26, aw_1_6, aw_4_210, rfl, by decide +kernel, by decide +kernel, by decide +kernel⟩
theorem cv_X5_115 : CV RX5 115 RX5 yX5_roomOf cX5_roomOf 2 (some FieldType.int) 1 := ⟨aw_4_211, aw_4_213, aw_0_27, aw_1_6, aw_4_214, rfl, by decide +kernel, by decide +kernel, by decide +kernel⟩
theorem cv_L_107 : CV RL 107 RX5 yX5_leak cX5_leak 4 (some FieldType.int) 2 := ⟨aw_4_216, aw_4_217, aw_4_218, aw_1_6, aw_4_219, rfl, by decide +kernel, by decide +kernel, by decide +kernel⟩
theorem cv_L_110 : CV RL 110 RX5 yX5_leach cX5_leach 6 (some FieldType.int) 2 := ⟨aw_4_220, aw_4_221, aw_4_222, aw_1_6, aw_4_223, rfl, by decide +kernel, by decide +kernel, by decide +kernel⟩
theorem cv_L_114 : CV RL 114 RX5 yX5_heat cX5_heat 3 (some FieldType.int) 1 := ⟨aw_4_224, aw_4_225, aw_4_226, aw_1_6, aw_4_227, rfl, by decide +kernel, by decide +kernel, by decide +kernel⟩
theorem cv_L_118 : CV RL 118 RX5 yX5_customer cX5_customer 6 (some FieldType.int) 4 := ⟨aw_4_228, aw_4_229, aw_4_230, aw_1_6, aw_4_231, rfl, by decide +kernel, by decide +kernel, by decide +kernel⟩
theorem cv_L_121 : CV RL 121 RX5 yX5_nominate cX5_nominate 7 (some FieldType.int) 3 := ⟨aw_4_232, aw_4_233, aw_4_234, aw_1_6, aw_4_235, rfl, by decide +kernel, by decide +kernel, by decide +kernel⟩
theorem cv_X5_155 : CV RX5 155 RX5 yX5_isCustomer cX5_isCustomer 2 (some FieldType.boolean) 1 := ⟨aw_4_237, aw_4_239, aw_0_28, aw_1_6, aw_5_0, rfl, by decide +kernel, by decide +kernel, by decide +kernel⟩
theorem cv_L_124 : CV RL 124 RX5 yX5_transfer cX5_transfer 7 (some FieldType.int) 3 := ⟨aw_5_1, aw_5_2, aw_5_3, aw_1_6, aw_5_4, rfl, by decide +kernel, by decide +kernel, by decide +kernel⟩
theorem cv_L_127 : CV RL 127 RX5 yX5_law cX5_law 5 (some FieldType.int) 3 := ⟨aw_5_5, aw_5_6, aw_5_7, aw_1_6, aw_5_8, rfl, by decide +kernel, by decide +kernel, by decide +kernel⟩
theorem cv_L_130 : CV RL 130 RX5 yX5_price cX5_price 5 (some FieldType.int) 2 := ⟨aw_5_10, aw_5_11, aw_5_12, aw_1_6, aw_5_13, rfl, by decide +kernel, by decide +kernel, by decide +kernel⟩
theorem cv_L_133 : CV RL 133 RX5 yX5_pass cX5_pass 3 (some FieldType.int) 1 := ⟨aw_5_14, aw_5_15, aw_5_16, aw_1_6, aw_5_17, rfl, by decide +kernel, by decide +kernel, by decide +kernel⟩
theorem cv_X5_229 : CV RX5 229 RX5 yX5_goesBy cX5_goesBy 3 none 0 := ⟨aw_5_18, aw_5_20, aw_0_29, aw_1_6, aw_5_21, rfl, by decide +kernel, by decide +kernel, by decide +kernel⟩
theorem cv_X5_217 : CV RX5 217 RX5 yX5_lays cX5_lays 5 none 0 := ⟨aw_5_22, aw_5_24, aw_0_30, aw_1_6, aw_5_25, rfl, by decide +kernel, by decide +kernel, by decide +kernel⟩
theorem cv_X5_175 : CV RX5 175 RX5 yX5_laysFirst cX5_laysFirst 5 none 1 := ⟨aw_5_26, aw_5_28, aw_0_31, aw_1_6, aw_5_29, rfl, by decide +kernel, by decide +kernel, by decide +kernel⟩
theorem cv_X5_165 : CV RX5 165 RX5 yX5_rateWith cX5_rateWith 4 (some FieldType.int) 3 := ⟨aw_5_30, aw_5_32, aw_0_32, aw_1_6, aw_5_33, rfl, by decide +kernel, by decide +kernel, by decide +kernel⟩
theorem cs_X5_162 : CS RX5 162 yX5_lesser cX5_lesser 2 (some FieldType.int) 2 := ⟨aw_5_36, aw_5_37, aw_1_6, aw_5_38, by decide +kernel, by decide +kernel, by decide +kernel⟩
theorem cv_X5_179 : CV RX5 179 RX5 yX5_lawNow cX5_lawNow 3 (some FieldType.int) 0 := ⟨aw_5_39, aw_5_41, aw_0_33, aw_1_6, aw_5_42, rfl, by decide +kernel, by decide +kernel, by decide +kernel⟩
theorem cv_X5_183 : CV RX5 183 RX5 yX5_all cX5_all 4 (some FieldType.long) 0 := ⟨aw_5_43, aw_5_45, aw_0_34, aw_1_6, aw_5_46, rfl, by decide +kernel, by decide +kernel, by decide +kernel⟩
theorem cv_X5_187 : CV RX5 187 RX5 yX5_sum cX5_sum 4 (some FieldType.int) 1 := ⟨aw_5_47, aw_5_49, aw_0_35, aw_1_6, aw_5_50, rfl, by decide +kernel, by decide +kernel, by decide +kernel⟩
theorem cv_X5_191 : CV RX5 191 RX5 yX5_curtails cX5_curtails 8 none 3 := ⟨aw_5_51, aw_5_53, aw_0_36, aw_1_6, aw_5_54, rfl, by decide +kernel, by decide +kernel, by decide +kernel⟩
theorem cv_X5_195 : CV RX5 195 RX5 yX5_can cX5_can 6 (some FieldType.long) 1 := ⟨aw_5_55, aw_5_57, aw_0_37, aw_1_6, aw_5_58, rfl, by decide +kernel, by decide +kernel, by decide +kernel⟩
theorem cv_X5_220 : CV RX5 220 RX5 yX5_flows cX5_flows 5 none 1 := ⟨aw_5_59, aw_5_61, aw_0_38, aw_1_6, aw_5_62, rfl, by decide +kernel, by decide +kernel, by decide +kernel⟩
theorem cv_X5_209 : CV RX5 209 RX5 yX5_gets cX5_gets 3 none 2 := ⟨aw_5_63, aw_5_65, aw_0_39, aw_1_6, aw_5_66, rfl, by decide +kernel, by decide +kernel, by decide +kernel⟩
theorem cv_X5_199 : CV RX5 199 RX5 yX5_loses cX5_loses 3 none 2 := ⟨aw_5_67, aw_5_69, aw_0_40, aw_1_6, aw_5_70, rfl, by decide +kernel, by decide +kernel, by decide +kernel⟩
theorem cv_X5_223 : CV RX5 223 RX5 yX5_leaks cX5_leaks 2 none 1 := ⟨aw_5_71, aw_5_73, aw_0_41, aw_1_6, aw_5_74, rfl, by decide +kernel, by decide +kernel, by decide +kernel⟩
theorem cv_X5_212 : CV RX5 212 RX5 yX5_isLost cX5_isLost 3 none 2 := ⟨aw_5_75, aw_5_77, aw_0_42, aw_1_6, aw_5_78, rfl, by decide +kernel, by decide +kernel, by decide +kernel⟩
theorem cv_X5_226 : CV RX5 226 RX5 yX5_endsDay cX5_endsDay 5 none 1 := ⟨aw_5_79, aw_5_81, aw_0_43, aw_1_6, aw_5_82, rfl, by decide +kernel, by decide +kernel, by decide +kernel⟩
theorem cv_L_136 : CV RL 136 RX5 yX5_pressure cX5_pressure 2 (some FieldType.int) 1 := ⟨aw_5_84, aw_5_85, aw_5_86, aw_1_6, aw_5_87, rfl, by decide +kernel, by decide +kernel, by decide +kernel⟩
theorem cv_L_140 : CV RL 140 RX5 yX5_rate cX5_rate 3 (some FieldType.int) 2 := ⟨aw_5_88, aw_5_89, aw_5_90, aw_1_6, aw_5_91, rfl, by decide +kernel, by decide +kernel, by decide +kernel⟩
theorem cv_L_143 : CV RL 143 RX5 yX5_mix cX5_mix 2 (some FieldType.int) 1 := ⟨aw_5_92, aw_5_93, aw_5_94, aw_1_6, aw_5_95, rfl, by decide +kernel, by decide +kernel, by decide +kernel⟩
theorem cv_L_146 : CV RL 146 RX5 yX5_ofStore cX5_ofStore 3 (some FieldType.long) 2 := ⟨aw_5_96, aw_5_97, aw_5_98, aw_1_6, aw_5_99, rfl, by decide +kernel, by decide +kernel, by decide +kernel⟩
theorem cv_L_149 : CV RL 149 RX5 yX5_ofCustomer cX5_ofCustomer 3 (some FieldType.long) 2 := ⟨aw_5_100, aw_5_101, aw_5_102, aw_1_6, aw_5_103, rfl, by decide +kernel, by decide +kernel, by decide +kernel⟩
theorem cv_L_152 : CV RL 152 RX5 yX5_flow cX5_flow 2 (some FieldType.int) 1 := ⟨aw_5_104, aw_5_105, aw_5_106, aw_1_6, aw_5_107, rfl, by decide +kernel, by decide +kernel, by decide +kernel⟩
theorem cv_L_155 : CV RL 155 RX5 yX5_why cX5_why 2 (some FieldType.int) 1 := ⟨aw_5_108, aw_5_109, aw_5_110, aw_1_6, aw_5_111, rfl, by decide +kernel, by decide +kernel, by decide +kernel⟩
theorem cv_L_158 : CV RL 158 RX5 yX5_worth cX5_worth 5 (some FieldType.long) 2 := ⟨aw_5_112, aw_5_113, aw_5_114, aw_1_6, aw_5_115, rfl, by decide +kernel, by decide +kernel, by decide +kernel⟩
theorem cv_X5_232 : CV RX5 232 RX5 yX5_bestOf cX5_bestOf 16 (some FieldType.long) 3 := ⟨aw_5_116, aw_5_118, aw_0_44, aw_1_6, aw_5_119, rfl, by decide +kernel, by decide +kernel, by decide +kernel⟩
theorem cv_L_161 : CV RL 161 RX5 yX5_worthAnew cX5_worthAnew 3 (some FieldType.long) 2 := ⟨aw_5_120, aw_5_121, aw_5_122, aw_1_6, aw_5_123, rfl, by decide +kernel, by decide +kernel, by decide +kernel⟩
theorem cv_X5_236 : CV RX5 236 RX5 yX5_worth cX5_worth 5 (some FieldType.long) 2 := ⟨aw_5_124, aw_5_113, aw_5_114, aw_1_6, aw_5_115, rfl, by decide +kernel, by decide +kernel, by decide +kernel⟩
theorem cv_L_164 : CV RL 164 RX5 yX5_of cX5_of 5 (some FieldType.long) 1 := ⟨aw_5_125, aw_5_126, aw_5_127, aw_1_6, aw_5_128, rfl, by decide +kernel, by decide +kernel, by decide +kernel⟩
theorem sw_X4_69 : (RX4, 69, "an argument of the store is out of range") ∈ SW := sw_in tw_1_162
theorem sw_X4_80 : (RX4, 80, "no more stores fit") ∈ SW := sw_in tw_1_202
theorem sw_X4_253 : (RX4, 253, "no such store") ∈ SW := sw_in tw_2_99
theorem sw_X4_98 : (RX4, 98, "many or strength is out of range") ∈ SW := sw_in tw_2_120
theorem sw_X4_109 : (RX4, 109, "units is out of range") ∈ SW := sw_in tw_2_151
theorem sw_X4_114 : (RX4, 114, "more is out of range") ∈ SW := sw_in tw_2_159
theorem sw_X4_125 : (RX4, 125, "only an empty cavern can be leached, up to the greatest volume") ∈ SW := sw_in tw_2_160
theorem sw_X4_127 : (RX4, 127, "heat is out of range") ∈ SW := sw_in tw_2_168
theorem sw_X4_129 : (RX4, 129, "an argument of the customer is out of range") ∈ SW := sw_in tw_2_176
theorem sw_X4_131 : (RX4, 131, "no more customers fit") ∈ SW := sw_in tw_2_177
theorem sw_X4_260 : (RX4, 260, "no such customer") ∈ SW := sw_in tw_3_3
theorem sw_X4_143 : (RX4, 143, "hour or units is out of range") ∈ SW := sw_in tw_3_5
theorem sw_X4_151 : (RX4, 151, "both are the same, or units is out of range") ∈ SW := sw_in tw_3_20
theorem sw_X4_157 : (RX4, 157, "the one has less, or the other one has no room for it") ∈ SW := sw_in tw_3_21
theorem sw_X4_160 : (RX4, 160, "an argument of the law is out of range") ∈ SW := sw_in tw_3_30
theorem sw_X4_162 : (RX4, 162, "no more laws fit") ∈ SW := sw_in tw_3_31
theorem sw_X4_169 : (RX4, 169, "hour or cents is out of range") ∈ SW := sw_in tw_3_58
theorem sw_X4_171 : (RX4, 171, "hours is out of range") ∈ SW := sw_in tw_3_66
theorem sw_X4_173 : (RX4, 173, "the hour would be above the last one") ∈ SW := sw_in tw_3_67
theorem sw_X4_199 : (RX4, 199, "what is out of range") ∈ SW := sw_in tw_3_223
end
section
/-! THE CLASS'S OWN EXCEPTIONS -/
abbrev nmE : List String := ["java/lang/RuntimeException", "java/lang/Exception"]
def TH (own : String) (ik ic : Nat) (cls : String) : Prop := Cond.classLink own ik cls ∈ AW ∧ Cond.initialized cls ∈ AW ∧ (vx_atS own ic cls nmE).all (fun w => decide (w ∈ AW) || decide (w ∈ NW)) = true ∧ (vx_atS own ic cls nmE).all vx_ot = true ∧ vx_ot (Cond.classLink own ik cls) = true ∧ vx_ot (Cond.initialized cls) = true ∧ Bundle.fit cls = true
theorem nmE_fit : ∀ n ∈ nmE, Bundle.fit n = true := by decide +kernel
section YTHROW
variable {Ω : OmT} {κ : KxT} {Φ : AH → Prop} {hR : AH} {cs sl pc : Nat} {L : List (Nat × Value)} {st : List Value} {own : String} {cc : ByteArray} {ret : Option FieldType} {rm : Room} {Ψ : Option Value → AH → Prop} {Ξ : String → AH → Prop}
set_option maxHeartbeats 4000000 in
theorem y_throw (C : Cx Ω κ own cc) (E : Ce Ω κ ret rm hR Ψ Ξ) {cls text : String} {ik is ic : Nat} (th : TH own ik ic cls) (sw : (own, is, text) ∈ SW)
    (d0 : decode cc pc = .ok (.new ik, 3)) (d3 : decode cc (pc + 3) = .ok (.dup, 1)) (d4 : decode cc (pc + 4) = .ok (.ldc is, 2)) (d6 : decode cc (pc + 6) = .ok (.invokespecial ic, 3)) (d9 : decode cc (pc + 9) = .ok (.athrow, 1))
    (hf : 5 < rm.frames) (hl : (st.map fun v => v.category).sum + 82 ≤ rm.locals) (hc : cs + 1 ≤ rm.cells) (hs : sl + 6 ≤ rm.slots) (hΞ : ∀ h, Φ h → Ξ cls h) : Y Ω κ Φ hR cs sl pc L st := by
  intro h H locs ls a1 b1 c1 d1
  obtain ⟨t1, t2, t3, t4, t5, t6, t7⟩ := th
  have hts := C.2.2.2.2.1
  have hW := C.2.2.2.2.2.1
  rw [E.2.2.2]
  refine vx_throwS (A := OmA Ω) (own := own) (cls := cls) (text := text) (names := nmE) (ik := ik) (is := is) (ic := ic) (sa := OmS Ω own is) C.1 C.2.1 hW.2.2.1 C.2.2.2.1 t7 nmE_fit (hts _ t1) (hts _ t2) (hW.2.2.2.2.1 _ sw) (fun w hw => ?_) (fun w hw => ?_) hW.2.2.2.2.2.2.2.1 hW.2.2.2.2.2.2.2.2.1 c1 (by rw [C.2.2.1]; exact d1.1) d0 d3 d4 d6 d9 (fun x hx => (E.2.2.1 x hx).elim) (by rw [E.2.1]; exact hf) (by rw [E.2.1]; exact hl) (by rw [E.2.1]; exact hc) (by rw [E.2.1]; exact hs) C.2.2.2.2.2.2 (fun t hvm hsz hk => ⟨⟨h, hΞ h a1, ?_⟩, ?_⟩) c1.2.2 hc hs
  · have g := List.all_eq_true.mp t3 w hw
    rw [Bool.or_eq_true, decide_eq_true_eq, decide_eq_true_eq] at g
    rcases g with g | g
    · exact hts w g
    · exact va_Nw.use (nw_on g) (hW.2.2.2.1 w g)
  · rcases List.mem_cons.mp hw with rfl | hw
    · exact t5
    rcases List.mem_cons.mp hw with rfl | hw
    · exact t6
    · exact List.all_eq_true.mp t4 w hw
  · exact ⟨b1.1.kept (fun a e ha => hk a (b1.1.lt ha)), b1.2.1.kept (fun a e ha => hk a (b1.2.1.lt ha)), b1.2.2⟩
  · exact ⟨Nat.le_trans c1.1 hsz, fun q q1 q2 => (hk q (Nat.lt_of_lt_of_le q1 c1.1)).trans (c1.2.1 q q1 q2)⟩
set_option maxHeartbeats 4000000 in
theorem y_throwW (C : Cx Ω κ own cc) (E : Ce Ω κ ret rm hR Ψ Ξ) {cls text : String} {ik is ic : Nat} (th : TH own ik ic cls) (sw : (own, is, text) ∈ SW)
    (d0 : decode cc pc = .ok (.new ik, 3)) (d3 : decode cc (pc + 3) = .ok (.dup, 1)) (d4 : decode cc (pc + 4) = .ok (.ldc_w is, 3)) (d6 : decode cc (pc + 7) = .ok (.invokespecial ic, 3)) (d9 : decode cc (pc + 10) = .ok (.athrow, 1))
    (hf : 5 < rm.frames) (hl : (st.map fun v => v.category).sum + 82 ≤ rm.locals) (hc : cs + 1 ≤ rm.cells) (hs : sl + 6 ≤ rm.slots) (hΞ : ∀ h, Φ h → Ξ cls h) : Y Ω κ Φ hR cs sl pc L st := by
  intro h H locs ls a1 b1 c1 d1
  obtain ⟨t1, t2, t3, t4, t5, t6, t7⟩ := th
  have hts := C.2.2.2.2.1
  have hW := C.2.2.2.2.2.1
  rw [E.2.2.2]
  refine vx_throwSW (A := OmA Ω) (own := own) (cls := cls) (text := text) (names := nmE) (ik := ik) (is := is) (ic := ic) (sa := OmS Ω own is) C.1 C.2.1 hW.2.2.1 C.2.2.2.1 t7 nmE_fit (hts _ t1) (hts _ t2) (hW.2.2.2.2.1 _ sw) (fun w hw => ?_) (fun w hw => ?_) hW.2.2.2.2.2.2.2.1 hW.2.2.2.2.2.2.2.2.1 c1 (by rw [C.2.2.1]; exact d1.1) d0 d3 d4 d6 d9 (fun x hx => (E.2.2.1 x hx).elim) (by rw [E.2.1]; exact hf) (by rw [E.2.1]; exact hl) (by rw [E.2.1]; exact hc) (by rw [E.2.1]; exact hs) C.2.2.2.2.2.2 (fun t hvm hsz hk => ⟨⟨h, hΞ h a1, ?_⟩, ?_⟩) c1.2.2 hc hs
  · have g := List.all_eq_true.mp t3 w hw
    rw [Bool.or_eq_true, decide_eq_true_eq, decide_eq_true_eq] at g
    rcases g with g | g
    · exact hts w g
    · exact va_Nw.use (nw_on g) (hW.2.2.2.1 w g)
  · rcases List.mem_cons.mp hw with rfl | hw
    · exact t5
    rcases List.mem_cons.mp hw with rfl | hw
    · exact t6
    · exact List.all_eq_true.mp t4 w hw
  · exact ⟨b1.1.kept (fun a e ha => hk a (b1.1.lt ha)), b1.2.1.kept (fun a e ha => hk a (b1.2.1.lt ha)), b1.2.2⟩
  · exact ⟨Nat.le_trans c1.1 hsz, fun q q1 q2 => (hk q (Nat.lt_of_lt_of_le q1 c1.1)).trans (c1.2.1 q q1 q2)⟩
end YTHROW
theorem th_IA : TH RX4 67 71 sIA := ⟨aw_1_121, aw_1_11, by decide +kernel, by decide +kernel, rfl, rfl, by decide +kernel⟩
theorem th_IS : TH RX4 78 82 sIS := ⟨aw_1_193, aw_1_12, by decide +kernel, by decide +kernel, rfl, rfl, by decide +kernel⟩
theorem th_IB : TH RX4 251 255 sIB := ⟨aw_2_90, aw_1_17, by decide +kernel, by decide +kernel, rfl, rfl, by decide +kernel⟩
end
section
/-! THE NUMBERS OF A HOUSE: by field and place; the reference's objects hold them -/
abbrev ZT : Type := Nat → Nat → Int
abbrev JT : Type := Nat → Nat → Int64
def zu (σ : ZT) (f i : Nat) (x : Int) : ZT := fun g j => if g = f then (if j = i then x else σ g j) else σ g j
def ju (τ : JT) (f i : Nat) (x : Int64) : JT := fun g j => if g = f then (if j = i then x else τ g j) else τ g j
theorem zu_n {σ : ZT} {f i g : Nat} {x : Int} (h : g ≠ f) : zu σ f i x g = σ g := by funext j; exact if_neg h
theorem zu_f {σ : ZT} {f i g j : Nat} {x : Int} (h : g ≠ f) : zu σ f i x g j = σ g j := if_neg h
theorem zu_s {σ : ZT} {f i : Nat} {x : Int} : zu σ f i x f i = x := by unfold zu; rw [if_pos rfl, if_pos rfl]
theorem zu_j {σ : ZT} {f i j : Nat} {x : Int} (h : j ≠ i) : zu σ f i x f j = σ f j := by unfold zu; rw [if_pos rfl, if_neg h]
theorem ju_n {σ : JT} {f i g : Nat} {x : Int64} (h : g ≠ f) : ju σ f i x g = σ g := by funext j; exact if_neg h
theorem ju_f {σ : JT} {f i g j : Nat} {x : Int64} (h : g ≠ f) : ju σ f i x g j = σ g j := if_neg h
theorem ju_s {σ : JT} {f i : Nat} {x : Int64} : ju σ f i x f i = x := by unfold ju; rw [if_pos rfl, if_pos rfl]
theorem ju_j {σ : JT} {f i j : Nat} {x : Int64} (h : j ≠ i) : ju σ f i x f j = σ f j := by unfold ju; rw [if_pos rfl, if_neg h]
theorem zu_upd {σ : ZT} {f i : Nat} {x : Int} : upd (fun k => iv (σ f k)) i (iv x) = fun k => iv (zu σ f i x f k) := by
  funext j
  unfold upd zu
  rw [if_pos rfl]
  by_cases h : j = i
  · rw [if_pos h, if_pos h]
  · rw [if_neg h, if_neg h]
theorem ju_upd {σ : JT} {f i : Nat} {x : Int64} : vp_updL (σ f) i x = ju σ f i x f := by
  funext j
  unfold vp_updL ju
  rw [if_pos rfl]
def mI (f : Nat) : Bool := decide (f ∈ [3, 4, 5, 6, 7, 8, 9, 10, 11, 12, 14, 17, 18, 19, 20, 21, 25, 26, 28, 29, 30, 36, 37, 38, 39])
def mJ (f : Nat) : Bool := decide (f ∈ [13, 22, 23, 24])
def mS (f : Nat) : Bool := decide (f ∈ [0, 1, 2, 15, 16, 27, 31, 32])
def mT (f : Nat) : Bool := decide (f ∈ [33, 34, 35])
def mlen (f : Nat) : Nat := if f = 25 then 384 else if f = 26 then 64 else if f < 15 then 5 else if 28 ≤ f ∧ f ≤ 30 then 20 else 6
theorem mI_lt {f : Nat} (h : mI f = true) : f < 40 := by
  rcases Nat.lt_or_ge f 40 with q | q
  · exact q
  · have h := of_decide_eq_true h; simp only [List.mem_cons, List.not_mem_nil, or_false] at h; omega
theorem mIS {f g : Nat} (h : mI f = true) (k : mS g = true) : f ≠ g := by
  intro e; subst e
  have h := of_decide_eq_true h; have k := of_decide_eq_true k; simp only [List.mem_cons, List.not_mem_nil, or_false] at h k; omega
theorem mIJ {f g : Nat} (h : mI f = true) (k : mJ g = true) : f ≠ g := by
  intro e; subst e
  have h := of_decide_eq_true h; have k := of_decide_eq_true k; simp only [List.mem_cons, List.not_mem_nil, or_false] at h k; omega
theorem mJT {f g : Nat} (h : mJ f = true) (k : mT g = true) : f ≠ g := by
  intro e; subst e
  have h := of_decide_eq_true h; have k := of_decide_eq_true k; simp only [List.mem_cons, List.not_mem_nil, or_false] at h k; omega
abbrev mfs (ma : Nat → Nat) (σ : ZT) (τ : JT) : List Value := [.int (iv (σ 0 0)), .int (iv (σ 1 0)), .int (iv (σ 2 0)), .ref (ma 3), .ref (ma 4), .ref (ma 5), .ref (ma 6), .ref (ma 7), .ref (ma 8), .ref (ma 9), .ref (ma 10), .ref (ma 11), .ref (ma 12), .ref (ma 13), .ref (ma 14), .int (iv (σ 15 0)), .int (iv (σ 16 0)), .ref (ma 17), .ref (ma 18), .ref (ma 19), .ref (ma 20), .ref (ma 21), .ref (ma 22), .ref (ma 23), .ref (ma 24), .ref (ma 25), .ref (ma 26), .int (iv (σ 27 0)), .ref (ma 28), .ref (ma 29), .ref (ma 30), .int (iv (σ 31 0)), .int (iv (σ 32 0)), .long (τ 33 0), .long (τ 34 0), .long (τ 35 0), .ref (ma 36), .ref (ma 37), .ref (ma 38), .ref (ma 39)]
/-- the reference at M, its rows at ma, holds σ and τ -/
def InvM (Ω : OmT) (M : Nat) (ma : Nat → Nat) (σ : ZT) (τ : JT) (h : AH) : Prop :=
  h M = some (.inr (6, mfs ma σ τ)) ∧ (∀ f, mI f = true → h (ma f) = some (.inl (OmI Ω, mlen f, .inl (fun k => iv (σ f k))))) ∧ (∀ f, mJ f = true → h (ma f) = some (.inl (OmJ Ω, mlen f, .inr (.inl (τ f))))) ∧
  (∀ f g, mI f = true → mI g = true → ma f = ma g → f = g) ∧ (∀ f g, mJ f = true → mJ g = true → ma f = ma g → f = g)
theorem va_ij {c1 c2 : ClassId} {n1 n2 : Nat} {f : Nat → Int32} {g : (Nat → Int64) ⊕ (Nat → UInt32) ⊕ (Nat → UInt64) ⊕ (Nat → Option Nat)} : (Sum.inl (c1, n1, Sum.inl f) : va_E) ≠ Sum.inl (c2, n2, Sum.inr g) := fun h => by
  have q := congrArg (fun e : va_E => match e with | .inl a => (match a.2.2 with | .inl _ => true | .inr _ => false) | .inr _ => false) h
  cases q
theorem va_ie {a : ClassId × vp_A} {b : Nat × List Value} : (Sum.inl a : va_E) ≠ Sum.inr b := fun h => by cases h
section YMODEL
variable {Ω : OmT} {κ : KxT} {hR : AH} {cs sl pc M : Nat} {ma : Nat → Nat} {σ : ZT} {τ : JT} {L : List (Nat × Value)} {st : List Value} {own : String} {cc : ByteArray} {f k : Nat} {x z : Int} {y : Int64} {h : AH}
theorem InvM.iast (hi : InvM Ω M ma σ τ h) (hf : mI f = true) : InvM Ω M ma (zu σ f k x) τ (hset h (ma f) (.inl (OmI Ω, mlen f, .inl (upd (fun k => iv (σ f k)) k (iv x))))) := by
  obtain ⟨h1, h2, h3, h4, h5⟩ := hi
  refine ⟨?_, fun g hg => ?_, fun g hg => ?_, h4, h5⟩
  · have e : mfs ma (zu σ f k x) τ = mfs ma σ τ := by
      have q : ∀ s, mS s = true → zu σ f k x s = σ s := fun s hs => zu_n (fun e => mIS hf hs e.symm)
      unfold mfs
      rw [q 0 rfl, q 1 rfl, q 2 rfl, q 15 rfl, q 16 rfl, q 27 rfl, q 31 rfl, q 32 rfl]
    rw [e]
    exact hset_d h1 (h2 f hf) (fun q => va_ie q.symm)
  · by_cases e : g = f
    · subst e; rw [hset_s, zu_upd]
    · rw [hset_n (fun q => e (h4 g f hg hf q)), zu_n e]; exact h2 g hg
  · exact hset_d (h3 g hg) (h2 f hf) va_ij.symm
theorem InvM.last (hi : InvM Ω M ma σ τ h) (hf : mJ f = true) : InvM Ω M ma σ (ju τ f k y) (hset h (ma f) (.inl (OmJ Ω, mlen f, .inr (.inl (vp_updL (τ f) k y))))) := by
  obtain ⟨h1, h2, h3, h4, h5⟩ := hi
  refine ⟨?_, fun g hg => ?_, fun g hg => ?_, h4, h5⟩
  · have e : mfs ma σ (ju τ f k y) = mfs ma σ τ := by
      have q : ∀ s, mT s = true → ju τ f k y s = τ s := fun s hs => ju_n (fun e => mJT hf hs e.symm)
      unfold mfs
      rw [q 33 rfl, q 34 rfl, q 35 rfl]
    rw [e]
    exact hset_d h1 (h3 f hf) (fun q => va_ie q.symm)
  · exact hset_d (h2 g hg) (h3 f hf) va_ij
  · by_cases e : g = f
    · subst e; rw [hset_s, ju_upd]
    · rw [hset_n (fun q => e (h5 g f hg hf q)), ju_n e]; exact h3 g hg
theorem InvM.putI (hi : InvM Ω M ma σ τ h) (hf : mS f = true) : InvM Ω M ma (zu σ f 0 x) τ (hset h M (.inr (6, (mfs ma σ τ).set f (.int (iv x))))) := by
  obtain ⟨h1, h2, h3, h4, h5⟩ := hi
  refine ⟨?_, fun g hg => ?_, fun g hg => ?_, h4, h5⟩
  · rw [hset_s]
    have k := of_decide_eq_true hf
    simp only [List.mem_cons, List.not_mem_nil, or_false] at k
    rcases k with rfl | rfl | rfl | rfl | rfl | rfl | rfl | rfl <;> rfl
  · rw [zu_n (mIS hg hf)]
    exact hset_d (h2 g hg) h1 va_ie
  · exact hset_d (h3 g hg) h1 va_ie
theorem InvM.putJ (hi : InvM Ω M ma σ τ h) (hf : mT f = true) : InvM Ω M ma σ (ju τ f 0 y) (hset h M (.inr (6, (mfs ma σ τ).set f (.long y)))) := by
  obtain ⟨h1, h2, h3, h4, h5⟩ := hi
  refine ⟨?_, fun g hg => ?_, fun g hg => ?_, h4, h5⟩
  · rw [hset_s]
    have k := of_decide_eq_true hf
    simp only [List.mem_cons, List.not_mem_nil, or_false] at k
    rcases k with rfl | rfl | rfl <;> rfl
  · exact hset_d (h2 g hg) h1 va_ie
  · rw [ju_n (mJT hg hf)]
    exact hset_d (h3 g hg) h1 va_ie
theorem m_iald (C : Cx Ω κ own cc) (f k : Nat) (hf : mI f = true) (hz : z = (k : Int)) (hk : k < mlen f) (dg : decode cc pc = .ok (.iaload, 1)) (kk : Y Ω κ (InvM Ω M ma σ τ) hR cs sl (pc + 1) L (.int (iv (σ f k)) :: st)) : Y Ω κ (InvM Ω M ma σ τ) hR cs sl pc L (.int (iv z) :: .ref (ma f) :: st) := by
  have h4 : mlen f ≤ 384 := by unfold mlen; split <;> first | omega | (split <;> first | omega | (split <;> first | omega | (split <;> omega)))
  subst hz
  exact y_iald C dg (by omega) (by omega) (fun h hi => ⟨_, _, hi.2.1 f hf, hk, rfl⟩) kk
theorem m_lald (C : Cx Ω κ own cc) (f k : Nat) (hf : mJ f = true) (hz : z = (k : Int)) (hk : k < mlen f) (dg : decode cc pc = .ok (.laload, 1)) (kk : Y Ω κ (InvM Ω M ma σ τ) hR cs sl (pc + 1) L (.long (τ f k) :: st)) : Y Ω κ (InvM Ω M ma σ τ) hR cs sl pc L (.int (iv z) :: .ref (ma f) :: st) := by
  have h4 : mlen f ≤ 384 := by unfold mlen; split <;> first | omega | (split <;> first | omega | (split <;> first | omega | (split <;> omega)))
  subst hz
  exact y_lald C dg (by omega) (by omega) (fun h hi => ⟨_, _, hi.2.2.1 f hf, hk, rfl⟩) kk
theorem m_iast (C : Cx Ω κ own cc) (f k : Nat) (hf : mI f = true) (hz : z = (k : Int)) (hk : k < mlen f) (dg : decode cc pc = .ok (.iastore, 1)) (kk : Y Ω κ (InvM Ω M ma (zu σ f k x) τ) hR cs sl (pc + 1) L st) : Y Ω κ (InvM Ω M ma σ τ) hR cs sl pc L (.int (iv x) :: .int (iv z) :: .ref (ma f) :: st) := by
  have h4 : mlen f ≤ 384 := by unfold mlen; split <;> first | omega | (split <;> first | omega | (split <;> first | omega | (split <;> omega)))
  subst hz
  exact y_iast C dg (by omega) (by omega) (fun h hi => ⟨_, _, hi.2.1 f hf, hk, hi.iast hf⟩) kk
theorem m_last (C : Cx Ω κ own cc) (f k : Nat) (hf : mJ f = true) (hz : z = (k : Int)) (hk : k < mlen f) (dg : decode cc pc = .ok (.lastore, 1)) (kk : Y Ω κ (InvM Ω M ma σ (ju τ f k y)) hR cs sl (pc + 1) L st) : Y Ω κ (InvM Ω M ma σ τ) hR cs sl pc L (.long y :: .int (iv z) :: .ref (ma f) :: st) := by
  have h4 : mlen f ≤ 384 := by unfold mlen; split <;> first | omega | (split <;> first | omega | (split <;> first | omega | (split <;> omega)))
  subst hz
  exact y_last C dg (by omega) (by omega) (fun h hi => ⟨_, _, hi.2.2.1 f hf, hk, hi.last hf⟩) kk
theorem m_putI (C : Cx Ω κ own cc) {idx : Nat} (f : Nat) (hf : mS f = true) (fp : FP own idx 6 f .int) (dg : decode cc pc = .ok (.putfield idx, 3)) (kk : Y Ω κ (InvM Ω M ma (zu σ f 0 x) τ) hR cs sl (pc + 3) L st) : Y Ω κ (InvM Ω M ma σ τ) hR cs sl pc L (.int (iv x) :: .ref M :: st) :=
  y_put C fp dg rfl rfl (fun h hi => ⟨_, hi.1, by have k := of_decide_eq_true hf; simp only [List.mem_cons, List.not_mem_nil, or_false] at k; show f < 40; omega, hi.putI hf⟩) kk
theorem m_putJ (C : Cx Ω κ own cc) {idx : Nat} (f : Nat) (hf : mT f = true) (fp : FP own idx 6 f .long) (dg : decode cc pc = .ok (.putfield idx, 3)) (kk : Y Ω κ (InvM Ω M ma σ (ju τ f 0 y)) hR cs sl (pc + 3) L st) : Y Ω κ (InvM Ω M ma σ τ) hR cs sl pc L (.long y :: .ref M :: st) :=
  y_put C fp dg rfl rfl (fun h hi => ⟨_, hi.1, by have k := of_decide_eq_true hf; simp only [List.mem_cons, List.not_mem_nil, or_false] at k; show f < 40; omega, hi.putJ hf⟩) kk
end YMODEL
end
section
/-! WHAT A HOUSE DOES, in numbers -/
section YJOIN
variable {Ω : OmT} {κ : KxT} {Φ Φ' : AH → Prop} {hR : AH} {cs sl pc pcj : Nat} {L : List (Nat × Value)} {st : List Value}
theorem y_joinI {P : Int → Prop} (k : ∀ v, P v → Y Ω κ Φ hR cs sl pcj L (.int (iv v) :: st)) (b : (∀ v, P v → Y Ω κ Φ hR cs sl pcj L (.int (iv v) :: st)) → Y Ω κ Φ hR cs sl pc L st) : Y Ω κ Φ hR cs sl pc L st := b k
theorem y_joinB {P : Bool → Prop} (k : ∀ v, P v → Y Ω κ Φ hR cs sl pcj L (.int (iv (bz v)) :: st)) (b : (∀ v, P v → Y Ω κ Φ hR cs sl pcj L (.int (iv (bz v)) :: st)) → Y Ω κ Φ hR cs sl pc L st) : Y Ω κ Φ hR cs sl pc L st := b k
theorem y_joinL {P : Int → Prop} (k : ∀ v, P v → Y Ω κ Φ hR cs sl pcj L (.long (jv v) :: st)) (b : (∀ v, P v → Y Ω κ Φ hR cs sl pcj L (.long (jv v) :: st)) → Y Ω κ Φ hR cs sl pc L st) : Y Ω κ Φ hR cs sl pc L st := b k
theorem y_joinJ {P : Int64 → Prop} (k : ∀ v, P v → Y Ω κ Φ hR cs sl pcj L (.long v :: st)) (b : (∀ v, P v → Y Ω κ Φ hR cs sl pcj L (.long v :: st)) → Y Ω κ Φ hR cs sl pc L st) : Y Ω κ Φ hR cs sl pc L st := b k
theorem y_joinU (k : Y Ω κ Φ' hR cs sl pcj L st) (b : Y Ω κ Φ' hR cs sl pcj L st → Y Ω κ Φ hR cs sl pc L st) : Y Ω κ Φ hR cs sl pc L st := b k
end YJOIN
theorem mulb {a b A B : Int} (h1 : 0 ≤ a) (h2 : a ≤ A) (h3 : 0 ≤ b) (h4 : b ≤ B) : 0 ≤ a * b ∧ a * b ≤ A * B := ⟨Int.mul_nonneg h1 h3, Int.mul_le_mul h2 h4 h3 (by omega)⟩
def roomZ (σ : ZT) (k : Nat) : Int := σ 4 k - σ 5 k
def leastZ (p r : Int) : Int := (p * r + 99) / 100
def mostZ (p r : Int) : Int := p * r / 100
def pressZ (σ : ZT) (k : Nat) : Int := 100 * σ 6 k / roomZ σ k
def byZ (σ : ZT) (k : Nat) (b : Bool) : Int := if b = true then σ 8 k - pressZ σ k else pressZ σ k - σ 7 k
def mstZ (σ : ZT) (k : Nat) (b : Bool) : Int := if b = true then mostZ (σ 8 k) (roomZ σ k) - σ 6 k else σ 6 k - leastZ (σ 7 k) (roomZ σ k)
def rateZ (σ : ZT) (k : Nat) (b : Bool) : Int := if byZ σ k b ≤ 0 ∨ mstZ σ k b ≤ 0 then 0 else min (σ 10 k * σ 11 k * byZ σ k b / 100) (mstZ σ k b)
/-- a store that is as it may be; but gas may be above its most -/
def StO0 (σ : ZT) (k : Nat) : Prop := 0 ≤ σ 3 k ∧ σ 3 k ≤ 2 ∧ 1 ≤ σ 4 k ∧ σ 4 k ≤ 100000 ∧ 0 ≤ σ 5 k ∧ 1 ≤ σ 4 k - σ 5 k ∧ 0 ≤ σ 6 k ∧ σ 6 k ≤ 1000000 ∧ 0 ≤ σ 7 k ∧ σ 7 k ≤ σ 8 k ∧ σ 8 k ≤ 1000 ∧ 0 ≤ σ 9 k ∧ σ 9 k ≤ 1000000 ∧ 0 ≤ σ 10 k ∧ σ 10 k ≤ 100 ∧ 0 ≤ σ 11 k ∧ σ 11 k ≤ 1000 ∧ 0 ≤ σ 12 k ∧ σ 12 k ≤ 1000
def StOk (σ : ZT) (k : Nat) : Prop := StO0 σ k ∧ σ 6 k ≤ mostZ (σ 8 k) (roomZ σ k) ∧ (σ 3 k = 0 ∨ σ 5 k = 0)
theorem st_room {σ : ZT} {k : Nat} (h : StO0 σ k) : 1 ≤ roomZ σ k ∧ roomZ σ k ≤ 100000 := by
  obtain ⟨-, -, h1, h2, h3, h4, -⟩ := h
  unfold roomZ; omega
theorem mz_b {p r : Int} (h1 : 0 ≤ p) (h2 : p ≤ 1000) (h3 : 1 ≤ r) (h4 : r ≤ 100000) : 0 ≤ p * r ∧ p * r ≤ 100000000 ∧ 0 ≤ mostZ p r ∧ mostZ p r ≤ 1000000 ∧ 0 ≤ leastZ p r ∧ leastZ p r ≤ 1000000 := by
  have h := mulb h1 h2 (by omega : 0 ≤ r) h4
  unfold mostZ leastZ
  omega
theorem st_most {σ : ZT} {k : Nat} (h : StO0 σ k) : 0 ≤ mostZ (σ 8 k) (roomZ σ k) ∧ mostZ (σ 8 k) (roomZ σ k) ≤ 1000000 := by
  have r := st_room h
  obtain ⟨-, -, -, -, -, -, -, -, h7, h8, h9, -⟩ := h
  have q := mz_b (p := σ 8 k) (by omega) h9 r.1 r.2
  exact ⟨q.2.2.1, q.2.2.2.1⟩
theorem st_least {σ : ZT} {k : Nat} (h : StO0 σ k) : 0 ≤ leastZ (σ 7 k) (roomZ σ k) ∧ leastZ (σ 7 k) (roomZ σ k) ≤ 1000000 := by
  have r := st_room h
  obtain ⟨-, -, -, -, -, -, -, -, h7, h8, h9, -⟩ := h
  have q := mz_b (p := σ 7 k) (by omega) (by omega) r.1 r.2
  exact ⟨q.2.2.2.2.1, q.2.2.2.2.2⟩
/-- the pressure of a store that may hold too much -/
theorem st_press0 {σ : ZT} {k : Nat} (h : StO0 σ k) : 0 ≤ pressZ σ k ∧ pressZ σ k ≤ 100000000 := by
  have r := st_room h
  obtain ⟨-, -, -, -, -, -, h5, h6, -⟩ := h
  unfold pressZ
  refine ⟨Int.ediv_nonneg (by omega) (by omega), ?_⟩
  have q := Int.ediv_le_self (a := 100 * σ 6 k) (roomZ σ k) (by omega)
  omega
theorem st_press {σ : ZT} {k : Nat} (h : StOk σ k) : 0 ≤ pressZ σ k ∧ pressZ σ k ≤ σ 8 k ∧ pressZ σ k ≤ 1000 := by
  have r := st_room h.1
  have p0 := st_press0 h.1
  obtain ⟨⟨-, -, -, -, -, -, h5, h6, h7, h8, h9, -⟩, hm, -⟩ := h
  have q : pressZ σ k ≤ σ 8 k := by
    unfold pressZ
    refine Int.ediv_le_of_le_mul (by omega) ?_
    unfold mostZ at hm
    omega
  exact ⟨p0.1, q, by omega⟩
theorem rate_b {σ : ZT} {k : Nat} {b : Bool} (h : StOk σ k) : 0 ≤ rateZ σ k b ∧ rateZ σ k b ≤ 1000000 ∧ (b = true → rateZ σ k b ≤ mostZ (σ 8 k) (roomZ σ k) - σ 6 k) ∧ (b = false → rateZ σ k b ≤ σ 6 k) ∧ byZ σ k b ≤ 1000 ∧ -1000 ≤ byZ σ k b ∧ -1000000 ≤ mstZ σ k b ∧ mstZ σ k b ≤ 1000000 := by
  have r := st_room h.1
  have p := st_press h
  have m := st_most h.1
  have l := st_least h.1
  obtain ⟨⟨-, -, -, -, -, -, h5, h6, h7, h8, h9, h10, h11, h12, h13, h14, h15, -⟩, hm, -⟩ := h
  have hb : byZ σ k b ≤ 1000 ∧ -1000 ≤ byZ σ k b := by unfold byZ; split <;> omega
  have hs : -1000000 ≤ mstZ σ k b ∧ mstZ σ k b ≤ 1000000 := by unfold mstZ; split <;> omega
  have ht : b = true → mstZ σ k b = mostZ (σ 8 k) (roomZ σ k) - σ 6 k := fun e => by unfold mstZ; rw [if_pos e]
  have hf : b = false → mstZ σ k b = σ 6 k - leastZ (σ 7 k) (roomZ σ k) := fun e => by unfold mstZ; rw [e]; rfl
  have hr : 0 ≤ rateZ σ k b ∧ (rateZ σ k b ≤ mstZ σ k b ∨ rateZ σ k b = 0) := by
    unfold rateZ
    split
    · omega
    · have q1 := mulb h12 h13 h14 h15
      have q2 := Int.mul_nonneg q1.1 (by omega : 0 ≤ byZ σ k b)
      omega
  refine ⟨hr.1, by omega, fun e => ?_, fun e => ?_, hb.1, hb.2, hs.1, hs.2⟩
  · have := ht e; omega
  · have := hf e; omega
/-! customers -/
def rinZ (σ : ZT) (c : Nat) (has : Int) : Int := if 2 * σ 17 c < 3 * has then σ 18 c / 2 else σ 18 c
def routZ (σ : ZT) (c : Nat) (has : Int) : Int := if 3 * has < σ 17 c then σ 19 c / 2 else σ 19 c
def inZ (σ : ZT) (c : Nat) (has : Int) : Int := min (rinZ σ c has) (σ 17 c - has)
def outZ (σ : ZT) (c : Nat) (has : Int) : Int := min (routZ σ c has) has
def CuOk (σ : ZT) (c : Nat) : Prop := 1 ≤ σ 17 c ∧ σ 17 c ≤ 1000000 ∧ 0 ≤ σ 18 c ∧ σ 18 c ≤ 100000 ∧ 0 ≤ σ 19 c ∧ σ 19 c ≤ 100000 ∧ 0 ≤ σ 20 c ∧ σ 20 c ≤ 3 ∧ 0 ≤ σ 21 c ∧ σ 21 c ≤ σ 17 c
theorem rin_b {σ : ZT} {c : Nat} {has : Int} (h : CuOk σ c) : 0 ≤ rinZ σ c has ∧ rinZ σ c has ≤ 100000 := by
  obtain ⟨h1, h2, h3, h4, -⟩ := h
  unfold rinZ; split <;> omega
theorem rout_b {σ : ZT} {c : Nat} {has : Int} (h : CuOk σ c) : 0 ≤ routZ σ c has ∧ routZ σ c has ≤ 100000 := by
  obtain ⟨h1, h2, -, -, h3, h4, -⟩ := h
  unfold routZ; split <;> omega
theorem inz_b {σ : ZT} {c : Nat} {has : Int} (h : CuOk σ c) (h1 : 0 ≤ has) (h2 : has ≤ σ 17 c) : 0 ≤ inZ σ c has ∧ inZ σ c has ≤ 100000 ∧ inZ σ c has ≤ σ 17 c - has := by
  have q := rin_b (has := has) h
  unfold inZ; omega
theorem outz_b {σ : ZT} {c : Nat} {has : Int} (h : CuOk σ c) (h1 : 0 ≤ has) (h2 : has ≤ σ 17 c) : 0 ≤ outZ σ c has ∧ outZ σ c has ≤ 100000 ∧ outZ σ c has ≤ has := by
  have q := rout_b (has := has) h
  unfold outZ; omega
/-! losses, a day's end -/
def lossJ (σ : ZT) (τ : JT) (k : Nat) (u : Int) : Int64 := if σ 6 k = 0 then jv 0 else jv u * τ 13 k / jv (σ 6 k)
def losP (k : Nat) (u : Int) (p : ZT × JT) : ZT × JT := (zu p.1 6 k (p.1 6 k - u), ju p.2 13 k (p.2 13 k - lossJ p.1 p.2 k u))
def getP (k : Nat) (u : Int) (p : ZT × JT) : ZT × JT := (zu p.1 6 k (p.1 6 k + u), ju p.2 13 k (p.2 13 k + jv (u * p.1 15 0)))
def lstP (k : Nat) (u : Int) (p : ZT × JT) : ZT × JT := ((losP k u p).1, ju (losP k u p).2 35 0 (p.2 35 0 + jv u))
def leakP (k : Nat) (p : ZT × JT) : ZT × JT :=
  if p.1 3 k = 2 ∧ p.1 9 k < p.1 6 k - min (p.1 12 k) (p.1 6 k) then lstP k (p.1 6 k - min (p.1 12 k) (p.1 6 k) - p.1 9 k) (lstP k (min (p.1 12 k) (p.1 6 k)) p) else lstP k (min (p.1 12 k) (p.1 6 k)) p
def wetZ (σ : ZT) (k : Nat) : Int := if pressZ σ k < σ 9 k then roomZ σ k / 200 else if σ 9 k < pressZ σ k then -((σ 5 k + 199) / 200) else 0
def volZ (σ : ZT) (k : Nat) : Int := if σ 4 k * (σ 9 k - pressZ σ k) / 100000 < σ 4 k then σ 4 k - σ 4 k * (σ 9 k - pressZ σ k) / 100000 else 1
def moveZ (σ : ZT) (k : Nat) : ZT := if σ 3 k = 0 then zu σ 5 k (σ 5 k + wetZ σ k) else if σ 3 k = 1 ∧ pressZ σ k < σ 9 k then zu σ 4 k (volZ σ k) else σ
def dayP (k : Nat) (p : ZT × JT) : ZT × JT :=
  if mostZ (moveZ p.1 k 8 k) (roomZ (moveZ p.1 k) k) < p.1 6 k then lstP k (p.1 6 k - mostZ (moveZ p.1 k 8 k) (roomZ (moveZ p.1 k) k)) (moveZ p.1 k, p.2) else (moveZ p.1 k, p.2)
theorem wet_b {σ : ZT} {k : Nat} (h : StOk σ k) : 0 ≤ σ 5 k + wetZ σ k ∧ 1 ≤ σ 4 k - (σ 5 k + wetZ σ k) ∧ -1000 ≤ wetZ σ k ∧ wetZ σ k ≤ 1000 := by
  have r := st_room h.1
  have p := st_press h
  obtain ⟨⟨-, -, h1, h2, h3, h4, -⟩, -⟩ := h
  unfold wetZ
  unfold roomZ at r ⊢
  split
  · omega
  · split <;> omega
theorem vol_b {σ : ZT} {k : Nat} (h : StOk σ k) (hp : pressZ σ k < σ 9 k) : 1 ≤ volZ σ k ∧ volZ σ k ≤ σ 4 k ∧ 0 ≤ σ 4 k * (σ 9 k - pressZ σ k) ∧ σ 4 k * (σ 9 k - pressZ σ k) ≤ 100000000000 := by
  have p := st_press h
  obtain ⟨⟨-, -, h1, h2, h3, h4, h5, h6, h7, h8, h9, h10, h11, -⟩, -⟩ := h
  have q := mulb (by omega : 0 ≤ σ 4 k) h2 (by omega : 0 ≤ σ 9 k - pressZ σ k) (by omega : σ 9 k - pressZ σ k ≤ 1000000)
  unfold volZ
  refine ⟨?_, ?_, q.1, by omega⟩
  · split <;> omega
  · split <;> omega
theorem moveZ_6 {σ : ZT} {k : Nat} : moveZ σ k 6 k = σ 6 k ∧ moveZ σ k 8 k = σ 8 k := by
  unfold moveZ
  split
  · exact ⟨rfl, rfl⟩
  · split <;> exact ⟨rfl, rfl⟩
theorem moveZ_ok {σ : ZT} {k : Nat} (h : StOk σ k) : StO0 (moveZ σ k) k := by
  have w := wet_b h
  have v := vol_b h
  have hh := h
  obtain ⟨⟨g1, g2, h1, h2, h3, h4, h5⟩, -, hw⟩ := h
  unfold moveZ
  split
  · refine ⟨g1, g2, h1, h2, ?_, ?_, h5⟩
    · rw [zu_s]; exact w.1
    · rw [zu_s]; exact w.2.1
  · split
    · rename_i q1 q2
      have v := v q2.2
      refine ⟨g1, g2, ?_, ?_, h3, ?_, h5⟩
      · rw [zu_s]; exact v.1
      · rw [zu_s]; omega
      · rw [zu_s]
        show 1 ≤ volZ σ k - σ 5 k
        omega
    · exact hh.1
theorem sto_6 {σ : ZT} {k : Nat} {g : Int} (h : StO0 σ k) (h1 : 0 ≤ g) (h2 : g ≤ 1000000) : StO0 (zu σ 6 k g) k := by
  obtain ⟨a1, a2, a3, a4, a5, a6, a7, a8, a9⟩ := h
  exact ⟨a1, a2, a3, a4, a5, a6, by rw [zu_s]; exact h1, by rw [zu_s]; exact h2, a9⟩
def sumZ (f : Nat → Int) : Nat → Int
  | 0 => 0
  | n + 1 => sumZ f n + f n
theorem sumZ_b {f : Nat → Int} {A : Int} {n : Nat} (h : ∀ i, i < n → 0 ≤ f i ∧ f i ≤ A) : 0 ≤ sumZ f n ∧ sumZ f n ≤ A * n := by
  induction n with
  | zero => exact ⟨Int.le_refl 0, by simp [sumZ]⟩
  | succ n ih =>
    have a := ih (fun i hi => h i (by omega))
    have b := h n (by omega)
    show 0 ≤ sumZ f n + f n ∧ sumZ f n + f n ≤ A * ((n + 1 : Nat) : Int)
    have e : A * ((n + 1 : Nat) : Int) = A * n + A := by rw [Int.natCast_add, Int.mul_add]; simp
    omega
def lawI (σ : ZT) : Nat → Int
  | 0 => -1
  | n + 1 => if σ 28 n ≤ σ 1 0 ∧ σ 1 0 ≤ σ 29 n then n else lawI σ n
theorem lawI_b {σ : ZT} {n : Nat} : -1 ≤ lawI σ n ∧ lawI σ n < n := by
  induction n with
  | zero => exact ⟨Int.le_refl _, by show (-1 : Int) < 0; decide⟩
  | succ n ih =>
    unfold lawI
    split <;> omega
/-- the scalars and the laws are as they may be -/
def LwOk (σ : ZT) (n : Nat) : Prop := σ 27 0 = n ∧ n ≤ 20 ∧ ∀ i, i < n → 0 ≤ σ 28 i ∧ σ 28 i ≤ 10000 ∧ 0 ≤ σ 29 i ∧ σ 29 i ≤ 10000 ∧ 0 ≤ σ 30 i ∧ σ 30 i ≤ 10000000
end
section
/-! AN HOUR: what each one brings or takes -/
def nowN (σ : ZT) : Nat := (σ 1 0).toNat
def nomZ (σ : ZT) (c : Nat) : Int := σ 25 (64 * c + nowN σ % 64)
def brZ (σ : ZT) (c : Nat) : Int := if 0 < nomZ σ c then min (nomZ σ c) (inZ σ c (σ 21 c)) else 0
def tkZ (σ : ZT) (c : Nat) : Int := if nomZ σ c < 0 then min (-nomZ σ c) (outZ σ c (σ 21 c)) else 0
def caZ (σ : ZT) (c : Nat) : Int := if nomZ σ c = brZ σ c - tkZ σ c then 0 else 1
def lay1 (σ : ZT) (c : Nat) : ZT := zu (zu (zu (zu σ 36 c (brZ σ c)) 37 c (tkZ σ c)) 38 c 0) 39 c (caZ σ c)
def layN (σ : ZT) : Nat → ZT
  | 0 => σ
  | n + 1 => lay1 (layN σ n) n
theorem lay1_f {σ : ZT} {c f : Nat} (h : f < 36 ∨ 39 < f) : lay1 σ c f = σ f := by
  unfold lay1
  rw [zu_n (by omega), zu_n (by omega), zu_n (by omega), zu_n (by omega)]
theorem layN_f {σ : ZT} {n f : Nat} (h : f < 36 ∨ 39 < f) : layN σ n f = σ f := by
  induction n with
  | zero => rfl
  | succ n ih => exact (lay1_f h).trans ih
theorem nom_c {σ s : ZT} {c : Nat} (h : ∀ f, f < 36 → s f = σ f) : nomZ s c = nomZ σ c ∧ brZ s c = brZ σ c ∧ tkZ s c = tkZ σ c ∧ caZ s c = caZ σ c := by
  have e : nomZ s c = nomZ σ c := by unfold nomZ nowN; rw [h 25 (by omega), h 1 (by omega)]
  have e1 : brZ s c = brZ σ c := by unfold brZ inZ rinZ; rw [e, h 21 (by omega), h 17 (by omega), h 18 (by omega)]
  have e2 : tkZ s c = tkZ σ c := by unfold tkZ outZ routZ; rw [e, h 21 (by omega), h 17 (by omega), h 19 (by omega)]
  exact ⟨e, e1, e2, by unfold caZ; rw [e, e1, e2]⟩
theorem layN_v {σ : ZT} {n c : Nat} : (c < n → layN σ n 36 c = brZ σ c ∧ layN σ n 37 c = tkZ σ c ∧ layN σ n 38 c = 0 ∧ layN σ n 39 c = caZ σ c) ∧ (n ≤ c → layN σ n 36 c = σ 36 c ∧ layN σ n 37 c = σ 37 c ∧ layN σ n 38 c = σ 38 c ∧ layN σ n 39 c = σ 39 c) := by
  induction n with
  | zero => exact ⟨fun h => absurd h (by omega), fun _ => ⟨rfl, rfl, rfl, rfl⟩⟩
  | succ n ih =>
    have e := nom_c (σ := σ) (s := layN σ n) (c := n) (fun f hf => layN_f (Or.inl hf))
    have k : ∀ f, lay1 (layN σ n) n f c = if c = n then (if f = 36 then brZ σ n else if f = 37 then tkZ σ n else if f = 38 then 0 else if f = 39 then caZ σ n else layN σ n f c) else layN σ n f c := by
      intro f
      unfold lay1
      rw [e.2.1, e.2.2.1, e.2.2.2]
      unfold zu
      by_cases h : c = n
      · subst h
        simp only [if_true]
        split
        · rename_i q; subst q; simp
        · split
          · rename_i q; subst q; simp
          · split
            · rename_i q; subst q; simp
            · split
              · rename_i q; subst q; simp
              · simp_all
      · simp only [h, if_false, ite_self]
    show (c < n + 1 → lay1 (layN σ n) n 36 c = _ ∧ lay1 (layN σ n) n 37 c = _ ∧ lay1 (layN σ n) n 38 c = _ ∧ lay1 (layN σ n) n 39 c = _) ∧ (n + 1 ≤ c → lay1 (layN σ n) n 36 c = _ ∧ lay1 (layN σ n) n 37 c = _ ∧ lay1 (layN σ n) n 38 c = _ ∧ lay1 (layN σ n) n 39 c = _)
    rw [k, k, k, k]
    refine ⟨fun h => ?_, fun h => ?_⟩
    · by_cases q : c = n
      · subst q; simp
      · simp only [q, if_false]; exact ih.1 (by omega)
    · simp only [show ¬ c = n by omega, if_false]; exact ih.2 (by omega)
/-- nominations and prices are as they may be -/
def NmOk (σ : ZT) (n : Nat) : Prop := (∀ i, i < 64 * n → -1000000 ≤ σ 25 i ∧ σ 25 i ≤ 1000000) ∧ 0 ≤ σ 1 0 ∧ σ 1 0 ≤ 10000
theorem nom_b {σ : ZT} {n c : Nat} (h : NmOk σ n) (hc : c < n) : -1000000 ≤ nomZ σ c ∧ nomZ σ c ≤ 1000000 := h.1 _ (by omega)
theorem br_b {σ : ZT} {c : Nat} (h : CuOk σ c) : 0 ≤ brZ σ c ∧ brZ σ c ≤ 100000 ∧ 0 ≤ tkZ σ c ∧ tkZ σ c ≤ 100000 ∧ (brZ σ c = 0 ∨ tkZ σ c = 0) ∧ brZ σ c ≤ σ 17 c - σ 21 c ∧ tkZ σ c ≤ σ 21 c ∧ 0 ≤ caZ σ c ∧ caZ σ c ≤ 1 ∧ (caZ σ c = 0 ↔ nomZ σ c = brZ σ c - tkZ σ c) := by
  have hh := h
  obtain ⟨-, -, -, -, -, -, -, -, h1, h2⟩ := h
  have i := inz_b hh h1 h2
  have o := outz_b hh h1 h2
  refine ⟨?_, ?_, ?_, ?_, ?_, ?_, ?_, ?_, ?_, ?_⟩
  · unfold brZ; split <;> omega
  · unfold brZ; split <;> omega
  · unfold tkZ; split <;> omega
  · unfold tkZ; split <;> omega
  · unfold brZ tkZ; split <;> split <;> omega
  · unfold brZ; split <;> omega
  · unfold tkZ; split <;> omega
  · unfold caZ; split <;> omega
  · unfold caZ; split <;> omega
  · unfold caZ; split <;> omega
/-! to curtail -/
def cby (b : Bool) (n k : Nat) (p : ZT × Int) : Int := if p.1 20 (k % n) = ((k / n : Nat) : Int) then min p.2 (if b = true then p.1 36 (k % n) else p.1 37 (k % n)) else 0
def curZ (b : Bool) (s : Int) (c : Nat) (y : Int) (σ : ZT) : ZT := zu (zu (zu (zu σ 36 c (σ 36 c - if b = true then y else 0)) 37 c (σ 37 c - if b = true then 0 else y)) 38 c (σ 38 c + y)) 39 c (if 0 < y ∧ σ 39 c = 0 then s else σ 39 c)
def cstep (b : Bool) (s : Int) (n k : Nat) (p : ZT × Int) : ZT × Int := (curZ b s (k % n) (cby b n k p) p.1, p.2 - cby b n k p)
def cloop (b : Bool) (s : Int) (n : Nat) : Nat → ZT × Int → ZT × Int
  | 0, p => p
  | k + 1, p => if p.2 ≤ 0 then p else cloop b s n k (cstep b s n k p)
theorem cloop_le {b : Bool} {s : Int} {n k : Nat} {p : ZT × Int} (h : p.2 ≤ 0) : cloop b s n k p = p := by
  cases k with
  | zero => rfl
  | succ k => exact if_pos h
theorem cloop_st {b : Bool} {s : Int} {n k : Nat} {p : ZT × Int} (h : 0 < p.2) : cloop b s n (k + 1) p = cloop b s n k (cstep b s n k p) := if_neg (by omega)
theorem curZ_f {b : Bool} {s y : Int} {c f : Nat} {σ : ZT} (h : f < 36 ∨ 39 < f) : curZ b s c y σ f = σ f := by
  unfold curZ
  rw [zu_n (by omega), zu_n (by omega), zu_n (by omega), zu_n (by omega)]
theorem curZ_v {b : Bool} {s y : Int} {c j : Nat} {σ : ZT} : curZ b s c y σ 36 j = (if j = c then σ 36 c - (if b = true then y else 0) else σ 36 j) ∧ curZ b s c y σ 37 j = (if j = c then σ 37 c - (if b = true then 0 else y) else σ 37 j) ∧ curZ b s c y σ 38 j = (if j = c then σ 38 c + y else σ 38 j) ∧ curZ b s c y σ 39 j = (if j = c then (if 0 < y ∧ σ 39 c = 0 then s else σ 39 c) else σ 39 j) := ⟨rfl, rfl, rfl, rfl⟩
theorem cloop_f {b : Bool} {s : Int} {n k f : Nat} (h : f < 36 ∨ 39 < f) : ∀ p : ZT × Int, (cloop b s n k p).1 f = p.1 f := by
  induction k with
  | zero => intro p; rfl
  | succ k ih =>
    intro p
    unfold cloop
    split
    · rfl
    · rw [ih]; exact curZ_f h
/-- what is planned is as it may be -/
def PlOk (σ : ZT) (n : Nat) : Prop := ∀ c, c < n → 0 ≤ σ 36 c ∧ σ 36 c ≤ 100000 ∧ 0 ≤ σ 37 c ∧ σ 37 c ≤ 100000 ∧ (σ 36 c = 0 ∨ σ 37 c = 0) ∧ 0 ≤ σ 38 c ∧ σ 38 c ≤ 200000 - σ 36 c - σ 37 c ∧ 0 ≤ σ 39 c ∧ σ 39 c ≤ 3
theorem layN_ok {σ : ZT} {n : Nat} (h : ∀ c, c < n → CuOk σ c) : PlOk (layN σ n) n := by
  intro c hc
  have v := (layN_v (σ := σ) (n := n) (c := c)).1 hc
  have b := br_b (h c hc)
  rw [v.1, v.2.1, v.2.2.1, v.2.2.2]
  omega
theorem cby_b {b : Bool} {n k : Nat} {p : ZT × Int} (h : PlOk p.1 n) (hk : 0 < n) (h0 : 0 < p.2) : 0 ≤ cby b n k p ∧ cby b n k p ≤ p.2 ∧ (b = true → cby b n k p ≤ p.1 36 (k % n)) ∧ (b = false → cby b n k p ≤ p.1 37 (k % n)) := by
  have q := h (k % n) (Nat.mod_lt _ hk)
  unfold cby
  split
  · cases b
    · show 0 ≤ min p.2 (p.1 37 (k % n)) ∧ min p.2 (p.1 37 (k % n)) ≤ p.2 ∧ _ ∧ (false = false → min p.2 (p.1 37 (k % n)) ≤ p.1 37 (k % n))
      exact ⟨by omega, by omega, fun z => (nomatch z), fun _ => by omega⟩
    · show 0 ≤ min p.2 (p.1 36 (k % n)) ∧ min p.2 (p.1 36 (k % n)) ≤ p.2 ∧ (true = true → min p.2 (p.1 36 (k % n)) ≤ p.1 36 (k % n)) ∧ _
      exact ⟨by omega, by omega, fun _ => by omega, fun z => (nomatch z)⟩
  · exact ⟨by omega, by omega, fun _ => by omega, fun _ => by omega⟩
theorem curZ_ok {b : Bool} {s y : Int} {n c : Nat} {σ : ZT} (h : PlOk σ n) (hc : c < n) (hs : 0 ≤ s ∧ s ≤ 3) (h1 : 0 ≤ y) (h2 : b = true → y ≤ σ 36 c) (h3 : b = false → y ≤ σ 37 c) : PlOk (curZ b s c y σ) n := by
  intro j hj
  have v := curZ_v (b := b) (s := s) (y := y) (c := c) (j := j) (σ := σ)
  rw [v.1, v.2.1, v.2.2.1, v.2.2.2]
  have q := h j hj
  by_cases e : j = c
  · subst e
    simp only [if_true]
    cases b
    · have h3 := h3 rfl
      simp only [Bool.false_eq_true, if_false]
      split <;> omega
    · have h2 := h2 rfl
      simp only [if_true]
      split <;> omega
  · simp only [e, if_false]; exact q
theorem cloop_ok {b : Bool} {s : Int} {n k : Nat} (hn : 0 < n) (hs : 0 ≤ s ∧ s ≤ 3) : ∀ p : ZT × Int, PlOk p.1 n → PlOk (cloop b s n k p).1 n := by
  induction k with
  | zero => intro p h; exact h
  | succ k ih =>
    intro p h
    unfold cloop
    split
    · exact h
    · have q := cby_b (b := b) (k := k) h hn (by omega)
      exact ih _ (curZ_ok h (Nat.mod_lt _ hn) hs q.1 q.2.2.1 q.2.2.2)
def cur (b : Bool) (s : Int) (n : Nat) (σ : ZT) (y : Int) : ZT := (cloop b s n (4 * n) (σ, y)).1
theorem cur_f {b : Bool} {s y : Int} {n f : Nat} {σ : ZT} (h : f < 36 ∨ 39 < f) : cur b s n σ y f = σ f := cloop_f h _
theorem cur_ok {b : Bool} {s y : Int} {n : Nat} {σ : ZT} (hs : 0 ≤ s ∧ s ≤ 3) (h : PlOk σ n) : PlOk (cur b s n σ y) n := by
  rcases Nat.eq_zero_or_pos n with rfl | hn
  · intro c hc; omega
  · exact cloop_ok hn hs _ h
def lawT (σ : ZT) (nc nl : Nat) : Int := sumZ (σ 37) nc - (if sumZ (σ 21) nc - σ 30 (lawI σ nl).toNat < 0 then 0 else sumZ (σ 21) nc - σ 30 (lawI σ nl).toNat)
def lawC (σ : ZT) (nc nl : Nat) : ZT := if lawI σ nl = -1 then σ else cur false 2 nc σ (lawT σ nc nl)
def othZ (b : Bool) : Int := if b = true then -1 else 1
def canZ (σ : ZT) (ns : Nat) (b : Bool) : Int := if σ 31 0 = othZ b ∨ σ 32 0 = othZ b then 0 else sumZ (fun k => rateZ σ k b) ns
def netZ (σ : ZT) (nc : Nat) : Int := sumZ (σ 36) nc - sumZ (σ 37) nc
def absZ (x : Int) : Int := if 0 < x then x else -x
def overZ (σ : ZT) (nc ns : Nat) : Int := if 0 < absZ (netZ σ nc) - canZ σ ns (decide (0 < netZ σ nc)) then absZ (netZ σ nc) - canZ σ ns (decide (0 < netZ σ nc)) else 0
def plaC (σ : ZT) (nc ns : Nat) : ZT := if netZ σ nc = 0 then σ else cur (decide (0 < netZ σ nc)) 3 nc σ (overZ σ nc ns)
def laysZ (σ : ZT) (nc nl ns : Nat) : ZT := plaC (lawC (layN σ nc) nc nl) nc ns
theorem lawC_f {σ : ZT} {nc nl f : Nat} (h : f < 36 ∨ 39 < f) : lawC σ nc nl f = σ f := by
  unfold lawC
  split
  · rfl
  · exact cur_f h
theorem plaC_f {σ : ZT} {nc ns f : Nat} (h : f < 36 ∨ 39 < f) : plaC σ nc ns f = σ f := by
  unfold plaC
  split
  · rfl
  · exact cur_f h
theorem laysZ_f {σ : ZT} {nc nl ns f : Nat} (h : f < 36 ∨ 39 < f) : laysZ σ nc nl ns f = σ f := by
  unfold laysZ
  rw [plaC_f h, lawC_f h, layN_f h]
theorem laysZ_ok {σ : ZT} {nc nl ns : Nat} (h : ∀ c, c < nc → CuOk σ c) : PlOk (laysZ σ nc nl ns) nc := by
  have a := layN_ok h
  have b : PlOk (lawC (layN σ nc) nc nl) nc := by
    unfold lawC
    split
    · exact a
    · exact cur_ok (by omega) a
  unfold laysZ plaC
  split
  · exact b
  · exact cur_ok (by omega) b
theorem pl_sums {σ : ZT} {n : Nat} (h : PlOk σ n) (hn : n ≤ 6) : 0 ≤ sumZ (σ 36) n ∧ sumZ (σ 36) n ≤ 600000 ∧ 0 ≤ sumZ (σ 37) n ∧ sumZ (σ 37) n ≤ 600000 := by
  have a := sumZ_b (f := σ 36) (A := 100000) (n := n) (fun i hi => ⟨(h i hi).1, (h i hi).2.1⟩)
  have b := sumZ_b (f := σ 37) (A := 100000) (n := n) (fun i hi => ⟨(h i hi).2.2.1, (h i hi).2.2.2.1⟩)
  omega
theorem rate_c {σ s : ZT} {k : Nat} {b : Bool} (h : ∀ f, f ∈ [4, 5, 6, 7, 8, 10, 11] → s f k = σ f k) : rateZ s k b = rateZ σ k b := by
  unfold rateZ byZ mstZ pressZ roomZ
  rw [h 4 (by decide), h 5 (by decide), h 6 (by decide), h 7 (by decide), h 8 (by decide), h 10 (by decide), h 11 (by decide)]
theorem can_b {σ : ZT} {ns : Nat} {b : Bool} (h : ∀ k, k < ns → StOk σ k) (hn : ns ≤ 5) : 0 ≤ canZ σ ns b ∧ canZ σ ns b ≤ 5000000 := by
  have a := sumZ_b (f := fun k => rateZ σ k b) (A := 1000000) (n := ns) (fun i hi => ⟨(rate_b (h i hi)).1, (rate_b (h i hi)).2.1⟩)
  unfold canZ
  split <;> omega
end
