section
-- ===== PART A: goes FIRST, ahead of the names: the tables' words, and 'selects' of the private methods out of them =====
/-- a private method of a class that the tables say can be made, by its rows of tables_1 -/
def lw_okq (q : MethodName × Nat) : Prop := (q.1.cls ≠ "java/lang/invoke/MethodHandle" ∧ q.1.cls ≠ "java/lang/invoke/VarHandle") ∧ Cond.instantiable q.1.cls q.2 ∈ tables_1 ∧ Cond.privateMethod q.1 ∈ tables_1 ∧ Cond.instanceMethod q.1 ∈ tables_1
theorem lw_p0 : lw_okq (⟨"DrumMachine$Assembler", "forgetPlaces", "()V"⟩, 11) := ⟨⟨by decide +kernel, by decide +kernel⟩, List.mem_of_getElem? (i := 139) (by decide +kernel), List.mem_of_getElem? (i := 204) (by decide +kernel), List.mem_of_getElem? (i := 205) (by decide +kernel)⟩
theorem lw_p1 : lw_okq (⟨"java/lang/Throwable", "fillInStackTrace", "(I)Ljava/lang/Throwable;"⟩, 6) := ⟨⟨by decide +kernel, by decide +kernel⟩, List.mem_of_getElem? (i := 291) (by decide +kernel), List.mem_of_getElem? (i := 289) (by decide +kernel), List.mem_of_getElem? (i := 290) (by decide +kernel)⟩
theorem lw_p2 : lw_okq (⟨"DrumMachine$Drum", "valueOfCodes", "(I)J"⟩, 3) := ⟨⟨by decide +kernel, by decide +kernel⟩, List.mem_of_getElem? (i := 29) (by decide +kernel), List.mem_of_getElem? (i := 362) (by decide +kernel), List.mem_of_getElem? (i := 363) (by decide +kernel)⟩
theorem lw_p3 : lw_okq (⟨"DrumMachine$Assembler", "markTaken", "()V"⟩, 11) := ⟨⟨by decide +kernel, by decide +kernel⟩, List.mem_of_getElem? (i := 139) (by decide +kernel), List.mem_of_getElem? (i := 480) (by decide +kernel), List.mem_of_getElem? (i := 481) (by decide +kernel)⟩
theorem lw_p4 : lw_okq (⟨"DrumMachine$Assembler", "takeIfAddress", "(I)V"⟩, 11) := ⟨⟨by decide +kernel, by decide +kernel⟩, List.mem_of_getElem? (i := 139) (by decide +kernel), List.mem_of_getElem? (i := 484) (by decide +kernel), List.mem_of_getElem? (i := 485) (by decide +kernel)⟩
theorem lw_p5 : lw_okq (⟨"DrumMachine$Assembler", "placeLine", "(IZ)Z"⟩, 11) := ⟨⟨by decide +kernel, by decide +kernel⟩, List.mem_of_getElem? (i := 139) (by decide +kernel), List.mem_of_getElem? (i := 488) (by decide +kernel), List.mem_of_getElem? (i := 489) (by decide +kernel)⟩
theorem lw_p6 : lw_okq (⟨"DrumMachine$Assembler", "placeLocation", "(IZ)I"⟩, 11) := ⟨⟨by decide +kernel, by decide +kernel⟩, List.mem_of_getElem? (i := 139) (by decide +kernel), List.mem_of_getElem? (i := 492) (by decide +kernel), List.mem_of_getElem? (i := 493) (by decide +kernel)⟩
theorem lw_p7 : lw_okq (⟨"DrumMachine$Assembler", "placePart", "(IIZ)I"⟩, 11) := ⟨⟨by decide +kernel, by decide +kernel⟩, List.mem_of_getElem? (i := 139) (by decide +kernel), List.mem_of_getElem? (i := 496) (by decide +kernel), List.mem_of_getElem? (i := 497) (by decide +kernel)⟩
theorem lw_p8 : lw_okq (⟨"DrumMachine$Assembler", "newPlace", "(IZ)I"⟩, 11) := ⟨⟨by decide +kernel, by decide +kernel⟩, List.mem_of_getElem? (i := 139) (by decide +kernel), List.mem_of_getElem? (i := 500) (by decide +kernel), List.mem_of_getElem? (i := 501) (by decide +kernel)⟩
theorem lw_p9 : lw_okq (⟨"DrumMachine$Assembler", "firstFreeFromAngle", "(I)I"⟩, 11) := ⟨⟨by decide +kernel, by decide +kernel⟩, List.mem_of_getElem? (i := 139) (by decide +kernel), List.mem_of_getElem? (i := 504) (by decide +kernel), List.mem_of_getElem? (i := 505) (by decide +kernel)⟩
theorem lw_p10 : lw_okq (⟨"DrumMachine$Assembler", "leastFree", "()I"⟩, 11) := ⟨⟨by decide +kernel, by decide +kernel⟩, List.mem_of_getElem? (i := 139) (by decide +kernel), List.mem_of_getElem? (i := 508) (by decide +kernel), List.mem_of_getElem? (i := 509) (by decide +kernel)⟩
theorem lw_p11 : lw_okq (⟨"DrumMachine$Assembler", "placeData", "(IZ)I"⟩, 11) := ⟨⟨by decide +kernel, by decide +kernel⟩, List.mem_of_getElem? (i := 139) (by decide +kernel), List.mem_of_getElem? (i := 512) (by decide +kernel), List.mem_of_getElem? (i := 513) (by decide +kernel)⟩
theorem lw_p12 : lw_okq (⟨"DrumMachine$Assembler", "placeNext", "(IZ)I"⟩, 11) := ⟨⟨by decide +kernel, by decide +kernel⟩, List.mem_of_getElem? (i := 139) (by decide +kernel), List.mem_of_getElem? (i := 516) (by decide +kernel), List.mem_of_getElem? (i := 517) (by decide +kernel)⟩
theorem lw_p13 : lw_okq (⟨"DrumMachine$Assembler", "bestForNext", "(I)I"⟩, 11) := ⟨⟨by decide +kernel, by decide +kernel⟩, List.mem_of_getElem? (i := 139) (by decide +kernel), List.mem_of_getElem? (i := 520) (by decide +kernel), List.mem_of_getElem? (i := 521) (by decide +kernel)⟩
theorem lw_p14 : lw_okq (⟨"DrumMachine$Assembler", "isLocationOfEarlierLine", "(I)Z"⟩, 11) := ⟨⟨by decide +kernel, by decide +kernel⟩, List.mem_of_getElem? (i := 139) (by decide +kernel), List.mem_of_getElem? (i := 533) (by decide +kernel), List.mem_of_getElem? (i := 534) (by decide +kernel)⟩
theorem lw_p15 : lw_okq (⟨"DrumMachine$Processor", "step", "()I"⟩, 9) := ⟨⟨by decide +kernel, by decide +kernel⟩, List.mem_of_getElem? (i := 86) (by decide +kernel), List.mem_of_getElem? (i := 612) (by decide +kernel), List.mem_of_getElem? (i := 613) (by decide +kernel)⟩
def lw_privs_1 : List (MethodName × Nat) := [(⟨"DrumMachine$Assembler", "forgetPlaces", "()V"⟩, 11), (⟨"java/lang/Throwable", "fillInStackTrace", "(I)Ljava/lang/Throwable;"⟩, 6), (⟨"DrumMachine$Drum", "valueOfCodes", "(I)J"⟩, 3), (⟨"DrumMachine$Assembler", "markTaken", "()V"⟩, 11), (⟨"DrumMachine$Assembler", "takeIfAddress", "(I)V"⟩, 11), (⟨"DrumMachine$Assembler", "placeLine", "(IZ)Z"⟩, 11), (⟨"DrumMachine$Assembler", "placeLocation", "(IZ)I"⟩, 11), (⟨"DrumMachine$Assembler", "placePart", "(IIZ)I"⟩, 11), (⟨"DrumMachine$Assembler", "newPlace", "(IZ)I"⟩, 11), (⟨"DrumMachine$Assembler", "firstFreeFromAngle", "(I)I"⟩, 11), (⟨"DrumMachine$Assembler", "leastFree", "()I"⟩, 11), (⟨"DrumMachine$Assembler", "placeData", "(IZ)I"⟩, 11), (⟨"DrumMachine$Assembler", "placeNext", "(IZ)I"⟩, 11), (⟨"DrumMachine$Assembler", "bestForNext", "(I)I"⟩, 11), (⟨"DrumMachine$Assembler", "isLocationOfEarlierLine", "(I)Z"⟩, 11), (⟨"DrumMachine$Processor", "step", "()I"⟩, 9)]
theorem lw_r1 : ∀ q ∈ lw_privs_1, lw_okq q := List.forall_mem_cons.mpr ⟨lw_p0, List.forall_mem_cons.mpr ⟨lw_p1, List.forall_mem_cons.mpr ⟨lw_p2, List.forall_mem_cons.mpr ⟨lw_p3, List.forall_mem_cons.mpr ⟨lw_p4, List.forall_mem_cons.mpr ⟨lw_p5, List.forall_mem_cons.mpr ⟨lw_p6, List.forall_mem_cons.mpr ⟨lw_p7, List.forall_mem_cons.mpr ⟨lw_p8, List.forall_mem_cons.mpr ⟨lw_p9, List.forall_mem_cons.mpr ⟨lw_p10, List.forall_mem_cons.mpr ⟨lw_p11, List.forall_mem_cons.mpr ⟨lw_p12, List.forall_mem_cons.mpr ⟨lw_p13, List.forall_mem_cons.mpr ⟨lw_p14, List.forall_mem_cons.mpr ⟨lw_p15, fun _ h => absurd h List.not_mem_nil⟩⟩⟩⟩⟩⟩⟩⟩⟩⟩⟩⟩⟩⟩⟩⟩
theorem lw_p16 : lw_okq (⟨"DrumMachine$Processor", "waitAndAccess", "(I)V"⟩, 9) := ⟨⟨by decide +kernel, by decide +kernel⟩, List.mem_of_getElem? (i := 86) (by decide +kernel), List.mem_of_getElem? (i := 617) (by decide +kernel), List.mem_of_getElem? (i := 618) (by decide +kernel)⟩
theorem lw_p17 : lw_okq (⟨"DrumMachine$Processor", "operate", "(II)I"⟩, 9) := ⟨⟨by decide +kernel, by decide +kernel⟩, List.mem_of_getElem? (i := 86) (by decide +kernel), List.mem_of_getElem? (i := 636) (by decide +kernel), List.mem_of_getElem? (i := 637) (by decide +kernel)⟩
theorem lw_p18 : lw_okq (⟨"DrumMachine$Processor", "shift", "(II)V"⟩, 9) := ⟨⟨by decide +kernel, by decide +kernel⟩, List.mem_of_getElem? (i := 86) (by decide +kernel), List.mem_of_getElem? (i := 643) (by decide +kernel), List.mem_of_getElem? (i := 644) (by decide +kernel)⟩
theorem lw_p19 : lw_okq (⟨"DrumMachine$Processor", "write", "(II)I"⟩, 9) := ⟨⟨by decide +kernel, by decide +kernel⟩, List.mem_of_getElem? (i := 86) (by decide +kernel), List.mem_of_getElem? (i := 683) (by decide +kernel), List.mem_of_getElem? (i := 684) (by decide +kernel)⟩
theorem lw_p20 : lw_okq (⟨"DrumMachine$Processor", "readCard", "(I)I"⟩, 9) := ⟨⟨by decide +kernel, by decide +kernel⟩, List.mem_of_getElem? (i := 86) (by decide +kernel), List.mem_of_getElem? (i := 687) (by decide +kernel), List.mem_of_getElem? (i := 688) (by decide +kernel)⟩
theorem lw_p21 : lw_okq (⟨"DrumMachine$Processor", "setDistributor", "(JZ)V"⟩, 9) := ⟨⟨by decide +kernel, by decide +kernel⟩, List.mem_of_getElem? (i := 86) (by decide +kernel), List.mem_of_getElem? (i := 716) (by decide +kernel), List.mem_of_getElem? (i := 717) (by decide +kernel)⟩
theorem lw_p22 : lw_okq (⟨"DrumMachine$Processor", "read", "(II)I"⟩, 9) := ⟨⟨by decide +kernel, by decide +kernel⟩, List.mem_of_getElem? (i := 86) (by decide +kernel), List.mem_of_getElem? (i := 727) (by decide +kernel), List.mem_of_getElem? (i := 728) (by decide +kernel)⟩
theorem lw_p23 : lw_okq (⟨"DrumMachine$Processor", "lookUp", "(I)I"⟩, 9) := ⟨⟨by decide +kernel, by decide +kernel⟩, List.mem_of_getElem? (i := 86) (by decide +kernel), List.mem_of_getElem? (i := 731) (by decide +kernel), List.mem_of_getElem? (i := 732) (by decide +kernel)⟩
theorem lw_p24 : lw_okq (⟨"DrumMachine$Processor", "divide", "(JZ)I"⟩, 9) := ⟨⟨by decide +kernel, by decide +kernel⟩, List.mem_of_getElem? (i := 86) (by decide +kernel), List.mem_of_getElem? (i := 744) (by decide +kernel), List.mem_of_getElem? (i := 745) (by decide +kernel)⟩
theorem lw_p25 : lw_okq (⟨"DrumMachine$Processor", "punchWord", "(JZ)I"⟩, 9) := ⟨⟨by decide +kernel, by decide +kernel⟩, List.mem_of_getElem? (i := 86) (by decide +kernel), List.mem_of_getElem? (i := 757) (by decide +kernel), List.mem_of_getElem? (i := 758) (by decide +kernel)⟩
theorem lw_p26 : lw_okq (⟨"DrumMachine$Processor", "multiply", "(JZ)V"⟩, 9) := ⟨⟨by decide +kernel, by decide +kernel⟩, List.mem_of_getElem? (i := 86) (by decide +kernel), List.mem_of_getElem? (i := 772) (by decide +kernel), List.mem_of_getElem? (i := 773) (by decide +kernel)⟩
theorem lw_p27 : lw_okq (⟨"DrumMachine$Processor", "addWord", "(IJZ)V"⟩, 9) := ⟨⟨by decide +kernel, by decide +kernel⟩, List.mem_of_getElem? (i := 86) (by decide +kernel), List.mem_of_getElem? (i := 784) (by decide +kernel), List.mem_of_getElem? (i := 785) (by decide +kernel)⟩
theorem lw_p28 : lw_okq (⟨"DrumMachine$Processor", "takesBranch", "(I)Z"⟩, 9) := ⟨⟨by decide +kernel, by decide +kernel⟩, List.mem_of_getElem? (i := 86) (by decide +kernel), List.mem_of_getElem? (i := 806) (by decide +kernel), List.mem_of_getElem? (i := 807) (by decide +kernel)⟩
theorem lw_p29 : lw_okq (⟨"DrumMachineModel", "write", "(IJZ)V"⟩, 28) := ⟨⟨by decide +kernel, by decide +kernel⟩, List.mem_of_getElem? (i := 894) (by decide +kernel), List.mem_of_getElem? (i := 900) (by decide +kernel), List.mem_of_getElem? (i := 901) (by decide +kernel)⟩
theorem lw_p30 : lw_okq (⟨"DrumMachineModel", "forgetPlaces", "()V"⟩, 28) := ⟨⟨by decide +kernel, by decide +kernel⟩, List.mem_of_getElem? (i := 894) (by decide +kernel), List.mem_of_getElem? (i := 905) (by decide +kernel), List.mem_of_getElem? (i := 906) (by decide +kernel)⟩
theorem lw_p31 : lw_okq (⟨"DrumMachineModel", "value", "(I)J"⟩, 28) := ⟨⟨by decide +kernel, by decide +kernel⟩, List.mem_of_getElem? (i := 894) (by decide +kernel), List.mem_of_getElem? (i := 1013) (by decide +kernel), List.mem_of_getElem? (i := 1014) (by decide +kernel)⟩
def lw_privs_2 : List (MethodName × Nat) := [(⟨"DrumMachine$Processor", "waitAndAccess", "(I)V"⟩, 9), (⟨"DrumMachine$Processor", "operate", "(II)I"⟩, 9), (⟨"DrumMachine$Processor", "shift", "(II)V"⟩, 9), (⟨"DrumMachine$Processor", "write", "(II)I"⟩, 9), (⟨"DrumMachine$Processor", "readCard", "(I)I"⟩, 9), (⟨"DrumMachine$Processor", "setDistributor", "(JZ)V"⟩, 9), (⟨"DrumMachine$Processor", "read", "(II)I"⟩, 9), (⟨"DrumMachine$Processor", "lookUp", "(I)I"⟩, 9), (⟨"DrumMachine$Processor", "divide", "(JZ)I"⟩, 9), (⟨"DrumMachine$Processor", "punchWord", "(JZ)I"⟩, 9), (⟨"DrumMachine$Processor", "multiply", "(JZ)V"⟩, 9), (⟨"DrumMachine$Processor", "addWord", "(IJZ)V"⟩, 9), (⟨"DrumMachine$Processor", "takesBranch", "(I)Z"⟩, 9), (⟨"DrumMachineModel", "write", "(IJZ)V"⟩, 28), (⟨"DrumMachineModel", "forgetPlaces", "()V"⟩, 28), (⟨"DrumMachineModel", "value", "(I)J"⟩, 28)]
theorem lw_r2 : ∀ q ∈ lw_privs_2, lw_okq q := List.forall_mem_cons.mpr ⟨lw_p16, List.forall_mem_cons.mpr ⟨lw_p17, List.forall_mem_cons.mpr ⟨lw_p18, List.forall_mem_cons.mpr ⟨lw_p19, List.forall_mem_cons.mpr ⟨lw_p20, List.forall_mem_cons.mpr ⟨lw_p21, List.forall_mem_cons.mpr ⟨lw_p22, List.forall_mem_cons.mpr ⟨lw_p23, List.forall_mem_cons.mpr ⟨lw_p24, List.forall_mem_cons.mpr ⟨lw_p25, List.forall_mem_cons.mpr ⟨lw_p26, List.forall_mem_cons.mpr ⟨lw_p27, List.forall_mem_cons.mpr ⟨lw_p28, List.forall_mem_cons.mpr ⟨lw_p29, List.forall_mem_cons.mpr ⟨lw_p30, List.forall_mem_cons.mpr ⟨lw_p31, fun _ h => absurd h List.not_mem_nil⟩⟩⟩⟩⟩⟩⟩⟩⟩⟩⟩⟩⟩⟩⟩⟩
theorem lw_p32 : lw_okq (⟨"DrumMachineModel", "step", "()Z"⟩, 28) := ⟨⟨by decide +kernel, by decide +kernel⟩, List.mem_of_getElem? (i := 894) (by decide +kernel), List.mem_of_getElem? (i := 1033) (by decide +kernel), List.mem_of_getElem? (i := 1034) (by decide +kernel)⟩
theorem lw_p33 : lw_okq (⟨"DrumMachineModel", "stop", "(II)Z"⟩, 28) := ⟨⟨by decide +kernel, by decide +kernel⟩, List.mem_of_getElem? (i := 894) (by decide +kernel), List.mem_of_getElem? (i := 1037) (by decide +kernel), List.mem_of_getElem? (i := 1038) (by decide +kernel)⟩
theorem lw_p34 : lw_okq (⟨"DrumMachineModel", "access", "(I)V"⟩, 28) := ⟨⟨by decide +kernel, by decide +kernel⟩, List.mem_of_getElem? (i := 894) (by decide +kernel), List.mem_of_getElem? (i := 1041) (by decide +kernel), List.mem_of_getElem? (i := 1042) (by decide +kernel)⟩
theorem lw_p35 : lw_okq (⟨"DrumMachineModel", "doRead", "(IIJZI)Z"⟩, 28) := ⟨⟨by decide +kernel, by decide +kernel⟩, List.mem_of_getElem? (i := 894) (by decide +kernel), List.mem_of_getElem? (i := 1060) (by decide +kernel), List.mem_of_getElem? (i := 1061) (by decide +kernel)⟩
theorem lw_p36 : lw_okq (⟨"DrumMachineModel", "lookUp", "(II)Z"⟩, 28) := ⟨⟨by decide +kernel, by decide +kernel⟩, List.mem_of_getElem? (i := 894) (by decide +kernel), List.mem_of_getElem? (i := 1064) (by decide +kernel), List.mem_of_getElem? (i := 1065) (by decide +kernel)⟩
theorem lw_p37 : lw_okq (⟨"DrumMachineModel", "divide", "(JZ)V"⟩, 28) := ⟨⟨by decide +kernel, by decide +kernel⟩, List.mem_of_getElem? (i := 894) (by decide +kernel), List.mem_of_getElem? (i := 1071) (by decide +kernel), List.mem_of_getElem? (i := 1072) (by decide +kernel)⟩
theorem lw_p38 : lw_okq (⟨"DrumMachineModel", "multiply", "(JZ)V"⟩, 28) := ⟨⟨by decide +kernel, by decide +kernel⟩, List.mem_of_getElem? (i := 894) (by decide +kernel), List.mem_of_getElem? (i := 1079) (by decide +kernel), List.mem_of_getElem? (i := 1080) (by decide +kernel)⟩
theorem lw_p39 : lw_okq (⟨"DrumMachineModel", "sum", "(IJZ)V"⟩, 28) := ⟨⟨by decide +kernel, by decide +kernel⟩, List.mem_of_getElem? (i := 894) (by decide +kernel), List.mem_of_getElem? (i := 1083) (by decide +kernel), List.mem_of_getElem? (i := 1084) (by decide +kernel)⟩
theorem lw_p40 : lw_okq (⟨"DrumMachineModel", "add", "(JJZ)V"⟩, 28) := ⟨⟨by decide +kernel, by decide +kernel⟩, List.mem_of_getElem? (i := 894) (by decide +kernel), List.mem_of_getElem? (i := 1087) (by decide +kernel), List.mem_of_getElem? (i := 1088) (by decide +kernel)⟩
theorem lw_p41 : lw_okq (⟨"DrumMachineModel", "doWrite", "(III)Z"⟩, 28) := ⟨⟨by decide +kernel, by decide +kernel⟩, List.mem_of_getElem? (i := 894) (by decide +kernel), List.mem_of_getElem? (i := 1091) (by decide +kernel), List.mem_of_getElem? (i := 1092) (by decide +kernel)⟩
theorem lw_p42 : lw_okq (⟨"DrumMachineModel", "branches", "(I)Z"⟩, 28) := ⟨⟨by decide +kernel, by decide +kernel⟩, List.mem_of_getElem? (i := 894) (by decide +kernel), List.mem_of_getElem? (i := 1095) (by decide +kernel), List.mem_of_getElem? (i := 1096) (by decide +kernel)⟩
theorem lw_p43 : lw_okq (⟨"DrumMachineModel", "shiftRight", "(IZ)V"⟩, 28) := ⟨⟨by decide +kernel, by decide +kernel⟩, List.mem_of_getElem? (i := 894) (by decide +kernel), List.mem_of_getElem? (i := 1100) (by decide +kernel), List.mem_of_getElem? (i := 1101) (by decide +kernel)⟩
theorem lw_p44 : lw_okq (⟨"DrumMachineModel", "shiftLeft", "(I)V"⟩, 28) := ⟨⟨by decide +kernel, by decide +kernel⟩, List.mem_of_getElem? (i := 894) (by decide +kernel), List.mem_of_getElem? (i := 1104) (by decide +kernel), List.mem_of_getElem? (i := 1105) (by decide +kernel)⟩
theorem lw_p45 : lw_okq (⟨"DrumMachineModel", "fail", "(I)I"⟩, 28) := ⟨⟨by decide +kernel, by decide +kernel⟩, List.mem_of_getElem? (i := 894) (by decide +kernel), List.mem_of_getElem? (i := 1115) (by decide +kernel), List.mem_of_getElem? (i := 1116) (by decide +kernel)⟩
theorem lw_p46 : lw_okq (⟨"DrumMachineModel", "hold", "(I)V"⟩, 28) := ⟨⟨by decide +kernel, by decide +kernel⟩, List.mem_of_getElem? (i := 894) (by decide +kernel), List.mem_of_getElem? (i := 1131) (by decide +kernel), List.mem_of_getElem? (i := 1132) (by decide +kernel)⟩
theorem lw_p47 : lw_okq (⟨"DrumMachineModel", "settle", "(IIZ)V"⟩, 28) := ⟨⟨by decide +kernel, by decide +kernel⟩, List.mem_of_getElem? (i := 894) (by decide +kernel), List.mem_of_getElem? (i := 1135) (by decide +kernel), List.mem_of_getElem? (i := 1136) (by decide +kernel)⟩
def lw_privs_3 : List (MethodName × Nat) := [(⟨"DrumMachineModel", "step", "()Z"⟩, 28), (⟨"DrumMachineModel", "stop", "(II)Z"⟩, 28), (⟨"DrumMachineModel", "access", "(I)V"⟩, 28), (⟨"DrumMachineModel", "doRead", "(IIJZI)Z"⟩, 28), (⟨"DrumMachineModel", "lookUp", "(II)Z"⟩, 28), (⟨"DrumMachineModel", "divide", "(JZ)V"⟩, 28), (⟨"DrumMachineModel", "multiply", "(JZ)V"⟩, 28), (⟨"DrumMachineModel", "sum", "(IJZ)V"⟩, 28), (⟨"DrumMachineModel", "add", "(JJZ)V"⟩, 28), (⟨"DrumMachineModel", "doWrite", "(III)Z"⟩, 28), (⟨"DrumMachineModel", "branches", "(I)Z"⟩, 28), (⟨"DrumMachineModel", "shiftRight", "(IZ)V"⟩, 28), (⟨"DrumMachineModel", "shiftLeft", "(I)V"⟩, 28), (⟨"DrumMachineModel", "fail", "(I)I"⟩, 28), (⟨"DrumMachineModel", "hold", "(I)V"⟩, 28), (⟨"DrumMachineModel", "settle", "(IIZ)V"⟩, 28)]
theorem lw_r3 : ∀ q ∈ lw_privs_3, lw_okq q := List.forall_mem_cons.mpr ⟨lw_p32, List.forall_mem_cons.mpr ⟨lw_p33, List.forall_mem_cons.mpr ⟨lw_p34, List.forall_mem_cons.mpr ⟨lw_p35, List.forall_mem_cons.mpr ⟨lw_p36, List.forall_mem_cons.mpr ⟨lw_p37, List.forall_mem_cons.mpr ⟨lw_p38, List.forall_mem_cons.mpr ⟨lw_p39, List.forall_mem_cons.mpr ⟨lw_p40, List.forall_mem_cons.mpr ⟨lw_p41, List.forall_mem_cons.mpr ⟨lw_p42, List.forall_mem_cons.mpr ⟨lw_p43, List.forall_mem_cons.mpr ⟨lw_p44, List.forall_mem_cons.mpr ⟨lw_p45, List.forall_mem_cons.mpr ⟨lw_p46, List.forall_mem_cons.mpr ⟨lw_p47, fun _ h => absurd h List.not_mem_nil⟩⟩⟩⟩⟩⟩⟩⟩⟩⟩⟩⟩⟩⟩⟩⟩
theorem lw_p48 : lw_okq (⟨"DrumMachineModel", "take", "(ZJ)I"⟩, 28) := ⟨⟨by decide +kernel, by decide +kernel⟩, List.mem_of_getElem? (i := 894) (by decide +kernel), List.mem_of_getElem? (i := 1139) (by decide +kernel), List.mem_of_getElem? (i := 1140) (by decide +kernel)⟩
theorem lw_p49 : lw_okq (⟨"DrumMachineModel", "placeOf", "(IZJ)I"⟩, 28) := ⟨⟨by decide +kernel, by decide +kernel⟩, List.mem_of_getElem? (i := 894) (by decide +kernel), List.mem_of_getElem? (i := 1143) (by decide +kernel), List.mem_of_getElem? (i := 1144) (by decide +kernel)⟩
def lw_privs_4 : List (MethodName × Nat) := [(⟨"DrumMachineModel", "take", "(ZJ)I"⟩, 28), (⟨"DrumMachineModel", "placeOf", "(IZJ)I"⟩, 28)]
theorem lw_r4 : ∀ q ∈ lw_privs_4, lw_okq q := List.forall_mem_cons.mpr ⟨lw_p48, List.forall_mem_cons.mpr ⟨lw_p49, fun _ h => absurd h List.not_mem_nil⟩⟩
def lw_privs : List (MethodName × Nat) := lw_privs_1 ++ (lw_privs_2 ++ (lw_privs_3 ++ (lw_privs_4)))
def lw_tbl : List Cond := k2_sels lw_privs ++ tables_1
theorem lw_privs_ok : ∀ q ∈ lw_privs, lw_okq q := by
  show ∀ q ∈ lw_privs_1 ++ (lw_privs_2 ++ (lw_privs_3 ++ (lw_privs_4))), lw_okq q
  exact List.forall_mem_append.mpr ⟨lw_r1, List.forall_mem_append.mpr ⟨lw_r2, List.forall_mem_append.mpr ⟨lw_r3, lw_r4⟩⟩⟩
end
section
def RDM : String := "DrumMachine"
def RDg : String := "DrumMachine$Digits"
def RDr : String := "DrumMachine$Drum"
def RCd : String := "DrumMachine$CardDeck"
def RPu : String := "DrumMachine$Punch"
def ROp : String := "DrumMachine$Operations"
def RAc : String := "DrumMachine$Accumulator"
def RPr : String := "DrumMachine$Processor"
def RAs : String := "DrumMachine$Assembler"
def RMo : String := "DrumMachineModel"
def RLa : String := "DrumMachineLaw"
def RMa : String := "java/lang/Math"
def RAr : String := "java/util/Arrays"
def TDM : u_T := fun k => match k with
  | 0 => ("DrumMachine", "drum", "LDrumMachine$Drum;", true)
  | 1 => ("DrumMachine", "cards", "LDrumMachine$CardDeck;", true)
  | 2 => ("DrumMachine", "punch", "LDrumMachine$Punch;", true)
  | 3 => ("DrumMachine", "processor", "LDrumMachine$Processor;", true)
  | _ => ("DrumMachine", "assembler", "LDrumMachine$Assembler;", true)
def tyDM : Nat → FieldType := fun k => match k with
  | 0 => .object "DrumMachine$Drum"
  | 1 => .object "DrumMachine$CardDeck"
  | 2 => .object "DrumMachine$Punch"
  | 3 => .object "DrumMachine$Processor"
  | _ => .object "DrumMachine$Assembler"
theorem nmDM : ∀ a, a < 5 → ∀ b, b < 5 → a ≠ b → (TDM a).2.1 ≠ (TDM b).2.1 := by decide +kernel
theorem tyDM_ok : ∀ k, k < 5 → parseFieldDescriptor (TDM k).2.2.1 = some (tyDM k) := by decide +kernel
def TDr : u_T := fun k => match k with
  | 0 => ("DrumMachine$Drum", "codes", "[I", true)
  | 1 => ("DrumMachine$Drum", "values", "[J", true)
  | _ => ("DrumMachine$Drum", "minus", "[Z", true)
def tyDr : Nat → FieldType := fun k => match k with
  | 0 => .array .int
  | 1 => .array .long
  | _ => .array .boolean
theorem nmDr : ∀ a, a < 3 → ∀ b, b < 3 → a ≠ b → (TDr a).2.1 ≠ (TDr b).2.1 := by decide +kernel
theorem tyDr_ok : ∀ k, k < 3 → parseFieldDescriptor (TDr k).2.2.1 = some (tyDr k) := by decide +kernel
def TCd : u_T := fun k => match k with
  | 0 => ("DrumMachine$CardDeck", "values", "[J", true)
  | 1 => ("DrumMachine$CardDeck", "minus", "[Z", true)
  | 2 => ("DrumMachine$CardDeck", "first", "I", false)
  | _ => ("DrumMachine$CardDeck", "count", "I", false)
def tyCd : Nat → FieldType := fun k => match k with
  | 0 => .array .long
  | 1 => .array .boolean
  | 2 => .int
  | _ => .int
theorem nmCd : ∀ a, a < 4 → ∀ b, b < 4 → a ≠ b → (TCd a).2.1 ≠ (TCd b).2.1 := by decide +kernel
theorem tyCd_ok : ∀ k, k < 4 → parseFieldDescriptor (TCd k).2.2.1 = some (tyCd k) := by decide +kernel
def TPu : u_T := fun k => match k with
  | 0 => ("DrumMachine$Punch", "words", "[J", true)
  | _ => ("DrumMachine$Punch", "count", "I", false)
def tyPu : Nat → FieldType := fun k => match k with
  | 0 => .array .long
  | _ => .int
theorem nmPu : ∀ a, a < 2 → ∀ b, b < 2 → a ≠ b → (TPu a).2.1 ≠ (TPu b).2.1 := by decide +kernel
theorem tyPu_ok : ∀ k, k < 2 → parseFieldDescriptor (TPu k).2.2.1 = some (tyPu k) := by decide +kernel
def TPr : u_T := fun k => match k with
  | 0 => ("DrumMachine$Processor", "drum", "LDrumMachine$Drum;", true)
  | 1 => ("DrumMachine$Processor", "cards", "LDrumMachine$CardDeck;", true)
  | 2 => ("DrumMachine$Processor", "punch", "LDrumMachine$Punch;", true)
  | 3 => ("DrumMachine$Processor", "accumulator", "LDrumMachine$Accumulator;", true)
  | 4 => ("DrumMachine$Processor", "distributor", "J", false)
  | 5 => ("DrumMachine$Processor", "distributorMinus", "Z", false)
  | 6 => ("DrumMachine$Processor", "next", "I", false)
  | 7 => ("DrumMachine$Processor", "cause", "I", false)
  | _ => ("DrumMachine$Processor", "time", "J", false)
def tyPr : Nat → FieldType := fun k => match k with
  | 0 => .object "DrumMachine$Drum"
  | 1 => .object "DrumMachine$CardDeck"
  | 2 => .object "DrumMachine$Punch"
  | 3 => .object "DrumMachine$Accumulator"
  | 4 => .long
  | 5 => .boolean
  | 6 => .int
  | 7 => .int
  | _ => .long
theorem nmPr : ∀ a, a < 9 → ∀ b, b < 9 → a ≠ b → (TPr a).2.1 ≠ (TPr b).2.1 := by decide +kernel
theorem tyPr_ok : ∀ k, k < 9 → parseFieldDescriptor (TPr k).2.2.1 = some (tyPr k) := by decide +kernel
def TAc : u_T := fun k => match k with
  | 0 => ("DrumMachine$Accumulator", "upper", "J", false)
  | 1 => ("DrumMachine$Accumulator", "lower", "J", false)
  | 2 => ("DrumMachine$Accumulator", "minus", "Z", false)
  | _ => ("DrumMachine$Accumulator", "overflow", "Z", false)
def tyAc : Nat → FieldType := fun k => match k with
  | 0 => .long
  | 1 => .long
  | 2 => .boolean
  | _ => .boolean
theorem nmAc : ∀ a, a < 4 → ∀ b, b < 4 → a ≠ b → (TAc a).2.1 ≠ (TAc b).2.1 := by decide +kernel
theorem tyAc_ok : ∀ k, k < 4 → parseFieldDescriptor (TAc k).2.2.1 = some (tyAc k) := by decide +kernel
def TAs : u_T := fun k => match k with
  | 0 => ("DrumMachine$Assembler", "locationParts", "[I", true)
  | 1 => ("DrumMachine$Assembler", "operations", "[I", true)
  | 2 => ("DrumMachine$Assembler", "dataParts", "[I", true)
  | 3 => ("DrumMachine$Assembler", "nextParts", "[I", true)
  | 4 => ("DrumMachine$Assembler", "locations", "[I", true)
  | 5 => ("DrumMachine$Assembler", "data", "[I", true)
  | 6 => ("DrumMachine$Assembler", "nexts", "[I", true)
  | 7 => ("DrumMachine$Assembler", "symbolPlaces", "[I", true)
  | 8 => ("DrumMachine$Assembler", "reserved", "[Z", true)
  | 9 => ("DrumMachine$Assembler", "taken", "[Z", true)
  | _ => ("DrumMachine$Assembler", "count", "I", false)
def tyAs : Nat → FieldType := fun k => match k with
  | 0 => .array .int
  | 1 => .array .int
  | 2 => .array .int
  | 3 => .array .int
  | 4 => .array .int
  | 5 => .array .int
  | 6 => .array .int
  | 7 => .array .int
  | 8 => .array .boolean
  | 9 => .array .boolean
  | _ => .int
theorem nmAs : ∀ a, a < 11 → ∀ b, b < 11 → a ≠ b → (TAs a).2.1 ≠ (TAs b).2.1 := by decide +kernel
theorem tyAs_ok : ∀ k, k < 11 → parseFieldDescriptor (TAs k).2.2.1 = some (tyAs k) := by decide +kernel
def TMo : u_T := fun k => match k with
  | 0 => ("DrumMachineModel", "code", "I", false)
  | 1 => ("DrumMachineModel", "digits", "[I", true)
  | 2 => ("DrumMachineModel", "minus", "[Z", true)
  | 3 => ("DrumMachineModel", "upper", "J", false)
  | 4 => ("DrumMachineModel", "lower", "J", false)
  | 5 => ("DrumMachineModel", "distributor", "J", false)
  | 6 => ("DrumMachineModel", "negative", "Z", false)
  | 7 => ("DrumMachineModel", "negativeDistributor", "Z", false)
  | 8 => ("DrumMachineModel", "overflow", "Z", false)
  | 9 => ("DrumMachineModel", "next", "I", false)
  | 10 => ("DrumMachineModel", "fault", "I", false)
  | 11 => ("DrumMachineModel", "time", "J", false)
  | 12 => ("DrumMachineModel", "cards", "I", false)
  | 13 => ("DrumMachineModel", "card", "[J", true)
  | 14 => ("DrumMachineModel", "cardMinus", "[Z", true)
  | 15 => ("DrumMachineModel", "outputs", "I", false)
  | 16 => ("DrumMachineModel", "output", "[J", true)
  | 17 => ("DrumMachineModel", "lines", "I", false)
  | 18 => ("DrumMachineModel", "location", "[I", true)
  | 19 => ("DrumMachineModel", "operation", "[I", true)
  | 20 => ("DrumMachineModel", "data", "[I", true)
  | 21 => ("DrumMachineModel", "following", "[I", true)
  | 22 => ("DrumMachineModel", "reserved", "[Z", true)
  | 23 => ("DrumMachineModel", "places", "[I", true)
  | 24 => ("DrumMachineModel", "held", "[Z", true)
  | 25 => ("DrumMachineModel", "at", "[I", true)
  | 26 => ("DrumMachineModel", "written", "[J", true)
  | _ => ("DrumMachineModel", "full", "Z", false)
def tyMo : Nat → FieldType := fun k => match k with
  | 0 => .int
  | 1 => .array .int
  | 2 => .array .boolean
  | 3 => .long
  | 4 => .long
  | 5 => .long
  | 6 => .boolean
  | 7 => .boolean
  | 8 => .boolean
  | 9 => .int
  | 10 => .int
  | 11 => .long
  | 12 => .int
  | 13 => .array .long
  | 14 => .array .boolean
  | 15 => .int
  | 16 => .array .long
  | 17 => .int
  | 18 => .array .int
  | 19 => .array .int
  | 20 => .array .int
  | 21 => .array .int
  | 22 => .array .boolean
  | 23 => .array .int
  | 24 => .array .boolean
  | 25 => .array .int
  | 26 => .array .long
  | _ => .boolean
theorem nmMo : ∀ a, a < 28 → ∀ b, b < 28 → a ≠ b → (TMo a).2.1 ≠ (TMo b).2.1 := by decide +kernel
theorem tyMo_ok : ∀ k, k < 28 → parseFieldDescriptor (TMo k).2.2.1 = some (tyMo k) := by decide +kernel
abbrev clA : List vw_C := [(RDM, TDM, 5), (RDr, TDr, 3), (RCd, TCd, 4), (RPu, TPu, 2), (RPr, TPr, 9), (RAc, TAc, 4), (RAs, TAs, 11), (RMo, TMo, 28)]
abbrev ccDM_init : ByteArray := prog_1_method_1_code
def yDM_init : MethodName := ⟨RDM, "<init>", "()V"⟩
abbrev ccDr_init : ByteArray := prog_6_method_1_code
def yDr_init : MethodName := ⟨RDr, "<init>", "()V"⟩
abbrev ccDr_codeOf : ByteArray := prog_6_method_11_code
def yDr_codeOf : MethodName := ⟨RDr, "codeOf", "(I)I"⟩
abbrev ccAr_fill : ByteArray := prog_21_method_103_code
def yAr_fill : MethodName := ⟨RAr, "fill", "([II)V"⟩
abbrev ccCd_init : ByteArray := prog_4_method_1_code
def yCd_init : MethodName := ⟨RCd, "<init>", "()V"⟩
abbrev ccPu_init : ByteArray := prog_9_method_1_code
def yPu_init : MethodName := ⟨RPu, "<init>", "()V"⟩
abbrev ccPr_init : ByteArray := prog_8_method_1_code
def yPr_init : MethodName := ⟨RPr, "<init>", "(LDrumMachine$Drum;LDrumMachine$CardDeck;LDrumMachine$Punch;)V"⟩
abbrev ccAc_init : ByteArray := prog_2_method_1_code
def yAc_init : MethodName := ⟨RAc, "<init>", "()V"⟩
abbrev ccAs_init : ByteArray := prog_3_method_1_code
def yAs_init : MethodName := ⟨RAs, "<init>", "()V"⟩
abbrev ccDM_clear : ByteArray := prog_1_method_7_code
def yDM_clear : MethodName := ⟨RDM, "clear", "()V"⟩
abbrev ccAs_forgetAll : ByteArray := prog_3_method_10_code
def yAs_forgetAll : MethodName := ⟨RAs, "forgetAll", "()V"⟩
abbrev ccAs_forgetPlaces : ByteArray := prog_3_method_15_code
def yAs_forgetPlaces : MethodName := ⟨RAs, "forgetPlaces", "()V"⟩
abbrev ccDM_fault : ByteArray := prog_1_method_12_code
def yDM_fault : MethodName := ⟨RDM, "fault", "()I"⟩
abbrev ccPr_stopCause : ByteArray := prog_8_method_2_code
def yPr_stopCause : MethodName := ⟨RPr, "stopCause", "()I"⟩
abbrev ccDM_time : ByteArray := prog_1_method_13_code
def yDM_time : MethodName := ⟨RDM, "time", "()J"⟩
abbrev ccPr_wordTimes : ByteArray := prog_8_method_4_code
def yPr_wordTimes : MethodName := ⟨RPr, "wordTimes", "()J"⟩
abbrev ccDM_next : ByteArray := prog_1_method_16_code
def yDM_next : MethodName := ⟨RDM, "next", "()I"⟩
abbrev ccPr_nextAddress : ByteArray := prog_8_method_5_code
def yPr_nextAddress : MethodName := ⟨RPr, "nextAddress", "()I"⟩
abbrev ccDM_outputs : ByteArray := prog_1_method_19_code
def yDM_outputs : MethodName := ⟨RDM, "outputs", "()I"⟩
abbrev ccPu_size : ByteArray := prog_9_method_2_code
def yPu_size : MethodName := ⟨RPu, "size", "()I"⟩
abbrev ccDM_word : ByteArray := prog_1_method_2_code
def yDM_word : MethodName := ⟨RDM, "word", "(IJZ)V"⟩
abbrev ccDr_hasAddress : ByteArray := prog_6_method_2_code
def yDr_hasAddress : MethodName := ⟨RDr, "hasAddress", "(I)Z"⟩
abbrev ccDg_fitWord : ByteArray := prog_5_method_2_code
def yDg_fitWord : MethodName := ⟨RDg, "fitWord", "(J)Z"⟩
abbrev ccDr_store : ByteArray := prog_6_method_5_code
def yDr_store : MethodName := ⟨RDr, "store", "(IJZ)V"⟩
abbrev ccDM_flip : ByteArray := prog_1_method_3_code
def yDM_flip : MethodName := ⟨RDM, "flip", "(III)Z"⟩
abbrev ccDr_hasBit : ByteArray := prog_6_method_3_code
def yDr_hasBit : MethodName := ⟨RDr, "hasBit", "(III)Z"⟩
abbrev ccDr_turnBitOver : ByteArray := prog_6_method_6_code
def yDr_turnBitOver : MethodName := ⟨RDr, "turnBitOver", "(III)V"⟩
abbrev ccDr_valueOfCodes : ByteArray := prog_6_method_10_code
def yDr_valueOfCodes : MethodName := ⟨RDr, "valueOfCodes", "(I)J"⟩
abbrev ccDr_digitOf : ByteArray := prog_6_method_12_code
def yDr_digitOf : MethodName := ⟨RDr, "digitOf", "(I)I"⟩
abbrev ccDr_isValid : ByteArray := prog_6_method_7_code
def yDr_isValid : MethodName := ⟨RDr, "isValid", "(I)Z"⟩
abbrev ccDM_card : ByteArray := prog_1_method_4_code
def yDM_card : MethodName := ⟨RDM, "card", "(JZ)I"⟩
abbrev ccCd_isFull : ByteArray := prog_4_method_3_code
def yCd_isFull : MethodName := ⟨RCd, "isFull", "()Z"⟩
abbrev ccCd_put : ByteArray := prog_4_method_5_code
def yCd_put : MethodName := ⟨RCd, "put", "(JZ)V"⟩
abbrev ccCd_size : ByteArray := prog_4_method_2_code
def yCd_size : MethodName := ⟨RCd, "size", "()I"⟩
abbrev ccDM_line : ByteArray := prog_1_method_5_code
def yDM_line : MethodName := ⟨RDM, "line", "(IIII)I"⟩
abbrev ccOp_exists : ByteArray := prog_7_method_3_code
def yOp_exists : MethodName := ⟨ROp, "exists", "(I)Z"⟩
abbrev ccOp_kindOf : ByteArray := prog_7_method_2_code
def yOp_kindOf : MethodName := ⟨ROp, "kindOf", "(I)I"⟩
abbrev ccOp_branchesOnEight : ByteArray := prog_7_method_8_code
def yOp_branchesOnEight : MethodName := ⟨ROp, "branchesOnEight", "(I)Z"⟩
abbrev ccAs_isPart : ByteArray := prog_3_method_2_code
def yAs_isPart : MethodName := ⟨RAs, "isPart", "(I)Z"⟩
abbrev ccAs_isSymbol : ByteArray := prog_3_method_5_code
def yAs_isSymbol : MethodName := ⟨RAs, "isSymbol", "(I)Z"⟩
abbrev ccAs_isDataPart : ByteArray := prog_3_method_3_code
def yAs_isDataPart : MethodName := ⟨RAs, "isDataPart", "(II)Z"⟩
abbrev ccOp_shifts : ByteArray := prog_7_method_4_code
def yOp_shifts : MethodName := ⟨ROp, "shifts", "(I)Z"⟩
abbrev ccAs_isFull : ByteArray := prog_3_method_6_code
def yAs_isFull : MethodName := ⟨RAs, "isFull", "()Z"⟩
abbrev ccAs_addLine : ByteArray := prog_3_method_8_code
def yAs_addLine : MethodName := ⟨RAs, "addLine", "(IIII)I"⟩
abbrev ccDM_reserve : ByteArray := prog_1_method_6_code
def yDM_reserve : MethodName := ⟨RDM, "reserve", "(I)V"⟩
abbrev ccAs_markReserved : ByteArray := prog_3_method_9_code
def yAs_markReserved : MethodName := ⟨RAs, "markReserved", "(I)V"⟩
abbrev ccDM_assemble : ByteArray := prog_1_method_8_code
def yDM_assemble : MethodName := ⟨RDM, "assemble", "(Z)I"⟩
abbrev ccAs_isEmpty : ByteArray := prog_3_method_7_code
def yAs_isEmpty : MethodName := ⟨RAs, "isEmpty", "()Z"⟩
abbrev ccAs_placeAll : ByteArray := prog_3_method_13_code
def yAs_placeAll : MethodName := ⟨RAs, "placeAll", "(Z)Z"⟩
abbrev ccAs_markTaken : ByteArray := prog_3_method_16_code
def yAs_markTaken : MethodName := ⟨RAs, "markTaken", "()V"⟩
abbrev ccAs_takeIfAddress : ByteArray := prog_3_method_17_code
def yAs_takeIfAddress : MethodName := ⟨RAs, "takeIfAddress", "(I)V"⟩
abbrev ccAs_placeLine : ByteArray := prog_3_method_19_code
def yAs_placeLine : MethodName := ⟨RAs, "placeLine", "(IZ)Z"⟩
abbrev ccAs_placeLocation : ByteArray := prog_3_method_20_code
def yAs_placeLocation : MethodName := ⟨RAs, "placeLocation", "(IZ)I"⟩
abbrev ccAs_placePart : ByteArray := prog_3_method_24_code
def yAs_placePart : MethodName := ⟨RAs, "placePart", "(IIZ)I"⟩
abbrev ccAs_newPlace : ByteArray := prog_3_method_25_code
def yAs_newPlace : MethodName := ⟨RAs, "newPlace", "(IZ)I"⟩
abbrev ccAs_firstFreeFromAngle : ByteArray := prog_3_method_27_code
def yAs_firstFreeFromAngle : MethodName := ⟨RAs, "firstFreeFromAngle", "(I)I"⟩
abbrev ccAs_leastFree : ByteArray := prog_3_method_26_code
def yAs_leastFree : MethodName := ⟨RAs, "leastFree", "()I"⟩
abbrev ccAs_placeData : ByteArray := prog_3_method_21_code
def yAs_placeData : MethodName := ⟨RAs, "placeData", "(IZ)I"⟩
abbrev ccAs_placeNext : ByteArray := prog_3_method_22_code
def yAs_placeNext : MethodName := ⟨RAs, "placeNext", "(IZ)I"⟩
abbrev ccAs_bestForNext : ByteArray := prog_3_method_23_code
def yAs_bestForNext : MethodName := ⟨RAs, "bestForNext", "(I)I"⟩
abbrev ccOp_accessesData : ByteArray := prog_7_method_7_code
def yOp_accessesData : MethodName := ⟨ROp, "accessesData", "(I)Z"⟩
abbrev ccOp_fixedTime : ByteArray := prog_7_method_13_code
def yOp_fixedTime : MethodName := ⟨ROp, "fixedTime", "(II)I"⟩
abbrev ccOp_shiftLength : ByteArray := prog_7_method_12_code
def yOp_shiftLength : MethodName := ⟨ROp, "shiftLength", "(II)I"⟩
abbrev ccAs_isLocationOfEarlierLine : ByteArray := prog_3_method_18_code
def yAs_isLocationOfEarlierLine : MethodName := ⟨RAs, "isLocationOfEarlierLine", "(I)Z"⟩
abbrev ccAs_writeTo : ByteArray := prog_3_method_14_code
def yAs_writeTo : MethodName := ⟨RAs, "writeTo", "(LDrumMachine$Drum;)V"⟩
abbrev ccDg_instruction : ByteArray := prog_5_method_10_code
def yDg_instruction : MethodName := ⟨RDg, "instruction", "(III)J"⟩
abbrev ccAs_firstLocation : ByteArray := prog_3_method_12_code
def yAs_firstLocation : MethodName := ⟨RAs, "firstLocation", "()I"⟩
abbrev ccDM_place : ByteArray := prog_1_method_9_code
def yDM_place : MethodName := ⟨RDM, "place", "(I)I"⟩
abbrev ccAs_hasSymbol : ByteArray := prog_3_method_4_code
def yAs_hasSymbol : MethodName := ⟨RAs, "hasSymbol", "(I)Z"⟩
abbrev ccAs_placeOf : ByteArray := prog_3_method_11_code
def yAs_placeOf : MethodName := ⟨RAs, "placeOf", "(I)I"⟩
abbrev ccDM_start : ByteArray := prog_1_method_10_code
def yDM_start : MethodName := ⟨RDM, "start", "(I)V"⟩
abbrev ccPr_goOnFrom : ByteArray := prog_8_method_12_code
def yPr_goOnFrom : MethodName := ⟨RPr, "goOnFrom", "(I)V"⟩
abbrev ccDM_run : ByteArray := prog_1_method_11_code
def yDM_run : MethodName := ⟨RDM, "run", "(I)I"⟩
abbrev ccPr_isStopped : ByteArray := prog_8_method_3_code
def yPr_isStopped : MethodName := ⟨RPr, "isStopped", "()Z"⟩
abbrev ccPr_doSteps : ByteArray := prog_8_method_13_code
def yPr_doSteps : MethodName := ⟨RPr, "doSteps", "(I)I"⟩
abbrev ccPr_step : ByteArray := prog_8_method_15_code
def yPr_step : MethodName := ⟨RPr, "step", "()I"⟩
abbrev ccPr_waitAndAccess : ByteArray := prog_8_method_16_code
def yPr_waitAndAccess : MethodName := ⟨RPr, "waitAndAccess", "(I)V"⟩
abbrev ccDr_angleOf : ByteArray := prog_6_method_4_code
def yDr_angleOf : MethodName := ⟨RDr, "angleOf", "(I)I"⟩
abbrev ccDr_valueAt : ByteArray := prog_6_method_8_code
def yDr_valueAt : MethodName := ⟨RDr, "valueAt", "(I)J"⟩
abbrev ccDg_operationOf : ByteArray := prog_5_method_7_code
def yDg_operationOf : MethodName := ⟨RDg, "operationOf", "(J)I"⟩
abbrev ccDg_dataAddressOf : ByteArray := prog_5_method_8_code
def yDg_dataAddressOf : MethodName := ⟨RDg, "dataAddressOf", "(J)I"⟩
abbrev ccPr_operate : ByteArray := prog_8_method_17_code
def yPr_operate : MethodName := ⟨RPr, "operate", "(II)I"⟩
abbrev ccPr_shift : ByteArray := prog_8_method_18_code
def yPr_shift : MethodName := ⟨RPr, "shift", "(II)V"⟩
abbrev ccAc_shiftLeft : ByteArray := prog_2_method_14_code
def yAc_shiftLeft : MethodName := ⟨RAc, "shiftLeft", "(I)V"⟩
abbrev ccDg_powerOfTen : ByteArray := prog_5_method_4_code
def yDg_powerOfTen : MethodName := ⟨RDg, "powerOfTen", "(I)J"⟩
abbrev ccAc_shiftRight : ByteArray := prog_2_method_13_code
def yAc_shiftRight : MethodName := ⟨RAc, "shiftRight", "(I)V"⟩
abbrev ccAc_shiftAndRound : ByteArray := prog_2_method_15_code
def yAc_shiftAndRound : MethodName := ⟨RAc, "shiftAndRound", "(I)V"⟩
abbrev ccDg_digitAt : ByteArray := prog_5_method_5_code
def yDg_digitAt : MethodName := ⟨RDg, "digitAt", "(JI)I"⟩
abbrev ccAc_add : ByteArray := prog_2_method_10_code
def yAc_add : MethodName := ⟨RAc, "add", "(JJZ)V"⟩
abbrev ccMa_floorDiv : ByteArray := prog_16_method_49_code
def yMa_floorDiv : MethodName := ⟨RMa, "floorDiv", "(JJ)J"⟩
abbrev ccMa_floorMod : ByteArray := prog_16_method_52_code
def yMa_floorMod : MethodName := ⟨RMa, "floorMod", "(JJ)J"⟩
abbrev ccOp_writes : ByteArray := prog_7_method_6_code
def yOp_writes : MethodName := ⟨ROp, "writes", "(I)Z"⟩
abbrev ccPr_write : ByteArray := prog_8_method_26_code
def yPr_write : MethodName := ⟨RPr, "write", "(II)I"⟩
abbrev ccPr_readCard : ByteArray := prog_8_method_27_code
def yPr_readCard : MethodName := ⟨RPr, "readCard", "(I)I"⟩
abbrev ccCd_isEmpty : ByteArray := prog_4_method_4_code
def yCd_isEmpty : MethodName := ⟨RCd, "isEmpty", "()Z"⟩
abbrev ccCd_firstValue : ByteArray := prog_4_method_6_code
def yCd_firstValue : MethodName := ⟨RCd, "firstValue", "()J"⟩
abbrev ccCd_firstIsMinus : ByteArray := prog_4_method_7_code
def yCd_firstIsMinus : MethodName := ⟨RCd, "firstIsMinus", "()Z"⟩
abbrev ccCd_dropFirst : ByteArray := prog_4_method_8_code
def yCd_dropFirst : MethodName := ⟨RCd, "dropFirst", "()V"⟩
abbrev ccAc_lowerDigits : ByteArray := prog_2_method_3_code
def yAc_lowerDigits : MethodName := ⟨RAc, "lowerDigits", "()J"⟩
abbrev ccAc_isMinus : ByteArray := prog_2_method_4_code
def yAc_isMinus : MethodName := ⟨RAc, "isMinus", "()Z"⟩
abbrev ccPr_setDistributor : ByteArray := prog_8_method_28_code
def yPr_setDistributor : MethodName := ⟨RPr, "setDistributor", "(JZ)V"⟩
abbrev ccAc_upperDigits : ByteArray := prog_2_method_2_code
def yAc_upperDigits : MethodName := ⟨RAc, "upperDigits", "()J"⟩
abbrev ccDg_withDataAddress : ByteArray := prog_5_method_11_code
def yDg_withDataAddress : MethodName := ⟨RDg, "withDataAddress", "(JI)J"⟩
abbrev ccPr_read : ByteArray := prog_8_method_20_code
def yPr_read : MethodName := ⟨RPr, "read", "(II)I"⟩
abbrev ccPr_lookUp : ByteArray := prog_8_method_25_code
def yPr_lookUp : MethodName := ⟨RPr, "lookUp", "(I)I"⟩
abbrev ccAc_putDataAddress : ByteArray := prog_2_method_9_code
def yAc_putDataAddress : MethodName := ⟨RAc, "putDataAddress", "(I)V"⟩
abbrev ccDr_isMinus : ByteArray := prog_6_method_9_code
def yDr_isMinus : MethodName := ⟨RDr, "isMinus", "(I)Z"⟩
abbrev ccPr_divide : ByteArray := prog_8_method_23_code
def yPr_divide : MethodName := ⟨RPr, "divide", "(JZ)I"⟩
abbrev ccAc_divide : ByteArray := prog_2_method_12_code
def yAc_divide : MethodName := ⟨RAc, "divide", "(JZ)Z"⟩
abbrev ccDg_sum : ByteArray := prog_5_method_6_code
def yDg_sum : MethodName := ⟨RDg, "sum", "(J)I"⟩
abbrev ccPr_punchWord : ByteArray := prog_8_method_24_code
def yPr_punchWord : MethodName := ⟨RPr, "punchWord", "(JZ)I"⟩
abbrev ccPu_isFull : ByteArray := prog_9_method_3_code
def yPu_isFull : MethodName := ⟨RPu, "isFull", "()Z"⟩
abbrev ccDg_withSign : ByteArray := prog_5_method_3_code
def yDg_withSign : MethodName := ⟨RDg, "withSign", "(JZ)J"⟩
abbrev ccPu_put : ByteArray := prog_9_method_6_code
def yPu_put : MethodName := ⟨RPu, "put", "(J)V"⟩
abbrev ccPr_multiply : ByteArray := prog_8_method_22_code
def yPr_multiply : MethodName := ⟨RPr, "multiply", "(JZ)V"⟩
abbrev ccAc_multiply : ByteArray := prog_2_method_11_code
def yAc_multiply : MethodName := ⟨RAc, "multiply", "(JZ)V"⟩
abbrev ccOp_adds : ByteArray := prog_7_method_5_code
def yOp_adds : MethodName := ⟨ROp, "adds", "(I)Z"⟩
abbrev ccPr_addWord : ByteArray := prog_8_method_21_code
def yPr_addWord : MethodName := ⟨RPr, "addWord", "(IJZ)V"⟩
abbrev ccOp_resetsFirst : ByteArray := prog_7_method_11_code
def yOp_resetsFirst : MethodName := ⟨ROp, "resetsFirst", "(I)Z"⟩
abbrev ccAc_reset : ByteArray := prog_2_method_8_code
def yAc_reset : MethodName := ⟨RAc, "reset", "()V"⟩
abbrev ccOp_subtracts : ByteArray := prog_7_method_10_code
def yOp_subtracts : MethodName := ⟨ROp, "subtracts", "(I)Z"⟩
abbrev ccOp_addsToUpper : ByteArray := prog_7_method_9_code
def yOp_addsToUpper : MethodName := ⟨ROp, "addsToUpper", "(I)Z"⟩
abbrev ccPr_isFault : ByteArray := prog_8_method_14_code
def yPr_isFault : MethodName := ⟨RPr, "isFault", "(I)Z"⟩
abbrev ccPr_takesBranch : ByteArray := prog_8_method_19_code
def yPr_takesBranch : MethodName := ⟨RPr, "takesBranch", "(I)Z"⟩
abbrev ccAc_isZero : ByteArray := prog_2_method_5_code
def yAc_isZero : MethodName := ⟨RAc, "isZero", "()Z"⟩
abbrev ccAc_takeOverflow : ByteArray := prog_2_method_7_code
def yAc_takeOverflow : MethodName := ⟨RAc, "takeOverflow", "()Z"⟩
abbrev ccDg_nextAddressOf : ByteArray := prog_5_method_9_code
def yDg_nextAddressOf : MethodName := ⟨RDg, "nextAddressOf", "(J)I"⟩
abbrev ccDM_register : ByteArray := prog_1_method_14_code
def yDM_register : MethodName := ⟨RDM, "register", "(I)J"⟩
abbrev ccPr_upperDigits : ByteArray := prog_8_method_6_code
def yPr_upperDigits : MethodName := ⟨RPr, "upperDigits", "()J"⟩
abbrev ccPr_lowerDigits : ByteArray := prog_8_method_7_code
def yPr_lowerDigits : MethodName := ⟨RPr, "lowerDigits", "()J"⟩
abbrev ccPr_distributorDigits : ByteArray := prog_8_method_8_code
def yPr_distributorDigits : MethodName := ⟨RPr, "distributorDigits", "()J"⟩
abbrev ccDM_sign : ByteArray := prog_1_method_15_code
def yDM_sign : MethodName := ⟨RDM, "sign", "(I)Z"⟩
abbrev ccPr_accumulatorIsMinus : ByteArray := prog_8_method_9_code
def yPr_accumulatorIsMinus : MethodName := ⟨RPr, "accumulatorIsMinus", "()Z"⟩
abbrev ccPr_distributorIsMinus : ByteArray := prog_8_method_10_code
def yPr_distributorIsMinus : MethodName := ⟨RPr, "distributorIsMinus", "()Z"⟩
abbrev ccPr_overflowIsOn : ByteArray := prog_8_method_11_code
def yPr_overflowIsOn : MethodName := ⟨RPr, "overflowIsOn", "()Z"⟩
abbrev ccAc_hasOverflow : ByteArray := prog_2_method_6_code
def yAc_hasOverflow : MethodName := ⟨RAc, "hasOverflow", "()Z"⟩
abbrev ccDM_get : ByteArray := prog_1_method_17_code
def yDM_get : MethodName := ⟨RDM, "get", "(I)J"⟩
abbrev ccDM_output : ByteArray := prog_1_method_18_code
def yDM_output : MethodName := ⟨RDM, "output", "(I)J"⟩
abbrev ccPu_hasWord : ByteArray := prog_9_method_4_code
def yPu_hasWord : MethodName := ⟨RPu, "hasWord", "(I)Z"⟩
abbrev ccPu_wordAt : ByteArray := prog_9_method_5_code
def yPu_wordAt : MethodName := ⟨RPu, "wordAt", "(I)J"⟩
abbrev ccMo_init : ByteArray := prog_11_method_1_code
def yMo_init : MethodName := ⟨RMo, "<init>", "()V"⟩
abbrev ccMo_write : ByteArray := prog_11_method_6_code
def yMo_write : MethodName := ⟨RMo, "write", "(IJZ)V"⟩
abbrev ccMo_forgetPlaces : ByteArray := prog_11_method_36_code
def yMo_forgetPlaces : MethodName := ⟨RMo, "forgetPlaces", "()V"⟩
abbrev ccMo_thrown : ByteArray := prog_11_method_2_code
def yMo_thrown : MethodName := ⟨RMo, "thrown", "()I"⟩
abbrev ccMo_word : ByteArray := prog_11_method_9_code
def yMo_word : MethodName := ⟨RMo, "word", "(IJZ)V"⟩
abbrev ccMo_isAddress : ByteArray := prog_11_method_4_code
def yMo_isAddress : MethodName := ⟨RMo, "isAddress", "(I)Z"⟩
abbrev ccMo_isWord : ByteArray := prog_11_method_5_code
def yMo_isWord : MethodName := ⟨RMo, "isWord", "(J)Z"⟩
abbrev ccMo_flip : ByteArray := prog_11_method_10_code
def yMo_flip : MethodName := ⟨RMo, "flip", "(III)Z"⟩
abbrev ccMo_value : ByteArray := prog_11_method_8_code
def yMo_value : MethodName := ⟨RMo, "value", "(I)J"⟩
abbrev ccMo_digitOf : ByteArray := prog_11_method_7_code
def yMo_digitOf : MethodName := ⟨RMo, "digitOf", "(I)I"⟩
abbrev ccMo_card : ByteArray := prog_11_method_11_code
def yMo_card : MethodName := ⟨RMo, "card", "(JZ)I"⟩
abbrev ccMo_start : ByteArray := prog_11_method_31_code
def yMo_start : MethodName := ⟨RMo, "start", "(I)V"⟩
abbrev ccMo_run : ByteArray := prog_11_method_32_code
def yMo_run : MethodName := ⟨RMo, "run", "(I)I"⟩
abbrev ccMo_step : ByteArray := prog_11_method_30_code
def yMo_step : MethodName := ⟨RMo, "step", "()Z"⟩
abbrev ccMo_stop : ByteArray := prog_11_method_18_code
def yMo_stop : MethodName := ⟨RMo, "stop", "(II)Z"⟩
abbrev ccMo_access : ByteArray := prog_11_method_17_code
def yMo_access : MethodName := ⟨RMo, "access", "(I)V"⟩
abbrev ccMo_isOperation : ByteArray := prog_11_method_15_code
def yMo_isOperation : MethodName := ⟨RMo, "isOperation", "(I)Z"⟩
abbrev ccMo_reads : ByteArray := prog_11_method_12_code
def yMo_reads : MethodName := ⟨RMo, "reads", "(I)Z"⟩
abbrev ccMo_writes : ByteArray := prog_11_method_13_code
def yMo_writes : MethodName := ⟨RMo, "writes", "(I)Z"⟩
abbrev ccMo_shifts : ByteArray := prog_11_method_14_code
def yMo_shifts : MethodName := ⟨RMo, "shifts", "(I)Z"⟩
abbrev ccMo_doRead : ByteArray := prog_11_method_26_code
def yMo_doRead : MethodName := ⟨RMo, "doRead", "(IIJZI)Z"⟩
abbrev ccMo_lookUp : ByteArray := prog_11_method_27_code
def yMo_lookUp : MethodName := ⟨RMo, "lookUp", "(II)Z"⟩
abbrev ccMo_fixed : ByteArray := prog_11_method_16_code
def yMo_fixed : MethodName := ⟨RMo, "fixed", "(II)I"⟩
abbrev ccMo_divide : ByteArray := prog_11_method_22_code
def yMo_divide : MethodName := ⟨RMo, "divide", "(JZ)V"⟩
abbrev ccMo_sumOfDigits : ByteArray := prog_11_method_19_code
def yMo_sumOfDigits : MethodName := ⟨RMo, "sumOfDigits", "(J)I"⟩
abbrev ccMo_multiply : ByteArray := prog_11_method_21_code
def yMo_multiply : MethodName := ⟨RMo, "multiply", "(JZ)V"⟩
abbrev ccMo_sum : ByteArray := prog_11_method_25_code
def yMo_sum : MethodName := ⟨RMo, "sum", "(IJZ)V"⟩
abbrev ccMo_add : ByteArray := prog_11_method_20_code
def yMo_add : MethodName := ⟨RMo, "add", "(JJZ)V"⟩
abbrev ccMo_doWrite : ByteArray := prog_11_method_28_code
def yMo_doWrite : MethodName := ⟨RMo, "doWrite", "(III)Z"⟩
abbrev ccMo_branches : ByteArray := prog_11_method_29_code
def yMo_branches : MethodName := ⟨RMo, "branches", "(I)Z"⟩
abbrev ccMo_shiftRight : ByteArray := prog_11_method_23_code
def yMo_shiftRight : MethodName := ⟨RMo, "shiftRight", "(IZ)V"⟩
abbrev ccMo_shiftLeft : ByteArray := prog_11_method_24_code
def yMo_shiftLeft : MethodName := ⟨RMo, "shiftLeft", "(I)V"⟩
abbrev ccMo_line : ByteArray := prog_11_method_34_code
def yMo_line : MethodName := ⟨RMo, "line", "(IIII)I"⟩
abbrev ccMo_isPart : ByteArray := prog_11_method_33_code
def yMo_isPart : MethodName := ⟨RMo, "isPart", "(I)Z"⟩
abbrev ccMo_fail : ByteArray := prog_11_method_3_code
def yMo_fail : MethodName := ⟨RMo, "fail", "(I)I"⟩
abbrev ccMo_reserve : ByteArray := prog_11_method_35_code
def yMo_reserve : MethodName := ⟨RMo, "reserve", "(I)V"⟩
abbrev ccMo_clear : ByteArray := prog_11_method_37_code
def yMo_clear : MethodName := ⟨RMo, "clear", "()V"⟩
abbrev ccMo_assemble : ByteArray := prog_11_method_42_code
def yMo_assemble : MethodName := ⟨RMo, "assemble", "(Z)I"⟩
abbrev ccMo_hold : ByteArray := prog_11_method_40_code
def yMo_hold : MethodName := ⟨RMo, "hold", "(I)V"⟩
abbrev ccMo_settle : ByteArray := prog_11_method_41_code
def yMo_settle : MethodName := ⟨RMo, "settle", "(IIZ)V"⟩
abbrev ccMo_take : ByteArray := prog_11_method_38_code
def yMo_take : MethodName := ⟨RMo, "take", "(ZJ)I"⟩
abbrev ccMo_placeOf : ByteArray := prog_11_method_39_code
def yMo_placeOf : MethodName := ⟨RMo, "placeOf", "(IZJ)I"⟩
abbrev ccMo_place : ByteArray := prog_11_method_43_code
def yMo_place : MethodName := ⟨RMo, "place", "(I)I"⟩
abbrev ccMo_fault : ByteArray := prog_11_method_44_code
def yMo_fault : MethodName := ⟨RMo, "fault", "()I"⟩
abbrev ccMo_time : ByteArray := prog_11_method_45_code
def yMo_time : MethodName := ⟨RMo, "time", "()J"⟩
abbrev ccMo_register : ByteArray := prog_11_method_46_code
def yMo_register : MethodName := ⟨RMo, "register", "(I)J"⟩
abbrev ccMo_sign : ByteArray := prog_11_method_47_code
def yMo_sign : MethodName := ⟨RMo, "sign", "(I)Z"⟩
abbrev ccMo_next : ByteArray := prog_11_method_48_code
def yMo_next : MethodName := ⟨RMo, "next", "()I"⟩
abbrev ccMo_get : ByteArray := prog_11_method_49_code
def yMo_get : MethodName := ⟨RMo, "get", "(I)J"⟩
abbrev ccMo_output : ByteArray := prog_11_method_50_code
def yMo_output : MethodName := ⟨RMo, "output", "(I)J"⟩
abbrev ccMo_outputs : ByteArray := prog_11_method_51_code
def yMo_outputs : MethodName := ⟨RMo, "outputs", "()I"⟩
def wsA : List Cond := lw_tbl.filter goodWord
theorem memA1 {w : Cond} {i : Nat} (h : tables_1_1[i]? = some w) (hg : goodWord w = true) : w ∈ wsA := List.mem_filter.mpr ⟨List.mem_append_right _ (List.mem_append_left _ (List.mem_of_getElem? h)), hg⟩
theorem memA2 {w : Cond} {i : Nat} (h : tables_1_2[i]? = some w) (hg : goodWord w = true) : w ∈ wsA := List.mem_filter.mpr ⟨List.mem_append_right _ (List.mem_append_right _ (List.mem_append_left _ (List.mem_of_getElem? h))), hg⟩
theorem memA3 {w : Cond} {i : Nat} (h : tables_1_3[i]? = some w) (hg : goodWord w = true) : w ∈ wsA := List.mem_filter.mpr ⟨List.mem_append_right _ (List.mem_append_right _ (List.mem_append_right _ (List.mem_append_left _ (List.mem_of_getElem? h)))), hg⟩
theorem memA4 {w : Cond} {i : Nat} (h : tables_1_4[i]? = some w) (hg : goodWord w = true) : w ∈ wsA := List.mem_filter.mpr ⟨List.mem_append_right _ (List.mem_append_right _ (List.mem_append_right _ (List.mem_append_right _ (List.mem_append_left _ (List.mem_of_getElem? h))))), hg⟩
theorem memA5 {w : Cond} {i : Nat} (h : tables_1_5[i]? = some w) (hg : goodWord w = true) : w ∈ wsA := List.mem_filter.mpr ⟨List.mem_append_right _ (List.mem_append_right _ (List.mem_append_right _ (List.mem_append_right _ (List.mem_append_right _ (List.mem_of_getElem? h))))), hg⟩
theorem memS1 {y : MethodName} {i n : Nat} (h : lw_privs_1[i]? = some (y, n)) (hg : goodWord (Cond.selects y.cls y y) = true) : Cond.selects y.cls y y ∈ wsA := List.mem_filter.mpr ⟨List.mem_append_left _ (List.mem_map.mpr ⟨(y, n), List.mem_append_left _ (List.mem_of_getElem? h), rfl⟩), hg⟩
theorem memS2 {y : MethodName} {i n : Nat} (h : lw_privs_2[i]? = some (y, n)) (hg : goodWord (Cond.selects y.cls y y) = true) : Cond.selects y.cls y y ∈ wsA := List.mem_filter.mpr ⟨List.mem_append_left _ (List.mem_map.mpr ⟨(y, n), List.mem_append_right _ (List.mem_append_left _ (List.mem_of_getElem? h)), rfl⟩), hg⟩
theorem memS3 {y : MethodName} {i n : Nat} (h : lw_privs_3[i]? = some (y, n)) (hg : goodWord (Cond.selects y.cls y y) = true) : Cond.selects y.cls y y ∈ wsA := List.mem_filter.mpr ⟨List.mem_append_left _ (List.mem_map.mpr ⟨(y, n), List.mem_append_right _ (List.mem_append_right _ (List.mem_append_left _ (List.mem_of_getElem? h))), rfl⟩), hg⟩
theorem memS4 {y : MethodName} {i n : Nat} (h : lw_privs_4[i]? = some (y, n)) (hg : goodWord (Cond.selects y.cls y y) = true) : Cond.selects y.cls y y ∈ wsA := List.mem_filter.mpr ⟨List.mem_append_left _ (List.mem_map.mpr ⟨(y, n), List.mem_append_right _ (List.mem_append_right _ (List.mem_append_right _ (List.mem_of_getElem? h))), rfl⟩), hg⟩
theorem gA {w0 : Cond} : GoodIn (w0 :: wsA) wsA := fun w h => ⟨List.mem_cons_of_mem _ h, good_of_word (List.mem_filter.mp h).2⟩
theorem g1 {w0 w : Cond} (h : w ∈ wsA) : w ∈ w0 :: wsA ∧ ((w.onTables && w.keeps) = true ∨ ∃ ty, w = .arrayClass ty) := gA w h
theorem gI {w0 w : Cond} (h : w ∈ wsA) : GoodIn (w0 :: wsA) (w :: wsA) := fun v hv => (List.mem_cons.mp hv).elim (fun e => e ▸ g1 h) (fun e => g1 e)
theorem gS {w0 : Cond} {own : String} {idx n : Nat} {y : MethodName} {c : ByteArray} {r : Option FieldType} (h1 : Cond.methodLink own idx y ∈ wsA) (h2 : Cond.static y ∈ wsA) (h3 : Cond.initialized y.cls ∈ wsA) (h5 : Cond.code y c n r ∈ wsA) : GoodIn (w0 :: wsA) (va_wsS own idx y (Cond.code y c n r :: wsA)) := by
  intro w hw
  unfold va_wsS at hw
  simp only [List.cons_append, List.nil_append, List.mem_cons] at hw
  rcases hw with rfl | rfl | rfl | rfl | hw
  · exact g1 h1
  · exact g1 h2
  · exact g1 h3
  · exact g1 h5
  · exact g1 hw
theorem gV {w0 : Cond} {own C : String} {idx n : Nat} {y : MethodName} {c : ByteArray} {r : Option FieldType} (h1 : Cond.methodLink own idx y ∈ wsA) (h2 : Cond.instanceMethod y ∈ wsA) (h3 : Cond.selects C y y ∈ wsA) (h4 : Cond.initialized C ∈ wsA) (h5 : Cond.code y c n r ∈ wsA) : GoodIn (w0 :: wsA) (wsV own idx C y (Cond.code y c n r :: wsA)) := by
  intro w hw
  unfold wsV at hw
  simp only [List.cons_append, List.nil_append, List.mem_cons] at hw
  rcases hw with rfl | rfl | rfl | rfl | rfl | hw
  · exact g1 h1
  · exact g1 h2
  · exact g1 h3
  · exact g1 h4
  · exact g1 h5
  · exact g1 hw
theorem wm1_0 : Cond.initialized RLa ∈ wsA := memA1 (i := 0) rfl rfl
theorem wm1_1 : Cond.initialized RDM ∈ wsA := memA1 (i := 1) rfl rfl
theorem wm1_2 : Cond.initialized RDr ∈ wsA := memA1 (i := 2) rfl rfl
theorem wm1_3 : Cond.initialized RAr ∈ wsA := memA1 (i := 3) rfl rfl
theorem wm1_4 : Cond.initialized RCd ∈ wsA := memA1 (i := 4) rfl rfl
theorem wm1_5 : Cond.initialized RPu ∈ wsA := memA1 (i := 5) rfl rfl
theorem wm1_6 : Cond.initialized RPr ∈ wsA := memA1 (i := 6) rfl rfl
theorem wm1_7 : Cond.initialized RAc ∈ wsA := memA1 (i := 7) rfl rfl
theorem wm1_8 : Cond.initialized RAs ∈ wsA := memA1 (i := 8) rfl rfl
theorem wm1_9 : Cond.initialized RMo ∈ wsA := memA1 (i := 9) rfl rfl
theorem wm1_14 : Cond.initialized RDg ∈ wsA := memA1 (i := 14) rfl rfl
theorem wm1_17 : Cond.initialized ROp ∈ wsA := memA1 (i := 17) rfl rfl
theorem wm1_19 : Cond.initialized RMa ∈ wsA := memA1 (i := 19) rfl rfl
theorem wm1_22 : Cond.methodLink RLa 65 yDM_init ∈ wsA := memA1 (i := 22) rfl rfl
theorem wm1_23 : Cond.instanceMethod yDM_init ∈ wsA := memA1 (i := 23) rfl rfl
theorem wm1_30 : Cond.methodLink RDM 9 yDr_init ∈ wsA := memA1 (i := 30) rfl rfl
theorem wm1_31 : Cond.instanceMethod yDr_init ∈ wsA := memA1 (i := 31) rfl rfl
theorem wm1_34 : Cond.methodLink RDr 23 yDr_codeOf ∈ wsA := memA1 (i := 34) rfl rfl
theorem wm1_35 : Cond.static yDr_codeOf ∈ wsA := memA1 (i := 35) rfl rfl
theorem wm1_37 : Cond.methodLink RDr 27 yAr_fill ∈ wsA := memA1 (i := 37) rfl rfl
theorem wm1_38 : Cond.static yAr_fill ∈ wsA := memA1 (i := 38) rfl rfl
theorem wm1_40 : Cond.fieldLink RDr 11 "DrumMachine$Drum" "codes" "[I" ∈ wsA := memA1 (i := 40) rfl rfl
theorem wm1_41 : Cond.fieldLink RDr 15 "DrumMachine$Drum" "values" "[J" ∈ wsA := memA1 (i := 41) rfl rfl
theorem wm1_42 : Cond.fieldLink RDr 19 "DrumMachine$Drum" "minus" "[Z" ∈ wsA := memA1 (i := 42) rfl rfl
theorem wm1_43 : Cond.laysFinal RDr "DrumMachine$Drum" "codes" "[I" ∈ wsA := memA1 (i := 43) rfl rfl
theorem wm1_45 : Cond.laysFinal RDr "DrumMachine$Drum" "values" "[J" ∈ wsA := memA1 (i := 45) rfl rfl
theorem wm1_47 : Cond.laysFinal RDr "DrumMachine$Drum" "minus" "[Z" ∈ wsA := memA1 (i := 47) rfl rfl
theorem wm1_55 : Cond.methodLink RDM 18 yCd_init ∈ wsA := memA1 (i := 55) rfl rfl
theorem wm1_56 : Cond.instanceMethod yCd_init ∈ wsA := memA1 (i := 56) rfl rfl
theorem wm1_59 : Cond.fieldLink RCd 9 "DrumMachine$CardDeck" "values" "[J" ∈ wsA := memA1 (i := 59) rfl rfl
theorem wm1_60 : Cond.fieldLink RCd 13 "DrumMachine$CardDeck" "minus" "[Z" ∈ wsA := memA1 (i := 60) rfl rfl
theorem wm1_61 : Cond.fieldLink RCd 21 "DrumMachine$CardDeck" "first" "I" ∈ wsA := memA1 (i := 61) rfl rfl
theorem wm1_62 : Cond.fieldLink RCd 17 "DrumMachine$CardDeck" "count" "I" ∈ wsA := memA1 (i := 62) rfl rfl
theorem wm1_63 : Cond.laysFinal RCd "DrumMachine$CardDeck" "values" "[J" ∈ wsA := memA1 (i := 63) rfl rfl
theorem wm1_65 : Cond.laysFinal RCd "DrumMachine$CardDeck" "minus" "[Z" ∈ wsA := memA1 (i := 65) rfl rfl
theorem wm1_67 : Cond.lays RCd "DrumMachine$CardDeck" "first" "I" ∈ wsA := memA1 (i := 67) rfl rfl
theorem wm1_69 : Cond.lays RCd "DrumMachine$CardDeck" "count" "I" ∈ wsA := memA1 (i := 69) rfl rfl
theorem wm1_74 : Cond.methodLink RDM 25 yPu_init ∈ wsA := memA1 (i := 74) rfl rfl
theorem wm1_75 : Cond.instanceMethod yPu_init ∈ wsA := memA1 (i := 75) rfl rfl
theorem wm1_78 : Cond.fieldLink RPu 9 "DrumMachine$Punch" "words" "[J" ∈ wsA := memA1 (i := 78) rfl rfl
theorem wm1_79 : Cond.fieldLink RPu 13 "DrumMachine$Punch" "count" "I" ∈ wsA := memA1 (i := 79) rfl rfl
theorem wm1_80 : Cond.laysFinal RPu "DrumMachine$Punch" "words" "[J" ∈ wsA := memA1 (i := 80) rfl rfl
theorem wm1_82 : Cond.lays RPu "DrumMachine$Punch" "count" "I" ∈ wsA := memA1 (i := 82) rfl rfl
theorem wm1_87 : Cond.methodLink RDM 32 yPr_init ∈ wsA := memA1 (i := 87) rfl rfl
theorem wm1_88 : Cond.instanceMethod yPr_init ∈ wsA := memA1 (i := 88) rfl rfl
theorem wm1_93 : Cond.methodLink RPr 23 yAc_init ∈ wsA := memA1 (i := 93) rfl rfl
theorem wm1_94 : Cond.instanceMethod yAc_init ∈ wsA := memA1 (i := 94) rfl rfl
theorem wm1_97 : Cond.fieldLink RAc 7 "DrumMachine$Accumulator" "upper" "J" ∈ wsA := memA1 (i := 97) rfl rfl
theorem wm1_98 : Cond.fieldLink RAc 13 "DrumMachine$Accumulator" "lower" "J" ∈ wsA := memA1 (i := 98) rfl rfl
theorem wm1_99 : Cond.fieldLink RAc 16 "DrumMachine$Accumulator" "minus" "Z" ∈ wsA := memA1 (i := 99) rfl rfl
theorem wm1_100 : Cond.fieldLink RAc 20 "DrumMachine$Accumulator" "overflow" "Z" ∈ wsA := memA1 (i := 100) rfl rfl
theorem wm1_101 : Cond.lays RAc "DrumMachine$Accumulator" "upper" "J" ∈ wsA := memA1 (i := 101) rfl rfl
theorem wm1_103 : Cond.lays RAc "DrumMachine$Accumulator" "lower" "J" ∈ wsA := memA1 (i := 103) rfl rfl
theorem wm1_105 : Cond.lays RAc "DrumMachine$Accumulator" "minus" "Z" ∈ wsA := memA1 (i := 105) rfl rfl
theorem wm1_107 : Cond.lays RAc "DrumMachine$Accumulator" "overflow" "Z" ∈ wsA := memA1 (i := 107) rfl rfl
theorem wm1_110 : Cond.fieldLink RPr 7 "DrumMachine$Processor" "drum" "LDrumMachine$Drum;" ∈ wsA := memA1 (i := 110) rfl rfl
theorem wm1_111 : Cond.fieldLink RPr 13 "DrumMachine$Processor" "cards" "LDrumMachine$CardDeck;" ∈ wsA := memA1 (i := 111) rfl rfl
theorem wm1_112 : Cond.fieldLink RPr 17 "DrumMachine$Processor" "punch" "LDrumMachine$Punch;" ∈ wsA := memA1 (i := 112) rfl rfl
theorem wm1_113 : Cond.fieldLink RPr 24 "DrumMachine$Processor" "accumulator" "LDrumMachine$Accumulator;" ∈ wsA := memA1 (i := 113) rfl rfl
theorem wm1_114 : Cond.fieldLink RPr 46 "DrumMachine$Processor" "distributor" "J" ∈ wsA := memA1 (i := 114) rfl rfl
theorem wm1_115 : Cond.fieldLink RPr 53 "DrumMachine$Processor" "distributorMinus" "Z" ∈ wsA := memA1 (i := 115) rfl rfl
theorem wm1_116 : Cond.fieldLink RPr 36 "DrumMachine$Processor" "next" "I" ∈ wsA := memA1 (i := 116) rfl rfl
theorem wm1_117 : Cond.fieldLink RPr 28 "DrumMachine$Processor" "cause" "I" ∈ wsA := memA1 (i := 117) rfl rfl
theorem wm1_118 : Cond.fieldLink RPr 32 "DrumMachine$Processor" "time" "J" ∈ wsA := memA1 (i := 118) rfl rfl
theorem wm1_119 : Cond.laysFinal RPr "DrumMachine$Processor" "drum" "LDrumMachine$Drum;" ∈ wsA := memA1 (i := 119) rfl rfl
theorem wm1_121 : Cond.laysFinal RPr "DrumMachine$Processor" "cards" "LDrumMachine$CardDeck;" ∈ wsA := memA1 (i := 121) rfl rfl
theorem wm1_123 : Cond.laysFinal RPr "DrumMachine$Processor" "punch" "LDrumMachine$Punch;" ∈ wsA := memA1 (i := 123) rfl rfl
theorem wm1_125 : Cond.laysFinal RPr "DrumMachine$Processor" "accumulator" "LDrumMachine$Accumulator;" ∈ wsA := memA1 (i := 125) rfl rfl
theorem wm1_127 : Cond.lays RPr "DrumMachine$Processor" "distributor" "J" ∈ wsA := memA1 (i := 127) rfl rfl
theorem wm1_129 : Cond.lays RPr "DrumMachine$Processor" "distributorMinus" "Z" ∈ wsA := memA1 (i := 129) rfl rfl
theorem wm1_131 : Cond.lays RPr "DrumMachine$Processor" "next" "I" ∈ wsA := memA1 (i := 131) rfl rfl
theorem wm1_133 : Cond.lays RPr "DrumMachine$Processor" "cause" "I" ∈ wsA := memA1 (i := 133) rfl rfl
theorem wm1_135 : Cond.lays RPr "DrumMachine$Processor" "time" "J" ∈ wsA := memA1 (i := 135) rfl rfl
theorem wm1_140 : Cond.methodLink RDM 41 yAs_init ∈ wsA := memA1 (i := 140) rfl rfl
theorem wm1_141 : Cond.instanceMethod yAs_init ∈ wsA := memA1 (i := 141) rfl rfl
theorem wm1_144 : Cond.methodLink RAs 43 yAr_fill ∈ wsA := memA1 (i := 144) rfl rfl
theorem wm1_145 : Cond.fieldLink RAs 9 "DrumMachine$Assembler" "locationParts" "[I" ∈ wsA := memA1 (i := 145) rfl rfl
theorem wm1_146 : Cond.fieldLink RAs 13 "DrumMachine$Assembler" "operations" "[I" ∈ wsA := memA1 (i := 146) rfl rfl
theorem wm1_147 : Cond.fieldLink RAs 16 "DrumMachine$Assembler" "dataParts" "[I" ∈ wsA := memA1 (i := 147) rfl rfl
theorem wm1_148 : Cond.fieldLink RAs 19 "DrumMachine$Assembler" "nextParts" "[I" ∈ wsA := memA1 (i := 148) rfl rfl
theorem wm1_149 : Cond.fieldLink RAs 22 "DrumMachine$Assembler" "locations" "[I" ∈ wsA := memA1 (i := 149) rfl rfl
theorem wm1_150 : Cond.fieldLink RAs 25 "DrumMachine$Assembler" "data" "[I" ∈ wsA := memA1 (i := 150) rfl rfl
theorem wm1_151 : Cond.fieldLink RAs 28 "DrumMachine$Assembler" "nexts" "[I" ∈ wsA := memA1 (i := 151) rfl rfl
theorem wm1_152 : Cond.fieldLink RAs 31 "DrumMachine$Assembler" "symbolPlaces" "[I" ∈ wsA := memA1 (i := 152) rfl rfl
theorem wm1_153 : Cond.fieldLink RAs 36 "DrumMachine$Assembler" "reserved" "[Z" ∈ wsA := memA1 (i := 153) rfl rfl
theorem wm1_154 : Cond.fieldLink RAs 40 "DrumMachine$Assembler" "taken" "[Z" ∈ wsA := memA1 (i := 154) rfl rfl
theorem wm1_155 : Cond.fieldLink RAs 64 "DrumMachine$Assembler" "count" "I" ∈ wsA := memA1 (i := 155) rfl rfl
theorem wm1_156 : Cond.laysFinal RAs "DrumMachine$Assembler" "locationParts" "[I" ∈ wsA := memA1 (i := 156) rfl rfl
theorem wm1_158 : Cond.laysFinal RAs "DrumMachine$Assembler" "operations" "[I" ∈ wsA := memA1 (i := 158) rfl rfl
theorem wm1_160 : Cond.laysFinal RAs "DrumMachine$Assembler" "dataParts" "[I" ∈ wsA := memA1 (i := 160) rfl rfl
theorem wm1_162 : Cond.laysFinal RAs "DrumMachine$Assembler" "nextParts" "[I" ∈ wsA := memA1 (i := 162) rfl rfl
theorem wm1_164 : Cond.laysFinal RAs "DrumMachine$Assembler" "locations" "[I" ∈ wsA := memA1 (i := 164) rfl rfl
theorem wm1_166 : Cond.laysFinal RAs "DrumMachine$Assembler" "data" "[I" ∈ wsA := memA1 (i := 166) rfl rfl
theorem wm1_168 : Cond.laysFinal RAs "DrumMachine$Assembler" "nexts" "[I" ∈ wsA := memA1 (i := 168) rfl rfl
theorem wm1_170 : Cond.laysFinal RAs "DrumMachine$Assembler" "symbolPlaces" "[I" ∈ wsA := memA1 (i := 170) rfl rfl
theorem wm1_172 : Cond.laysFinal RAs "DrumMachine$Assembler" "reserved" "[Z" ∈ wsA := memA1 (i := 172) rfl rfl
theorem wm1_174 : Cond.laysFinal RAs "DrumMachine$Assembler" "taken" "[Z" ∈ wsA := memA1 (i := 174) rfl rfl
theorem wm1_176 : Cond.lays RAs "DrumMachine$Assembler" "count" "I" ∈ wsA := memA1 (i := 176) rfl rfl
theorem wm1_179 : Cond.fieldLink RDM 10 "DrumMachine" "drum" "LDrumMachine$Drum;" ∈ wsA := memA1 (i := 179) rfl rfl
theorem wm1_180 : Cond.fieldLink RDM 19 "DrumMachine" "cards" "LDrumMachine$CardDeck;" ∈ wsA := memA1 (i := 180) rfl rfl
theorem wm1_181 : Cond.fieldLink RDM 26 "DrumMachine" "punch" "LDrumMachine$Punch;" ∈ wsA := memA1 (i := 181) rfl rfl
theorem wm1_182 : Cond.fieldLink RDM 35 "DrumMachine" "processor" "LDrumMachine$Processor;" ∈ wsA := memA1 (i := 182) rfl rfl
theorem wm1_183 : Cond.fieldLink RDM 42 "DrumMachine" "assembler" "LDrumMachine$Assembler;" ∈ wsA := memA1 (i := 183) rfl rfl
theorem wm1_184 : Cond.laysFinal RDM "DrumMachine" "drum" "LDrumMachine$Drum;" ∈ wsA := memA1 (i := 184) rfl rfl
theorem wm1_186 : Cond.laysFinal RDM "DrumMachine" "cards" "LDrumMachine$CardDeck;" ∈ wsA := memA1 (i := 186) rfl rfl
theorem wm1_188 : Cond.laysFinal RDM "DrumMachine" "punch" "LDrumMachine$Punch;" ∈ wsA := memA1 (i := 188) rfl rfl
theorem wm1_190 : Cond.laysFinal RDM "DrumMachine" "processor" "LDrumMachine$Processor;" ∈ wsA := memA1 (i := 190) rfl rfl
theorem wm1_192 : Cond.laysFinal RDM "DrumMachine" "assembler" "LDrumMachine$Assembler;" ∈ wsA := memA1 (i := 192) rfl rfl
theorem wm1_195 : Cond.methodLink RLa 97 yDM_clear ∈ wsA := memA1 (i := 195) rfl rfl
theorem wm1_196 : Cond.instanceMethod yDM_clear ∈ wsA := memA1 (i := 196) rfl rfl
theorem wm1_197 : Cond.selects RDM yDM_clear yDM_clear ∈ wsA := memA1 (i := 197) rfl rfl
theorem wm1_199 : Cond.methodLink RDM 131 yAs_forgetAll ∈ wsA := memA1 (i := 199) rfl rfl
theorem wm1_200 : Cond.instanceMethod yAs_forgetAll ∈ wsA := memA1 (i := 200) rfl rfl
theorem wm1_201 : Cond.selects RAs yAs_forgetAll yAs_forgetAll ∈ wsA := memA1 (i := 201) rfl rfl
theorem wm1_203 : Cond.methodLink RAs 68 yAs_forgetPlaces ∈ wsA := memA1 (i := 203) rfl rfl
theorem wm1_205 : Cond.instanceMethod yAs_forgetPlaces ∈ wsA := memA1 (i := 205) rfl rfl
theorem wm1_207 : Cond.methodLink RLa 115 yDM_fault ∈ wsA := memA1 (i := 207) rfl rfl
theorem wm1_208 : Cond.instanceMethod yDM_fault ∈ wsA := memA1 (i := 208) rfl rfl
theorem wm1_209 : Cond.selects RDM yDM_fault yDM_fault ∈ wsA := memA1 (i := 209) rfl rfl
theorem wm1_211 : Cond.methodLink RDM 179 yPr_stopCause ∈ wsA := memA1 (i := 211) rfl rfl
theorem wm1_212 : Cond.instanceMethod yPr_stopCause ∈ wsA := memA1 (i := 212) rfl rfl
theorem wm1_213 : Cond.selects RPr yPr_stopCause yPr_stopCause ∈ wsA := memA1 (i := 213) rfl rfl
theorem wm1_215 : Cond.methodLink RLa 119 yDM_time ∈ wsA := memA1 (i := 215) rfl rfl
theorem wm1_216 : Cond.instanceMethod yDM_time ∈ wsA := memA1 (i := 216) rfl rfl
theorem wm1_217 : Cond.selects RDM yDM_time yDM_time ∈ wsA := memA1 (i := 217) rfl rfl
theorem wm1_219 : Cond.methodLink RDM 182 yPr_wordTimes ∈ wsA := memA1 (i := 219) rfl rfl
theorem wm1_220 : Cond.instanceMethod yPr_wordTimes ∈ wsA := memA1 (i := 220) rfl rfl
theorem wm1_221 : Cond.selects RPr yPr_wordTimes yPr_wordTimes ∈ wsA := memA1 (i := 221) rfl rfl
theorem wm1_223 : Cond.methodLink RLa 130 yDM_next ∈ wsA := memA1 (i := 223) rfl rfl
theorem wm1_224 : Cond.instanceMethod yDM_next ∈ wsA := memA1 (i := 224) rfl rfl
theorem wm1_225 : Cond.selects RDM yDM_next yDM_next ∈ wsA := memA1 (i := 225) rfl rfl
theorem wm1_227 : Cond.methodLink RDM 208 yPr_nextAddress ∈ wsA := memA1 (i := 227) rfl rfl
theorem wm1_228 : Cond.instanceMethod yPr_nextAddress ∈ wsA := memA1 (i := 228) rfl rfl
theorem wm1_229 : Cond.selects RPr yPr_nextAddress yPr_nextAddress ∈ wsA := memA1 (i := 229) rfl rfl
theorem wm1_231 : Cond.methodLink RLa 140 yDM_outputs ∈ wsA := memA1 (i := 231) rfl rfl
theorem wm1_232 : Cond.instanceMethod yDM_outputs ∈ wsA := memA1 (i := 232) rfl rfl
theorem wm1_233 : Cond.selects RDM yDM_outputs yDM_outputs ∈ wsA := memA1 (i := 233) rfl rfl
theorem wm1_235 : Cond.methodLink RDM 232 yPu_size ∈ wsA := memA1 (i := 235) rfl rfl
theorem wm1_236 : Cond.instanceMethod yPu_size ∈ wsA := memA1 (i := 236) rfl rfl
theorem wm1_237 : Cond.selects RPu yPu_size yPu_size ∈ wsA := memA1 (i := 237) rfl rfl
theorem wm2_4 : Cond.methodLink RLa 7 yDM_word ∈ wsA := memA2 (i := 4) rfl rfl
theorem wm2_5 : Cond.instanceMethod yDM_word ∈ wsA := memA2 (i := 5) rfl rfl
theorem wm2_6 : Cond.selects RDM yDM_word yDM_word ∈ wsA := memA2 (i := 6) rfl rfl
theorem wm2_8 : Cond.methodLink RDM 46 yDr_hasAddress ∈ wsA := memA2 (i := 8) rfl rfl
theorem wm2_9 : Cond.static yDr_hasAddress ∈ wsA := memA2 (i := 9) rfl rfl
theorem wm2_80 : Cond.methodLink RDM 57 yDg_fitWord ∈ wsA := memA2 (i := 80) rfl rfl
theorem wm2_81 : Cond.static yDg_fitWord ∈ wsA := memA2 (i := 81) rfl rfl
theorem wm2_83 : Cond.constantLong RDg 9 (10000000000) ∈ wsA := memA2 (i := 83) rfl rfl
theorem wm2_100 : Cond.methodLink RDM 68 yDr_store ∈ wsA := memA2 (i := 100) rfl rfl
theorem wm2_101 : Cond.instanceMethod yDr_store ∈ wsA := memA2 (i := 101) rfl rfl
theorem wm2_102 : Cond.selects RDr yDr_store yDr_store ∈ wsA := memA2 (i := 102) rfl rfl
theorem wm2_104 : Cond.constantLong RDr 37 (10) ∈ wsA := memA2 (i := 104) rfl rfl
theorem wm2_108 : Cond.methodLink RLa 17 yDM_flip ∈ wsA := memA2 (i := 108) rfl rfl
theorem wm2_109 : Cond.instanceMethod yDM_flip ∈ wsA := memA2 (i := 109) rfl rfl
theorem wm2_110 : Cond.selects RDM yDM_flip yDM_flip ∈ wsA := memA2 (i := 110) rfl rfl
theorem wm2_112 : Cond.methodLink RDM 72 yDr_hasBit ∈ wsA := memA2 (i := 112) rfl rfl
theorem wm2_113 : Cond.static yDr_hasBit ∈ wsA := memA2 (i := 113) rfl rfl
theorem wm2_115 : Cond.methodLink RDr 33 yDr_hasAddress ∈ wsA := memA2 (i := 115) rfl rfl
theorem wm2_117 : Cond.methodLink RDM 78 yDr_turnBitOver ∈ wsA := memA2 (i := 117) rfl rfl
theorem wm2_118 : Cond.instanceMethod yDr_turnBitOver ∈ wsA := memA2 (i := 118) rfl rfl
theorem wm2_119 : Cond.selects RDr yDr_turnBitOver yDr_turnBitOver ∈ wsA := memA2 (i := 119) rfl rfl
theorem wm2_121 : Cond.methodLink RDr 39 yDr_valueOfCodes ∈ wsA := memA2 (i := 121) rfl rfl
theorem wm2_123 : Cond.instanceMethod yDr_valueOfCodes ∈ wsA := memA2 (i := 123) rfl rfl
theorem wm2_125 : Cond.methodLink RDr 45 yDr_digitOf ∈ wsA := memA2 (i := 125) rfl rfl
theorem wm2_126 : Cond.static yDr_digitOf ∈ wsA := memA2 (i := 126) rfl rfl
theorem wm2_128 : Cond.constantLong RDr 43 (-1) ∈ wsA := memA2 (i := 128) rfl rfl
theorem wm2_129 : Cond.methodLink RDM 82 yDr_isValid ∈ wsA := memA2 (i := 129) rfl rfl
theorem wm2_130 : Cond.instanceMethod yDr_isValid ∈ wsA := memA2 (i := 130) rfl rfl
theorem wm2_131 : Cond.selects RDr yDr_isValid yDr_isValid ∈ wsA := memA2 (i := 131) rfl rfl
theorem wm2_137 : Cond.methodLink RLa 21 yDM_card ∈ wsA := memA2 (i := 137) rfl rfl
theorem wm2_138 : Cond.instanceMethod yDM_card ∈ wsA := memA2 (i := 138) rfl rfl
theorem wm2_139 : Cond.selects RDM yDM_card yDM_card ∈ wsA := memA2 (i := 139) rfl rfl
theorem wm2_142 : Cond.methodLink RDM 87 yCd_isFull ∈ wsA := memA2 (i := 142) rfl rfl
theorem wm2_143 : Cond.instanceMethod yCd_isFull ∈ wsA := memA2 (i := 143) rfl rfl
theorem wm2_144 : Cond.selects RCd yCd_isFull yCd_isFull ∈ wsA := memA2 (i := 144) rfl rfl
theorem wm2_162 : Cond.methodLink RDM 96 yCd_put ∈ wsA := memA2 (i := 162) rfl rfl
theorem wm2_163 : Cond.instanceMethod yCd_put ∈ wsA := memA2 (i := 163) rfl rfl
theorem wm2_164 : Cond.selects RCd yCd_put yCd_put ∈ wsA := memA2 (i := 164) rfl rfl
theorem wm2_166 : Cond.methodLink RDM 100 yCd_size ∈ wsA := memA2 (i := 166) rfl rfl
theorem wm2_167 : Cond.instanceMethod yCd_size ∈ wsA := memA2 (i := 167) rfl rfl
theorem wm2_168 : Cond.selects RCd yCd_size yCd_size ∈ wsA := memA2 (i := 168) rfl rfl
theorem wm2_173 : Cond.methodLink RLa 27 yDM_line ∈ wsA := memA2 (i := 173) rfl rfl
theorem wm2_174 : Cond.instanceMethod yDM_line ∈ wsA := memA2 (i := 174) rfl rfl
theorem wm2_175 : Cond.selects RDM yDM_line yDM_line ∈ wsA := memA2 (i := 175) rfl rfl
theorem wm2_177 : Cond.methodLink RDM 104 yOp_exists ∈ wsA := memA2 (i := 177) rfl rfl
theorem wm2_178 : Cond.static yOp_exists ∈ wsA := memA2 (i := 178) rfl rfl
theorem wm2_180 : Cond.methodLink ROp 13 yOp_kindOf ∈ wsA := memA2 (i := 180) rfl rfl
theorem wm2_181 : Cond.static yOp_kindOf ∈ wsA := memA2 (i := 181) rfl rfl
theorem wm2_183 : Cond.methodLink ROp 9 yOp_branchesOnEight ∈ wsA := memA2 (i := 183) rfl rfl
theorem wm2_184 : Cond.static yOp_branchesOnEight ∈ wsA := memA2 (i := 184) rfl rfl
theorem wm2_187 : Cond.methodLink RDM 111 yAs_isPart ∈ wsA := memA2 (i := 187) rfl rfl
theorem wm2_188 : Cond.static yAs_isPart ∈ wsA := memA2 (i := 188) rfl rfl
theorem wm2_190 : Cond.methodLink RAs 49 yDr_hasAddress ∈ wsA := memA2 (i := 190) rfl rfl
theorem wm2_191 : Cond.methodLink RAs 53 yAs_isSymbol ∈ wsA := memA2 (i := 191) rfl rfl
theorem wm2_192 : Cond.static yAs_isSymbol ∈ wsA := memA2 (i := 192) rfl rfl
theorem wm2_194 : Cond.methodLink RDM 114 yAs_isDataPart ∈ wsA := memA2 (i := 194) rfl rfl
theorem wm2_195 : Cond.static yAs_isDataPart ∈ wsA := memA2 (i := 195) rfl rfl
theorem wm2_197 : Cond.methodLink RAs 56 yOp_shifts ∈ wsA := memA2 (i := 197) rfl rfl
theorem wm2_198 : Cond.static yOp_shifts ∈ wsA := memA2 (i := 198) rfl rfl
theorem wm2_200 : Cond.methodLink RAs 61 yAs_isPart ∈ wsA := memA2 (i := 200) rfl rfl
theorem wm2_202 : Cond.methodLink RDM 120 yAs_isFull ∈ wsA := memA2 (i := 202) rfl rfl
theorem wm2_203 : Cond.instanceMethod yAs_isFull ∈ wsA := memA2 (i := 203) rfl rfl
theorem wm2_204 : Cond.selects RAs yAs_isFull yAs_isFull ∈ wsA := memA2 (i := 204) rfl rfl
theorem wm2_207 : Cond.methodLink RDM 123 yAs_addLine ∈ wsA := memA2 (i := 207) rfl rfl
theorem wm2_208 : Cond.instanceMethod yAs_addLine ∈ wsA := memA2 (i := 208) rfl rfl
theorem wm2_209 : Cond.selects RAs yAs_addLine yAs_addLine ∈ wsA := memA2 (i := 209) rfl rfl
theorem wm2_214 : Cond.methodLink RLa 31 yDM_reserve ∈ wsA := memA2 (i := 214) rfl rfl
theorem wm2_215 : Cond.instanceMethod yDM_reserve ∈ wsA := memA2 (i := 215) rfl rfl
theorem wm2_216 : Cond.selects RDM yDM_reserve yDM_reserve ∈ wsA := memA2 (i := 216) rfl rfl
theorem wm2_218 : Cond.methodLink RDM 127 yAs_markReserved ∈ wsA := memA2 (i := 218) rfl rfl
theorem wm2_219 : Cond.instanceMethod yAs_markReserved ∈ wsA := memA2 (i := 219) rfl rfl
theorem wm2_220 : Cond.selects RAs yAs_markReserved yAs_markReserved ∈ wsA := memA2 (i := 220) rfl rfl
theorem wm2_226 : Cond.methodLink RLa 35 yDM_assemble ∈ wsA := memA2 (i := 226) rfl rfl
theorem wm2_227 : Cond.instanceMethod yDM_assemble ∈ wsA := memA2 (i := 227) rfl rfl
theorem wm2_228 : Cond.selects RDM yDM_assemble yDM_assemble ∈ wsA := memA2 (i := 228) rfl rfl
theorem wm2_230 : Cond.methodLink RDM 134 yAs_isEmpty ∈ wsA := memA2 (i := 230) rfl rfl
theorem wm2_231 : Cond.instanceMethod yAs_isEmpty ∈ wsA := memA2 (i := 231) rfl rfl
theorem wm2_232 : Cond.selects RAs yAs_isEmpty yAs_isEmpty ∈ wsA := memA2 (i := 232) rfl rfl
theorem wm2_235 : Cond.methodLink RDM 139 yAs_placeAll ∈ wsA := memA2 (i := 235) rfl rfl
theorem wm2_236 : Cond.instanceMethod yAs_placeAll ∈ wsA := memA2 (i := 236) rfl rfl
theorem wm2_237 : Cond.selects RAs yAs_placeAll yAs_placeAll ∈ wsA := memA2 (i := 237) rfl rfl
theorem wm2_239 : Cond.methodLink RAs 71 yAs_markTaken ∈ wsA := memA2 (i := 239) rfl rfl
theorem wm3_1 : Cond.instanceMethod yAs_markTaken ∈ wsA := memA3 (i := 1) rfl rfl
theorem wm3_3 : Cond.methodLink RAs 91 yAs_takeIfAddress ∈ wsA := memA3 (i := 3) rfl rfl
theorem wm3_5 : Cond.instanceMethod yAs_takeIfAddress ∈ wsA := memA3 (i := 5) rfl rfl
theorem wm3_7 : Cond.methodLink RAs 74 yAs_placeLine ∈ wsA := memA3 (i := 7) rfl rfl
theorem wm3_9 : Cond.instanceMethod yAs_placeLine ∈ wsA := memA3 (i := 9) rfl rfl
theorem wm3_11 : Cond.methodLink RAs 95 yAs_placeLocation ∈ wsA := memA3 (i := 11) rfl rfl
theorem wm3_13 : Cond.instanceMethod yAs_placeLocation ∈ wsA := memA3 (i := 13) rfl rfl
theorem wm3_15 : Cond.methodLink RAs 105 yAs_placePart ∈ wsA := memA3 (i := 15) rfl rfl
theorem wm3_17 : Cond.instanceMethod yAs_placePart ∈ wsA := memA3 (i := 17) rfl rfl
theorem wm3_19 : Cond.methodLink RAs 109 yAs_newPlace ∈ wsA := memA3 (i := 19) rfl rfl
theorem wm3_21 : Cond.instanceMethod yAs_newPlace ∈ wsA := memA3 (i := 21) rfl rfl
theorem wm3_23 : Cond.methodLink RAs 123 yAs_firstFreeFromAngle ∈ wsA := memA3 (i := 23) rfl rfl
theorem wm3_25 : Cond.instanceMethod yAs_firstFreeFromAngle ∈ wsA := memA3 (i := 25) rfl rfl
theorem wm3_27 : Cond.methodLink RAs 126 yAs_leastFree ∈ wsA := memA3 (i := 27) rfl rfl
theorem wm3_29 : Cond.instanceMethod yAs_leastFree ∈ wsA := memA3 (i := 29) rfl rfl
theorem wm3_31 : Cond.methodLink RAs 99 yAs_placeData ∈ wsA := memA3 (i := 31) rfl rfl
theorem wm3_33 : Cond.instanceMethod yAs_placeData ∈ wsA := memA3 (i := 33) rfl rfl
theorem wm3_35 : Cond.methodLink RAs 102 yAs_placeNext ∈ wsA := memA3 (i := 35) rfl rfl
theorem wm3_37 : Cond.instanceMethod yAs_placeNext ∈ wsA := memA3 (i := 37) rfl rfl
theorem wm3_39 : Cond.methodLink RAs 112 yAs_bestForNext ∈ wsA := memA3 (i := 39) rfl rfl
theorem wm3_41 : Cond.instanceMethod yAs_bestForNext ∈ wsA := memA3 (i := 41) rfl rfl
theorem wm3_43 : Cond.methodLink RAs 116 yOp_accessesData ∈ wsA := memA3 (i := 43) rfl rfl
theorem wm3_44 : Cond.static yOp_accessesData ∈ wsA := memA3 (i := 44) rfl rfl
theorem wm3_46 : Cond.methodLink RAs 119 yOp_fixedTime ∈ wsA := memA3 (i := 46) rfl rfl
theorem wm3_47 : Cond.static yOp_fixedTime ∈ wsA := memA3 (i := 47) rfl rfl
theorem wm3_49 : Cond.methodLink ROp 17 yOp_shiftLength ∈ wsA := memA3 (i := 49) rfl rfl
theorem wm3_50 : Cond.static yOp_shiftLength ∈ wsA := memA3 (i := 50) rfl rfl
theorem wm3_52 : Cond.methodLink RAs 78 yAs_isLocationOfEarlierLine ∈ wsA := memA3 (i := 52) rfl rfl
theorem wm3_54 : Cond.instanceMethod yAs_isLocationOfEarlierLine ∈ wsA := memA3 (i := 54) rfl rfl
theorem wm3_72 : Cond.methodLink RDM 148 yAs_writeTo ∈ wsA := memA3 (i := 72) rfl rfl
theorem wm3_73 : Cond.instanceMethod yAs_writeTo ∈ wsA := memA3 (i := 73) rfl rfl
theorem wm3_74 : Cond.selects RAs yAs_writeTo yAs_writeTo ∈ wsA := memA3 (i := 74) rfl rfl
theorem wm3_76 : Cond.methodLink RAs 81 yDg_instruction ∈ wsA := memA3 (i := 76) rfl rfl
theorem wm3_77 : Cond.static yDg_instruction ∈ wsA := memA3 (i := 77) rfl rfl
theorem wm3_79 : Cond.constantLong RDg 17 (100000000) ∈ wsA := memA3 (i := 79) rfl rfl
theorem wm3_80 : Cond.constantLong RDg 19 (10000) ∈ wsA := memA3 (i := 80) rfl rfl
theorem wm3_81 : Cond.methodLink RAs 87 yDr_store ∈ wsA := memA3 (i := 81) rfl rfl
theorem wm3_82 : Cond.methodLink RDM 152 yAs_firstLocation ∈ wsA := memA3 (i := 82) rfl rfl
theorem wm3_83 : Cond.instanceMethod yAs_firstLocation ∈ wsA := memA3 (i := 83) rfl rfl
theorem wm3_84 : Cond.selects RAs yAs_firstLocation yAs_firstLocation ∈ wsA := memA3 (i := 84) rfl rfl
theorem wm3_89 : Cond.methodLink RLa 41 yDM_place ∈ wsA := memA3 (i := 89) rfl rfl
theorem wm3_90 : Cond.instanceMethod yDM_place ∈ wsA := memA3 (i := 90) rfl rfl
theorem wm3_91 : Cond.selects RDM yDM_place yDM_place ∈ wsA := memA3 (i := 91) rfl rfl
theorem wm3_93 : Cond.methodLink RDM 155 yAs_hasSymbol ∈ wsA := memA3 (i := 93) rfl rfl
theorem wm3_94 : Cond.static yAs_hasSymbol ∈ wsA := memA3 (i := 94) rfl rfl
theorem wm3_97 : Cond.methodLink RDM 160 yAs_placeOf ∈ wsA := memA3 (i := 97) rfl rfl
theorem wm3_98 : Cond.instanceMethod yAs_placeOf ∈ wsA := memA3 (i := 98) rfl rfl
theorem wm3_99 : Cond.selects RAs yAs_placeOf yAs_placeOf ∈ wsA := memA3 (i := 99) rfl rfl
theorem wm3_104 : Cond.methodLink RLa 45 yDM_start ∈ wsA := memA3 (i := 104) rfl rfl
theorem wm3_105 : Cond.instanceMethod yDM_start ∈ wsA := memA3 (i := 105) rfl rfl
theorem wm3_106 : Cond.selects RDM yDM_start yDM_start ∈ wsA := memA3 (i := 106) rfl rfl
theorem wm3_109 : Cond.methodLink RDM 166 yPr_goOnFrom ∈ wsA := memA3 (i := 109) rfl rfl
theorem wm3_110 : Cond.instanceMethod yPr_goOnFrom ∈ wsA := memA3 (i := 110) rfl rfl
theorem wm3_111 : Cond.selects RPr yPr_goOnFrom yPr_goOnFrom ∈ wsA := memA3 (i := 111) rfl rfl
theorem wm3_116 : Cond.methodLink RLa 48 yDM_run ∈ wsA := memA3 (i := 116) rfl rfl
theorem wm3_117 : Cond.instanceMethod yDM_run ∈ wsA := memA3 (i := 117) rfl rfl
theorem wm3_118 : Cond.selects RDM yDM_run yDM_run ∈ wsA := memA3 (i := 118) rfl rfl
theorem wm3_121 : Cond.methodLink RDM 171 yPr_isStopped ∈ wsA := memA3 (i := 121) rfl rfl
theorem wm3_122 : Cond.instanceMethod yPr_isStopped ∈ wsA := memA3 (i := 122) rfl rfl
theorem wm3_123 : Cond.selects RPr yPr_isStopped yPr_isStopped ∈ wsA := memA3 (i := 123) rfl rfl
theorem wm3_126 : Cond.methodLink RDM 176 yPr_doSteps ∈ wsA := memA3 (i := 126) rfl rfl
theorem wm3_127 : Cond.instanceMethod yPr_doSteps ∈ wsA := memA3 (i := 127) rfl rfl
theorem wm3_128 : Cond.selects RPr yPr_doSteps yPr_doSteps ∈ wsA := memA3 (i := 128) rfl rfl
theorem wm3_130 : Cond.methodLink RPr 60 yPr_isStopped ∈ wsA := memA3 (i := 130) rfl rfl
theorem wm3_131 : Cond.methodLink RPr 63 yPr_step ∈ wsA := memA3 (i := 131) rfl rfl
theorem wm3_133 : Cond.instanceMethod yPr_step ∈ wsA := memA3 (i := 133) rfl rfl
theorem wm3_135 : Cond.methodLink RPr 71 yDr_hasAddress ∈ wsA := memA3 (i := 135) rfl rfl
theorem wm3_136 : Cond.methodLink RPr 76 yPr_waitAndAccess ∈ wsA := memA3 (i := 136) rfl rfl
theorem wm3_138 : Cond.instanceMethod yPr_waitAndAccess ∈ wsA := memA3 (i := 138) rfl rfl
theorem wm3_140 : Cond.constantLong RPr 111 (50) ∈ wsA := memA3 (i := 140) rfl rfl
theorem wm3_141 : Cond.methodLink RPr 113 yDr_angleOf ∈ wsA := memA3 (i := 141) rfl rfl
theorem wm3_142 : Cond.static yDr_angleOf ∈ wsA := memA3 (i := 142) rfl rfl
theorem wm3_144 : Cond.methodLink RPr 80 yDr_isValid ∈ wsA := memA3 (i := 144) rfl rfl
theorem wm3_145 : Cond.methodLink RPr 83 yDr_valueAt ∈ wsA := memA3 (i := 145) rfl rfl
theorem wm3_146 : Cond.instanceMethod yDr_valueAt ∈ wsA := memA3 (i := 146) rfl rfl
theorem wm3_147 : Cond.selects RDr yDr_valueAt yDr_valueAt ∈ wsA := memA3 (i := 147) rfl rfl
theorem wm3_149 : Cond.methodLink RPr 87 yDg_operationOf ∈ wsA := memA3 (i := 149) rfl rfl
theorem wm3_150 : Cond.static yDg_operationOf ∈ wsA := memA3 (i := 150) rfl rfl
theorem wm3_152 : Cond.methodLink RPr 93 yDg_dataAddressOf ∈ wsA := memA3 (i := 152) rfl rfl
theorem wm3_153 : Cond.static yDg_dataAddressOf ∈ wsA := memA3 (i := 153) rfl rfl
theorem wm3_155 : Cond.methodLink RPr 96 yPr_operate ∈ wsA := memA3 (i := 155) rfl rfl
theorem wm3_157 : Cond.instanceMethod yPr_operate ∈ wsA := memA3 (i := 157) rfl rfl
theorem wm3_159 : Cond.methodLink RPr 117 yOp_exists ∈ wsA := memA3 (i := 159) rfl rfl
theorem wm3_160 : Cond.methodLink RPr 120 yOp_shifts ∈ wsA := memA3 (i := 160) rfl rfl
theorem wm3_161 : Cond.methodLink RPr 123 yOp_shiftLength ∈ wsA := memA3 (i := 161) rfl rfl
theorem wm3_162 : Cond.methodLink RPr 126 yPr_shift ∈ wsA := memA3 (i := 162) rfl rfl
theorem wm3_164 : Cond.instanceMethod yPr_shift ∈ wsA := memA3 (i := 164) rfl rfl
theorem wm3_166 : Cond.methodLink RPr 142 yAc_shiftLeft ∈ wsA := memA3 (i := 166) rfl rfl
theorem wm3_167 : Cond.instanceMethod yAc_shiftLeft ∈ wsA := memA3 (i := 167) rfl rfl
theorem wm3_168 : Cond.selects RAc yAc_shiftLeft yAc_shiftLeft ∈ wsA := memA3 (i := 168) rfl rfl
theorem wm3_170 : Cond.methodLink RAc 46 yDg_powerOfTen ∈ wsA := memA3 (i := 170) rfl rfl
theorem wm3_171 : Cond.static yDg_powerOfTen ∈ wsA := memA3 (i := 171) rfl rfl
theorem wm3_173 : Cond.constantLong RDg 11 (10) ∈ wsA := memA3 (i := 173) rfl rfl
theorem wm3_174 : Cond.methodLink RPr 145 yAc_shiftRight ∈ wsA := memA3 (i := 174) rfl rfl
theorem wm3_175 : Cond.instanceMethod yAc_shiftRight ∈ wsA := memA3 (i := 175) rfl rfl
theorem wm3_176 : Cond.selects RAc yAc_shiftRight yAc_shiftRight ∈ wsA := memA3 (i := 176) rfl rfl
theorem wm3_178 : Cond.methodLink RPr 148 yAc_shiftAndRound ∈ wsA := memA3 (i := 178) rfl rfl
theorem wm3_179 : Cond.instanceMethod yAc_shiftAndRound ∈ wsA := memA3 (i := 179) rfl rfl
theorem wm3_180 : Cond.selects RAc yAc_shiftAndRound yAc_shiftAndRound ∈ wsA := memA3 (i := 180) rfl rfl
theorem wm3_182 : Cond.methodLink RAc 50 yDg_digitAt ∈ wsA := memA3 (i := 182) rfl rfl
theorem wm3_183 : Cond.static yDg_digitAt ∈ wsA := memA3 (i := 183) rfl rfl
theorem wm3_185 : Cond.methodLink RDg 13 yDg_powerOfTen ∈ wsA := memA3 (i := 185) rfl rfl
theorem wm3_186 : Cond.methodLink RAc 54 yAc_shiftRight ∈ wsA := memA3 (i := 186) rfl rfl
theorem wm3_187 : Cond.methodLink RAc 58 yAc_add ∈ wsA := memA3 (i := 187) rfl rfl
theorem wm3_188 : Cond.instanceMethod yAc_add ∈ wsA := memA3 (i := 188) rfl rfl
theorem wm3_189 : Cond.selects RAc yAc_add yAc_add ∈ wsA := memA3 (i := 189) rfl rfl
theorem wm3_191 : Cond.constantLong RAc 29 (10000000000) ∈ wsA := memA3 (i := 191) rfl rfl
theorem wm3_192 : Cond.methodLink RAc 31 yMa_floorDiv ∈ wsA := memA3 (i := 192) rfl rfl
theorem wm3_193 : Cond.static yMa_floorDiv ∈ wsA := memA3 (i := 193) rfl rfl
theorem wm3_195 : Cond.methodLink RAc 37 yMa_floorMod ∈ wsA := memA3 (i := 195) rfl rfl
theorem wm3_196 : Cond.static yMa_floorMod ∈ wsA := memA3 (i := 196) rfl rfl
theorem wm3_198 : Cond.methodLink RPr 130 yOp_accessesData ∈ wsA := memA3 (i := 198) rfl rfl
theorem wm3_199 : Cond.methodLink RPr 133 yOp_writes ∈ wsA := memA3 (i := 199) rfl rfl
theorem wm3_200 : Cond.static yOp_writes ∈ wsA := memA3 (i := 200) rfl rfl
theorem wm3_202 : Cond.methodLink RPr 136 yPr_write ∈ wsA := memA3 (i := 202) rfl rfl
theorem wm3_204 : Cond.instanceMethod yPr_write ∈ wsA := memA3 (i := 204) rfl rfl
theorem wm3_206 : Cond.methodLink RPr 229 yPr_readCard ∈ wsA := memA3 (i := 206) rfl rfl
theorem wm3_208 : Cond.instanceMethod yPr_readCard ∈ wsA := memA3 (i := 208) rfl rfl
theorem wm3_210 : Cond.methodLink RPr 239 yCd_isEmpty ∈ wsA := memA3 (i := 210) rfl rfl
theorem wm3_211 : Cond.instanceMethod yCd_isEmpty ∈ wsA := memA3 (i := 211) rfl rfl
theorem wm3_212 : Cond.selects RCd yCd_isEmpty yCd_isEmpty ∈ wsA := memA3 (i := 212) rfl rfl
theorem wm3_214 : Cond.methodLink RPr 244 yCd_firstValue ∈ wsA := memA3 (i := 214) rfl rfl
theorem wm3_215 : Cond.instanceMethod yCd_firstValue ∈ wsA := memA3 (i := 215) rfl rfl
theorem wm3_216 : Cond.selects RCd yCd_firstValue yCd_firstValue ∈ wsA := memA3 (i := 216) rfl rfl
theorem wm3_218 : Cond.methodLink RPr 247 yCd_firstIsMinus ∈ wsA := memA3 (i := 218) rfl rfl
theorem wm3_219 : Cond.instanceMethod yCd_firstIsMinus ∈ wsA := memA3 (i := 219) rfl rfl
theorem wm3_220 : Cond.selects RCd yCd_firstIsMinus yCd_firstIsMinus ∈ wsA := memA3 (i := 220) rfl rfl
theorem wm3_222 : Cond.methodLink RPr 236 yDr_store ∈ wsA := memA3 (i := 222) rfl rfl
theorem wm3_223 : Cond.methodLink RPr 250 yCd_dropFirst ∈ wsA := memA3 (i := 223) rfl rfl
theorem wm3_224 : Cond.instanceMethod yCd_dropFirst ∈ wsA := memA3 (i := 224) rfl rfl
theorem wm3_225 : Cond.selects RCd yCd_dropFirst yCd_dropFirst ∈ wsA := memA3 (i := 225) rfl rfl
theorem wm3_227 : Cond.methodLink RPr 43 yAc_lowerDigits ∈ wsA := memA3 (i := 227) rfl rfl
theorem wm3_228 : Cond.instanceMethod yAc_lowerDigits ∈ wsA := memA3 (i := 228) rfl rfl
theorem wm3_229 : Cond.selects RAc yAc_lowerDigits yAc_lowerDigits ∈ wsA := memA3 (i := 229) rfl rfl
theorem wm3_231 : Cond.methodLink RPr 49 yAc_isMinus ∈ wsA := memA3 (i := 231) rfl rfl
theorem wm3_232 : Cond.instanceMethod yAc_isMinus ∈ wsA := memA3 (i := 232) rfl rfl
theorem wm3_233 : Cond.selects RAc yAc_isMinus yAc_isMinus ∈ wsA := memA3 (i := 233) rfl rfl
theorem wm3_235 : Cond.methodLink RPr 187 yPr_setDistributor ∈ wsA := memA3 (i := 235) rfl rfl
theorem wm3_237 : Cond.instanceMethod yPr_setDistributor ∈ wsA := memA3 (i := 237) rfl rfl
theorem wm3_239 : Cond.methodLink RPr 39 yAc_upperDigits ∈ wsA := memA3 (i := 239) rfl rfl
theorem wm4_0 : Cond.instanceMethod yAc_upperDigits ∈ wsA := memA4 (i := 0) rfl rfl
theorem wm4_1 : Cond.selects RAc yAc_upperDigits yAc_upperDigits ∈ wsA := memA4 (i := 1) rfl rfl
theorem wm4_3 : Cond.methodLink RPr 232 yDg_withDataAddress ∈ wsA := memA4 (i := 3) rfl rfl
theorem wm4_4 : Cond.static yDg_withDataAddress ∈ wsA := memA4 (i := 4) rfl rfl
theorem wm4_6 : Cond.methodLink RPr 139 yPr_read ∈ wsA := memA4 (i := 6) rfl rfl
theorem wm4_8 : Cond.instanceMethod yPr_read ∈ wsA := memA4 (i := 8) rfl rfl
theorem wm4_10 : Cond.methodLink RPr 164 yPr_lookUp ∈ wsA := memA4 (i := 10) rfl rfl
theorem wm4_12 : Cond.instanceMethod yPr_lookUp ∈ wsA := memA4 (i := 12) rfl rfl
theorem wm4_14 : Cond.methodLink RPr 226 yAc_putDataAddress ∈ wsA := memA4 (i := 14) rfl rfl
theorem wm4_15 : Cond.instanceMethod yAc_putDataAddress ∈ wsA := memA4 (i := 15) rfl rfl
theorem wm4_16 : Cond.selects RAc yAc_putDataAddress yAc_putDataAddress ∈ wsA := memA4 (i := 16) rfl rfl
theorem wm4_18 : Cond.methodLink RAc 23 yDg_withDataAddress ∈ wsA := memA4 (i := 18) rfl rfl
theorem wm4_19 : Cond.methodLink RPr 167 yDr_isMinus ∈ wsA := memA4 (i := 19) rfl rfl
theorem wm4_20 : Cond.instanceMethod yDr_isMinus ∈ wsA := memA4 (i := 20) rfl rfl
theorem wm4_21 : Cond.selects RDr yDr_isMinus yDr_isMinus ∈ wsA := memA4 (i := 21) rfl rfl
theorem wm4_23 : Cond.methodLink RPr 169 yPr_divide ∈ wsA := memA4 (i := 23) rfl rfl
theorem wm4_25 : Cond.instanceMethod yPr_divide ∈ wsA := memA4 (i := 25) rfl rfl
theorem wm4_27 : Cond.methodLink RPr 210 yAc_divide ∈ wsA := memA4 (i := 27) rfl rfl
theorem wm4_28 : Cond.instanceMethod yAc_divide ∈ wsA := memA4 (i := 28) rfl rfl
theorem wm4_29 : Cond.selects RAc yAc_divide yAc_divide ∈ wsA := memA4 (i := 29) rfl rfl
theorem wm4_31 : Cond.constantLong RAc 42 (10) ∈ wsA := memA4 (i := 31) rfl rfl
theorem wm4_32 : Cond.constantLong RAc 44 (1000000000) ∈ wsA := memA4 (i := 32) rfl rfl
theorem wm4_33 : Cond.methodLink RPr 206 yDg_sum ∈ wsA := memA4 (i := 33) rfl rfl
theorem wm4_34 : Cond.static yDg_sum ∈ wsA := memA4 (i := 34) rfl rfl
theorem wm4_36 : Cond.methodLink RPr 173 yPr_punchWord ∈ wsA := memA4 (i := 36) rfl rfl
theorem wm4_38 : Cond.instanceMethod yPr_punchWord ∈ wsA := memA4 (i := 38) rfl rfl
theorem wm4_40 : Cond.methodLink RPr 213 yPu_isFull ∈ wsA := memA4 (i := 40) rfl rfl
theorem wm4_41 : Cond.instanceMethod yPu_isFull ∈ wsA := memA4 (i := 41) rfl rfl
theorem wm4_42 : Cond.selects RPu yPu_isFull yPu_isFull ∈ wsA := memA4 (i := 42) rfl rfl
theorem wm4_44 : Cond.methodLink RPr 218 yDg_withSign ∈ wsA := memA4 (i := 44) rfl rfl
theorem wm4_45 : Cond.static yDg_withSign ∈ wsA := memA4 (i := 45) rfl rfl
theorem wm4_47 : Cond.methodLink RPr 222 yPu_put ∈ wsA := memA4 (i := 47) rfl rfl
theorem wm4_48 : Cond.instanceMethod yPu_put ∈ wsA := memA4 (i := 48) rfl rfl
theorem wm4_49 : Cond.selects RPu yPu_put yPu_put ∈ wsA := memA4 (i := 49) rfl rfl
theorem wm4_51 : Cond.methodLink RPr 176 yPr_multiply ∈ wsA := memA4 (i := 51) rfl rfl
theorem wm4_53 : Cond.instanceMethod yPr_multiply ∈ wsA := memA4 (i := 53) rfl rfl
theorem wm4_55 : Cond.methodLink RPr 209 yAc_multiply ∈ wsA := memA4 (i := 55) rfl rfl
theorem wm4_56 : Cond.instanceMethod yAc_multiply ∈ wsA := memA4 (i := 56) rfl rfl
theorem wm4_57 : Cond.selects RAc yAc_multiply yAc_multiply ∈ wsA := memA4 (i := 57) rfl rfl
theorem wm4_59 : Cond.constantLong RAc 40 (100000) ∈ wsA := memA4 (i := 59) rfl rfl
theorem wm4_60 : Cond.methodLink RPr 180 yOp_adds ∈ wsA := memA4 (i := 60) rfl rfl
theorem wm4_61 : Cond.static yOp_adds ∈ wsA := memA4 (i := 61) rfl rfl
theorem wm4_63 : Cond.methodLink RPr 183 yPr_addWord ∈ wsA := memA4 (i := 63) rfl rfl
theorem wm4_65 : Cond.instanceMethod yPr_addWord ∈ wsA := memA4 (i := 65) rfl rfl
theorem wm4_67 : Cond.methodLink RPr 190 yOp_resetsFirst ∈ wsA := memA4 (i := 67) rfl rfl
theorem wm4_68 : Cond.static yOp_resetsFirst ∈ wsA := memA4 (i := 68) rfl rfl
theorem wm4_70 : Cond.methodLink RPr 193 yAc_reset ∈ wsA := memA4 (i := 70) rfl rfl
theorem wm4_71 : Cond.instanceMethod yAc_reset ∈ wsA := memA4 (i := 71) rfl rfl
theorem wm4_72 : Cond.selects RAc yAc_reset yAc_reset ∈ wsA := memA4 (i := 72) rfl rfl
theorem wm4_74 : Cond.methodLink RPr 196 yOp_subtracts ∈ wsA := memA4 (i := 74) rfl rfl
theorem wm4_75 : Cond.static yOp_subtracts ∈ wsA := memA4 (i := 75) rfl rfl
theorem wm4_77 : Cond.methodLink RPr 199 yOp_addsToUpper ∈ wsA := memA4 (i := 77) rfl rfl
theorem wm4_78 : Cond.static yOp_addsToUpper ∈ wsA := memA4 (i := 78) rfl rfl
theorem wm4_80 : Cond.methodLink RPr 202 yAc_add ∈ wsA := memA4 (i := 80) rfl rfl
theorem wm4_81 : Cond.methodLink RPr 67 yPr_isFault ∈ wsA := memA4 (i := 81) rfl rfl
theorem wm4_82 : Cond.static yPr_isFault ∈ wsA := memA4 (i := 82) rfl rfl
theorem wm4_84 : Cond.methodLink RPr 100 yOp_fixedTime ∈ wsA := memA4 (i := 84) rfl rfl
theorem wm4_85 : Cond.methodLink RPr 105 yPr_takesBranch ∈ wsA := memA4 (i := 85) rfl rfl
theorem wm4_87 : Cond.instanceMethod yPr_takesBranch ∈ wsA := memA4 (i := 87) rfl rfl
theorem wm4_89 : Cond.methodLink RPr 151 yOp_branchesOnEight ∈ wsA := memA4 (i := 89) rfl rfl
theorem wm4_90 : Cond.methodLink RPr 154 yDg_digitAt ∈ wsA := memA4 (i := 90) rfl rfl
theorem wm4_91 : Cond.methodLink RPr 158 yAc_isZero ∈ wsA := memA4 (i := 91) rfl rfl
theorem wm4_92 : Cond.instanceMethod yAc_isZero ∈ wsA := memA4 (i := 92) rfl rfl
theorem wm4_93 : Cond.selects RAc yAc_isZero yAc_isZero ∈ wsA := memA4 (i := 93) rfl rfl
theorem wm4_95 : Cond.methodLink RPr 161 yAc_takeOverflow ∈ wsA := memA4 (i := 95) rfl rfl
theorem wm4_96 : Cond.instanceMethod yAc_takeOverflow ∈ wsA := memA4 (i := 96) rfl rfl
theorem wm4_97 : Cond.selects RAc yAc_takeOverflow yAc_takeOverflow ∈ wsA := memA4 (i := 97) rfl rfl
theorem wm4_99 : Cond.methodLink RPr 108 yDg_nextAddressOf ∈ wsA := memA4 (i := 99) rfl rfl
theorem wm4_100 : Cond.static yDg_nextAddressOf ∈ wsA := memA4 (i := 100) rfl rfl
theorem wm4_105 : Cond.methodLink RLa 51 yDM_register ∈ wsA := memA4 (i := 105) rfl rfl
theorem wm4_106 : Cond.instanceMethod yDM_register ∈ wsA := memA4 (i := 106) rfl rfl
theorem wm4_107 : Cond.selects RDM yDM_register yDM_register ∈ wsA := memA4 (i := 107) rfl rfl
theorem wm4_109 : Cond.methodLink RDM 186 yPr_upperDigits ∈ wsA := memA4 (i := 109) rfl rfl
theorem wm4_110 : Cond.instanceMethod yPr_upperDigits ∈ wsA := memA4 (i := 110) rfl rfl
theorem wm4_111 : Cond.selects RPr yPr_upperDigits yPr_upperDigits ∈ wsA := memA4 (i := 111) rfl rfl
theorem wm4_113 : Cond.methodLink RDM 189 yPr_lowerDigits ∈ wsA := memA4 (i := 113) rfl rfl
theorem wm4_114 : Cond.instanceMethod yPr_lowerDigits ∈ wsA := memA4 (i := 114) rfl rfl
theorem wm4_115 : Cond.selects RPr yPr_lowerDigits yPr_lowerDigits ∈ wsA := memA4 (i := 115) rfl rfl
theorem wm4_117 : Cond.methodLink RDM 192 yPr_distributorDigits ∈ wsA := memA4 (i := 117) rfl rfl
theorem wm4_118 : Cond.instanceMethod yPr_distributorDigits ∈ wsA := memA4 (i := 118) rfl rfl
theorem wm4_119 : Cond.selects RPr yPr_distributorDigits yPr_distributorDigits ∈ wsA := memA4 (i := 119) rfl rfl
theorem wm4_125 : Cond.methodLink RLa 55 yDM_sign ∈ wsA := memA4 (i := 125) rfl rfl
theorem wm4_126 : Cond.instanceMethod yDM_sign ∈ wsA := memA4 (i := 126) rfl rfl
theorem wm4_127 : Cond.selects RDM yDM_sign yDM_sign ∈ wsA := memA4 (i := 127) rfl rfl
theorem wm4_129 : Cond.methodLink RDM 197 yPr_accumulatorIsMinus ∈ wsA := memA4 (i := 129) rfl rfl
theorem wm4_130 : Cond.instanceMethod yPr_accumulatorIsMinus ∈ wsA := memA4 (i := 130) rfl rfl
theorem wm4_131 : Cond.selects RPr yPr_accumulatorIsMinus yPr_accumulatorIsMinus ∈ wsA := memA4 (i := 131) rfl rfl
theorem wm4_133 : Cond.methodLink RDM 200 yPr_distributorIsMinus ∈ wsA := memA4 (i := 133) rfl rfl
theorem wm4_134 : Cond.instanceMethod yPr_distributorIsMinus ∈ wsA := memA4 (i := 134) rfl rfl
theorem wm4_135 : Cond.selects RPr yPr_distributorIsMinus yPr_distributorIsMinus ∈ wsA := memA4 (i := 135) rfl rfl
theorem wm4_137 : Cond.methodLink RDM 203 yPr_overflowIsOn ∈ wsA := memA4 (i := 137) rfl rfl
theorem wm4_138 : Cond.instanceMethod yPr_overflowIsOn ∈ wsA := memA4 (i := 138) rfl rfl
theorem wm4_139 : Cond.selects RPr yPr_overflowIsOn yPr_overflowIsOn ∈ wsA := memA4 (i := 139) rfl rfl
theorem wm4_141 : Cond.methodLink RPr 57 yAc_hasOverflow ∈ wsA := memA4 (i := 141) rfl rfl
theorem wm4_142 : Cond.instanceMethod yAc_hasOverflow ∈ wsA := memA4 (i := 142) rfl rfl
theorem wm4_143 : Cond.selects RAc yAc_hasOverflow yAc_hasOverflow ∈ wsA := memA4 (i := 143) rfl rfl
theorem wm4_149 : Cond.methodLink RLa 59 yDM_get ∈ wsA := memA4 (i := 149) rfl rfl
theorem wm4_150 : Cond.instanceMethod yDM_get ∈ wsA := memA4 (i := 150) rfl rfl
theorem wm4_151 : Cond.selects RDM yDM_get yDM_get ∈ wsA := memA4 (i := 151) rfl rfl
theorem wm4_153 : Cond.constantLong RDM 211 (-10000000000) ∈ wsA := memA4 (i := 153) rfl rfl
theorem wm4_154 : Cond.methodLink RDM 213 yDr_valueAt ∈ wsA := memA4 (i := 154) rfl rfl
theorem wm4_155 : Cond.methodLink RDM 217 yDr_isMinus ∈ wsA := memA4 (i := 155) rfl rfl
theorem wm4_156 : Cond.methodLink RDM 220 yDg_withSign ∈ wsA := memA4 (i := 156) rfl rfl
theorem wm4_160 : Cond.methodLink RLa 62 yDM_output ∈ wsA := memA4 (i := 160) rfl rfl
theorem wm4_161 : Cond.instanceMethod yDM_output ∈ wsA := memA4 (i := 161) rfl rfl
theorem wm4_162 : Cond.selects RDM yDM_output yDM_output ∈ wsA := memA4 (i := 162) rfl rfl
theorem wm4_164 : Cond.methodLink RDM 224 yPu_hasWord ∈ wsA := memA4 (i := 164) rfl rfl
theorem wm4_165 : Cond.instanceMethod yPu_hasWord ∈ wsA := memA4 (i := 165) rfl rfl
theorem wm4_166 : Cond.selects RPu yPu_hasWord yPu_hasWord ∈ wsA := memA4 (i := 166) rfl rfl
theorem wm4_169 : Cond.methodLink RDM 229 yPu_wordAt ∈ wsA := memA4 (i := 169) rfl rfl
theorem wm4_170 : Cond.instanceMethod yPu_wordAt ∈ wsA := memA4 (i := 170) rfl rfl
theorem wm4_171 : Cond.selects RPu yPu_wordAt yPu_wordAt ∈ wsA := memA4 (i := 171) rfl rfl
theorem wm4_175 : Cond.methodLink RLa 68 yMo_init ∈ wsA := memA4 (i := 175) rfl rfl
theorem wm4_176 : Cond.instanceMethod yMo_init ∈ wsA := memA4 (i := 176) rfl rfl
theorem wm4_179 : Cond.methodLink RMo 54 yMo_write ∈ wsA := memA4 (i := 179) rfl rfl
theorem wm4_181 : Cond.instanceMethod yMo_write ∈ wsA := memA4 (i := 181) rfl rfl
theorem wm4_183 : Cond.constantLong RMo 67 (10) ∈ wsA := memA4 (i := 183) rfl rfl
theorem wm4_184 : Cond.methodLink RMo 58 yMo_forgetPlaces ∈ wsA := memA4 (i := 184) rfl rfl
theorem wm4_186 : Cond.instanceMethod yMo_forgetPlaces ∈ wsA := memA4 (i := 186) rfl rfl
theorem wm4_188 : Cond.fieldLink RMo 61 "DrumMachineModel" "code" "I" ∈ wsA := memA4 (i := 188) rfl rfl
theorem wm4_189 : Cond.fieldLink RMo 7 "DrumMachineModel" "digits" "[I" ∈ wsA := memA4 (i := 189) rfl rfl
theorem wm4_190 : Cond.fieldLink RMo 13 "DrumMachineModel" "minus" "[Z" ∈ wsA := memA4 (i := 190) rfl rfl
theorem wm4_191 : Cond.fieldLink RMo 118 "DrumMachineModel" "upper" "J" ∈ wsA := memA4 (i := 191) rfl rfl
theorem wm4_192 : Cond.fieldLink RMo 115 "DrumMachineModel" "lower" "J" ∈ wsA := memA4 (i := 192) rfl rfl
theorem wm4_193 : Cond.fieldLink RMo 140 "DrumMachineModel" "distributor" "J" ∈ wsA := memA4 (i := 193) rfl rfl
theorem wm4_194 : Cond.fieldLink RMo 111 "DrumMachineModel" "negative" "Z" ∈ wsA := memA4 (i := 194) rfl rfl
theorem wm4_195 : Cond.fieldLink RMo 143 "DrumMachineModel" "negativeDistributor" "Z" ∈ wsA := memA4 (i := 195) rfl rfl
theorem wm4_196 : Cond.fieldLink RMo 121 "DrumMachineModel" "overflow" "Z" ∈ wsA := memA4 (i := 196) rfl rfl
theorem wm4_197 : Cond.fieldLink RMo 108 "DrumMachineModel" "next" "I" ∈ wsA := memA4 (i := 197) rfl rfl
theorem wm4_198 : Cond.fieldLink RMo 105 "DrumMachineModel" "fault" "I" ∈ wsA := memA4 (i := 198) rfl rfl
theorem wm4_199 : Cond.fieldLink RMo 99 "DrumMachineModel" "time" "J" ∈ wsA := memA4 (i := 199) rfl rfl
theorem wm4_200 : Cond.fieldLink RMo 87 "DrumMachineModel" "cards" "I" ∈ wsA := memA4 (i := 200) rfl rfl
theorem wm4_201 : Cond.fieldLink RMo 17 "DrumMachineModel" "card" "[J" ∈ wsA := memA4 (i := 201) rfl rfl
theorem wm4_202 : Cond.fieldLink RMo 21 "DrumMachineModel" "cardMinus" "[Z" ∈ wsA := memA4 (i := 202) rfl rfl
theorem wm4_203 : Cond.fieldLink RMo 137 "DrumMachineModel" "outputs" "I" ∈ wsA := memA4 (i := 203) rfl rfl
theorem wm4_204 : Cond.fieldLink RMo 24 "DrumMachineModel" "output" "[J" ∈ wsA := memA4 (i := 204) rfl rfl
theorem wm4_205 : Cond.fieldLink RMo 205 "DrumMachineModel" "lines" "I" ∈ wsA := memA4 (i := 205) rfl rfl
theorem wm4_206 : Cond.fieldLink RMo 27 "DrumMachineModel" "location" "[I" ∈ wsA := memA4 (i := 206) rfl rfl
theorem wm4_207 : Cond.fieldLink RMo 30 "DrumMachineModel" "operation" "[I" ∈ wsA := memA4 (i := 207) rfl rfl
theorem wm4_208 : Cond.fieldLink RMo 33 "DrumMachineModel" "data" "[I" ∈ wsA := memA4 (i := 208) rfl rfl
theorem wm4_209 : Cond.fieldLink RMo 36 "DrumMachineModel" "following" "[I" ∈ wsA := memA4 (i := 209) rfl rfl
theorem wm4_210 : Cond.fieldLink RMo 39 "DrumMachineModel" "reserved" "[Z" ∈ wsA := memA4 (i := 210) rfl rfl
theorem wm4_211 : Cond.fieldLink RMo 42 "DrumMachineModel" "places" "[I" ∈ wsA := memA4 (i := 211) rfl rfl
theorem wm4_212 : Cond.fieldLink RMo 45 "DrumMachineModel" "held" "[Z" ∈ wsA := memA4 (i := 212) rfl rfl
theorem wm4_213 : Cond.fieldLink RMo 48 "DrumMachineModel" "at" "[I" ∈ wsA := memA4 (i := 213) rfl rfl
theorem wm4_214 : Cond.fieldLink RMo 51 "DrumMachineModel" "written" "[J" ∈ wsA := memA4 (i := 214) rfl rfl
theorem wm4_215 : Cond.fieldLink RMo 208 "DrumMachineModel" "full" "Z" ∈ wsA := memA4 (i := 215) rfl rfl
theorem wm4_216 : Cond.lays RMo "DrumMachineModel" "code" "I" ∈ wsA := memA4 (i := 216) rfl rfl
theorem wm4_218 : Cond.laysFinal RMo "DrumMachineModel" "digits" "[I" ∈ wsA := memA4 (i := 218) rfl rfl
theorem wm4_220 : Cond.laysFinal RMo "DrumMachineModel" "minus" "[Z" ∈ wsA := memA4 (i := 220) rfl rfl
theorem wm4_222 : Cond.lays RMo "DrumMachineModel" "upper" "J" ∈ wsA := memA4 (i := 222) rfl rfl
theorem wm4_224 : Cond.lays RMo "DrumMachineModel" "lower" "J" ∈ wsA := memA4 (i := 224) rfl rfl
theorem wm4_226 : Cond.lays RMo "DrumMachineModel" "distributor" "J" ∈ wsA := memA4 (i := 226) rfl rfl
theorem wm4_228 : Cond.lays RMo "DrumMachineModel" "negative" "Z" ∈ wsA := memA4 (i := 228) rfl rfl
theorem wm4_230 : Cond.lays RMo "DrumMachineModel" "negativeDistributor" "Z" ∈ wsA := memA4 (i := 230) rfl rfl
theorem wm4_232 : Cond.lays RMo "DrumMachineModel" "overflow" "Z" ∈ wsA := memA4 (i := 232) rfl rfl
theorem wm4_234 : Cond.lays RMo "DrumMachineModel" "next" "I" ∈ wsA := memA4 (i := 234) rfl rfl
theorem wm4_236 : Cond.lays RMo "DrumMachineModel" "fault" "I" ∈ wsA := memA4 (i := 236) rfl rfl
theorem wm4_238 : Cond.lays RMo "DrumMachineModel" "time" "J" ∈ wsA := memA4 (i := 238) rfl rfl
theorem wm5_0 : Cond.lays RMo "DrumMachineModel" "cards" "I" ∈ wsA := memA5 (i := 0) rfl rfl
theorem wm5_2 : Cond.laysFinal RMo "DrumMachineModel" "card" "[J" ∈ wsA := memA5 (i := 2) rfl rfl
theorem wm5_4 : Cond.laysFinal RMo "DrumMachineModel" "cardMinus" "[Z" ∈ wsA := memA5 (i := 4) rfl rfl
theorem wm5_6 : Cond.lays RMo "DrumMachineModel" "outputs" "I" ∈ wsA := memA5 (i := 6) rfl rfl
theorem wm5_8 : Cond.laysFinal RMo "DrumMachineModel" "output" "[J" ∈ wsA := memA5 (i := 8) rfl rfl
theorem wm5_10 : Cond.lays RMo "DrumMachineModel" "lines" "I" ∈ wsA := memA5 (i := 10) rfl rfl
theorem wm5_12 : Cond.laysFinal RMo "DrumMachineModel" "location" "[I" ∈ wsA := memA5 (i := 12) rfl rfl
theorem wm5_14 : Cond.laysFinal RMo "DrumMachineModel" "operation" "[I" ∈ wsA := memA5 (i := 14) rfl rfl
theorem wm5_16 : Cond.laysFinal RMo "DrumMachineModel" "data" "[I" ∈ wsA := memA5 (i := 16) rfl rfl
theorem wm5_18 : Cond.laysFinal RMo "DrumMachineModel" "following" "[I" ∈ wsA := memA5 (i := 18) rfl rfl
theorem wm5_20 : Cond.laysFinal RMo "DrumMachineModel" "reserved" "[Z" ∈ wsA := memA5 (i := 20) rfl rfl
theorem wm5_22 : Cond.laysFinal RMo "DrumMachineModel" "places" "[I" ∈ wsA := memA5 (i := 22) rfl rfl
theorem wm5_24 : Cond.laysFinal RMo "DrumMachineModel" "held" "[Z" ∈ wsA := memA5 (i := 24) rfl rfl
theorem wm5_26 : Cond.laysFinal RMo "DrumMachineModel" "at" "[I" ∈ wsA := memA5 (i := 26) rfl rfl
theorem wm5_28 : Cond.laysFinal RMo "DrumMachineModel" "written" "[J" ∈ wsA := memA5 (i := 28) rfl rfl
theorem wm5_30 : Cond.lays RMo "DrumMachineModel" "full" "Z" ∈ wsA := memA5 (i := 30) rfl rfl
theorem wm5_33 : Cond.methodLink RLa 77 yMo_thrown ∈ wsA := memA5 (i := 33) rfl rfl
theorem wm5_34 : Cond.instanceMethod yMo_thrown ∈ wsA := memA5 (i := 34) rfl rfl
theorem wm5_35 : Cond.selects RMo yMo_thrown yMo_thrown ∈ wsA := memA5 (i := 35) rfl rfl
theorem wm5_37 : Cond.methodLink RLa 76 yMo_word ∈ wsA := memA5 (i := 37) rfl rfl
theorem wm5_38 : Cond.instanceMethod yMo_word ∈ wsA := memA5 (i := 38) rfl rfl
theorem wm5_39 : Cond.selects RMo yMo_word yMo_word ∈ wsA := memA5 (i := 39) rfl rfl
theorem wm5_41 : Cond.methodLink RMo 75 yMo_isAddress ∈ wsA := memA5 (i := 41) rfl rfl
theorem wm5_42 : Cond.static yMo_isAddress ∈ wsA := memA5 (i := 42) rfl rfl
theorem wm5_44 : Cond.methodLink RMo 79 yMo_isWord ∈ wsA := memA5 (i := 44) rfl rfl
theorem wm5_45 : Cond.static yMo_isWord ∈ wsA := memA5 (i := 45) rfl rfl
theorem wm5_47 : Cond.constantLong RMo 65 (10000000000) ∈ wsA := memA5 (i := 47) rfl rfl
theorem wm5_48 : Cond.methodLink RLa 84 yMo_flip ∈ wsA := memA5 (i := 48) rfl rfl
theorem wm5_49 : Cond.instanceMethod yMo_flip ∈ wsA := memA5 (i := 49) rfl rfl
theorem wm5_50 : Cond.selects RMo yMo_flip yMo_flip ∈ wsA := memA5 (i := 50) rfl rfl
theorem wm5_52 : Cond.methodLink RMo 83 yMo_value ∈ wsA := memA5 (i := 52) rfl rfl
theorem wm5_54 : Cond.instanceMethod yMo_value ∈ wsA := memA5 (i := 54) rfl rfl
theorem wm5_56 : Cond.methodLink RMo 69 yMo_digitOf ∈ wsA := memA5 (i := 56) rfl rfl
theorem wm5_57 : Cond.static yMo_digitOf ∈ wsA := memA5 (i := 57) rfl rfl
theorem wm5_59 : Cond.constantLong RMo 73 (-1) ∈ wsA := memA5 (i := 59) rfl rfl
theorem wm5_60 : Cond.methodLink RLa 88 yMo_card ∈ wsA := memA5 (i := 60) rfl rfl
theorem wm5_61 : Cond.instanceMethod yMo_card ∈ wsA := memA5 (i := 61) rfl rfl
theorem wm5_62 : Cond.selects RMo yMo_card yMo_card ∈ wsA := memA5 (i := 62) rfl rfl
theorem wm5_64 : Cond.methodLink RLa 111 yMo_start ∈ wsA := memA5 (i := 64) rfl rfl
theorem wm5_65 : Cond.instanceMethod yMo_start ∈ wsA := memA5 (i := 65) rfl rfl
theorem wm5_66 : Cond.selects RMo yMo_start yMo_start ∈ wsA := memA5 (i := 66) rfl rfl
theorem wm5_68 : Cond.methodLink RLa 114 yMo_run ∈ wsA := memA5 (i := 68) rfl rfl
theorem wm5_69 : Cond.instanceMethod yMo_run ∈ wsA := memA5 (i := 69) rfl rfl
theorem wm5_70 : Cond.selects RMo yMo_run yMo_run ∈ wsA := memA5 (i := 70) rfl rfl
theorem wm5_72 : Cond.methodLink RMo 195 yMo_step ∈ wsA := memA5 (i := 72) rfl rfl
theorem wm5_74 : Cond.instanceMethod yMo_step ∈ wsA := memA5 (i := 74) rfl rfl
theorem wm5_76 : Cond.methodLink RMo 134 yMo_stop ∈ wsA := memA5 (i := 76) rfl rfl
theorem wm5_78 : Cond.instanceMethod yMo_stop ∈ wsA := memA5 (i := 78) rfl rfl
theorem wm5_80 : Cond.methodLink RMo 170 yMo_access ∈ wsA := memA5 (i := 80) rfl rfl
theorem wm5_82 : Cond.instanceMethod yMo_access ∈ wsA := memA5 (i := 82) rfl rfl
theorem wm5_84 : Cond.constantLong RMo 103 (50) ∈ wsA := memA5 (i := 84) rfl rfl
theorem wm5_85 : Cond.constantLong RMo 166 (100000000) ∈ wsA := memA5 (i := 85) rfl rfl
theorem wm5_86 : Cond.constantLong RMo 164 (10000) ∈ wsA := memA5 (i := 86) rfl rfl
theorem wm5_87 : Cond.methodLink RMo 174 yMo_isOperation ∈ wsA := memA5 (i := 87) rfl rfl
theorem wm5_88 : Cond.static yMo_isOperation ∈ wsA := memA5 (i := 88) rfl rfl
theorem wm5_90 : Cond.methodLink RMo 90 yMo_reads ∈ wsA := memA5 (i := 90) rfl rfl
theorem wm5_91 : Cond.static yMo_reads ∈ wsA := memA5 (i := 91) rfl rfl
theorem wm5_93 : Cond.methodLink RMo 93 yMo_writes ∈ wsA := memA5 (i := 93) rfl rfl
theorem wm5_94 : Cond.static yMo_writes ∈ wsA := memA5 (i := 94) rfl rfl
theorem wm5_96 : Cond.methodLink RMo 96 yMo_shifts ∈ wsA := memA5 (i := 96) rfl rfl
theorem wm5_97 : Cond.static yMo_shifts ∈ wsA := memA5 (i := 97) rfl rfl
theorem wm5_99 : Cond.methodLink RMo 177 yMo_doRead ∈ wsA := memA5 (i := 99) rfl rfl
theorem wm5_101 : Cond.instanceMethod yMo_doRead ∈ wsA := memA5 (i := 101) rfl rfl
theorem wm5_103 : Cond.methodLink RMo 130 yMo_lookUp ∈ wsA := memA5 (i := 103) rfl rfl
theorem wm5_105 : Cond.instanceMethod yMo_lookUp ∈ wsA := memA5 (i := 105) rfl rfl
theorem wm5_107 : Cond.methodLink RMo 146 yMo_fixed ∈ wsA := memA5 (i := 107) rfl rfl
theorem wm5_108 : Cond.static yMo_fixed ∈ wsA := memA5 (i := 108) rfl rfl
theorem wm5_110 : Cond.methodLink RMo 150 yMo_divide ∈ wsA := memA5 (i := 110) rfl rfl
theorem wm5_112 : Cond.instanceMethod yMo_divide ∈ wsA := memA5 (i := 112) rfl rfl
theorem wm5_114 : Cond.constantLong RMo 124 (1000000000) ∈ wsA := memA5 (i := 114) rfl rfl
theorem wm5_115 : Cond.methodLink RMo 154 yMo_sumOfDigits ∈ wsA := memA5 (i := 115) rfl rfl
theorem wm5_116 : Cond.static yMo_sumOfDigits ∈ wsA := memA5 (i := 116) rfl rfl
theorem wm5_118 : Cond.methodLink RMo 158 yMo_multiply ∈ wsA := memA5 (i := 118) rfl rfl
theorem wm5_120 : Cond.instanceMethod yMo_multiply ∈ wsA := memA5 (i := 120) rfl rfl
theorem wm5_122 : Cond.methodLink RMo 161 yMo_sum ∈ wsA := memA5 (i := 122) rfl rfl
theorem wm5_124 : Cond.instanceMethod yMo_sum ∈ wsA := memA5 (i := 124) rfl rfl
theorem wm5_126 : Cond.methodLink RMo 126 yMo_add ∈ wsA := memA5 (i := 126) rfl rfl
theorem wm5_128 : Cond.instanceMethod yMo_add ∈ wsA := memA5 (i := 128) rfl rfl
theorem wm5_130 : Cond.methodLink RMo 181 yMo_doWrite ∈ wsA := memA5 (i := 130) rfl rfl
theorem wm5_132 : Cond.instanceMethod yMo_doWrite ∈ wsA := memA5 (i := 132) rfl rfl
theorem wm5_134 : Cond.methodLink RMo 185 yMo_branches ∈ wsA := memA5 (i := 134) rfl rfl
theorem wm5_136 : Cond.instanceMethod yMo_branches ∈ wsA := memA5 (i := 136) rfl rfl
theorem wm5_138 : Cond.constantLong RMo 168 (8) ∈ wsA := memA5 (i := 138) rfl rfl
theorem wm5_139 : Cond.methodLink RMo 188 yMo_shiftRight ∈ wsA := memA5 (i := 139) rfl rfl
theorem wm5_141 : Cond.instanceMethod yMo_shiftRight ∈ wsA := memA5 (i := 141) rfl rfl
theorem wm5_143 : Cond.methodLink RMo 192 yMo_shiftLeft ∈ wsA := memA5 (i := 143) rfl rfl
theorem wm5_145 : Cond.instanceMethod yMo_shiftLeft ∈ wsA := memA5 (i := 145) rfl rfl
theorem wm5_147 : Cond.methodLink RLa 92 yMo_line ∈ wsA := memA5 (i := 147) rfl rfl
theorem wm5_148 : Cond.instanceMethod yMo_line ∈ wsA := memA5 (i := 148) rfl rfl
theorem wm5_149 : Cond.selects RMo yMo_line yMo_line ∈ wsA := memA5 (i := 149) rfl rfl
theorem wm5_151 : Cond.methodLink RMo 199 yMo_isPart ∈ wsA := memA5 (i := 151) rfl rfl
theorem wm5_152 : Cond.static yMo_isPart ∈ wsA := memA5 (i := 152) rfl rfl
theorem wm5_154 : Cond.methodLink RMo 202 yMo_fail ∈ wsA := memA5 (i := 154) rfl rfl
theorem wm5_156 : Cond.instanceMethod yMo_fail ∈ wsA := memA5 (i := 156) rfl rfl
theorem wm5_158 : Cond.methodLink RLa 96 yMo_reserve ∈ wsA := memA5 (i := 158) rfl rfl
theorem wm5_159 : Cond.instanceMethod yMo_reserve ∈ wsA := memA5 (i := 159) rfl rfl
theorem wm5_160 : Cond.selects RMo yMo_reserve yMo_reserve ∈ wsA := memA5 (i := 160) rfl rfl
theorem wm5_162 : Cond.methodLink RLa 100 yMo_clear ∈ wsA := memA5 (i := 162) rfl rfl
theorem wm5_163 : Cond.instanceMethod yMo_clear ∈ wsA := memA5 (i := 163) rfl rfl
theorem wm5_164 : Cond.selects RMo yMo_clear yMo_clear ∈ wsA := memA5 (i := 164) rfl rfl
theorem wm5_166 : Cond.methodLink RLa 104 yMo_assemble ∈ wsA := memA5 (i := 166) rfl rfl
theorem wm5_167 : Cond.instanceMethod yMo_assemble ∈ wsA := memA5 (i := 167) rfl rfl
theorem wm5_168 : Cond.selects RMo yMo_assemble yMo_assemble ∈ wsA := memA5 (i := 168) rfl rfl
theorem wm5_170 : Cond.methodLink RMo 219 yMo_hold ∈ wsA := memA5 (i := 170) rfl rfl
theorem wm5_172 : Cond.instanceMethod yMo_hold ∈ wsA := memA5 (i := 172) rfl rfl
theorem wm5_174 : Cond.methodLink RMo 222 yMo_settle ∈ wsA := memA5 (i := 174) rfl rfl
theorem wm5_176 : Cond.instanceMethod yMo_settle ∈ wsA := memA5 (i := 176) rfl rfl
theorem wm5_178 : Cond.methodLink RMo 211 yMo_take ∈ wsA := memA5 (i := 178) rfl rfl
theorem wm5_180 : Cond.instanceMethod yMo_take ∈ wsA := memA5 (i := 180) rfl rfl
theorem wm5_182 : Cond.methodLink RMo 215 yMo_placeOf ∈ wsA := memA5 (i := 182) rfl rfl
theorem wm5_184 : Cond.instanceMethod yMo_placeOf ∈ wsA := memA5 (i := 184) rfl rfl
theorem wm5_186 : Cond.methodLink RLa 108 yMo_place ∈ wsA := memA5 (i := 186) rfl rfl
theorem wm5_187 : Cond.instanceMethod yMo_place ∈ wsA := memA5 (i := 187) rfl rfl
theorem wm5_188 : Cond.selects RMo yMo_place yMo_place ∈ wsA := memA5 (i := 188) rfl rfl
theorem wm5_190 : Cond.methodLink RLa 118 yMo_fault ∈ wsA := memA5 (i := 190) rfl rfl
theorem wm5_191 : Cond.instanceMethod yMo_fault ∈ wsA := memA5 (i := 191) rfl rfl
theorem wm5_192 : Cond.selects RMo yMo_fault yMo_fault ∈ wsA := memA5 (i := 192) rfl rfl
theorem wm5_194 : Cond.methodLink RLa 123 yMo_time ∈ wsA := memA5 (i := 194) rfl rfl
theorem wm5_195 : Cond.instanceMethod yMo_time ∈ wsA := memA5 (i := 195) rfl rfl
theorem wm5_196 : Cond.selects RMo yMo_time yMo_time ∈ wsA := memA5 (i := 196) rfl rfl
theorem wm5_198 : Cond.methodLink RLa 126 yMo_register ∈ wsA := memA5 (i := 198) rfl rfl
theorem wm5_199 : Cond.instanceMethod yMo_register ∈ wsA := memA5 (i := 199) rfl rfl
theorem wm5_200 : Cond.selects RMo yMo_register yMo_register ∈ wsA := memA5 (i := 200) rfl rfl
theorem wm5_202 : Cond.methodLink RLa 129 yMo_sign ∈ wsA := memA5 (i := 202) rfl rfl
theorem wm5_203 : Cond.instanceMethod yMo_sign ∈ wsA := memA5 (i := 203) rfl rfl
theorem wm5_204 : Cond.selects RMo yMo_sign yMo_sign ∈ wsA := memA5 (i := 204) rfl rfl
theorem wm5_206 : Cond.methodLink RLa 133 yMo_next ∈ wsA := memA5 (i := 206) rfl rfl
theorem wm5_207 : Cond.instanceMethod yMo_next ∈ wsA := memA5 (i := 207) rfl rfl
theorem wm5_208 : Cond.selects RMo yMo_next yMo_next ∈ wsA := memA5 (i := 208) rfl rfl
theorem wm5_210 : Cond.methodLink RLa 136 yMo_get ∈ wsA := memA5 (i := 210) rfl rfl
theorem wm5_211 : Cond.instanceMethod yMo_get ∈ wsA := memA5 (i := 211) rfl rfl
theorem wm5_212 : Cond.selects RMo yMo_get yMo_get ∈ wsA := memA5 (i := 212) rfl rfl
theorem wm5_214 : Cond.constantLong RMo 226 (-10000000000) ∈ wsA := memA5 (i := 214) rfl rfl
theorem wm5_215 : Cond.methodLink RLa 139 yMo_output ∈ wsA := memA5 (i := 215) rfl rfl
theorem wm5_216 : Cond.instanceMethod yMo_output ∈ wsA := memA5 (i := 216) rfl rfl
theorem wm5_217 : Cond.selects RMo yMo_output yMo_output ∈ wsA := memA5 (i := 217) rfl rfl
theorem wm5_219 : Cond.methodLink RLa 143 yMo_outputs ∈ wsA := memA5 (i := 219) rfl rfl
theorem wm5_220 : Cond.instanceMethod yMo_outputs ∈ wsA := memA5 (i := 220) rfl rfl
theorem wm5_221 : Cond.selects RMo yMo_outputs yMo_outputs ∈ wsA := memA5 (i := 221) rfl rfl
theorem wm5_223 : Cond.constantLong RLa 69 (4294967295) ∈ wsA := memA5 (i := 223) rfl rfl
theorem wm1_24 : Cond.code yDM_init ccDM_init 1 none ∈ wsA := memA1 (i := 24) rfl rfl
theorem wm1_32 : Cond.code yDr_init ccDr_init 1 none ∈ wsA := memA1 (i := 32) rfl rfl
theorem wm1_36 : Cond.code yDr_codeOf ccDr_codeOf 1 (some .int) ∈ wsA := memA1 (i := 36) rfl rfl
theorem wm1_39 : Cond.code yAr_fill ccAr_fill 4 none ∈ wsA := memA1 (i := 39) rfl rfl
theorem wm1_57 : Cond.code yCd_init ccCd_init 1 none ∈ wsA := memA1 (i := 57) rfl rfl
theorem wm1_76 : Cond.code yPu_init ccPu_init 1 none ∈ wsA := memA1 (i := 76) rfl rfl
theorem wm1_89 : Cond.code yPr_init ccPr_init 4 none ∈ wsA := memA1 (i := 89) rfl rfl
theorem wm1_95 : Cond.code yAc_init ccAc_init 1 none ∈ wsA := memA1 (i := 95) rfl rfl
theorem wm1_142 : Cond.code yAs_init ccAs_init 1 none ∈ wsA := memA1 (i := 142) rfl rfl
theorem wm1_198 : Cond.code yDM_clear ccDM_clear 1 none ∈ wsA := memA1 (i := 198) rfl rfl
theorem wm1_202 : Cond.code yAs_forgetAll ccAs_forgetAll 2 none ∈ wsA := memA1 (i := 202) rfl rfl
theorem wm1_206 : Cond.code yAs_forgetPlaces ccAs_forgetPlaces 1 none ∈ wsA := memA1 (i := 206) rfl rfl
theorem wm1_210 : Cond.code yDM_fault ccDM_fault 1 (some .int) ∈ wsA := memA1 (i := 210) rfl rfl
theorem wm1_214 : Cond.code yPr_stopCause ccPr_stopCause 1 (some .int) ∈ wsA := memA1 (i := 214) rfl rfl
theorem wm1_218 : Cond.code yDM_time ccDM_time 1 (some .long) ∈ wsA := memA1 (i := 218) rfl rfl
theorem wm1_222 : Cond.code yPr_wordTimes ccPr_wordTimes 1 (some .long) ∈ wsA := memA1 (i := 222) rfl rfl
theorem wm1_226 : Cond.code yDM_next ccDM_next 1 (some .int) ∈ wsA := memA1 (i := 226) rfl rfl
theorem wm1_230 : Cond.code yPr_nextAddress ccPr_nextAddress 1 (some .int) ∈ wsA := memA1 (i := 230) rfl rfl
theorem wm1_234 : Cond.code yDM_outputs ccDM_outputs 1 (some .int) ∈ wsA := memA1 (i := 234) rfl rfl
theorem wm1_238 : Cond.code yPu_size ccPu_size 1 (some .int) ∈ wsA := memA1 (i := 238) rfl rfl
theorem wm2_7 : Cond.code yDM_word ccDM_word 5 none ∈ wsA := memA2 (i := 7) rfl rfl
theorem wm2_10 : Cond.code yDr_hasAddress ccDr_hasAddress 1 (some .boolean) ∈ wsA := memA2 (i := 10) rfl rfl
theorem wm2_82 : Cond.code yDg_fitWord ccDg_fitWord 2 (some .boolean) ∈ wsA := memA2 (i := 82) rfl rfl
theorem wm2_103 : Cond.code yDr_store ccDr_store 8 none ∈ wsA := memA2 (i := 103) rfl rfl
theorem wm2_111 : Cond.code yDM_flip ccDM_flip 4 (some .boolean) ∈ wsA := memA2 (i := 111) rfl rfl
theorem wm2_114 : Cond.code yDr_hasBit ccDr_hasBit 3 (some .boolean) ∈ wsA := memA2 (i := 114) rfl rfl
theorem wm2_120 : Cond.code yDr_turnBitOver ccDr_turnBitOver 4 none ∈ wsA := memA2 (i := 120) rfl rfl
theorem wm2_124 : Cond.code yDr_valueOfCodes ccDr_valueOfCodes 6 (some .long) ∈ wsA := memA2 (i := 124) rfl rfl
theorem wm2_127 : Cond.code yDr_digitOf ccDr_digitOf 2 (some .int) ∈ wsA := memA2 (i := 127) rfl rfl
theorem wm2_132 : Cond.code yDr_isValid ccDr_isValid 2 (some .boolean) ∈ wsA := memA2 (i := 132) rfl rfl
theorem wm2_140 : Cond.code yDM_card ccDM_card 4 (some .int) ∈ wsA := memA2 (i := 140) rfl rfl
theorem wm2_145 : Cond.code yCd_isFull ccCd_isFull 1 (some .boolean) ∈ wsA := memA2 (i := 145) rfl rfl
theorem wm2_165 : Cond.code yCd_put ccCd_put 5 none ∈ wsA := memA2 (i := 165) rfl rfl
theorem wm2_169 : Cond.code yCd_size ccCd_size 1 (some .int) ∈ wsA := memA2 (i := 169) rfl rfl
theorem wm2_176 : Cond.code yDM_line ccDM_line 5 (some .int) ∈ wsA := memA2 (i := 176) rfl rfl
theorem wm2_179 : Cond.code yOp_exists ccOp_exists 1 (some .boolean) ∈ wsA := memA2 (i := 179) rfl rfl
theorem wm2_182 : Cond.code yOp_kindOf ccOp_kindOf 1 (some .int) ∈ wsA := memA2 (i := 182) rfl rfl
theorem wm2_185 : Cond.code yOp_branchesOnEight ccOp_branchesOnEight 1 (some .boolean) ∈ wsA := memA2 (i := 185) rfl rfl
theorem wm2_189 : Cond.code yAs_isPart ccAs_isPart 1 (some .boolean) ∈ wsA := memA2 (i := 189) rfl rfl
theorem wm2_193 : Cond.code yAs_isSymbol ccAs_isSymbol 1 (some .boolean) ∈ wsA := memA2 (i := 193) rfl rfl
theorem wm2_196 : Cond.code yAs_isDataPart ccAs_isDataPart 2 (some .boolean) ∈ wsA := memA2 (i := 196) rfl rfl
theorem wm2_199 : Cond.code yOp_shifts ccOp_shifts 1 (some .boolean) ∈ wsA := memA2 (i := 199) rfl rfl
theorem wm2_205 : Cond.code yAs_isFull ccAs_isFull 1 (some .boolean) ∈ wsA := memA2 (i := 205) rfl rfl
theorem wm2_210 : Cond.code yAs_addLine ccAs_addLine 6 (some .int) ∈ wsA := memA2 (i := 210) rfl rfl
theorem wm2_217 : Cond.code yDM_reserve ccDM_reserve 2 none ∈ wsA := memA2 (i := 217) rfl rfl
theorem wm2_221 : Cond.code yAs_markReserved ccAs_markReserved 2 none ∈ wsA := memA2 (i := 221) rfl rfl
theorem wm2_229 : Cond.code yDM_assemble ccDM_assemble 2 (some .int) ∈ wsA := memA2 (i := 229) rfl rfl
theorem wm2_233 : Cond.code yAs_isEmpty ccAs_isEmpty 1 (some .boolean) ∈ wsA := memA2 (i := 233) rfl rfl
theorem wm2_238 : Cond.code yAs_placeAll ccAs_placeAll 4 (some .boolean) ∈ wsA := memA2 (i := 238) rfl rfl
theorem wm3_2 : Cond.code yAs_markTaken ccAs_markTaken 2 none ∈ wsA := memA3 (i := 2) rfl rfl
theorem wm3_6 : Cond.code yAs_takeIfAddress ccAs_takeIfAddress 2 none ∈ wsA := memA3 (i := 6) rfl rfl
theorem wm3_10 : Cond.code yAs_placeLine ccAs_placeLine 3 (some .boolean) ∈ wsA := memA3 (i := 10) rfl rfl
theorem wm3_14 : Cond.code yAs_placeLocation ccAs_placeLocation 4 (some .int) ∈ wsA := memA3 (i := 14) rfl rfl
theorem wm3_18 : Cond.code yAs_placePart ccAs_placePart 5 (some .int) ∈ wsA := memA3 (i := 18) rfl rfl
theorem wm3_22 : Cond.code yAs_newPlace ccAs_newPlace 4 (some .int) ∈ wsA := memA3 (i := 22) rfl rfl
theorem wm3_26 : Cond.code yAs_firstFreeFromAngle ccAs_firstFreeFromAngle 5 (some .int) ∈ wsA := memA3 (i := 26) rfl rfl
theorem wm3_30 : Cond.code yAs_leastFree ccAs_leastFree 2 (some .int) ∈ wsA := memA3 (i := 30) rfl rfl
theorem wm3_34 : Cond.code yAs_placeData ccAs_placeData 4 (some .int) ∈ wsA := memA3 (i := 34) rfl rfl
theorem wm3_38 : Cond.code yAs_placeNext ccAs_placeNext 5 (some .int) ∈ wsA := memA3 (i := 38) rfl rfl
theorem wm3_42 : Cond.code yAs_bestForNext ccAs_bestForNext 4 (some .int) ∈ wsA := memA3 (i := 42) rfl rfl
theorem wm3_45 : Cond.code yOp_accessesData ccOp_accessesData 2 (some .boolean) ∈ wsA := memA3 (i := 45) rfl rfl
theorem wm3_48 : Cond.code yOp_fixedTime ccOp_fixedTime 4 (some .int) ∈ wsA := memA3 (i := 48) rfl rfl
theorem wm3_51 : Cond.code yOp_shiftLength ccOp_shiftLength 3 (some .int) ∈ wsA := memA3 (i := 51) rfl rfl
theorem wm3_55 : Cond.code yAs_isLocationOfEarlierLine ccAs_isLocationOfEarlierLine 3 (some .boolean) ∈ wsA := memA3 (i := 55) rfl rfl
theorem wm3_75 : Cond.code yAs_writeTo ccAs_writeTo 3 none ∈ wsA := memA3 (i := 75) rfl rfl
theorem wm3_78 : Cond.code yDg_instruction ccDg_instruction 3 (some .long) ∈ wsA := memA3 (i := 78) rfl rfl
theorem wm3_85 : Cond.code yAs_firstLocation ccAs_firstLocation 1 (some .int) ∈ wsA := memA3 (i := 85) rfl rfl
theorem wm3_92 : Cond.code yDM_place ccDM_place 2 (some .int) ∈ wsA := memA3 (i := 92) rfl rfl
theorem wm3_95 : Cond.code yAs_hasSymbol ccAs_hasSymbol 1 (some .boolean) ∈ wsA := memA3 (i := 95) rfl rfl
theorem wm3_100 : Cond.code yAs_placeOf ccAs_placeOf 2 (some .int) ∈ wsA := memA3 (i := 100) rfl rfl
theorem wm3_107 : Cond.code yDM_start ccDM_start 2 none ∈ wsA := memA3 (i := 107) rfl rfl
theorem wm3_112 : Cond.code yPr_goOnFrom ccPr_goOnFrom 2 none ∈ wsA := memA3 (i := 112) rfl rfl
theorem wm3_119 : Cond.code yDM_run ccDM_run 2 (some .int) ∈ wsA := memA3 (i := 119) rfl rfl
theorem wm3_124 : Cond.code yPr_isStopped ccPr_isStopped 1 (some .boolean) ∈ wsA := memA3 (i := 124) rfl rfl
theorem wm3_129 : Cond.code yPr_doSteps ccPr_doSteps 4 (some .int) ∈ wsA := memA3 (i := 129) rfl rfl
theorem wm3_134 : Cond.code yPr_step ccPr_step 6 (some .int) ∈ wsA := memA3 (i := 134) rfl rfl
theorem wm3_139 : Cond.code yPr_waitAndAccess ccPr_waitAndAccess 4 none ∈ wsA := memA3 (i := 139) rfl rfl
theorem wm3_143 : Cond.code yDr_angleOf ccDr_angleOf 1 (some .int) ∈ wsA := memA3 (i := 143) rfl rfl
theorem wm3_148 : Cond.code yDr_valueAt ccDr_valueAt 2 (some .long) ∈ wsA := memA3 (i := 148) rfl rfl
theorem wm3_151 : Cond.code yDg_operationOf ccDg_operationOf 2 (some .int) ∈ wsA := memA3 (i := 151) rfl rfl
theorem wm3_154 : Cond.code yDg_dataAddressOf ccDg_dataAddressOf 2 (some .int) ∈ wsA := memA3 (i := 154) rfl rfl
theorem wm3_158 : Cond.code yPr_operate ccPr_operate 3 (some .int) ∈ wsA := memA3 (i := 158) rfl rfl
theorem wm3_165 : Cond.code yPr_shift ccPr_shift 3 none ∈ wsA := memA3 (i := 165) rfl rfl
theorem wm3_169 : Cond.code yAc_shiftLeft ccAc_shiftLeft 6 none ∈ wsA := memA3 (i := 169) rfl rfl
theorem wm3_172 : Cond.code yDg_powerOfTen ccDg_powerOfTen 4 (some .long) ∈ wsA := memA3 (i := 172) rfl rfl
theorem wm3_177 : Cond.code yAc_shiftRight ccAc_shiftRight 6 none ∈ wsA := memA3 (i := 177) rfl rfl
theorem wm3_181 : Cond.code yAc_shiftAndRound ccAc_shiftAndRound 3 none ∈ wsA := memA3 (i := 181) rfl rfl
theorem wm3_184 : Cond.code yDg_digitAt ccDg_digitAt 3 (some .int) ∈ wsA := memA3 (i := 184) rfl rfl
theorem wm3_190 : Cond.code yAc_add ccAc_add 11 none ∈ wsA := memA3 (i := 190) rfl rfl
theorem wm3_194 : Cond.code yMa_floorDiv ccMa_floorDiv 6 (some .long) ∈ wsA := memA3 (i := 194) rfl rfl
theorem wm3_197 : Cond.code yMa_floorMod ccMa_floorMod 6 (some .long) ∈ wsA := memA3 (i := 197) rfl rfl
theorem wm3_201 : Cond.code yOp_writes ccOp_writes 1 (some .boolean) ∈ wsA := memA3 (i := 201) rfl rfl
theorem wm3_205 : Cond.code yPr_write ccPr_write 4 (some .int) ∈ wsA := memA3 (i := 205) rfl rfl
theorem wm3_209 : Cond.code yPr_readCard ccPr_readCard 2 (some .int) ∈ wsA := memA3 (i := 209) rfl rfl
theorem wm3_213 : Cond.code yCd_isEmpty ccCd_isEmpty 1 (some .boolean) ∈ wsA := memA3 (i := 213) rfl rfl
theorem wm3_217 : Cond.code yCd_firstValue ccCd_firstValue 1 (some .long) ∈ wsA := memA3 (i := 217) rfl rfl
theorem wm3_221 : Cond.code yCd_firstIsMinus ccCd_firstIsMinus 1 (some .boolean) ∈ wsA := memA3 (i := 221) rfl rfl
theorem wm3_226 : Cond.code yCd_dropFirst ccCd_dropFirst 1 none ∈ wsA := memA3 (i := 226) rfl rfl
theorem wm3_230 : Cond.code yAc_lowerDigits ccAc_lowerDigits 1 (some .long) ∈ wsA := memA3 (i := 230) rfl rfl
theorem wm3_234 : Cond.code yAc_isMinus ccAc_isMinus 1 (some .boolean) ∈ wsA := memA3 (i := 234) rfl rfl
theorem wm3_238 : Cond.code yPr_setDistributor ccPr_setDistributor 4 none ∈ wsA := memA3 (i := 238) rfl rfl
theorem wm4_2 : Cond.code yAc_upperDigits ccAc_upperDigits 1 (some .long) ∈ wsA := memA4 (i := 2) rfl rfl
theorem wm4_5 : Cond.code yDg_withDataAddress ccDg_withDataAddress 5 (some .long) ∈ wsA := memA4 (i := 5) rfl rfl
theorem wm4_9 : Cond.code yPr_read ccPr_read 7 (some .int) ∈ wsA := memA4 (i := 9) rfl rfl
theorem wm4_13 : Cond.code yPr_lookUp ccPr_lookUp 4 (some .int) ∈ wsA := memA4 (i := 13) rfl rfl
theorem wm4_17 : Cond.code yAc_putDataAddress ccAc_putDataAddress 2 none ∈ wsA := memA4 (i := 17) rfl rfl
theorem wm4_22 : Cond.code yDr_isMinus ccDr_isMinus 2 (some .boolean) ∈ wsA := memA4 (i := 22) rfl rfl
theorem wm4_26 : Cond.code yPr_divide ccPr_divide 4 (some .int) ∈ wsA := memA4 (i := 26) rfl rfl
theorem wm4_30 : Cond.code yAc_divide ccAc_divide 11 (some .boolean) ∈ wsA := memA4 (i := 30) rfl rfl
theorem wm4_35 : Cond.code yDg_sum ccDg_sum 6 (some .int) ∈ wsA := memA4 (i := 35) rfl rfl
theorem wm4_39 : Cond.code yPr_punchWord ccPr_punchWord 4 (some .int) ∈ wsA := memA4 (i := 39) rfl rfl
theorem wm4_43 : Cond.code yPu_isFull ccPu_isFull 1 (some .boolean) ∈ wsA := memA4 (i := 43) rfl rfl
theorem wm4_46 : Cond.code yDg_withSign ccDg_withSign 3 (some .long) ∈ wsA := memA4 (i := 46) rfl rfl
theorem wm4_50 : Cond.code yPu_put ccPu_put 3 none ∈ wsA := memA4 (i := 50) rfl rfl
theorem wm4_54 : Cond.code yPr_multiply ccPr_multiply 4 none ∈ wsA := memA4 (i := 54) rfl rfl
theorem wm4_58 : Cond.code yAc_multiply ccAc_multiply 10 none ∈ wsA := memA4 (i := 58) rfl rfl
theorem wm4_62 : Cond.code yOp_adds ccOp_adds 1 (some .boolean) ∈ wsA := memA4 (i := 62) rfl rfl
theorem wm4_66 : Cond.code yPr_addWord ccPr_addWord 7 none ∈ wsA := memA4 (i := 66) rfl rfl
theorem wm4_69 : Cond.code yOp_resetsFirst ccOp_resetsFirst 1 (some .boolean) ∈ wsA := memA4 (i := 69) rfl rfl
theorem wm4_73 : Cond.code yAc_reset ccAc_reset 1 none ∈ wsA := memA4 (i := 73) rfl rfl
theorem wm4_76 : Cond.code yOp_subtracts ccOp_subtracts 1 (some .boolean) ∈ wsA := memA4 (i := 76) rfl rfl
theorem wm4_79 : Cond.code yOp_addsToUpper ccOp_addsToUpper 1 (some .boolean) ∈ wsA := memA4 (i := 79) rfl rfl
theorem wm4_83 : Cond.code yPr_isFault ccPr_isFault 1 (some .boolean) ∈ wsA := memA4 (i := 83) rfl rfl
theorem wm4_88 : Cond.code yPr_takesBranch ccPr_takesBranch 2 (some .boolean) ∈ wsA := memA4 (i := 88) rfl rfl
theorem wm4_94 : Cond.code yAc_isZero ccAc_isZero 1 (some .boolean) ∈ wsA := memA4 (i := 94) rfl rfl
theorem wm4_98 : Cond.code yAc_takeOverflow ccAc_takeOverflow 2 (some .boolean) ∈ wsA := memA4 (i := 98) rfl rfl
theorem wm4_101 : Cond.code yDg_nextAddressOf ccDg_nextAddressOf 2 (some .int) ∈ wsA := memA4 (i := 101) rfl rfl
theorem wm4_108 : Cond.code yDM_register ccDM_register 2 (some .long) ∈ wsA := memA4 (i := 108) rfl rfl
theorem wm4_112 : Cond.code yPr_upperDigits ccPr_upperDigits 1 (some .long) ∈ wsA := memA4 (i := 112) rfl rfl
theorem wm4_116 : Cond.code yPr_lowerDigits ccPr_lowerDigits 1 (some .long) ∈ wsA := memA4 (i := 116) rfl rfl
theorem wm4_120 : Cond.code yPr_distributorDigits ccPr_distributorDigits 1 (some .long) ∈ wsA := memA4 (i := 120) rfl rfl
theorem wm4_128 : Cond.code yDM_sign ccDM_sign 2 (some .boolean) ∈ wsA := memA4 (i := 128) rfl rfl
theorem wm4_132 : Cond.code yPr_accumulatorIsMinus ccPr_accumulatorIsMinus 1 (some .boolean) ∈ wsA := memA4 (i := 132) rfl rfl
theorem wm4_136 : Cond.code yPr_distributorIsMinus ccPr_distributorIsMinus 1 (some .boolean) ∈ wsA := memA4 (i := 136) rfl rfl
theorem wm4_140 : Cond.code yPr_overflowIsOn ccPr_overflowIsOn 1 (some .boolean) ∈ wsA := memA4 (i := 140) rfl rfl
theorem wm4_144 : Cond.code yAc_hasOverflow ccAc_hasOverflow 1 (some .boolean) ∈ wsA := memA4 (i := 144) rfl rfl
theorem wm4_152 : Cond.code yDM_get ccDM_get 2 (some .long) ∈ wsA := memA4 (i := 152) rfl rfl
theorem wm4_163 : Cond.code yDM_output ccDM_output 2 (some .long) ∈ wsA := memA4 (i := 163) rfl rfl
theorem wm4_167 : Cond.code yPu_hasWord ccPu_hasWord 2 (some .boolean) ∈ wsA := memA4 (i := 167) rfl rfl
theorem wm4_172 : Cond.code yPu_wordAt ccPu_wordAt 2 (some .long) ∈ wsA := memA4 (i := 172) rfl rfl
theorem wm4_177 : Cond.code yMo_init ccMo_init 2 none ∈ wsA := memA4 (i := 177) rfl rfl
theorem wm4_182 : Cond.code yMo_write ccMo_write 9 none ∈ wsA := memA4 (i := 182) rfl rfl
theorem wm4_187 : Cond.code yMo_forgetPlaces ccMo_forgetPlaces 2 none ∈ wsA := memA4 (i := 187) rfl rfl
theorem wm5_36 : Cond.code yMo_thrown ccMo_thrown 1 (some .int) ∈ wsA := memA5 (i := 36) rfl rfl
theorem wm5_40 : Cond.code yMo_word ccMo_word 5 none ∈ wsA := memA5 (i := 40) rfl rfl
theorem wm5_43 : Cond.code yMo_isAddress ccMo_isAddress 1 (some .boolean) ∈ wsA := memA5 (i := 43) rfl rfl
theorem wm5_46 : Cond.code yMo_isWord ccMo_isWord 2 (some .boolean) ∈ wsA := memA5 (i := 46) rfl rfl
theorem wm5_51 : Cond.code yMo_flip ccMo_flip 4 (some .boolean) ∈ wsA := memA5 (i := 51) rfl rfl
theorem wm5_55 : Cond.code yMo_value ccMo_value 7 (some .long) ∈ wsA := memA5 (i := 55) rfl rfl
theorem wm5_58 : Cond.code yMo_digitOf ccMo_digitOf 4 (some .int) ∈ wsA := memA5 (i := 58) rfl rfl
theorem wm5_63 : Cond.code yMo_card ccMo_card 4 (some .int) ∈ wsA := memA5 (i := 63) rfl rfl
theorem wm5_67 : Cond.code yMo_start ccMo_start 2 none ∈ wsA := memA5 (i := 67) rfl rfl
theorem wm5_71 : Cond.code yMo_run ccMo_run 3 (some .int) ∈ wsA := memA5 (i := 71) rfl rfl
theorem wm5_75 : Cond.code yMo_step ccMo_step 10 (some .boolean) ∈ wsA := memA5 (i := 75) rfl rfl
theorem wm5_79 : Cond.code yMo_stop ccMo_stop 3 (some .boolean) ∈ wsA := memA5 (i := 79) rfl rfl
theorem wm5_83 : Cond.code yMo_access ccMo_access 2 none ∈ wsA := memA5 (i := 83) rfl rfl
theorem wm5_89 : Cond.code yMo_isOperation ccMo_isOperation 1 (some .boolean) ∈ wsA := memA5 (i := 89) rfl rfl
theorem wm5_92 : Cond.code yMo_reads ccMo_reads 1 (some .boolean) ∈ wsA := memA5 (i := 92) rfl rfl
theorem wm5_95 : Cond.code yMo_writes ccMo_writes 1 (some .boolean) ∈ wsA := memA5 (i := 95) rfl rfl
theorem wm5_98 : Cond.code yMo_shifts ccMo_shifts 1 (some .boolean) ∈ wsA := memA5 (i := 98) rfl rfl
theorem wm5_102 : Cond.code yMo_doRead ccMo_doRead 7 (some .boolean) ∈ wsA := memA5 (i := 102) rfl rfl
theorem wm5_106 : Cond.code yMo_lookUp ccMo_lookUp 7 (some .boolean) ∈ wsA := memA5 (i := 106) rfl rfl
theorem wm5_109 : Cond.code yMo_fixed ccMo_fixed 2 (some .int) ∈ wsA := memA5 (i := 109) rfl rfl
theorem wm5_113 : Cond.code yMo_divide ccMo_divide 11 none ∈ wsA := memA5 (i := 113) rfl rfl
theorem wm5_117 : Cond.code yMo_sumOfDigits ccMo_sumOfDigits 5 (some .int) ∈ wsA := memA5 (i := 117) rfl rfl
theorem wm5_121 : Cond.code yMo_multiply ccMo_multiply 14 none ∈ wsA := memA5 (i := 121) rfl rfl
theorem wm5_125 : Cond.code yMo_sum ccMo_sum 7 none ∈ wsA := memA5 (i := 125) rfl rfl
theorem wm5_129 : Cond.code yMo_add ccMo_add 15 none ∈ wsA := memA5 (i := 129) rfl rfl
theorem wm5_133 : Cond.code yMo_doWrite ccMo_doWrite 5 (some .boolean) ∈ wsA := memA5 (i := 133) rfl rfl
theorem wm5_137 : Cond.code yMo_branches ccMo_branches 5 (some .boolean) ∈ wsA := memA5 (i := 137) rfl rfl
theorem wm5_142 : Cond.code yMo_shiftRight ccMo_shiftRight 5 none ∈ wsA := memA5 (i := 142) rfl rfl
theorem wm5_146 : Cond.code yMo_shiftLeft ccMo_shiftLeft 3 none ∈ wsA := memA5 (i := 146) rfl rfl
theorem wm5_150 : Cond.code yMo_line ccMo_line 6 (some .int) ∈ wsA := memA5 (i := 150) rfl rfl
theorem wm5_153 : Cond.code yMo_isPart ccMo_isPart 1 (some .boolean) ∈ wsA := memA5 (i := 153) rfl rfl
theorem wm5_157 : Cond.code yMo_fail ccMo_fail 2 (some .int) ∈ wsA := memA5 (i := 157) rfl rfl
theorem wm5_161 : Cond.code yMo_reserve ccMo_reserve 2 none ∈ wsA := memA5 (i := 161) rfl rfl
theorem wm5_165 : Cond.code yMo_clear ccMo_clear 2 none ∈ wsA := memA5 (i := 165) rfl rfl
theorem wm5_169 : Cond.code yMo_assemble ccMo_assemble 4 (some .int) ∈ wsA := memA5 (i := 169) rfl rfl
theorem wm5_173 : Cond.code yMo_hold ccMo_hold 2 none ∈ wsA := memA5 (i := 173) rfl rfl
theorem wm5_177 : Cond.code yMo_settle ccMo_settle 11 none ∈ wsA := memA5 (i := 177) rfl rfl
theorem wm5_181 : Cond.code yMo_take ccMo_take 7 (some .int) ∈ wsA := memA5 (i := 181) rfl rfl
theorem wm5_185 : Cond.code yMo_placeOf ccMo_placeOf 6 (some .int) ∈ wsA := memA5 (i := 185) rfl rfl
theorem wm5_189 : Cond.code yMo_place ccMo_place 2 (some .int) ∈ wsA := memA5 (i := 189) rfl rfl
theorem wm5_193 : Cond.code yMo_fault ccMo_fault 1 (some .int) ∈ wsA := memA5 (i := 193) rfl rfl
theorem wm5_197 : Cond.code yMo_time ccMo_time 1 (some .long) ∈ wsA := memA5 (i := 197) rfl rfl
theorem wm5_201 : Cond.code yMo_register ccMo_register 2 (some .long) ∈ wsA := memA5 (i := 201) rfl rfl
theorem wm5_205 : Cond.code yMo_sign ccMo_sign 2 (some .boolean) ∈ wsA := memA5 (i := 205) rfl rfl
theorem wm5_209 : Cond.code yMo_next ccMo_next 1 (some .int) ∈ wsA := memA5 (i := 209) rfl rfl
theorem wm5_213 : Cond.code yMo_get ccMo_get 4 (some .long) ∈ wsA := memA5 (i := 213) rfl rfl
theorem wm5_218 : Cond.code yMo_output ccMo_output 2 (some .long) ∈ wsA := memA5 (i := 218) rfl rfl
theorem wm5_222 : Cond.code yMo_outputs ccMo_outputs 1 (some .int) ∈ wsA := memA5 (i := 222) rfl rfl
theorem ws1_0 : Cond.selects RAs yAs_forgetPlaces yAs_forgetPlaces ∈ wsA := memS1 (i := 0) (n := 11) rfl rfl
theorem ws1_2 : Cond.selects RDr yDr_valueOfCodes yDr_valueOfCodes ∈ wsA := memS1 (i := 2) (n := 3) rfl rfl
theorem ws1_3 : Cond.selects RAs yAs_markTaken yAs_markTaken ∈ wsA := memS1 (i := 3) (n := 11) rfl rfl
theorem ws1_4 : Cond.selects RAs yAs_takeIfAddress yAs_takeIfAddress ∈ wsA := memS1 (i := 4) (n := 11) rfl rfl
theorem ws1_5 : Cond.selects RAs yAs_placeLine yAs_placeLine ∈ wsA := memS1 (i := 5) (n := 11) rfl rfl
theorem ws1_6 : Cond.selects RAs yAs_placeLocation yAs_placeLocation ∈ wsA := memS1 (i := 6) (n := 11) rfl rfl
theorem ws1_7 : Cond.selects RAs yAs_placePart yAs_placePart ∈ wsA := memS1 (i := 7) (n := 11) rfl rfl
theorem ws1_8 : Cond.selects RAs yAs_newPlace yAs_newPlace ∈ wsA := memS1 (i := 8) (n := 11) rfl rfl
theorem ws1_9 : Cond.selects RAs yAs_firstFreeFromAngle yAs_firstFreeFromAngle ∈ wsA := memS1 (i := 9) (n := 11) rfl rfl
theorem ws1_10 : Cond.selects RAs yAs_leastFree yAs_leastFree ∈ wsA := memS1 (i := 10) (n := 11) rfl rfl
theorem ws1_11 : Cond.selects RAs yAs_placeData yAs_placeData ∈ wsA := memS1 (i := 11) (n := 11) rfl rfl
theorem ws1_12 : Cond.selects RAs yAs_placeNext yAs_placeNext ∈ wsA := memS1 (i := 12) (n := 11) rfl rfl
theorem ws1_13 : Cond.selects RAs yAs_bestForNext yAs_bestForNext ∈ wsA := memS1 (i := 13) (n := 11) rfl rfl
theorem ws1_14 : Cond.selects RAs yAs_isLocationOfEarlierLine yAs_isLocationOfEarlierLine ∈ wsA := memS1 (i := 14) (n := 11) rfl rfl
theorem ws1_15 : Cond.selects RPr yPr_step yPr_step ∈ wsA := memS1 (i := 15) (n := 9) rfl rfl
theorem ws2_0 : Cond.selects RPr yPr_waitAndAccess yPr_waitAndAccess ∈ wsA := memS2 (i := 0) (n := 9) rfl rfl
theorem ws2_1 : Cond.selects RPr yPr_operate yPr_operate ∈ wsA := memS2 (i := 1) (n := 9) rfl rfl
theorem ws2_2 : Cond.selects RPr yPr_shift yPr_shift ∈ wsA := memS2 (i := 2) (n := 9) rfl rfl
theorem ws2_3 : Cond.selects RPr yPr_write yPr_write ∈ wsA := memS2 (i := 3) (n := 9) rfl rfl
theorem ws2_4 : Cond.selects RPr yPr_readCard yPr_readCard ∈ wsA := memS2 (i := 4) (n := 9) rfl rfl
theorem ws2_5 : Cond.selects RPr yPr_setDistributor yPr_setDistributor ∈ wsA := memS2 (i := 5) (n := 9) rfl rfl
theorem ws2_6 : Cond.selects RPr yPr_read yPr_read ∈ wsA := memS2 (i := 6) (n := 9) rfl rfl
theorem ws2_7 : Cond.selects RPr yPr_lookUp yPr_lookUp ∈ wsA := memS2 (i := 7) (n := 9) rfl rfl
theorem ws2_8 : Cond.selects RPr yPr_divide yPr_divide ∈ wsA := memS2 (i := 8) (n := 9) rfl rfl
theorem ws2_9 : Cond.selects RPr yPr_punchWord yPr_punchWord ∈ wsA := memS2 (i := 9) (n := 9) rfl rfl
theorem ws2_10 : Cond.selects RPr yPr_multiply yPr_multiply ∈ wsA := memS2 (i := 10) (n := 9) rfl rfl
theorem ws2_11 : Cond.selects RPr yPr_addWord yPr_addWord ∈ wsA := memS2 (i := 11) (n := 9) rfl rfl
theorem ws2_12 : Cond.selects RPr yPr_takesBranch yPr_takesBranch ∈ wsA := memS2 (i := 12) (n := 9) rfl rfl
theorem ws2_13 : Cond.selects RMo yMo_write yMo_write ∈ wsA := memS2 (i := 13) (n := 28) rfl rfl
theorem ws2_14 : Cond.selects RMo yMo_forgetPlaces yMo_forgetPlaces ∈ wsA := memS2 (i := 14) (n := 28) rfl rfl
theorem ws2_15 : Cond.selects RMo yMo_value yMo_value ∈ wsA := memS2 (i := 15) (n := 28) rfl rfl
theorem ws3_0 : Cond.selects RMo yMo_step yMo_step ∈ wsA := memS3 (i := 0) (n := 28) rfl rfl
theorem ws3_1 : Cond.selects RMo yMo_stop yMo_stop ∈ wsA := memS3 (i := 1) (n := 28) rfl rfl
theorem ws3_2 : Cond.selects RMo yMo_access yMo_access ∈ wsA := memS3 (i := 2) (n := 28) rfl rfl
theorem ws3_3 : Cond.selects RMo yMo_doRead yMo_doRead ∈ wsA := memS3 (i := 3) (n := 28) rfl rfl
theorem ws3_4 : Cond.selects RMo yMo_lookUp yMo_lookUp ∈ wsA := memS3 (i := 4) (n := 28) rfl rfl
theorem ws3_5 : Cond.selects RMo yMo_divide yMo_divide ∈ wsA := memS3 (i := 5) (n := 28) rfl rfl
theorem ws3_6 : Cond.selects RMo yMo_multiply yMo_multiply ∈ wsA := memS3 (i := 6) (n := 28) rfl rfl
theorem ws3_7 : Cond.selects RMo yMo_sum yMo_sum ∈ wsA := memS3 (i := 7) (n := 28) rfl rfl
theorem ws3_8 : Cond.selects RMo yMo_add yMo_add ∈ wsA := memS3 (i := 8) (n := 28) rfl rfl
theorem ws3_9 : Cond.selects RMo yMo_doWrite yMo_doWrite ∈ wsA := memS3 (i := 9) (n := 28) rfl rfl
theorem ws3_10 : Cond.selects RMo yMo_branches yMo_branches ∈ wsA := memS3 (i := 10) (n := 28) rfl rfl
theorem ws3_11 : Cond.selects RMo yMo_shiftRight yMo_shiftRight ∈ wsA := memS3 (i := 11) (n := 28) rfl rfl
theorem ws3_12 : Cond.selects RMo yMo_shiftLeft yMo_shiftLeft ∈ wsA := memS3 (i := 12) (n := 28) rfl rfl
theorem ws3_13 : Cond.selects RMo yMo_fail yMo_fail ∈ wsA := memS3 (i := 13) (n := 28) rfl rfl
theorem ws3_14 : Cond.selects RMo yMo_hold yMo_hold ∈ wsA := memS3 (i := 14) (n := 28) rfl rfl
theorem ws3_15 : Cond.selects RMo yMo_settle yMo_settle ∈ wsA := memS3 (i := 15) (n := 28) rfl rfl
theorem ws4_0 : Cond.selects RMo yMo_take yMo_take ∈ wsA := memS4 (i := 0) (n := 28) rfl rfl
theorem ws4_1 : Cond.selects RMo yMo_placeOf yMo_placeOf ∈ wsA := memS4 (i := 1) (n := 28) rfl rfl
theorem inADM : ∀ w ∈ u_ws RDM TDM 5, w ∈ wsA := by
  intro w hw
  obtain ⟨k, hk, rfl⟩ := List.mem_map.mp hw
  have hk := List.mem_range.mp hk
  match k, hk with
  | 0, _ => exact wm1_184
  | 1, _ => exact wm1_186
  | 2, _ => exact wm1_188
  | 3, _ => exact wm1_190
  | 4, _ => exact wm1_192
  | k + 5, h => exact absurd h (by omega)
theorem inADr : ∀ w ∈ u_ws RDr TDr 3, w ∈ wsA := by
  intro w hw
  obtain ⟨k, hk, rfl⟩ := List.mem_map.mp hw
  have hk := List.mem_range.mp hk
  match k, hk with
  | 0, _ => exact wm1_43
  | 1, _ => exact wm1_45
  | 2, _ => exact wm1_47
  | k + 3, h => exact absurd h (by omega)
theorem inACd : ∀ w ∈ u_ws RCd TCd 4, w ∈ wsA := by
  intro w hw
  obtain ⟨k, hk, rfl⟩ := List.mem_map.mp hw
  have hk := List.mem_range.mp hk
  match k, hk with
  | 0, _ => exact wm1_63
  | 1, _ => exact wm1_65
  | 2, _ => exact wm1_67
  | 3, _ => exact wm1_69
  | k + 4, h => exact absurd h (by omega)
theorem inAPu : ∀ w ∈ u_ws RPu TPu 2, w ∈ wsA := by
  intro w hw
  obtain ⟨k, hk, rfl⟩ := List.mem_map.mp hw
  have hk := List.mem_range.mp hk
  match k, hk with
  | 0, _ => exact wm1_80
  | 1, _ => exact wm1_82
  | k + 2, h => exact absurd h (by omega)
theorem inAPr : ∀ w ∈ u_ws RPr TPr 9, w ∈ wsA := by
  intro w hw
  obtain ⟨k, hk, rfl⟩ := List.mem_map.mp hw
  have hk := List.mem_range.mp hk
  match k, hk with
  | 0, _ => exact wm1_119
  | 1, _ => exact wm1_121
  | 2, _ => exact wm1_123
  | 3, _ => exact wm1_125
  | 4, _ => exact wm1_127
  | 5, _ => exact wm1_129
  | 6, _ => exact wm1_131
  | 7, _ => exact wm1_133
  | 8, _ => exact wm1_135
  | k + 9, h => exact absurd h (by omega)
theorem inAAc : ∀ w ∈ u_ws RAc TAc 4, w ∈ wsA := by
  intro w hw
  obtain ⟨k, hk, rfl⟩ := List.mem_map.mp hw
  have hk := List.mem_range.mp hk
  match k, hk with
  | 0, _ => exact wm1_101
  | 1, _ => exact wm1_103
  | 2, _ => exact wm1_105
  | 3, _ => exact wm1_107
  | k + 4, h => exact absurd h (by omega)
theorem inAAs : ∀ w ∈ u_ws RAs TAs 11, w ∈ wsA := by
  intro w hw
  obtain ⟨k, hk, rfl⟩ := List.mem_map.mp hw
  have hk := List.mem_range.mp hk
  match k, hk with
  | 0, _ => exact wm1_156
  | 1, _ => exact wm1_158
  | 2, _ => exact wm1_160
  | 3, _ => exact wm1_162
  | 4, _ => exact wm1_164
  | 5, _ => exact wm1_166
  | 6, _ => exact wm1_168
  | 7, _ => exact wm1_170
  | 8, _ => exact wm1_172
  | 9, _ => exact wm1_174
  | 10, _ => exact wm1_176
  | k + 11, h => exact absurd h (by omega)
theorem inAMo : ∀ w ∈ u_ws RMo TMo 28, w ∈ wsA := by
  intro w hw
  obtain ⟨k, hk, rfl⟩ := List.mem_map.mp hw
  have hk := List.mem_range.mp hk
  match k, hk with
  | 0, _ => exact wm4_216
  | 1, _ => exact wm4_218
  | 2, _ => exact wm4_220
  | 3, _ => exact wm4_222
  | 4, _ => exact wm4_224
  | 5, _ => exact wm4_226
  | 6, _ => exact wm4_228
  | 7, _ => exact wm4_230
  | 8, _ => exact wm4_232
  | 9, _ => exact wm4_234
  | 10, _ => exact wm4_236
  | 11, _ => exact wm4_238
  | 12, _ => exact wm5_0
  | 13, _ => exact wm5_2
  | 14, _ => exact wm5_4
  | 15, _ => exact wm5_6
  | 16, _ => exact wm5_8
  | 17, _ => exact wm5_10
  | 18, _ => exact wm5_12
  | 19, _ => exact wm5_14
  | 20, _ => exact wm5_16
  | 21, _ => exact wm5_18
  | 22, _ => exact wm5_20
  | 23, _ => exact wm5_22
  | 24, _ => exact wm5_24
  | 25, _ => exact wm5_26
  | 26, _ => exact wm5_28
  | 27, _ => exact wm5_30
  | k + 28, h => exact absurd h (by omega)
abbrev wsDM_init : List Cond := Cond.code yDM_init ccDM_init 1 none :: wsA
abbrev wsDr_init : List Cond := Cond.code yDr_init ccDr_init 1 none :: wsA
abbrev wsDr_codeOf : List Cond := Cond.code yDr_codeOf ccDr_codeOf 1 (some .int) :: wsA
abbrev wsAr_fill : List Cond := Cond.code yAr_fill ccAr_fill 4 none :: wsA
abbrev wsCd_init : List Cond := Cond.code yCd_init ccCd_init 1 none :: wsA
abbrev wsPu_init : List Cond := Cond.code yPu_init ccPu_init 1 none :: wsA
abbrev wsPr_init : List Cond := Cond.code yPr_init ccPr_init 4 none :: wsA
abbrev wsAc_init : List Cond := Cond.code yAc_init ccAc_init 1 none :: wsA
abbrev wsAs_init : List Cond := Cond.code yAs_init ccAs_init 1 none :: wsA
abbrev wsDM_clear : List Cond := Cond.code yDM_clear ccDM_clear 1 none :: wsA
abbrev wsAs_forgetAll : List Cond := Cond.code yAs_forgetAll ccAs_forgetAll 2 none :: wsA
abbrev wsAs_forgetPlaces : List Cond := Cond.code yAs_forgetPlaces ccAs_forgetPlaces 1 none :: wsA
abbrev wsDM_fault : List Cond := Cond.code yDM_fault ccDM_fault 1 (some .int) :: wsA
abbrev wsPr_stopCause : List Cond := Cond.code yPr_stopCause ccPr_stopCause 1 (some .int) :: wsA
abbrev wsDM_time : List Cond := Cond.code yDM_time ccDM_time 1 (some .long) :: wsA
abbrev wsPr_wordTimes : List Cond := Cond.code yPr_wordTimes ccPr_wordTimes 1 (some .long) :: wsA
abbrev wsDM_next : List Cond := Cond.code yDM_next ccDM_next 1 (some .int) :: wsA
abbrev wsPr_nextAddress : List Cond := Cond.code yPr_nextAddress ccPr_nextAddress 1 (some .int) :: wsA
abbrev wsDM_outputs : List Cond := Cond.code yDM_outputs ccDM_outputs 1 (some .int) :: wsA
abbrev wsPu_size : List Cond := Cond.code yPu_size ccPu_size 1 (some .int) :: wsA
abbrev wsDM_word : List Cond := Cond.code yDM_word ccDM_word 5 none :: wsA
abbrev wsDr_hasAddress : List Cond := Cond.code yDr_hasAddress ccDr_hasAddress 1 (some .boolean) :: wsA
abbrev wsDg_fitWord : List Cond := Cond.code yDg_fitWord ccDg_fitWord 2 (some .boolean) :: wsA
abbrev wsDr_store : List Cond := Cond.code yDr_store ccDr_store 8 none :: wsA
abbrev wsDM_flip : List Cond := Cond.code yDM_flip ccDM_flip 4 (some .boolean) :: wsA
abbrev wsDr_hasBit : List Cond := Cond.code yDr_hasBit ccDr_hasBit 3 (some .boolean) :: wsA
abbrev wsDr_turnBitOver : List Cond := Cond.code yDr_turnBitOver ccDr_turnBitOver 4 none :: wsA
abbrev wsDr_valueOfCodes : List Cond := Cond.code yDr_valueOfCodes ccDr_valueOfCodes 6 (some .long) :: wsA
abbrev wsDr_digitOf : List Cond := Cond.code yDr_digitOf ccDr_digitOf 2 (some .int) :: wsA
abbrev wsDr_isValid : List Cond := Cond.code yDr_isValid ccDr_isValid 2 (some .boolean) :: wsA
abbrev wsDM_card : List Cond := Cond.code yDM_card ccDM_card 4 (some .int) :: wsA
abbrev wsCd_isFull : List Cond := Cond.code yCd_isFull ccCd_isFull 1 (some .boolean) :: wsA
abbrev wsCd_put : List Cond := Cond.code yCd_put ccCd_put 5 none :: wsA
abbrev wsCd_size : List Cond := Cond.code yCd_size ccCd_size 1 (some .int) :: wsA
abbrev wsDM_line : List Cond := Cond.code yDM_line ccDM_line 5 (some .int) :: wsA
abbrev wsOp_exists : List Cond := Cond.code yOp_exists ccOp_exists 1 (some .boolean) :: wsA
abbrev wsOp_kindOf : List Cond := Cond.code yOp_kindOf ccOp_kindOf 1 (some .int) :: wsA
abbrev wsOp_branchesOnEight : List Cond := Cond.code yOp_branchesOnEight ccOp_branchesOnEight 1 (some .boolean) :: wsA
abbrev wsAs_isPart : List Cond := Cond.code yAs_isPart ccAs_isPart 1 (some .boolean) :: wsA
abbrev wsAs_isSymbol : List Cond := Cond.code yAs_isSymbol ccAs_isSymbol 1 (some .boolean) :: wsA
abbrev wsAs_isDataPart : List Cond := Cond.code yAs_isDataPart ccAs_isDataPart 2 (some .boolean) :: wsA
abbrev wsOp_shifts : List Cond := Cond.code yOp_shifts ccOp_shifts 1 (some .boolean) :: wsA
abbrev wsAs_isFull : List Cond := Cond.code yAs_isFull ccAs_isFull 1 (some .boolean) :: wsA
abbrev wsAs_addLine : List Cond := Cond.code yAs_addLine ccAs_addLine 6 (some .int) :: wsA
abbrev wsDM_reserve : List Cond := Cond.code yDM_reserve ccDM_reserve 2 none :: wsA
abbrev wsAs_markReserved : List Cond := Cond.code yAs_markReserved ccAs_markReserved 2 none :: wsA
abbrev wsDM_assemble : List Cond := Cond.code yDM_assemble ccDM_assemble 2 (some .int) :: wsA
abbrev wsAs_isEmpty : List Cond := Cond.code yAs_isEmpty ccAs_isEmpty 1 (some .boolean) :: wsA
abbrev wsAs_placeAll : List Cond := Cond.code yAs_placeAll ccAs_placeAll 4 (some .boolean) :: wsA
abbrev wsAs_markTaken : List Cond := Cond.code yAs_markTaken ccAs_markTaken 2 none :: wsA
abbrev wsAs_takeIfAddress : List Cond := Cond.code yAs_takeIfAddress ccAs_takeIfAddress 2 none :: wsA
abbrev wsAs_placeLine : List Cond := Cond.code yAs_placeLine ccAs_placeLine 3 (some .boolean) :: wsA
abbrev wsAs_placeLocation : List Cond := Cond.code yAs_placeLocation ccAs_placeLocation 4 (some .int) :: wsA
abbrev wsAs_placePart : List Cond := Cond.code yAs_placePart ccAs_placePart 5 (some .int) :: wsA
abbrev wsAs_newPlace : List Cond := Cond.code yAs_newPlace ccAs_newPlace 4 (some .int) :: wsA
abbrev wsAs_firstFreeFromAngle : List Cond := Cond.code yAs_firstFreeFromAngle ccAs_firstFreeFromAngle 5 (some .int) :: wsA
abbrev wsAs_leastFree : List Cond := Cond.code yAs_leastFree ccAs_leastFree 2 (some .int) :: wsA
abbrev wsAs_placeData : List Cond := Cond.code yAs_placeData ccAs_placeData 4 (some .int) :: wsA
abbrev wsAs_placeNext : List Cond := Cond.code yAs_placeNext ccAs_placeNext 5 (some .int) :: wsA
abbrev wsAs_bestForNext : List Cond := Cond.code yAs_bestForNext ccAs_bestForNext 4 (some .int) :: wsA
abbrev wsOp_accessesData : List Cond := Cond.code yOp_accessesData ccOp_accessesData 2 (some .boolean) :: wsA
abbrev wsOp_fixedTime : List Cond := Cond.code yOp_fixedTime ccOp_fixedTime 4 (some .int) :: wsA
abbrev wsOp_shiftLength : List Cond := Cond.code yOp_shiftLength ccOp_shiftLength 3 (some .int) :: wsA
abbrev wsAs_isLocationOfEarlierLine : List Cond := Cond.code yAs_isLocationOfEarlierLine ccAs_isLocationOfEarlierLine 3 (some .boolean) :: wsA
abbrev wsAs_writeTo : List Cond := Cond.code yAs_writeTo ccAs_writeTo 3 none :: wsA
abbrev wsDg_instruction : List Cond := Cond.code yDg_instruction ccDg_instruction 3 (some .long) :: wsA
abbrev wsAs_firstLocation : List Cond := Cond.code yAs_firstLocation ccAs_firstLocation 1 (some .int) :: wsA
abbrev wsDM_place : List Cond := Cond.code yDM_place ccDM_place 2 (some .int) :: wsA
abbrev wsAs_hasSymbol : List Cond := Cond.code yAs_hasSymbol ccAs_hasSymbol 1 (some .boolean) :: wsA
abbrev wsAs_placeOf : List Cond := Cond.code yAs_placeOf ccAs_placeOf 2 (some .int) :: wsA
abbrev wsDM_start : List Cond := Cond.code yDM_start ccDM_start 2 none :: wsA
abbrev wsPr_goOnFrom : List Cond := Cond.code yPr_goOnFrom ccPr_goOnFrom 2 none :: wsA
abbrev wsDM_run : List Cond := Cond.code yDM_run ccDM_run 2 (some .int) :: wsA
abbrev wsPr_isStopped : List Cond := Cond.code yPr_isStopped ccPr_isStopped 1 (some .boolean) :: wsA
abbrev wsPr_doSteps : List Cond := Cond.code yPr_doSteps ccPr_doSteps 4 (some .int) :: wsA
abbrev wsPr_step : List Cond := Cond.code yPr_step ccPr_step 6 (some .int) :: wsA
abbrev wsPr_waitAndAccess : List Cond := Cond.code yPr_waitAndAccess ccPr_waitAndAccess 4 none :: wsA
abbrev wsDr_angleOf : List Cond := Cond.code yDr_angleOf ccDr_angleOf 1 (some .int) :: wsA
abbrev wsDr_valueAt : List Cond := Cond.code yDr_valueAt ccDr_valueAt 2 (some .long) :: wsA
abbrev wsDg_operationOf : List Cond := Cond.code yDg_operationOf ccDg_operationOf 2 (some .int) :: wsA
abbrev wsDg_dataAddressOf : List Cond := Cond.code yDg_dataAddressOf ccDg_dataAddressOf 2 (some .int) :: wsA
abbrev wsPr_operate : List Cond := Cond.code yPr_operate ccPr_operate 3 (some .int) :: wsA
abbrev wsPr_shift : List Cond := Cond.code yPr_shift ccPr_shift 3 none :: wsA
abbrev wsAc_shiftLeft : List Cond := Cond.code yAc_shiftLeft ccAc_shiftLeft 6 none :: wsA
abbrev wsDg_powerOfTen : List Cond := Cond.code yDg_powerOfTen ccDg_powerOfTen 4 (some .long) :: wsA
abbrev wsAc_shiftRight : List Cond := Cond.code yAc_shiftRight ccAc_shiftRight 6 none :: wsA
abbrev wsAc_shiftAndRound : List Cond := Cond.code yAc_shiftAndRound ccAc_shiftAndRound 3 none :: wsA
abbrev wsDg_digitAt : List Cond := Cond.code yDg_digitAt ccDg_digitAt 3 (some .int) :: wsA
abbrev wsAc_add : List Cond := Cond.code yAc_add ccAc_add 11 none :: wsA
abbrev wsMa_floorDiv : List Cond := Cond.code yMa_floorDiv ccMa_floorDiv 6 (some .long) :: wsA
abbrev wsMa_floorMod : List Cond := Cond.code yMa_floorMod ccMa_floorMod 6 (some .long) :: wsA
abbrev wsOp_writes : List Cond := Cond.code yOp_writes ccOp_writes 1 (some .boolean) :: wsA
abbrev wsPr_write : List Cond := Cond.code yPr_write ccPr_write 4 (some .int) :: wsA
abbrev wsPr_readCard : List Cond := Cond.code yPr_readCard ccPr_readCard 2 (some .int) :: wsA
abbrev wsCd_isEmpty : List Cond := Cond.code yCd_isEmpty ccCd_isEmpty 1 (some .boolean) :: wsA
abbrev wsCd_firstValue : List Cond := Cond.code yCd_firstValue ccCd_firstValue 1 (some .long) :: wsA
abbrev wsCd_firstIsMinus : List Cond := Cond.code yCd_firstIsMinus ccCd_firstIsMinus 1 (some .boolean) :: wsA
abbrev wsCd_dropFirst : List Cond := Cond.code yCd_dropFirst ccCd_dropFirst 1 none :: wsA
abbrev wsAc_lowerDigits : List Cond := Cond.code yAc_lowerDigits ccAc_lowerDigits 1 (some .long) :: wsA
abbrev wsAc_isMinus : List Cond := Cond.code yAc_isMinus ccAc_isMinus 1 (some .boolean) :: wsA
abbrev wsPr_setDistributor : List Cond := Cond.code yPr_setDistributor ccPr_setDistributor 4 none :: wsA
abbrev wsAc_upperDigits : List Cond := Cond.code yAc_upperDigits ccAc_upperDigits 1 (some .long) :: wsA
abbrev wsDg_withDataAddress : List Cond := Cond.code yDg_withDataAddress ccDg_withDataAddress 5 (some .long) :: wsA
abbrev wsPr_read : List Cond := Cond.code yPr_read ccPr_read 7 (some .int) :: wsA
abbrev wsPr_lookUp : List Cond := Cond.code yPr_lookUp ccPr_lookUp 4 (some .int) :: wsA
abbrev wsAc_putDataAddress : List Cond := Cond.code yAc_putDataAddress ccAc_putDataAddress 2 none :: wsA
abbrev wsDr_isMinus : List Cond := Cond.code yDr_isMinus ccDr_isMinus 2 (some .boolean) :: wsA
abbrev wsPr_divide : List Cond := Cond.code yPr_divide ccPr_divide 4 (some .int) :: wsA
abbrev wsAc_divide : List Cond := Cond.code yAc_divide ccAc_divide 11 (some .boolean) :: wsA
abbrev wsDg_sum : List Cond := Cond.code yDg_sum ccDg_sum 6 (some .int) :: wsA
abbrev wsPr_punchWord : List Cond := Cond.code yPr_punchWord ccPr_punchWord 4 (some .int) :: wsA
abbrev wsPu_isFull : List Cond := Cond.code yPu_isFull ccPu_isFull 1 (some .boolean) :: wsA
abbrev wsDg_withSign : List Cond := Cond.code yDg_withSign ccDg_withSign 3 (some .long) :: wsA
abbrev wsPu_put : List Cond := Cond.code yPu_put ccPu_put 3 none :: wsA
abbrev wsPr_multiply : List Cond := Cond.code yPr_multiply ccPr_multiply 4 none :: wsA
abbrev wsAc_multiply : List Cond := Cond.code yAc_multiply ccAc_multiply 10 none :: wsA
abbrev wsOp_adds : List Cond := Cond.code yOp_adds ccOp_adds 1 (some .boolean) :: wsA
abbrev wsPr_addWord : List Cond := Cond.code yPr_addWord ccPr_addWord 7 none :: wsA
abbrev wsOp_resetsFirst : List Cond := Cond.code yOp_resetsFirst ccOp_resetsFirst 1 (some .boolean) :: wsA
abbrev wsAc_reset : List Cond := Cond.code yAc_reset ccAc_reset 1 none :: wsA
abbrev wsOp_subtracts : List Cond := Cond.code yOp_subtracts ccOp_subtracts 1 (some .boolean) :: wsA
abbrev wsOp_addsToUpper : List Cond := Cond.code yOp_addsToUpper ccOp_addsToUpper 1 (some .boolean) :: wsA
abbrev wsPr_isFault : List Cond := Cond.code yPr_isFault ccPr_isFault 1 (some .boolean) :: wsA
abbrev wsPr_takesBranch : List Cond := Cond.code yPr_takesBranch ccPr_takesBranch 2 (some .boolean) :: wsA
abbrev wsAc_isZero : List Cond := Cond.code yAc_isZero ccAc_isZero 1 (some .boolean) :: wsA
abbrev wsAc_takeOverflow : List Cond := Cond.code yAc_takeOverflow ccAc_takeOverflow 2 (some .boolean) :: wsA
abbrev wsDg_nextAddressOf : List Cond := Cond.code yDg_nextAddressOf ccDg_nextAddressOf 2 (some .int) :: wsA
abbrev wsDM_register : List Cond := Cond.code yDM_register ccDM_register 2 (some .long) :: wsA
abbrev wsPr_upperDigits : List Cond := Cond.code yPr_upperDigits ccPr_upperDigits 1 (some .long) :: wsA
abbrev wsPr_lowerDigits : List Cond := Cond.code yPr_lowerDigits ccPr_lowerDigits 1 (some .long) :: wsA
abbrev wsPr_distributorDigits : List Cond := Cond.code yPr_distributorDigits ccPr_distributorDigits 1 (some .long) :: wsA
abbrev wsDM_sign : List Cond := Cond.code yDM_sign ccDM_sign 2 (some .boolean) :: wsA
abbrev wsPr_accumulatorIsMinus : List Cond := Cond.code yPr_accumulatorIsMinus ccPr_accumulatorIsMinus 1 (some .boolean) :: wsA
abbrev wsPr_distributorIsMinus : List Cond := Cond.code yPr_distributorIsMinus ccPr_distributorIsMinus 1 (some .boolean) :: wsA
abbrev wsPr_overflowIsOn : List Cond := Cond.code yPr_overflowIsOn ccPr_overflowIsOn 1 (some .boolean) :: wsA
abbrev wsAc_hasOverflow : List Cond := Cond.code yAc_hasOverflow ccAc_hasOverflow 1 (some .boolean) :: wsA
abbrev wsDM_get : List Cond := Cond.code yDM_get ccDM_get 2 (some .long) :: wsA
abbrev wsDM_output : List Cond := Cond.code yDM_output ccDM_output 2 (some .long) :: wsA
abbrev wsPu_hasWord : List Cond := Cond.code yPu_hasWord ccPu_hasWord 2 (some .boolean) :: wsA
abbrev wsPu_wordAt : List Cond := Cond.code yPu_wordAt ccPu_wordAt 2 (some .long) :: wsA
abbrev wsMo_init : List Cond := Cond.code yMo_init ccMo_init 2 none :: wsA
abbrev wsMo_write : List Cond := Cond.code yMo_write ccMo_write 9 none :: wsA
abbrev wsMo_forgetPlaces : List Cond := Cond.code yMo_forgetPlaces ccMo_forgetPlaces 2 none :: wsA
abbrev wsMo_thrown : List Cond := Cond.code yMo_thrown ccMo_thrown 1 (some .int) :: wsA
abbrev wsMo_word : List Cond := Cond.code yMo_word ccMo_word 5 none :: wsA
abbrev wsMo_isAddress : List Cond := Cond.code yMo_isAddress ccMo_isAddress 1 (some .boolean) :: wsA
abbrev wsMo_isWord : List Cond := Cond.code yMo_isWord ccMo_isWord 2 (some .boolean) :: wsA
abbrev wsMo_flip : List Cond := Cond.code yMo_flip ccMo_flip 4 (some .boolean) :: wsA
abbrev wsMo_value : List Cond := Cond.code yMo_value ccMo_value 7 (some .long) :: wsA
abbrev wsMo_digitOf : List Cond := Cond.code yMo_digitOf ccMo_digitOf 4 (some .int) :: wsA
abbrev wsMo_card : List Cond := Cond.code yMo_card ccMo_card 4 (some .int) :: wsA
abbrev wsMo_start : List Cond := Cond.code yMo_start ccMo_start 2 none :: wsA
abbrev wsMo_run : List Cond := Cond.code yMo_run ccMo_run 3 (some .int) :: wsA
abbrev wsMo_step : List Cond := Cond.code yMo_step ccMo_step 10 (some .boolean) :: wsA
abbrev wsMo_stop : List Cond := Cond.code yMo_stop ccMo_stop 3 (some .boolean) :: wsA
abbrev wsMo_access : List Cond := Cond.code yMo_access ccMo_access 2 none :: wsA
abbrev wsMo_isOperation : List Cond := Cond.code yMo_isOperation ccMo_isOperation 1 (some .boolean) :: wsA
abbrev wsMo_reads : List Cond := Cond.code yMo_reads ccMo_reads 1 (some .boolean) :: wsA
abbrev wsMo_writes : List Cond := Cond.code yMo_writes ccMo_writes 1 (some .boolean) :: wsA
abbrev wsMo_shifts : List Cond := Cond.code yMo_shifts ccMo_shifts 1 (some .boolean) :: wsA
abbrev wsMo_doRead : List Cond := Cond.code yMo_doRead ccMo_doRead 7 (some .boolean) :: wsA
abbrev wsMo_lookUp : List Cond := Cond.code yMo_lookUp ccMo_lookUp 7 (some .boolean) :: wsA
abbrev wsMo_fixed : List Cond := Cond.code yMo_fixed ccMo_fixed 2 (some .int) :: wsA
abbrev wsMo_divide : List Cond := Cond.code yMo_divide ccMo_divide 11 none :: wsA
abbrev wsMo_sumOfDigits : List Cond := Cond.code yMo_sumOfDigits ccMo_sumOfDigits 5 (some .int) :: wsA
abbrev wsMo_multiply : List Cond := Cond.code yMo_multiply ccMo_multiply 14 none :: wsA
abbrev wsMo_sum : List Cond := Cond.code yMo_sum ccMo_sum 7 none :: wsA
abbrev wsMo_add : List Cond := Cond.code yMo_add ccMo_add 15 none :: wsA
abbrev wsMo_doWrite : List Cond := Cond.code yMo_doWrite ccMo_doWrite 5 (some .boolean) :: wsA
abbrev wsMo_branches : List Cond := Cond.code yMo_branches ccMo_branches 5 (some .boolean) :: wsA
abbrev wsMo_shiftRight : List Cond := Cond.code yMo_shiftRight ccMo_shiftRight 5 none :: wsA
abbrev wsMo_shiftLeft : List Cond := Cond.code yMo_shiftLeft ccMo_shiftLeft 3 none :: wsA
abbrev wsMo_line : List Cond := Cond.code yMo_line ccMo_line 6 (some .int) :: wsA
abbrev wsMo_isPart : List Cond := Cond.code yMo_isPart ccMo_isPart 1 (some .boolean) :: wsA
abbrev wsMo_fail : List Cond := Cond.code yMo_fail ccMo_fail 2 (some .int) :: wsA
abbrev wsMo_reserve : List Cond := Cond.code yMo_reserve ccMo_reserve 2 none :: wsA
abbrev wsMo_clear : List Cond := Cond.code yMo_clear ccMo_clear 2 none :: wsA
abbrev wsMo_assemble : List Cond := Cond.code yMo_assemble ccMo_assemble 4 (some .int) :: wsA
abbrev wsMo_hold : List Cond := Cond.code yMo_hold ccMo_hold 2 none :: wsA
abbrev wsMo_settle : List Cond := Cond.code yMo_settle ccMo_settle 11 none :: wsA
abbrev wsMo_take : List Cond := Cond.code yMo_take ccMo_take 7 (some .int) :: wsA
abbrev wsMo_placeOf : List Cond := Cond.code yMo_placeOf ccMo_placeOf 6 (some .int) :: wsA
abbrev wsMo_place : List Cond := Cond.code yMo_place ccMo_place 2 (some .int) :: wsA
abbrev wsMo_fault : List Cond := Cond.code yMo_fault ccMo_fault 1 (some .int) :: wsA
abbrev wsMo_time : List Cond := Cond.code yMo_time ccMo_time 1 (some .long) :: wsA
abbrev wsMo_register : List Cond := Cond.code yMo_register ccMo_register 2 (some .long) :: wsA
abbrev wsMo_sign : List Cond := Cond.code yMo_sign ccMo_sign 2 (some .boolean) :: wsA
abbrev wsMo_next : List Cond := Cond.code yMo_next ccMo_next 1 (some .int) :: wsA
abbrev wsMo_get : List Cond := Cond.code yMo_get ccMo_get 4 (some .long) :: wsA
abbrev wsMo_output : List Cond := Cond.code yMo_output ccMo_output 2 (some .long) :: wsA
abbrev wsMo_outputs : List Cond := Cond.code yMo_outputs ccMo_outputs 1 (some .int) :: wsA
end
section
/-! rows of my own: booleans, reading and writing calls, compares of longs, counters -/
def bb (b : Bool) : Int32 := match b with
  | true => 1
  | false => 0
theorem bb_eq {a b : Bool} : bb a = bb b ↔ a = b := by
  cases a <;> cases b <;> decide
theorem bb_0 {b : Bool} : bb b = 0 ↔ ¬ b = true := by
  cases b <;> decide
theorem nz_b (b : Bool) : narrow .boolean (.int (bb b)) = .int (bb b) := by
  cases b <;> rfl
theorem fz_b (b : Bool) : fits .boolean (.int (bb b)) = true := by
  cases b <;> rfl
theorem nar_b (b : Bool) : vp_nar .boolean (bb b) = bb b := by
  cases b <;> rfl
def updB (f : Nat → Bool) (k : Nat) (x : Bool) : Nat → Bool := fun j => if j = k then x else f j
theorem updB_eq (f : Nat → Bool) (k : Nat) (b : Bool) : upd (fun j => bb (f j)) k (vp_nar .boolean (bb b)) = fun j => bb (updB f k b j) := by
  funext j
  unfold upd updB
  rw [nar_b]
  by_cases h : j = k
  · rw [if_pos h, if_pos h]
  · rw [if_neg h, if_neg h]
abbrev tys3 (cI cJ cZ : ClassId) : List (ClassId × FieldType) := [(cI, .int), (cJ, .long), (cZ, .boolean)]
/-- a method that answers and changes nothing -/
def cQr (v : Option Value) : Array Value → State → Outcome → State → Prop := fun _ st o t => o = .returned v ∧ t.heap = st.heap
/-- a method that answers and leaves a world -/
def cQw (v : Option Value) (P : Heap → Prop) (A : Nat → Prop) : Array Value → State → Outcome → State → Prop := fun _ st o t => o = .returned v ∧ P t.heap ∧ va_F A st t
section
variable {p : Program} {l : Launch} {e : Env} {R : Room} {s : State} {m : MethodId} {args : Array Value} {below : List Frame} {meth : Method} {c : Code} {H : Heap} {locs : List Loc} {cells slots : Nat} {Q : State → Prop}
variable {cc : ByteArray} {pc : Nat} {ls : Array Slot} {rest : List Value}
theorem preT {av : List Value} : PreS s H (va_Pc av (fun _ => True)) av := ⟨fun _ _ _ _ q => q, fun _ _ _ => ⟨rfl, trivial⟩⟩
theorem cl_rd {v : Option Value} {st0 : List Value} {a : Array Value} (hr : CallRun p l e R s m args below meth c H locs cells slots 0 0 (F0 m pc ls st0) rest (cQr v a) (fun _ => False)) (kk : W p l e R s m args below meth c H locs cells slots Q (F0 m (pc + 3) ls (v.toList ++ rest))) : W p l e R s m args below meth c H locs cells slots Q (F0 m pc ls st0) := by
  intro T hT X
  obtain ⟨v', st₀, t, T', L, h0, X', hL, e1, ⟨hv, hh⟩, st⟩ := hr T hT X
  cases hv
  obtain ⟨t2, a1, b1⟩ := kk T' (by rw [e1, hh, h0]) (Stand.forget X' (fun q h => (hL q h).elim))
  exact ⟨t2, st t2 a1, b1⟩
theorem cl_wr {v : Option Value} {st0 : List Value} {a : Array Value} {P : Heap → Prop} {A A1 : Nat → Prop} {free : Addr → Prop} {H0 : Heap} (hr : CallRun p l e R s m args below meth c H locs cells slots 0 0 (F0 m pc ls st0) rest (cQw v P A1 a) free) (hS : va_S A H0 H locs) (hA : ∀ q, A1 q → A q) (hf : ∀ q, free q → A q)
    (kk : ∀ (H1 : Heap) (locs1 : List Loc), P H1 → va_S A H0 H1 locs1 → W p l e R s m args below meth c H1 locs1 cells slots Q (F0 m (pc + 3) ls (v.toList ++ rest))) : W p l e R s m args below meth c H locs cells slots Q (F0 m pc ls st0) := by
  intro T hT X
  obtain ⟨v', st₀, t, T', L, h0, X', hL, e1, ⟨hv, hP, hz, hk⟩, st⟩ := hr T hT X
  cases hv
  rw [h0] at hz hk
  obtain ⟨t2, a1, b1⟩ := kk T'.heap (locs ++ L) (by rw [e1]; exact hP)
    ⟨Nat.le_trans hS.1 (by rw [e1]; exact hz), fun q h1 h2 => by rw [e1, hk q (Nat.lt_of_lt_of_le h1 hS.1) (fun z => h2 (hA q z))]; exact hS.2.1 q h1 h2, fun q hq => by
      rcases List.mem_append.mp hq with h | h
      · exact hS.2.2 q h
      · exact hf _ (hL q h)⟩ T' rfl X'
  exact ⟨t2, st t2 a1, b1⟩
theorem lc_eq (hx : p.tables.exec = Jvm.exec) (hb : c.code = cc) {x y : Int64} {off : Int} {tgt : Nat} (hd1 : decode cc pc = .ok (.lcmp, 1)) (hd2 : decode cc (pc + 1) = .ok (.ifCond .eq off, 3)) (ht : ((pc + 1 : Nat) : Int) + off = (tgt : Int))
    (kt : x = y → W p l e R s m args below meth c H locs cells slots Q (F0 m tgt ls rest)) (kf : ¬ x = y → W p l e R s m args below meth c H locs cells slots Q (F0 m (pc + 4) ls rest)) : W p l e R s m args below meth c H locs cells slots Q (F0 m pc ls (.long y :: .long x :: rest)) := by
  refine W.lcmp hx hb hd1 ?_
  exact lv_if_eq hx hb hd2 ht (fun h => kt ((lg_cmp_eq x y).mp h)) (fun h => kf (fun q => h ((lg_cmp_eq x y).mpr q)))
theorem lc_ne (hx : p.tables.exec = Jvm.exec) (hb : c.code = cc) {x y : Int64} {off : Int} {tgt : Nat} (hd1 : decode cc pc = .ok (.lcmp, 1)) (hd2 : decode cc (pc + 1) = .ok (.ifCond .ne off, 3)) (ht : ((pc + 1 : Nat) : Int) + off = (tgt : Int))
    (kt : ¬ x = y → W p l e R s m args below meth c H locs cells slots Q (F0 m tgt ls rest)) (kf : x = y → W p l e R s m args below meth c H locs cells slots Q (F0 m (pc + 4) ls rest)) : W p l e R s m args below meth c H locs cells slots Q (F0 m pc ls (.long y :: .long x :: rest)) := by
  refine W.lcmp hx hb hd1 ?_
  exact lv_if_ne hx hb hd2 ht (fun h => kt (fun q => h ((lg_cmp_eq x y).mpr q))) (fun h => kf ((lg_cmp_eq x y).mp h))
theorem lc_lt (hx : p.tables.exec = Jvm.exec) (hb : c.code = cc) {x y : Int64} {off : Int} {tgt : Nat} (hd1 : decode cc pc = .ok (.lcmp, 1)) (hd2 : decode cc (pc + 1) = .ok (.ifCond .lt off, 3)) (ht : ((pc + 1 : Nat) : Int) + off = (tgt : Int))
    (kt : x < y → W p l e R s m args below meth c H locs cells slots Q (F0 m tgt ls rest)) (kf : ¬ x < y → W p l e R s m args below meth c H locs cells slots Q (F0 m (pc + 4) ls rest)) : W p l e R s m args below meth c H locs cells slots Q (F0 m pc ls (.long y :: .long x :: rest)) := by
  refine W.lcmp hx hb hd1 ?_
  exact lv_if_lt hx hb hd2 ht (fun h => kt ((lg_cmp_lt x y).mp h)) (fun h => kf (fun q => h ((lg_cmp_lt x y).mpr q)))
theorem lc_ge (hx : p.tables.exec = Jvm.exec) (hb : c.code = cc) {x y : Int64} {off : Int} {tgt : Nat} (hd1 : decode cc pc = .ok (.lcmp, 1)) (hd2 : decode cc (pc + 1) = .ok (.ifCond .ge off, 3)) (ht : ((pc + 1 : Nat) : Int) + off = (tgt : Int))
    (kt : y ≤ x → W p l e R s m args below meth c H locs cells slots Q (F0 m tgt ls rest)) (kf : ¬ y ≤ x → W p l e R s m args below meth c H locs cells slots Q (F0 m (pc + 4) ls rest)) : W p l e R s m args below meth c H locs cells slots Q (F0 m pc ls (.long y :: .long x :: rest)) := by
  refine W.lcmp hx hb hd1 ?_
  exact lv_if_ge hx hb hd2 ht (fun h => kt ((lg_cmp_ge x y).mp h)) (fun h => kf (fun q => h ((lg_cmp_ge x y).mpr q)))
theorem lc_gt (hx : p.tables.exec = Jvm.exec) (hb : c.code = cc) {x y : Int64} {off : Int} {tgt : Nat} (hd1 : decode cc pc = .ok (.lcmp, 1)) (hd2 : decode cc (pc + 1) = .ok (.ifCond .gt off, 3)) (ht : ((pc + 1 : Nat) : Int) + off = (tgt : Int))
    (kt : y < x → W p l e R s m args below meth c H locs cells slots Q (F0 m tgt ls rest)) (kf : ¬ y < x → W p l e R s m args below meth c H locs cells slots Q (F0 m (pc + 4) ls rest)) : W p l e R s m args below meth c H locs cells slots Q (F0 m pc ls (.long y :: .long x :: rest)) := by
  refine W.lcmp hx hb hd1 ?_
  exact lv_if_gt hx hb hd2 ht (fun h => kt ((lg_cmp_gt x y).mp h)) (fun h => kf (fun q => h ((lg_cmp_gt x y).mpr q)))
theorem lc_le (hx : p.tables.exec = Jvm.exec) (hb : c.code = cc) {x y : Int64} {off : Int} {tgt : Nat} (hd1 : decode cc pc = .ok (.lcmp, 1)) (hd2 : decode cc (pc + 1) = .ok (.ifCond .le off, 3)) (ht : ((pc + 1 : Nat) : Int) + off = (tgt : Int))
    (kt : x ≤ y → W p l e R s m args below meth c H locs cells slots Q (F0 m tgt ls rest)) (kf : ¬ x ≤ y → W p l e R s m args below meth c H locs cells slots Q (F0 m (pc + 4) ls rest)) : W p l e R s m args below meth c H locs cells slots Q (F0 m pc ls (.long y :: .long x :: rest)) := by
  refine W.lcmp hx hb hd1 ?_
  exact lv_if_le hx hb hd2 ht (fun h => kt ((lg_cmp_le x y).mp h)) (fun h => kf (fun q => h ((lg_cmp_le x y).mpr q)))
theorem wz_ifeq (hx : p.tables.exec = Jvm.exec) (hb : c.code = cc) {b : Bool} {off : Int} {tgt : Nat} (hdg : decode cc pc = .ok (.ifCond .eq off, 3)) (ht : (pc : Int) + off = (tgt : Int))
    (kt : ¬ b = true → W p l e R s m args below meth c H locs cells slots Q (F0 m tgt ls rest)) (kf : b = true → W p l e R s m args below meth c H locs cells slots Q (F0 m (pc + 3) ls rest)) : W p l e R s m args below meth c H locs cells slots Q (F0 m pc ls (.int (bb b) :: rest)) :=
  lv_if_eq hx hb hdg ht (fun h => kt (bb_0.mp h)) (fun h => kf (by cases b with | true => rfl | false => exact absurd rfl h))
theorem wz_ifne (hx : p.tables.exec = Jvm.exec) (hb : c.code = cc) {b : Bool} {off : Int} {tgt : Nat} (hdg : decode cc pc = .ok (.ifCond .ne off, 3)) (ht : (pc : Int) + off = (tgt : Int))
    (kt : b = true → W p l e R s m args below meth c H locs cells slots Q (F0 m tgt ls rest)) (kf : ¬ b = true → W p l e R s m args below meth c H locs cells slots Q (F0 m (pc + 3) ls rest)) : W p l e R s m args below meth c H locs cells slots Q (F0 m pc ls (.int (bb b) :: rest)) :=
  lv_if_ne hx hb hdg ht (fun h => kt (by cases b with | true => rfl | false => exact absurd rfl h)) (fun h => kf (bb_0.mp h))
theorem wz_cmpeq (hx : p.tables.exec = Jvm.exec) (hb : c.code = cc) {a b : Bool} {off : Int} {tgt : Nat} (hdg : decode cc pc = .ok (.if_icmp .eq off, 3)) (ht : (pc : Int) + off = (tgt : Int))
    (kt : a = b → W p l e R s m args below meth c H locs cells slots Q (F0 m tgt ls rest)) (kf : ¬ a = b → W p l e R s m args below meth c H locs cells slots Q (F0 m (pc + 3) ls rest)) : W p l e R s m args below meth c H locs cells slots Q (F0 m pc ls (.int (bb b) :: .int (bb a) :: rest)) :=
  lv_icmp_eq hx hb hdg ht (fun h => kt (bb_eq.mp h)) (fun h => kf (fun q => h (bb_eq.mpr q)))
theorem wz_cmpne (hx : p.tables.exec = Jvm.exec) (hb : c.code = cc) {a b : Bool} {off : Int} {tgt : Nat} (hdg : decode cc pc = .ok (.if_icmp .ne off, 3)) (ht : (pc : Int) + off = (tgt : Int))
    (kt : ¬ a = b → W p l e R s m args below meth c H locs cells slots Q (F0 m tgt ls rest)) (kf : a = b → W p l e R s m args below meth c H locs cells slots Q (F0 m (pc + 3) ls rest)) : W p l e R s m args below meth c H locs cells slots Q (F0 m pc ls (.int (bb b) :: .int (bb a) :: rest)) :=
  lv_icmp_ne hx hb hdg ht (fun h => kt (fun q => h (bb_eq.mpr q))) (fun h => kf (bb_eq.mp h))
theorem wn_eq {x y : Nat} (hx : p.tables.exec = Jvm.exec) (hb : c.code = cc) (hx9 : x < 2 ^ 31) (hy9 : y < 2 ^ 31) {off : Int} {tgt : Nat} (hdg : decode cc pc = .ok (.if_icmp .eq off, 3)) (ht : (pc : Int) + off = (tgt : Int))
    (kt : x = y → W p l e R s m args below meth c H locs cells slots Q (F0 m tgt ls rest)) (kf : ¬ x = y → W p l e R s m args below meth c H locs cells slots Q (F0 m (pc + 3) ls rest)) : W p l e R s m args below meth c H locs cells slots Q (F0 m pc ls (.int (nI y) :: .int (nI x) :: rest)) :=
  lv_icmp_eq hx hb hdg ht (fun h => kt ((nI_eq hx9 hy9).mp h)) (fun h => kf (fun q => h ((nI_eq hx9 hy9).mpr q)))
theorem wn_ne {x y : Nat} (hx : p.tables.exec = Jvm.exec) (hb : c.code = cc) (hx9 : x < 2 ^ 31) (hy9 : y < 2 ^ 31) {off : Int} {tgt : Nat} (hdg : decode cc pc = .ok (.if_icmp .ne off, 3)) (ht : (pc : Int) + off = (tgt : Int))
    (kt : ¬ x = y → W p l e R s m args below meth c H locs cells slots Q (F0 m tgt ls rest)) (kf : x = y → W p l e R s m args below meth c H locs cells slots Q (F0 m (pc + 3) ls rest)) : W p l e R s m args below meth c H locs cells slots Q (F0 m pc ls (.int (nI y) :: .int (nI x) :: rest)) :=
  lv_icmp_ne hx hb hdg ht (fun h => kt (fun q => h ((nI_eq hx9 hy9).mpr q))) (fun h => kf ((nI_eq hx9 hy9).mp h))
theorem wn_lt {x y : Nat} (hx : p.tables.exec = Jvm.exec) (hb : c.code = cc) (hx9 : x < 2 ^ 31) (hy9 : y < 2 ^ 31) {off : Int} {tgt : Nat} (hdg : decode cc pc = .ok (.if_icmp .lt off, 3)) (ht : (pc : Int) + off = (tgt : Int))
    (kt : x < y → W p l e R s m args below meth c H locs cells slots Q (F0 m tgt ls rest)) (kf : ¬ x < y → W p l e R s m args below meth c H locs cells slots Q (F0 m (pc + 3) ls rest)) : W p l e R s m args below meth c H locs cells slots Q (F0 m pc ls (.int (nI y) :: .int (nI x) :: rest)) :=
  lv_icmp_lt hx hb hdg ht (fun h => kt ((nI_ltI hx9 hy9).mp h)) (fun h => kf (fun q => h ((nI_ltI hx9 hy9).mpr q)))
theorem wn_ge {x y : Nat} (hx : p.tables.exec = Jvm.exec) (hb : c.code = cc) (hx9 : x < 2 ^ 31) (hy9 : y < 2 ^ 31) {off : Int} {tgt : Nat} (hdg : decode cc pc = .ok (.if_icmp .ge off, 3)) (ht : (pc : Int) + off = (tgt : Int))
    (kt : y ≤ x → W p l e R s m args below meth c H locs cells slots Q (F0 m tgt ls rest)) (kf : ¬ y ≤ x → W p l e R s m args below meth c H locs cells slots Q (F0 m (pc + 3) ls rest)) : W p l e R s m args below meth c H locs cells slots Q (F0 m pc ls (.int (nI y) :: .int (nI x) :: rest)) :=
  lv_icmp_ge hx hb hdg ht (fun h => kt ((nI_leI hy9 hx9).mp h)) (fun h => kf (fun q => h ((nI_leI hy9 hx9).mpr q)))
theorem wn_gt {x y : Nat} (hx : p.tables.exec = Jvm.exec) (hb : c.code = cc) (hx9 : x < 2 ^ 31) (hy9 : y < 2 ^ 31) {off : Int} {tgt : Nat} (hdg : decode cc pc = .ok (.if_icmp .gt off, 3)) (ht : (pc : Int) + off = (tgt : Int))
    (kt : y < x → W p l e R s m args below meth c H locs cells slots Q (F0 m tgt ls rest)) (kf : ¬ y < x → W p l e R s m args below meth c H locs cells slots Q (F0 m (pc + 3) ls rest)) : W p l e R s m args below meth c H locs cells slots Q (F0 m pc ls (.int (nI y) :: .int (nI x) :: rest)) :=
  lv_icmp_gt hx hb hdg ht (fun h => kt ((nI_ltI hy9 hx9).mp h)) (fun h => kf (fun q => h ((nI_ltI hy9 hx9).mpr q)))
theorem wn_le {x y : Nat} (hx : p.tables.exec = Jvm.exec) (hb : c.code = cc) (hx9 : x < 2 ^ 31) (hy9 : y < 2 ^ 31) {off : Int} {tgt : Nat} (hdg : decode cc pc = .ok (.if_icmp .le off, 3)) (ht : (pc : Int) + off = (tgt : Int))
    (kt : x ≤ y → W p l e R s m args below meth c H locs cells slots Q (F0 m tgt ls rest)) (kf : ¬ x ≤ y → W p l e R s m args below meth c H locs cells slots Q (F0 m (pc + 3) ls rest)) : W p l e R s m args below meth c H locs cells slots Q (F0 m pc ls (.int (nI y) :: .int (nI x) :: rest)) :=
  lv_icmp_le hx hb hdg ht (fun h => kt ((nI_leI hx9 hy9).mp h)) (fun h => kf (fun q => h ((nI_leI hx9 hy9).mpr q)))
theorem lrem_mod (x y : Int64) : x - (x / y) * y = x % y := Int64.toInt_inj.mp (by rw [Kit.i64_rem, Int64.toInt_mod])
theorem lm_lrem (hx : p.tables.exec = Jvm.exec) (hb : c.code = cc) {x y : Int64} (hdg : decode cc pc = .ok (.lrem, 1)) (hne : ¬ y = 0) (k : W p l e R s m args below meth c H locs cells slots Q (F0 m (pc + 1) ls (.long (x % y) :: rest))) : W p l e R s m args below meth c H locs cells slots Q (F0 m pc ls (.long y :: .long x :: rest)) :=
  lv_lrem hx hb hdg hne (by rw [lrem_mod]; exact k)
theorem lm_irem (hx : p.tables.exec = Jvm.exec) (hb : c.code = cc) {x y : Int32} (hdg : decode cc pc = .ok (.irem, 1)) (hne : ¬ y = 0) (k : W p l e R s m args below meth c H locs cells slots Q (F0 m (pc + 1) ls (.int (x % y) :: rest))) : W p l e R s m args below meth c H locs cells slots Q (F0 m pc ls (.int y :: .int x :: rest)) :=
  lv_irem hx hb hdg hne (by rw [irem_eq_mod]; exact k)
end
/-! numbers: places in arrays -/
theorem i_nn {x : Int32} (h : ¬ x < 0) : 0 ≤ x.toInt := by
  rw [Int32.lt_iff_toInt_lt] at h
  have h0 : (0 : Int32).toInt = 0 := by decide
  omega
theorem i_dec {x : Int32} (h1 : 0 ≤ x.toInt) (h2 : x.toInt ≤ 9) : (x + (-1)).toInt = x.toInt - 1 := by
  have e : (-1 : Int32).toInt = -1 := by decide
  rw [Kit.i32_add (by omega) (by omega), e]
  omega
theorem dec_b {x : Int32} (h : ¬ x < 0) (h4 : -1 ≤ x.toInt ∧ x.toInt ≤ 9) : -1 ≤ (x + (-1)).toInt ∧ (x + (-1)).toInt ≤ 9 := by
  have h0 := i_nn h
  rw [i_dec h0 h4.2]
  omega
theorem dec_m {x : Int32} {n : Nat} (h : ¬ x < 0) (h4 : -1 ≤ x.toInt ∧ x.toInt ≤ 9) (hn : (x.toInt + 1).toNat < n + 1) : ((x + (-1)).toInt + 1).toNat < n := by
  have h0 := i_nn h
  rw [i_dec h0 h4.2]
  omega
theorem in10 {a d : Int32} (ha : vp_in a 200) (hd : vp_in d 10) : vp_in (a * 10 + d) 2000 := by
  obtain ⟨a1, a2⟩ := vp_in_iff.mp ha
  obtain ⟨d1, d2⟩ := vp_in_iff.mp hd
  have e : (10 : Int32).toInt = 10 := by decide
  have hm : (a * 10).toInt = a.toInt * 10 := by
    rw [Kit.i32_mul (by rw [e]; omega) (by rw [e]; omega), e]
  rw [vp_in_iff, Kit.i32_add (by rw [hm]; omega) (by rw [hm]; omega), hm]
  omega
end
section
/-! state of side c -/
abbrev SC : Type := ((Nat → Int32) × (Nat → Int64) × (Nat → Bool)) × ((Nat → Int64) × (Nat → Bool) × Int32 × Int32) × ((Nat → Int64) × Int32) × (Int64 × Bool × Int32 × Int32 × Int64) × (Int64 × Int64 × Bool × Bool) × ((Nat → Int32) × (Nat → Int32) × (Nat → Int32) × (Nat → Int32) × (Nat → Int32) × (Nat → Int32) × (Nat → Int32) × (Nat → Int32) × (Nat → Bool) × (Nat → Bool) × Int32)
def c_codes (z : SC) : (Nat → Int32) := z.1.1
def c_vals (z : SC) : (Nat → Int64) := z.1.2.1
def c_dmin (z : SC) : (Nat → Bool) := z.1.2.2
def c_cvals (z : SC) : (Nat → Int64) := z.2.1.1
def c_cmin (z : SC) : (Nat → Bool) := z.2.1.2.1
def c_cfirst (z : SC) : Int32 := z.2.1.2.2.1
def c_ccount (z : SC) : Int32 := z.2.1.2.2.2
def c_words (z : SC) : (Nat → Int64) := z.2.2.1.1
def c_pcount (z : SC) : Int32 := z.2.2.1.2
def c_dist (z : SC) : Int64 := z.2.2.2.1.1
def c_distm (z : SC) : Bool := z.2.2.2.1.2.1
def c_nxt (z : SC) : Int32 := z.2.2.2.1.2.2.1
def c_cause (z : SC) : Int32 := z.2.2.2.1.2.2.2.1
def c_time (z : SC) : Int64 := z.2.2.2.1.2.2.2.2
def c_upper (z : SC) : Int64 := z.2.2.2.2.1.1
def c_lower (z : SC) : Int64 := z.2.2.2.2.1.2.1
def c_amin (z : SC) : Bool := z.2.2.2.2.1.2.2.1
def c_ovf (z : SC) : Bool := z.2.2.2.2.1.2.2.2
def c_lparts (z : SC) : (Nat → Int32) := z.2.2.2.2.2.1
def c_ops (z : SC) : (Nat → Int32) := z.2.2.2.2.2.2.1
def c_dparts (z : SC) : (Nat → Int32) := z.2.2.2.2.2.2.2.1
def c_nparts (z : SC) : (Nat → Int32) := z.2.2.2.2.2.2.2.2.1
def c_locs (z : SC) : (Nat → Int32) := z.2.2.2.2.2.2.2.2.2.1
def c_dat (z : SC) : (Nat → Int32) := z.2.2.2.2.2.2.2.2.2.2.1
def c_nexts (z : SC) : (Nat → Int32) := z.2.2.2.2.2.2.2.2.2.2.2.1
def c_syms (z : SC) : (Nat → Int32) := z.2.2.2.2.2.2.2.2.2.2.2.2.1
def c_resv (z : SC) : (Nat → Bool) := z.2.2.2.2.2.2.2.2.2.2.2.2.2.1
def c_taken (z : SC) : (Nat → Bool) := z.2.2.2.2.2.2.2.2.2.2.2.2.2.2.1
def c_acount (z : SC) : Int32 := z.2.2.2.2.2.2.2.2.2.2.2.2.2.2.2
def c_codes_s (z : SC) (v : (Nat → Int32)) : SC := ((v, z.1.2.1, z.1.2.2), z.2.1, z.2.2.1, z.2.2.2.1, z.2.2.2.2.1, z.2.2.2.2.2)
def c_vals_s (z : SC) (v : (Nat → Int64)) : SC := ((z.1.1, v, z.1.2.2), z.2.1, z.2.2.1, z.2.2.2.1, z.2.2.2.2.1, z.2.2.2.2.2)
def c_dmin_s (z : SC) (v : (Nat → Bool)) : SC := ((z.1.1, z.1.2.1, v), z.2.1, z.2.2.1, z.2.2.2.1, z.2.2.2.2.1, z.2.2.2.2.2)
def c_cvals_s (z : SC) (v : (Nat → Int64)) : SC := (z.1, (v, z.2.1.2.1, z.2.1.2.2.1, z.2.1.2.2.2), z.2.2.1, z.2.2.2.1, z.2.2.2.2.1, z.2.2.2.2.2)
def c_cmin_s (z : SC) (v : (Nat → Bool)) : SC := (z.1, (z.2.1.1, v, z.2.1.2.2.1, z.2.1.2.2.2), z.2.2.1, z.2.2.2.1, z.2.2.2.2.1, z.2.2.2.2.2)
def c_cfirst_s (z : SC) (v : Int32) : SC := (z.1, (z.2.1.1, z.2.1.2.1, v, z.2.1.2.2.2), z.2.2.1, z.2.2.2.1, z.2.2.2.2.1, z.2.2.2.2.2)
def c_ccount_s (z : SC) (v : Int32) : SC := (z.1, (z.2.1.1, z.2.1.2.1, z.2.1.2.2.1, v), z.2.2.1, z.2.2.2.1, z.2.2.2.2.1, z.2.2.2.2.2)
def c_words_s (z : SC) (v : (Nat → Int64)) : SC := (z.1, z.2.1, (v, z.2.2.1.2), z.2.2.2.1, z.2.2.2.2.1, z.2.2.2.2.2)
def c_pcount_s (z : SC) (v : Int32) : SC := (z.1, z.2.1, (z.2.2.1.1, v), z.2.2.2.1, z.2.2.2.2.1, z.2.2.2.2.2)
def c_dist_s (z : SC) (v : Int64) : SC := (z.1, z.2.1, z.2.2.1, (v, z.2.2.2.1.2.1, z.2.2.2.1.2.2.1, z.2.2.2.1.2.2.2.1, z.2.2.2.1.2.2.2.2), z.2.2.2.2.1, z.2.2.2.2.2)
def c_distm_s (z : SC) (v : Bool) : SC := (z.1, z.2.1, z.2.2.1, (z.2.2.2.1.1, v, z.2.2.2.1.2.2.1, z.2.2.2.1.2.2.2.1, z.2.2.2.1.2.2.2.2), z.2.2.2.2.1, z.2.2.2.2.2)
def c_nxt_s (z : SC) (v : Int32) : SC := (z.1, z.2.1, z.2.2.1, (z.2.2.2.1.1, z.2.2.2.1.2.1, v, z.2.2.2.1.2.2.2.1, z.2.2.2.1.2.2.2.2), z.2.2.2.2.1, z.2.2.2.2.2)
def c_cause_s (z : SC) (v : Int32) : SC := (z.1, z.2.1, z.2.2.1, (z.2.2.2.1.1, z.2.2.2.1.2.1, z.2.2.2.1.2.2.1, v, z.2.2.2.1.2.2.2.2), z.2.2.2.2.1, z.2.2.2.2.2)
def c_time_s (z : SC) (v : Int64) : SC := (z.1, z.2.1, z.2.2.1, (z.2.2.2.1.1, z.2.2.2.1.2.1, z.2.2.2.1.2.2.1, z.2.2.2.1.2.2.2.1, v), z.2.2.2.2.1, z.2.2.2.2.2)
def c_upper_s (z : SC) (v : Int64) : SC := (z.1, z.2.1, z.2.2.1, z.2.2.2.1, (v, z.2.2.2.2.1.2.1, z.2.2.2.2.1.2.2.1, z.2.2.2.2.1.2.2.2), z.2.2.2.2.2)
def c_lower_s (z : SC) (v : Int64) : SC := (z.1, z.2.1, z.2.2.1, z.2.2.2.1, (z.2.2.2.2.1.1, v, z.2.2.2.2.1.2.2.1, z.2.2.2.2.1.2.2.2), z.2.2.2.2.2)
def c_amin_s (z : SC) (v : Bool) : SC := (z.1, z.2.1, z.2.2.1, z.2.2.2.1, (z.2.2.2.2.1.1, z.2.2.2.2.1.2.1, v, z.2.2.2.2.1.2.2.2), z.2.2.2.2.2)
def c_ovf_s (z : SC) (v : Bool) : SC := (z.1, z.2.1, z.2.2.1, z.2.2.2.1, (z.2.2.2.2.1.1, z.2.2.2.2.1.2.1, z.2.2.2.2.1.2.2.1, v), z.2.2.2.2.2)
def c_lparts_s (z : SC) (v : (Nat → Int32)) : SC := (z.1, z.2.1, z.2.2.1, z.2.2.2.1, z.2.2.2.2.1, (v, z.2.2.2.2.2.2.1, z.2.2.2.2.2.2.2.1, z.2.2.2.2.2.2.2.2.1, z.2.2.2.2.2.2.2.2.2.1, z.2.2.2.2.2.2.2.2.2.2.1, z.2.2.2.2.2.2.2.2.2.2.2.1, z.2.2.2.2.2.2.2.2.2.2.2.2.1, z.2.2.2.2.2.2.2.2.2.2.2.2.2.1, z.2.2.2.2.2.2.2.2.2.2.2.2.2.2.1, z.2.2.2.2.2.2.2.2.2.2.2.2.2.2.2))
def c_ops_s (z : SC) (v : (Nat → Int32)) : SC := (z.1, z.2.1, z.2.2.1, z.2.2.2.1, z.2.2.2.2.1, (z.2.2.2.2.2.1, v, z.2.2.2.2.2.2.2.1, z.2.2.2.2.2.2.2.2.1, z.2.2.2.2.2.2.2.2.2.1, z.2.2.2.2.2.2.2.2.2.2.1, z.2.2.2.2.2.2.2.2.2.2.2.1, z.2.2.2.2.2.2.2.2.2.2.2.2.1, z.2.2.2.2.2.2.2.2.2.2.2.2.2.1, z.2.2.2.2.2.2.2.2.2.2.2.2.2.2.1, z.2.2.2.2.2.2.2.2.2.2.2.2.2.2.2))
def c_dparts_s (z : SC) (v : (Nat → Int32)) : SC := (z.1, z.2.1, z.2.2.1, z.2.2.2.1, z.2.2.2.2.1, (z.2.2.2.2.2.1, z.2.2.2.2.2.2.1, v, z.2.2.2.2.2.2.2.2.1, z.2.2.2.2.2.2.2.2.2.1, z.2.2.2.2.2.2.2.2.2.2.1, z.2.2.2.2.2.2.2.2.2.2.2.1, z.2.2.2.2.2.2.2.2.2.2.2.2.1, z.2.2.2.2.2.2.2.2.2.2.2.2.2.1, z.2.2.2.2.2.2.2.2.2.2.2.2.2.2.1, z.2.2.2.2.2.2.2.2.2.2.2.2.2.2.2))
def c_nparts_s (z : SC) (v : (Nat → Int32)) : SC := (z.1, z.2.1, z.2.2.1, z.2.2.2.1, z.2.2.2.2.1, (z.2.2.2.2.2.1, z.2.2.2.2.2.2.1, z.2.2.2.2.2.2.2.1, v, z.2.2.2.2.2.2.2.2.2.1, z.2.2.2.2.2.2.2.2.2.2.1, z.2.2.2.2.2.2.2.2.2.2.2.1, z.2.2.2.2.2.2.2.2.2.2.2.2.1, z.2.2.2.2.2.2.2.2.2.2.2.2.2.1, z.2.2.2.2.2.2.2.2.2.2.2.2.2.2.1, z.2.2.2.2.2.2.2.2.2.2.2.2.2.2.2))
def c_locs_s (z : SC) (v : (Nat → Int32)) : SC := (z.1, z.2.1, z.2.2.1, z.2.2.2.1, z.2.2.2.2.1, (z.2.2.2.2.2.1, z.2.2.2.2.2.2.1, z.2.2.2.2.2.2.2.1, z.2.2.2.2.2.2.2.2.1, v, z.2.2.2.2.2.2.2.2.2.2.1, z.2.2.2.2.2.2.2.2.2.2.2.1, z.2.2.2.2.2.2.2.2.2.2.2.2.1, z.2.2.2.2.2.2.2.2.2.2.2.2.2.1, z.2.2.2.2.2.2.2.2.2.2.2.2.2.2.1, z.2.2.2.2.2.2.2.2.2.2.2.2.2.2.2))
def c_dat_s (z : SC) (v : (Nat → Int32)) : SC := (z.1, z.2.1, z.2.2.1, z.2.2.2.1, z.2.2.2.2.1, (z.2.2.2.2.2.1, z.2.2.2.2.2.2.1, z.2.2.2.2.2.2.2.1, z.2.2.2.2.2.2.2.2.1, z.2.2.2.2.2.2.2.2.2.1, v, z.2.2.2.2.2.2.2.2.2.2.2.1, z.2.2.2.2.2.2.2.2.2.2.2.2.1, z.2.2.2.2.2.2.2.2.2.2.2.2.2.1, z.2.2.2.2.2.2.2.2.2.2.2.2.2.2.1, z.2.2.2.2.2.2.2.2.2.2.2.2.2.2.2))
def c_nexts_s (z : SC) (v : (Nat → Int32)) : SC := (z.1, z.2.1, z.2.2.1, z.2.2.2.1, z.2.2.2.2.1, (z.2.2.2.2.2.1, z.2.2.2.2.2.2.1, z.2.2.2.2.2.2.2.1, z.2.2.2.2.2.2.2.2.1, z.2.2.2.2.2.2.2.2.2.1, z.2.2.2.2.2.2.2.2.2.2.1, v, z.2.2.2.2.2.2.2.2.2.2.2.2.1, z.2.2.2.2.2.2.2.2.2.2.2.2.2.1, z.2.2.2.2.2.2.2.2.2.2.2.2.2.2.1, z.2.2.2.2.2.2.2.2.2.2.2.2.2.2.2))
def c_syms_s (z : SC) (v : (Nat → Int32)) : SC := (z.1, z.2.1, z.2.2.1, z.2.2.2.1, z.2.2.2.2.1, (z.2.2.2.2.2.1, z.2.2.2.2.2.2.1, z.2.2.2.2.2.2.2.1, z.2.2.2.2.2.2.2.2.1, z.2.2.2.2.2.2.2.2.2.1, z.2.2.2.2.2.2.2.2.2.2.1, z.2.2.2.2.2.2.2.2.2.2.2.1, v, z.2.2.2.2.2.2.2.2.2.2.2.2.2.1, z.2.2.2.2.2.2.2.2.2.2.2.2.2.2.1, z.2.2.2.2.2.2.2.2.2.2.2.2.2.2.2))
def c_resv_s (z : SC) (v : (Nat → Bool)) : SC := (z.1, z.2.1, z.2.2.1, z.2.2.2.1, z.2.2.2.2.1, (z.2.2.2.2.2.1, z.2.2.2.2.2.2.1, z.2.2.2.2.2.2.2.1, z.2.2.2.2.2.2.2.2.1, z.2.2.2.2.2.2.2.2.2.1, z.2.2.2.2.2.2.2.2.2.2.1, z.2.2.2.2.2.2.2.2.2.2.2.1, z.2.2.2.2.2.2.2.2.2.2.2.2.1, v, z.2.2.2.2.2.2.2.2.2.2.2.2.2.2.1, z.2.2.2.2.2.2.2.2.2.2.2.2.2.2.2))
def c_taken_s (z : SC) (v : (Nat → Bool)) : SC := (z.1, z.2.1, z.2.2.1, z.2.2.2.1, z.2.2.2.2.1, (z.2.2.2.2.2.1, z.2.2.2.2.2.2.1, z.2.2.2.2.2.2.2.1, z.2.2.2.2.2.2.2.2.1, z.2.2.2.2.2.2.2.2.2.1, z.2.2.2.2.2.2.2.2.2.2.1, z.2.2.2.2.2.2.2.2.2.2.2.1, z.2.2.2.2.2.2.2.2.2.2.2.2.1, z.2.2.2.2.2.2.2.2.2.2.2.2.2.1, v, z.2.2.2.2.2.2.2.2.2.2.2.2.2.2.2))
def c_acount_s (z : SC) (v : Int32) : SC := (z.1, z.2.1, z.2.2.1, z.2.2.2.1, z.2.2.2.2.1, (z.2.2.2.2.2.1, z.2.2.2.2.2.2.1, z.2.2.2.2.2.2.2.1, z.2.2.2.2.2.2.2.2.1, z.2.2.2.2.2.2.2.2.2.1, z.2.2.2.2.2.2.2.2.2.2.1, z.2.2.2.2.2.2.2.2.2.2.2.1, z.2.2.2.2.2.2.2.2.2.2.2.2.1, z.2.2.2.2.2.2.2.2.2.2.2.2.2.1, z.2.2.2.2.2.2.2.2.2.2.2.2.2.2.1, v))
def c_wd (q : Nat → Nat) (cI cJ cZ : ClassId) (z : SC) : va_W := [(q 0, .inr (0, [.ref (q 1), .ref (q 2), .ref (q 3), .ref (q 4), .ref (q 6)])),
  (q 1, .inr (1, [.ref (q 7), .ref (q 8), .ref (q 9)])),
  (q 2, .inr (2, [.ref (q 10), .ref (q 11), .int (c_cfirst z), .int (c_ccount z)])),
  (q 3, .inr (3, [.ref (q 12), .int (c_pcount z)])),
  (q 4, .inr (4, [.ref (q 1), .ref (q 2), .ref (q 3), .ref (q 5), .long (c_dist z), .int (bb (c_distm z)), .int (c_nxt z), .int (c_cause z), .long (c_time z)])),
  (q 5, .inr (5, [.long (c_upper z), .long (c_lower z), .int (bb (c_amin z)), .int (bb (c_ovf z))])),
  (q 6, .inr (6, [.ref (q 13), .ref (q 14), .ref (q 15), .ref (q 16), .ref (q 17), .ref (q 18), .ref (q 19), .ref (q 20), .ref (q 21), .ref (q 22), .int (c_acount z)])),
  (q 7, .inl (cI, 2000, .inl (c_codes z))),
  (q 8, .inl (cJ, 200, .inr (.inl (c_vals z)))),
  (q 9, .inl (cZ, 200, .inl (fun j => bb (c_dmin z j)))),
  (q 10, .inl (cJ, 20, .inr (.inl (c_cvals z)))),
  (q 11, .inl (cZ, 20, .inl (fun j => bb (c_cmin z j)))),
  (q 12, .inl (cJ, 40, .inr (.inl (c_words z)))),
  (q 13, .inl (cI, 40, .inl (c_lparts z))),
  (q 14, .inl (cI, 40, .inl (c_ops z))),
  (q 15, .inl (cI, 40, .inl (c_dparts z))),
  (q 16, .inl (cI, 40, .inl (c_nparts z))),
  (q 17, .inl (cI, 40, .inl (c_locs z))),
  (q 18, .inl (cI, 40, .inl (c_dat z))),
  (q 19, .inl (cI, 40, .inl (c_nexts z))),
  (q 20, .inl (cI, 20, .inl (c_syms z))),
  (q 21, .inl (cZ, 200, .inl (fun j => bb (c_resv z j)))),
  (q 22, .inl (cZ, 200, .inl (fun j => bb (c_taken z j))))]
def c_qs (q : Nat → Nat) : Nat → Prop := fun a => ∃ k, k < 23 ∧ a = q k
def c_inj (q : Nat → Nat) : Prop := ∀ i j, i < 23 → j < 23 → q i = q j → i = j
theorem c_wd_at (q : Nat → Nat) (cI cJ cZ : ClassId) (z : SC) (k : Nat) (r : Nat × va_E) (h : (c_wd q cI cJ cZ z)[k]? = some r) : k < 23 ∧ r.1 = q k := by
  have hk : k < 23 := (List.getElem?_eq_some_iff.mp h).1
  refine ⟨hk, ?_⟩
  match k, hk with
  | 0, _ => exact congrArg Prod.fst (Option.some.inj h).symm
  | 1, _ => exact congrArg Prod.fst (Option.some.inj h).symm
  | 2, _ => exact congrArg Prod.fst (Option.some.inj h).symm
  | 3, _ => exact congrArg Prod.fst (Option.some.inj h).symm
  | 4, _ => exact congrArg Prod.fst (Option.some.inj h).symm
  | 5, _ => exact congrArg Prod.fst (Option.some.inj h).symm
  | 6, _ => exact congrArg Prod.fst (Option.some.inj h).symm
  | 7, _ => exact congrArg Prod.fst (Option.some.inj h).symm
  | 8, _ => exact congrArg Prod.fst (Option.some.inj h).symm
  | 9, _ => exact congrArg Prod.fst (Option.some.inj h).symm
  | 10, _ => exact congrArg Prod.fst (Option.some.inj h).symm
  | 11, _ => exact congrArg Prod.fst (Option.some.inj h).symm
  | 12, _ => exact congrArg Prod.fst (Option.some.inj h).symm
  | 13, _ => exact congrArg Prod.fst (Option.some.inj h).symm
  | 14, _ => exact congrArg Prod.fst (Option.some.inj h).symm
  | 15, _ => exact congrArg Prod.fst (Option.some.inj h).symm
  | 16, _ => exact congrArg Prod.fst (Option.some.inj h).symm
  | 17, _ => exact congrArg Prod.fst (Option.some.inj h).symm
  | 18, _ => exact congrArg Prod.fst (Option.some.inj h).symm
  | 19, _ => exact congrArg Prod.fst (Option.some.inj h).symm
  | 20, _ => exact congrArg Prod.fst (Option.some.inj h).symm
  | 21, _ => exact congrArg Prod.fst (Option.some.inj h).symm
  | 22, _ => exact congrArg Prod.fst (Option.some.inj h).symm
  | k + 23, h => exact absurd h (by omega)
theorem c_D {q : Nat → Nat} {cI cJ cZ : ClassId} (hq : c_inj q) (z : SC) : va_D (c_qs q) (c_wd q cI cJ cZ z) := by
  refine ⟨fun i j a b hi hj hab => ?_, fun k r h => ?_⟩
  · obtain ⟨h1, h2⟩ := c_wd_at q cI cJ cZ z i a hi
    obtain ⟨h3, h4⟩ := c_wd_at q cI cJ cZ z j b hj
    exact hq i j h1 h3 (by rw [← h2, ← h4]; exact hab)
  · obtain ⟨h1, h2⟩ := c_wd_at q cI cJ cZ z k r h
    exact ⟨k, h1, h2⟩
abbrev c_W (D : va_G) (q : Nat → Nat) (cI cJ cZ : ClassId) (z : SC) (H : Heap) : Prop := va_P D clA (c_wd q cI cJ cZ z) H
def c_C (D : va_G) (q : Nat → Nat) (cI cJ cZ : ClassId) (z : SC) (U : State) : Prop := c_W D q cI cJ cZ z U.heap ∧ va_K D clA (tys3 cI cJ cZ) U
section
variable {s : State} {H : Heap} {D : va_G} {q : Nat → Nat} {cI cJ cZ : ClassId} {z : SC}
theorem c_blind {av : List Value} : FrameBlind (va_Pc av (c_C D q cI cJ cZ z)) := fun a U g mk h => ⟨h.1, h.2.1, va_K.moved (u := U) (U := U.calling g mk a) (Vm.Alike.refl U.vm) h.2.2⟩
theorem c_preS {av : List Value} (hK : va_K D clA (tys3 cI cJ cZ) s) (hP : c_W D q cI cJ cZ z H) : PreS s H (va_Pc av (c_C D q cI cJ cZ z)) av := ⟨c_blind, fun U hU hW => ⟨rfl, by rw [hU]; exact hP, va_K.moved hW.alike hK⟩⟩
theorem c_preV0 {As : List Value} (hK : va_K D clA (tys3 cI cJ cZ) s) (hP : c_W D q cI cJ cZ z H) : PreV s H RDM (q 0) (va_Pc (.ref (q 0) :: As) (c_C D q cI cJ cZ z)) As := ⟨c_blind, va_recv (ci := 0) hK hP rfl (show (c_wd q cI cJ cZ z)[0]? = _ from rfl), fun U hU hW => ⟨rfl, by rw [hU]; exact hP, va_K.moved hW.alike hK⟩⟩
theorem c_preV1 {As : List Value} (hK : va_K D clA (tys3 cI cJ cZ) s) (hP : c_W D q cI cJ cZ z H) : PreV s H RDr (q 1) (va_Pc (.ref (q 1) :: As) (c_C D q cI cJ cZ z)) As := ⟨c_blind, va_recv (ci := 1) hK hP rfl (show (c_wd q cI cJ cZ z)[1]? = _ from rfl), fun U hU hW => ⟨rfl, by rw [hU]; exact hP, va_K.moved hW.alike hK⟩⟩
theorem c_preV2 {As : List Value} (hK : va_K D clA (tys3 cI cJ cZ) s) (hP : c_W D q cI cJ cZ z H) : PreV s H RCd (q 2) (va_Pc (.ref (q 2) :: As) (c_C D q cI cJ cZ z)) As := ⟨c_blind, va_recv (ci := 2) hK hP rfl (show (c_wd q cI cJ cZ z)[2]? = _ from rfl), fun U hU hW => ⟨rfl, by rw [hU]; exact hP, va_K.moved hW.alike hK⟩⟩
theorem c_preV3 {As : List Value} (hK : va_K D clA (tys3 cI cJ cZ) s) (hP : c_W D q cI cJ cZ z H) : PreV s H RPu (q 3) (va_Pc (.ref (q 3) :: As) (c_C D q cI cJ cZ z)) As := ⟨c_blind, va_recv (ci := 3) hK hP rfl (show (c_wd q cI cJ cZ z)[3]? = _ from rfl), fun U hU hW => ⟨rfl, by rw [hU]; exact hP, va_K.moved hW.alike hK⟩⟩
theorem c_preV4 {As : List Value} (hK : va_K D clA (tys3 cI cJ cZ) s) (hP : c_W D q cI cJ cZ z H) : PreV s H RPr (q 4) (va_Pc (.ref (q 4) :: As) (c_C D q cI cJ cZ z)) As := ⟨c_blind, va_recv (ci := 4) hK hP rfl (show (c_wd q cI cJ cZ z)[4]? = _ from rfl), fun U hU hW => ⟨rfl, by rw [hU]; exact hP, va_K.moved hW.alike hK⟩⟩
theorem c_preV5 {As : List Value} (hK : va_K D clA (tys3 cI cJ cZ) s) (hP : c_W D q cI cJ cZ z H) : PreV s H RAc (q 5) (va_Pc (.ref (q 5) :: As) (c_C D q cI cJ cZ z)) As := ⟨c_blind, va_recv (ci := 5) hK hP rfl (show (c_wd q cI cJ cZ z)[5]? = _ from rfl), fun U hU hW => ⟨rfl, by rw [hU]; exact hP, va_K.moved hW.alike hK⟩⟩
theorem c_preV6 {As : List Value} (hK : va_K D clA (tys3 cI cJ cZ) s) (hP : c_W D q cI cJ cZ z H) : PreV s H RAs (q 6) (va_Pc (.ref (q 6) :: As) (c_C D q cI cJ cZ z)) As := ⟨c_blind, va_recv (ci := 6) hK hP rfl (show (c_wd q cI cJ cZ z)[6]? = _ from rfl), fun U hU hW => ⟨rfl, by rw [hU]; exact hP, va_K.moved hW.alike hK⟩⟩
end
section
variable {p : Program} {l : Launch} {e : Env} {R : Room} {s : State} {m : MethodId} {args : Array Value} {below : List Frame} {meth : Method} {c : Code} {H H0 : Heap} {locs : List Loc} {cells slots : Nat} {Q : State → Prop}
variable {cc : ByteArray} {pc : Nat} {ls : Array Slot} {rest : List Value} {D : va_G} {q : Nat → Nat} {cI cJ cZ : ClassId} {z : SC} {own : String} {index : Nat} {Ts : List Cond}
theorem cg0_drum (hx : p.tables.exec = Jvm.exec) (hb : c.code = cc) (hts : ∀ w ∈ Ts, w.before args s = true) (hin : ∀ w ∈ u_ws RDM TDM 5, w ∈ Ts) (hown : s.vm.findClass own = some m.cls) (hK : va_K D clA (tys3 cI cJ cZ) s) (hP : c_W D q cI cJ cZ z H) (hlink : (Cond.fieldLink own index "DrumMachine" "drum" "LDrumMachine$Drum;").before args s = true) (hdg : decode cc pc = .ok (.getfield index, 3)) (kk : W p l e R s m args below meth c H locs cells slots Q (F0 m (pc + 3) ls (.ref (q 1) :: rest))) : W p l e R s m args below meth c H locs cells slots Q (F0 m pc ls (.ref (q 0) :: rest)) :=
  va_get (ci := 0) (v := .ref (q 1)) (C := RDM) (T := TDM) (N := 5) hx hb hts hin hown hK hP 0 rfl rfl 0 (by decide) hlink (fun _ h => h) rfl hdg kk
theorem cg0_cards (hx : p.tables.exec = Jvm.exec) (hb : c.code = cc) (hts : ∀ w ∈ Ts, w.before args s = true) (hin : ∀ w ∈ u_ws RDM TDM 5, w ∈ Ts) (hown : s.vm.findClass own = some m.cls) (hK : va_K D clA (tys3 cI cJ cZ) s) (hP : c_W D q cI cJ cZ z H) (hlink : (Cond.fieldLink own index "DrumMachine" "cards" "LDrumMachine$CardDeck;").before args s = true) (hdg : decode cc pc = .ok (.getfield index, 3)) (kk : W p l e R s m args below meth c H locs cells slots Q (F0 m (pc + 3) ls (.ref (q 2) :: rest))) : W p l e R s m args below meth c H locs cells slots Q (F0 m pc ls (.ref (q 0) :: rest)) :=
  va_get (ci := 0) (v := .ref (q 2)) (C := RDM) (T := TDM) (N := 5) hx hb hts hin hown hK hP 0 rfl rfl 1 (by decide) hlink (fun _ h => h) rfl hdg kk
theorem cg0_punch (hx : p.tables.exec = Jvm.exec) (hb : c.code = cc) (hts : ∀ w ∈ Ts, w.before args s = true) (hin : ∀ w ∈ u_ws RDM TDM 5, w ∈ Ts) (hown : s.vm.findClass own = some m.cls) (hK : va_K D clA (tys3 cI cJ cZ) s) (hP : c_W D q cI cJ cZ z H) (hlink : (Cond.fieldLink own index "DrumMachine" "punch" "LDrumMachine$Punch;").before args s = true) (hdg : decode cc pc = .ok (.getfield index, 3)) (kk : W p l e R s m args below meth c H locs cells slots Q (F0 m (pc + 3) ls (.ref (q 3) :: rest))) : W p l e R s m args below meth c H locs cells slots Q (F0 m pc ls (.ref (q 0) :: rest)) :=
  va_get (ci := 0) (v := .ref (q 3)) (C := RDM) (T := TDM) (N := 5) hx hb hts hin hown hK hP 0 rfl rfl 2 (by decide) hlink (fun _ h => h) rfl hdg kk
theorem cg0_processor (hx : p.tables.exec = Jvm.exec) (hb : c.code = cc) (hts : ∀ w ∈ Ts, w.before args s = true) (hin : ∀ w ∈ u_ws RDM TDM 5, w ∈ Ts) (hown : s.vm.findClass own = some m.cls) (hK : va_K D clA (tys3 cI cJ cZ) s) (hP : c_W D q cI cJ cZ z H) (hlink : (Cond.fieldLink own index "DrumMachine" "processor" "LDrumMachine$Processor;").before args s = true) (hdg : decode cc pc = .ok (.getfield index, 3)) (kk : W p l e R s m args below meth c H locs cells slots Q (F0 m (pc + 3) ls (.ref (q 4) :: rest))) : W p l e R s m args below meth c H locs cells slots Q (F0 m pc ls (.ref (q 0) :: rest)) :=
  va_get (ci := 0) (v := .ref (q 4)) (C := RDM) (T := TDM) (N := 5) hx hb hts hin hown hK hP 0 rfl rfl 3 (by decide) hlink (fun _ h => h) rfl hdg kk
theorem cg0_assembler (hx : p.tables.exec = Jvm.exec) (hb : c.code = cc) (hts : ∀ w ∈ Ts, w.before args s = true) (hin : ∀ w ∈ u_ws RDM TDM 5, w ∈ Ts) (hown : s.vm.findClass own = some m.cls) (hK : va_K D clA (tys3 cI cJ cZ) s) (hP : c_W D q cI cJ cZ z H) (hlink : (Cond.fieldLink own index "DrumMachine" "assembler" "LDrumMachine$Assembler;").before args s = true) (hdg : decode cc pc = .ok (.getfield index, 3)) (kk : W p l e R s m args below meth c H locs cells slots Q (F0 m (pc + 3) ls (.ref (q 6) :: rest))) : W p l e R s m args below meth c H locs cells slots Q (F0 m pc ls (.ref (q 0) :: rest)) :=
  va_get (ci := 0) (v := .ref (q 6)) (C := RDM) (T := TDM) (N := 5) hx hb hts hin hown hK hP 0 rfl rfl 4 (by decide) hlink (fun _ h => h) rfl hdg kk
theorem cg1_codes (hx : p.tables.exec = Jvm.exec) (hb : c.code = cc) (hts : ∀ w ∈ Ts, w.before args s = true) (hin : ∀ w ∈ u_ws RDr TDr 3, w ∈ Ts) (hown : s.vm.findClass own = some m.cls) (hK : va_K D clA (tys3 cI cJ cZ) s) (hP : c_W D q cI cJ cZ z H) (hlink : (Cond.fieldLink own index "DrumMachine$Drum" "codes" "[I").before args s = true) (hdg : decode cc pc = .ok (.getfield index, 3)) (kk : W p l e R s m args below meth c H locs cells slots Q (F0 m (pc + 3) ls (.ref (q 7) :: rest))) : W p l e R s m args below meth c H locs cells slots Q (F0 m pc ls (.ref (q 1) :: rest)) :=
  va_get (ci := 1) (v := .ref (q 7)) (C := RDr) (T := TDr) (N := 3) hx hb hts hin hown hK hP 1 rfl rfl 0 (by decide) hlink (fun _ h => h) rfl hdg kk
theorem cg1_values (hx : p.tables.exec = Jvm.exec) (hb : c.code = cc) (hts : ∀ w ∈ Ts, w.before args s = true) (hin : ∀ w ∈ u_ws RDr TDr 3, w ∈ Ts) (hown : s.vm.findClass own = some m.cls) (hK : va_K D clA (tys3 cI cJ cZ) s) (hP : c_W D q cI cJ cZ z H) (hlink : (Cond.fieldLink own index "DrumMachine$Drum" "values" "[J").before args s = true) (hdg : decode cc pc = .ok (.getfield index, 3)) (kk : W p l e R s m args below meth c H locs cells slots Q (F0 m (pc + 3) ls (.ref (q 8) :: rest))) : W p l e R s m args below meth c H locs cells slots Q (F0 m pc ls (.ref (q 1) :: rest)) :=
  va_get (ci := 1) (v := .ref (q 8)) (C := RDr) (T := TDr) (N := 3) hx hb hts hin hown hK hP 1 rfl rfl 1 (by decide) hlink (fun _ h => h) rfl hdg kk
theorem cg1_minus (hx : p.tables.exec = Jvm.exec) (hb : c.code = cc) (hts : ∀ w ∈ Ts, w.before args s = true) (hin : ∀ w ∈ u_ws RDr TDr 3, w ∈ Ts) (hown : s.vm.findClass own = some m.cls) (hK : va_K D clA (tys3 cI cJ cZ) s) (hP : c_W D q cI cJ cZ z H) (hlink : (Cond.fieldLink own index "DrumMachine$Drum" "minus" "[Z").before args s = true) (hdg : decode cc pc = .ok (.getfield index, 3)) (kk : W p l e R s m args below meth c H locs cells slots Q (F0 m (pc + 3) ls (.ref (q 9) :: rest))) : W p l e R s m args below meth c H locs cells slots Q (F0 m pc ls (.ref (q 1) :: rest)) :=
  va_get (ci := 1) (v := .ref (q 9)) (C := RDr) (T := TDr) (N := 3) hx hb hts hin hown hK hP 1 rfl rfl 2 (by decide) hlink (fun _ h => h) rfl hdg kk
theorem cg2_values (hx : p.tables.exec = Jvm.exec) (hb : c.code = cc) (hts : ∀ w ∈ Ts, w.before args s = true) (hin : ∀ w ∈ u_ws RCd TCd 4, w ∈ Ts) (hown : s.vm.findClass own = some m.cls) (hK : va_K D clA (tys3 cI cJ cZ) s) (hP : c_W D q cI cJ cZ z H) (hlink : (Cond.fieldLink own index "DrumMachine$CardDeck" "values" "[J").before args s = true) (hdg : decode cc pc = .ok (.getfield index, 3)) (kk : W p l e R s m args below meth c H locs cells slots Q (F0 m (pc + 3) ls (.ref (q 10) :: rest))) : W p l e R s m args below meth c H locs cells slots Q (F0 m pc ls (.ref (q 2) :: rest)) :=
  va_get (ci := 2) (v := .ref (q 10)) (C := RCd) (T := TCd) (N := 4) hx hb hts hin hown hK hP 2 rfl rfl 0 (by decide) hlink (fun _ h => h) rfl hdg kk
theorem cg2_minus (hx : p.tables.exec = Jvm.exec) (hb : c.code = cc) (hts : ∀ w ∈ Ts, w.before args s = true) (hin : ∀ w ∈ u_ws RCd TCd 4, w ∈ Ts) (hown : s.vm.findClass own = some m.cls) (hK : va_K D clA (tys3 cI cJ cZ) s) (hP : c_W D q cI cJ cZ z H) (hlink : (Cond.fieldLink own index "DrumMachine$CardDeck" "minus" "[Z").before args s = true) (hdg : decode cc pc = .ok (.getfield index, 3)) (kk : W p l e R s m args below meth c H locs cells slots Q (F0 m (pc + 3) ls (.ref (q 11) :: rest))) : W p l e R s m args below meth c H locs cells slots Q (F0 m pc ls (.ref (q 2) :: rest)) :=
  va_get (ci := 2) (v := .ref (q 11)) (C := RCd) (T := TCd) (N := 4) hx hb hts hin hown hK hP 2 rfl rfl 1 (by decide) hlink (fun _ h => h) rfl hdg kk
theorem cg2_first (hx : p.tables.exec = Jvm.exec) (hb : c.code = cc) (hts : ∀ w ∈ Ts, w.before args s = true) (hin : ∀ w ∈ u_ws RCd TCd 4, w ∈ Ts) (hown : s.vm.findClass own = some m.cls) (hK : va_K D clA (tys3 cI cJ cZ) s) (hP : c_W D q cI cJ cZ z H) (hlink : (Cond.fieldLink own index "DrumMachine$CardDeck" "first" "I").before args s = true) (hdg : decode cc pc = .ok (.getfield index, 3)) (kk : W p l e R s m args below meth c H locs cells slots Q (F0 m (pc + 3) ls (.int (c_cfirst z) :: rest))) : W p l e R s m args below meth c H locs cells slots Q (F0 m pc ls (.ref (q 2) :: rest)) :=
  va_get (ci := 2) (v := .int (c_cfirst z)) (C := RCd) (T := TCd) (N := 4) hx hb hts hin hown hK hP 2 rfl rfl 2 (by decide) hlink (fun _ h => h) rfl hdg kk
theorem cp2_first (v : Int32) (hq : c_inj q) (hS : va_S (c_qs q) H0 H locs) (hx : p.tables.exec = Jvm.exec) (hb : c.code = cc) (hts : ∀ w ∈ Ts, w.before args s = true) (hin : ∀ w ∈ u_ws RCd TCd 4, w ∈ Ts) (hown : s.vm.findClass own = some m.cls) (hK : va_K D clA (tys3 cI cJ cZ) s) (hP : c_W D q cI cJ cZ z H) (hlink : (Cond.fieldLink own index "DrumMachine$CardDeck" "first" "I").before args s = true) (hdg : decode cc pc = .ok (.putfield index, 3)) (kk : ∀ (H1 : Heap) (locs1 : List Loc), c_W D q cI cJ cZ (c_cfirst_s z v) H1 → va_S (c_qs q) H0 H1 locs1 → W p l e R s m args below meth c H1 locs1 cells slots Q (F0 m (pc + 3) ls rest)) : W p l e R s m args below meth c H locs cells slots Q (F0 m pc ls (.int v :: .ref (q 2) :: rest)) :=
  va_put (ci := 2) (v := .int v) (C := RCd) (T := TCd) (N := 4) hx hb hts hin tyCd tyCd_ok nmCd hown hK hP (c_D hq z) hS 2 rfl rfl 2 (by decide) hlink (fun _ h => h) rfl rfl rfl rfl (Nat.le_of_ble_eq_true rfl) hdg (fun H1 locs1 a _ b => kk H1 locs1 a b)
theorem cg2_count (hx : p.tables.exec = Jvm.exec) (hb : c.code = cc) (hts : ∀ w ∈ Ts, w.before args s = true) (hin : ∀ w ∈ u_ws RCd TCd 4, w ∈ Ts) (hown : s.vm.findClass own = some m.cls) (hK : va_K D clA (tys3 cI cJ cZ) s) (hP : c_W D q cI cJ cZ z H) (hlink : (Cond.fieldLink own index "DrumMachine$CardDeck" "count" "I").before args s = true) (hdg : decode cc pc = .ok (.getfield index, 3)) (kk : W p l e R s m args below meth c H locs cells slots Q (F0 m (pc + 3) ls (.int (c_ccount z) :: rest))) : W p l e R s m args below meth c H locs cells slots Q (F0 m pc ls (.ref (q 2) :: rest)) :=
  va_get (ci := 2) (v := .int (c_ccount z)) (C := RCd) (T := TCd) (N := 4) hx hb hts hin hown hK hP 2 rfl rfl 3 (by decide) hlink (fun _ h => h) rfl hdg kk
theorem cp2_count (v : Int32) (hq : c_inj q) (hS : va_S (c_qs q) H0 H locs) (hx : p.tables.exec = Jvm.exec) (hb : c.code = cc) (hts : ∀ w ∈ Ts, w.before args s = true) (hin : ∀ w ∈ u_ws RCd TCd 4, w ∈ Ts) (hown : s.vm.findClass own = some m.cls) (hK : va_K D clA (tys3 cI cJ cZ) s) (hP : c_W D q cI cJ cZ z H) (hlink : (Cond.fieldLink own index "DrumMachine$CardDeck" "count" "I").before args s = true) (hdg : decode cc pc = .ok (.putfield index, 3)) (kk : ∀ (H1 : Heap) (locs1 : List Loc), c_W D q cI cJ cZ (c_ccount_s z v) H1 → va_S (c_qs q) H0 H1 locs1 → W p l e R s m args below meth c H1 locs1 cells slots Q (F0 m (pc + 3) ls rest)) : W p l e R s m args below meth c H locs cells slots Q (F0 m pc ls (.int v :: .ref (q 2) :: rest)) :=
  va_put (ci := 2) (v := .int v) (C := RCd) (T := TCd) (N := 4) hx hb hts hin tyCd tyCd_ok nmCd hown hK hP (c_D hq z) hS 2 rfl rfl 3 (by decide) hlink (fun _ h => h) rfl rfl rfl rfl (Nat.le_of_ble_eq_true rfl) hdg (fun H1 locs1 a _ b => kk H1 locs1 a b)
theorem cg3_words (hx : p.tables.exec = Jvm.exec) (hb : c.code = cc) (hts : ∀ w ∈ Ts, w.before args s = true) (hin : ∀ w ∈ u_ws RPu TPu 2, w ∈ Ts) (hown : s.vm.findClass own = some m.cls) (hK : va_K D clA (tys3 cI cJ cZ) s) (hP : c_W D q cI cJ cZ z H) (hlink : (Cond.fieldLink own index "DrumMachine$Punch" "words" "[J").before args s = true) (hdg : decode cc pc = .ok (.getfield index, 3)) (kk : W p l e R s m args below meth c H locs cells slots Q (F0 m (pc + 3) ls (.ref (q 12) :: rest))) : W p l e R s m args below meth c H locs cells slots Q (F0 m pc ls (.ref (q 3) :: rest)) :=
  va_get (ci := 3) (v := .ref (q 12)) (C := RPu) (T := TPu) (N := 2) hx hb hts hin hown hK hP 3 rfl rfl 0 (by decide) hlink (fun _ h => h) rfl hdg kk
theorem cg3_count (hx : p.tables.exec = Jvm.exec) (hb : c.code = cc) (hts : ∀ w ∈ Ts, w.before args s = true) (hin : ∀ w ∈ u_ws RPu TPu 2, w ∈ Ts) (hown : s.vm.findClass own = some m.cls) (hK : va_K D clA (tys3 cI cJ cZ) s) (hP : c_W D q cI cJ cZ z H) (hlink : (Cond.fieldLink own index "DrumMachine$Punch" "count" "I").before args s = true) (hdg : decode cc pc = .ok (.getfield index, 3)) (kk : W p l e R s m args below meth c H locs cells slots Q (F0 m (pc + 3) ls (.int (c_pcount z) :: rest))) : W p l e R s m args below meth c H locs cells slots Q (F0 m pc ls (.ref (q 3) :: rest)) :=
  va_get (ci := 3) (v := .int (c_pcount z)) (C := RPu) (T := TPu) (N := 2) hx hb hts hin hown hK hP 3 rfl rfl 1 (by decide) hlink (fun _ h => h) rfl hdg kk
theorem cp3_count (v : Int32) (hq : c_inj q) (hS : va_S (c_qs q) H0 H locs) (hx : p.tables.exec = Jvm.exec) (hb : c.code = cc) (hts : ∀ w ∈ Ts, w.before args s = true) (hin : ∀ w ∈ u_ws RPu TPu 2, w ∈ Ts) (hown : s.vm.findClass own = some m.cls) (hK : va_K D clA (tys3 cI cJ cZ) s) (hP : c_W D q cI cJ cZ z H) (hlink : (Cond.fieldLink own index "DrumMachine$Punch" "count" "I").before args s = true) (hdg : decode cc pc = .ok (.putfield index, 3)) (kk : ∀ (H1 : Heap) (locs1 : List Loc), c_W D q cI cJ cZ (c_pcount_s z v) H1 → va_S (c_qs q) H0 H1 locs1 → W p l e R s m args below meth c H1 locs1 cells slots Q (F0 m (pc + 3) ls rest)) : W p l e R s m args below meth c H locs cells slots Q (F0 m pc ls (.int v :: .ref (q 3) :: rest)) :=
  va_put (ci := 3) (v := .int v) (C := RPu) (T := TPu) (N := 2) hx hb hts hin tyPu tyPu_ok nmPu hown hK hP (c_D hq z) hS 3 rfl rfl 1 (by decide) hlink (fun _ h => h) rfl rfl rfl rfl (Nat.le_of_ble_eq_true rfl) hdg (fun H1 locs1 a _ b => kk H1 locs1 a b)
theorem cg4_drum (hx : p.tables.exec = Jvm.exec) (hb : c.code = cc) (hts : ∀ w ∈ Ts, w.before args s = true) (hin : ∀ w ∈ u_ws RPr TPr 9, w ∈ Ts) (hown : s.vm.findClass own = some m.cls) (hK : va_K D clA (tys3 cI cJ cZ) s) (hP : c_W D q cI cJ cZ z H) (hlink : (Cond.fieldLink own index "DrumMachine$Processor" "drum" "LDrumMachine$Drum;").before args s = true) (hdg : decode cc pc = .ok (.getfield index, 3)) (kk : W p l e R s m args below meth c H locs cells slots Q (F0 m (pc + 3) ls (.ref (q 1) :: rest))) : W p l e R s m args below meth c H locs cells slots Q (F0 m pc ls (.ref (q 4) :: rest)) :=
  va_get (ci := 4) (v := .ref (q 1)) (C := RPr) (T := TPr) (N := 9) hx hb hts hin hown hK hP 4 rfl rfl 0 (by decide) hlink (fun _ h => h) rfl hdg kk
theorem cg4_cards (hx : p.tables.exec = Jvm.exec) (hb : c.code = cc) (hts : ∀ w ∈ Ts, w.before args s = true) (hin : ∀ w ∈ u_ws RPr TPr 9, w ∈ Ts) (hown : s.vm.findClass own = some m.cls) (hK : va_K D clA (tys3 cI cJ cZ) s) (hP : c_W D q cI cJ cZ z H) (hlink : (Cond.fieldLink own index "DrumMachine$Processor" "cards" "LDrumMachine$CardDeck;").before args s = true) (hdg : decode cc pc = .ok (.getfield index, 3)) (kk : W p l e R s m args below meth c H locs cells slots Q (F0 m (pc + 3) ls (.ref (q 2) :: rest))) : W p l e R s m args below meth c H locs cells slots Q (F0 m pc ls (.ref (q 4) :: rest)) :=
  va_get (ci := 4) (v := .ref (q 2)) (C := RPr) (T := TPr) (N := 9) hx hb hts hin hown hK hP 4 rfl rfl 1 (by decide) hlink (fun _ h => h) rfl hdg kk
theorem cg4_punch (hx : p.tables.exec = Jvm.exec) (hb : c.code = cc) (hts : ∀ w ∈ Ts, w.before args s = true) (hin : ∀ w ∈ u_ws RPr TPr 9, w ∈ Ts) (hown : s.vm.findClass own = some m.cls) (hK : va_K D clA (tys3 cI cJ cZ) s) (hP : c_W D q cI cJ cZ z H) (hlink : (Cond.fieldLink own index "DrumMachine$Processor" "punch" "LDrumMachine$Punch;").before args s = true) (hdg : decode cc pc = .ok (.getfield index, 3)) (kk : W p l e R s m args below meth c H locs cells slots Q (F0 m (pc + 3) ls (.ref (q 3) :: rest))) : W p l e R s m args below meth c H locs cells slots Q (F0 m pc ls (.ref (q 4) :: rest)) :=
  va_get (ci := 4) (v := .ref (q 3)) (C := RPr) (T := TPr) (N := 9) hx hb hts hin hown hK hP 4 rfl rfl 2 (by decide) hlink (fun _ h => h) rfl hdg kk
theorem cg4_accumulator (hx : p.tables.exec = Jvm.exec) (hb : c.code = cc) (hts : ∀ w ∈ Ts, w.before args s = true) (hin : ∀ w ∈ u_ws RPr TPr 9, w ∈ Ts) (hown : s.vm.findClass own = some m.cls) (hK : va_K D clA (tys3 cI cJ cZ) s) (hP : c_W D q cI cJ cZ z H) (hlink : (Cond.fieldLink own index "DrumMachine$Processor" "accumulator" "LDrumMachine$Accumulator;").before args s = true) (hdg : decode cc pc = .ok (.getfield index, 3)) (kk : W p l e R s m args below meth c H locs cells slots Q (F0 m (pc + 3) ls (.ref (q 5) :: rest))) : W p l e R s m args below meth c H locs cells slots Q (F0 m pc ls (.ref (q 4) :: rest)) :=
  va_get (ci := 4) (v := .ref (q 5)) (C := RPr) (T := TPr) (N := 9) hx hb hts hin hown hK hP 4 rfl rfl 3 (by decide) hlink (fun _ h => h) rfl hdg kk
theorem cg4_distributor (hx : p.tables.exec = Jvm.exec) (hb : c.code = cc) (hts : ∀ w ∈ Ts, w.before args s = true) (hin : ∀ w ∈ u_ws RPr TPr 9, w ∈ Ts) (hown : s.vm.findClass own = some m.cls) (hK : va_K D clA (tys3 cI cJ cZ) s) (hP : c_W D q cI cJ cZ z H) (hlink : (Cond.fieldLink own index "DrumMachine$Processor" "distributor" "J").before args s = true) (hdg : decode cc pc = .ok (.getfield index, 3)) (kk : W p l e R s m args below meth c H locs cells slots Q (F0 m (pc + 3) ls (.long (c_dist z) :: rest))) : W p l e R s m args below meth c H locs cells slots Q (F0 m pc ls (.ref (q 4) :: rest)) :=
  va_get (ci := 4) (v := .long (c_dist z)) (C := RPr) (T := TPr) (N := 9) hx hb hts hin hown hK hP 4 rfl rfl 4 (by decide) hlink (fun _ h => h) rfl hdg kk
theorem cp4_distributor (v : Int64) (hq : c_inj q) (hS : va_S (c_qs q) H0 H locs) (hx : p.tables.exec = Jvm.exec) (hb : c.code = cc) (hts : ∀ w ∈ Ts, w.before args s = true) (hin : ∀ w ∈ u_ws RPr TPr 9, w ∈ Ts) (hown : s.vm.findClass own = some m.cls) (hK : va_K D clA (tys3 cI cJ cZ) s) (hP : c_W D q cI cJ cZ z H) (hlink : (Cond.fieldLink own index "DrumMachine$Processor" "distributor" "J").before args s = true) (hdg : decode cc pc = .ok (.putfield index, 3)) (kk : ∀ (H1 : Heap) (locs1 : List Loc), c_W D q cI cJ cZ (c_dist_s z v) H1 → va_S (c_qs q) H0 H1 locs1 → W p l e R s m args below meth c H1 locs1 cells slots Q (F0 m (pc + 3) ls rest)) : W p l e R s m args below meth c H locs cells slots Q (F0 m pc ls (.long v :: .ref (q 4) :: rest)) :=
  va_put (ci := 4) (v := .long v) (C := RPr) (T := TPr) (N := 9) hx hb hts hin tyPr tyPr_ok nmPr hown hK hP (c_D hq z) hS 4 rfl rfl 4 (by decide) hlink (fun _ h => h) rfl rfl rfl rfl (Nat.le_of_ble_eq_true rfl) hdg (fun H1 locs1 a _ b => kk H1 locs1 a b)
theorem cg4_distributorMinus (hx : p.tables.exec = Jvm.exec) (hb : c.code = cc) (hts : ∀ w ∈ Ts, w.before args s = true) (hin : ∀ w ∈ u_ws RPr TPr 9, w ∈ Ts) (hown : s.vm.findClass own = some m.cls) (hK : va_K D clA (tys3 cI cJ cZ) s) (hP : c_W D q cI cJ cZ z H) (hlink : (Cond.fieldLink own index "DrumMachine$Processor" "distributorMinus" "Z").before args s = true) (hdg : decode cc pc = .ok (.getfield index, 3)) (kk : W p l e R s m args below meth c H locs cells slots Q (F0 m (pc + 3) ls (.int (bb (c_distm z)) :: rest))) : W p l e R s m args below meth c H locs cells slots Q (F0 m pc ls (.ref (q 4) :: rest)) :=
  va_get (ci := 4) (v := .int (bb (c_distm z))) (C := RPr) (T := TPr) (N := 9) hx hb hts hin hown hK hP 4 rfl rfl 5 (by decide) hlink (fun _ h => h) rfl hdg kk
theorem cp4_distributorMinus (v : Bool) (hq : c_inj q) (hS : va_S (c_qs q) H0 H locs) (hx : p.tables.exec = Jvm.exec) (hb : c.code = cc) (hts : ∀ w ∈ Ts, w.before args s = true) (hin : ∀ w ∈ u_ws RPr TPr 9, w ∈ Ts) (hown : s.vm.findClass own = some m.cls) (hK : va_K D clA (tys3 cI cJ cZ) s) (hP : c_W D q cI cJ cZ z H) (hlink : (Cond.fieldLink own index "DrumMachine$Processor" "distributorMinus" "Z").before args s = true) (hdg : decode cc pc = .ok (.putfield index, 3)) (kk : ∀ (H1 : Heap) (locs1 : List Loc), c_W D q cI cJ cZ (c_distm_s z v) H1 → va_S (c_qs q) H0 H1 locs1 → W p l e R s m args below meth c H1 locs1 cells slots Q (F0 m (pc + 3) ls rest)) : W p l e R s m args below meth c H locs cells slots Q (F0 m pc ls (.int (bb v) :: .ref (q 4) :: rest)) :=
  va_put (ci := 4) (v := .int (bb v)) (C := RPr) (T := TPr) (N := 9) hx hb hts hin tyPr tyPr_ok nmPr hown hK hP (c_D hq z) hS 4 rfl rfl 5 (by decide) hlink (fun _ h => h) rfl rfl (nz_b v) (fz_b v) (Nat.le_of_ble_eq_true rfl) hdg (fun H1 locs1 a _ b => kk H1 locs1 a b)
theorem cg4_next (hx : p.tables.exec = Jvm.exec) (hb : c.code = cc) (hts : ∀ w ∈ Ts, w.before args s = true) (hin : ∀ w ∈ u_ws RPr TPr 9, w ∈ Ts) (hown : s.vm.findClass own = some m.cls) (hK : va_K D clA (tys3 cI cJ cZ) s) (hP : c_W D q cI cJ cZ z H) (hlink : (Cond.fieldLink own index "DrumMachine$Processor" "next" "I").before args s = true) (hdg : decode cc pc = .ok (.getfield index, 3)) (kk : W p l e R s m args below meth c H locs cells slots Q (F0 m (pc + 3) ls (.int (c_nxt z) :: rest))) : W p l e R s m args below meth c H locs cells slots Q (F0 m pc ls (.ref (q 4) :: rest)) :=
  va_get (ci := 4) (v := .int (c_nxt z)) (C := RPr) (T := TPr) (N := 9) hx hb hts hin hown hK hP 4 rfl rfl 6 (by decide) hlink (fun _ h => h) rfl hdg kk
theorem cp4_next (v : Int32) (hq : c_inj q) (hS : va_S (c_qs q) H0 H locs) (hx : p.tables.exec = Jvm.exec) (hb : c.code = cc) (hts : ∀ w ∈ Ts, w.before args s = true) (hin : ∀ w ∈ u_ws RPr TPr 9, w ∈ Ts) (hown : s.vm.findClass own = some m.cls) (hK : va_K D clA (tys3 cI cJ cZ) s) (hP : c_W D q cI cJ cZ z H) (hlink : (Cond.fieldLink own index "DrumMachine$Processor" "next" "I").before args s = true) (hdg : decode cc pc = .ok (.putfield index, 3)) (kk : ∀ (H1 : Heap) (locs1 : List Loc), c_W D q cI cJ cZ (c_nxt_s z v) H1 → va_S (c_qs q) H0 H1 locs1 → W p l e R s m args below meth c H1 locs1 cells slots Q (F0 m (pc + 3) ls rest)) : W p l e R s m args below meth c H locs cells slots Q (F0 m pc ls (.int v :: .ref (q 4) :: rest)) :=
  va_put (ci := 4) (v := .int v) (C := RPr) (T := TPr) (N := 9) hx hb hts hin tyPr tyPr_ok nmPr hown hK hP (c_D hq z) hS 4 rfl rfl 6 (by decide) hlink (fun _ h => h) rfl rfl rfl rfl (Nat.le_of_ble_eq_true rfl) hdg (fun H1 locs1 a _ b => kk H1 locs1 a b)
theorem cg4_cause (hx : p.tables.exec = Jvm.exec) (hb : c.code = cc) (hts : ∀ w ∈ Ts, w.before args s = true) (hin : ∀ w ∈ u_ws RPr TPr 9, w ∈ Ts) (hown : s.vm.findClass own = some m.cls) (hK : va_K D clA (tys3 cI cJ cZ) s) (hP : c_W D q cI cJ cZ z H) (hlink : (Cond.fieldLink own index "DrumMachine$Processor" "cause" "I").before args s = true) (hdg : decode cc pc = .ok (.getfield index, 3)) (kk : W p l e R s m args below meth c H locs cells slots Q (F0 m (pc + 3) ls (.int (c_cause z) :: rest))) : W p l e R s m args below meth c H locs cells slots Q (F0 m pc ls (.ref (q 4) :: rest)) :=
  va_get (ci := 4) (v := .int (c_cause z)) (C := RPr) (T := TPr) (N := 9) hx hb hts hin hown hK hP 4 rfl rfl 7 (by decide) hlink (fun _ h => h) rfl hdg kk
theorem cp4_cause (v : Int32) (hq : c_inj q) (hS : va_S (c_qs q) H0 H locs) (hx : p.tables.exec = Jvm.exec) (hb : c.code = cc) (hts : ∀ w ∈ Ts, w.before args s = true) (hin : ∀ w ∈ u_ws RPr TPr 9, w ∈ Ts) (hown : s.vm.findClass own = some m.cls) (hK : va_K D clA (tys3 cI cJ cZ) s) (hP : c_W D q cI cJ cZ z H) (hlink : (Cond.fieldLink own index "DrumMachine$Processor" "cause" "I").before args s = true) (hdg : decode cc pc = .ok (.putfield index, 3)) (kk : ∀ (H1 : Heap) (locs1 : List Loc), c_W D q cI cJ cZ (c_cause_s z v) H1 → va_S (c_qs q) H0 H1 locs1 → W p l e R s m args below meth c H1 locs1 cells slots Q (F0 m (pc + 3) ls rest)) : W p l e R s m args below meth c H locs cells slots Q (F0 m pc ls (.int v :: .ref (q 4) :: rest)) :=
  va_put (ci := 4) (v := .int v) (C := RPr) (T := TPr) (N := 9) hx hb hts hin tyPr tyPr_ok nmPr hown hK hP (c_D hq z) hS 4 rfl rfl 7 (by decide) hlink (fun _ h => h) rfl rfl rfl rfl (Nat.le_of_ble_eq_true rfl) hdg (fun H1 locs1 a _ b => kk H1 locs1 a b)
theorem cg4_time (hx : p.tables.exec = Jvm.exec) (hb : c.code = cc) (hts : ∀ w ∈ Ts, w.before args s = true) (hin : ∀ w ∈ u_ws RPr TPr 9, w ∈ Ts) (hown : s.vm.findClass own = some m.cls) (hK : va_K D clA (tys3 cI cJ cZ) s) (hP : c_W D q cI cJ cZ z H) (hlink : (Cond.fieldLink own index "DrumMachine$Processor" "time" "J").before args s = true) (hdg : decode cc pc = .ok (.getfield index, 3)) (kk : W p l e R s m args below meth c H locs cells slots Q (F0 m (pc + 3) ls (.long (c_time z) :: rest))) : W p l e R s m args below meth c H locs cells slots Q (F0 m pc ls (.ref (q 4) :: rest)) :=
  va_get (ci := 4) (v := .long (c_time z)) (C := RPr) (T := TPr) (N := 9) hx hb hts hin hown hK hP 4 rfl rfl 8 (by decide) hlink (fun _ h => h) rfl hdg kk
theorem cp4_time (v : Int64) (hq : c_inj q) (hS : va_S (c_qs q) H0 H locs) (hx : p.tables.exec = Jvm.exec) (hb : c.code = cc) (hts : ∀ w ∈ Ts, w.before args s = true) (hin : ∀ w ∈ u_ws RPr TPr 9, w ∈ Ts) (hown : s.vm.findClass own = some m.cls) (hK : va_K D clA (tys3 cI cJ cZ) s) (hP : c_W D q cI cJ cZ z H) (hlink : (Cond.fieldLink own index "DrumMachine$Processor" "time" "J").before args s = true) (hdg : decode cc pc = .ok (.putfield index, 3)) (kk : ∀ (H1 : Heap) (locs1 : List Loc), c_W D q cI cJ cZ (c_time_s z v) H1 → va_S (c_qs q) H0 H1 locs1 → W p l e R s m args below meth c H1 locs1 cells slots Q (F0 m (pc + 3) ls rest)) : W p l e R s m args below meth c H locs cells slots Q (F0 m pc ls (.long v :: .ref (q 4) :: rest)) :=
  va_put (ci := 4) (v := .long v) (C := RPr) (T := TPr) (N := 9) hx hb hts hin tyPr tyPr_ok nmPr hown hK hP (c_D hq z) hS 4 rfl rfl 8 (by decide) hlink (fun _ h => h) rfl rfl rfl rfl (Nat.le_of_ble_eq_true rfl) hdg (fun H1 locs1 a _ b => kk H1 locs1 a b)
theorem cg5_upper (hx : p.tables.exec = Jvm.exec) (hb : c.code = cc) (hts : ∀ w ∈ Ts, w.before args s = true) (hin : ∀ w ∈ u_ws RAc TAc 4, w ∈ Ts) (hown : s.vm.findClass own = some m.cls) (hK : va_K D clA (tys3 cI cJ cZ) s) (hP : c_W D q cI cJ cZ z H) (hlink : (Cond.fieldLink own index "DrumMachine$Accumulator" "upper" "J").before args s = true) (hdg : decode cc pc = .ok (.getfield index, 3)) (kk : W p l e R s m args below meth c H locs cells slots Q (F0 m (pc + 3) ls (.long (c_upper z) :: rest))) : W p l e R s m args below meth c H locs cells slots Q (F0 m pc ls (.ref (q 5) :: rest)) :=
  va_get (ci := 5) (v := .long (c_upper z)) (C := RAc) (T := TAc) (N := 4) hx hb hts hin hown hK hP 5 rfl rfl 0 (by decide) hlink (fun _ h => h) rfl hdg kk
theorem cp5_upper (v : Int64) (hq : c_inj q) (hS : va_S (c_qs q) H0 H locs) (hx : p.tables.exec = Jvm.exec) (hb : c.code = cc) (hts : ∀ w ∈ Ts, w.before args s = true) (hin : ∀ w ∈ u_ws RAc TAc 4, w ∈ Ts) (hown : s.vm.findClass own = some m.cls) (hK : va_K D clA (tys3 cI cJ cZ) s) (hP : c_W D q cI cJ cZ z H) (hlink : (Cond.fieldLink own index "DrumMachine$Accumulator" "upper" "J").before args s = true) (hdg : decode cc pc = .ok (.putfield index, 3)) (kk : ∀ (H1 : Heap) (locs1 : List Loc), c_W D q cI cJ cZ (c_upper_s z v) H1 → va_S (c_qs q) H0 H1 locs1 → W p l e R s m args below meth c H1 locs1 cells slots Q (F0 m (pc + 3) ls rest)) : W p l e R s m args below meth c H locs cells slots Q (F0 m pc ls (.long v :: .ref (q 5) :: rest)) :=
  va_put (ci := 5) (v := .long v) (C := RAc) (T := TAc) (N := 4) hx hb hts hin tyAc tyAc_ok nmAc hown hK hP (c_D hq z) hS 5 rfl rfl 0 (by decide) hlink (fun _ h => h) rfl rfl rfl rfl (Nat.le_of_ble_eq_true rfl) hdg (fun H1 locs1 a _ b => kk H1 locs1 a b)
theorem cg5_lower (hx : p.tables.exec = Jvm.exec) (hb : c.code = cc) (hts : ∀ w ∈ Ts, w.before args s = true) (hin : ∀ w ∈ u_ws RAc TAc 4, w ∈ Ts) (hown : s.vm.findClass own = some m.cls) (hK : va_K D clA (tys3 cI cJ cZ) s) (hP : c_W D q cI cJ cZ z H) (hlink : (Cond.fieldLink own index "DrumMachine$Accumulator" "lower" "J").before args s = true) (hdg : decode cc pc = .ok (.getfield index, 3)) (kk : W p l e R s m args below meth c H locs cells slots Q (F0 m (pc + 3) ls (.long (c_lower z) :: rest))) : W p l e R s m args below meth c H locs cells slots Q (F0 m pc ls (.ref (q 5) :: rest)) :=
  va_get (ci := 5) (v := .long (c_lower z)) (C := RAc) (T := TAc) (N := 4) hx hb hts hin hown hK hP 5 rfl rfl 1 (by decide) hlink (fun _ h => h) rfl hdg kk
theorem cp5_lower (v : Int64) (hq : c_inj q) (hS : va_S (c_qs q) H0 H locs) (hx : p.tables.exec = Jvm.exec) (hb : c.code = cc) (hts : ∀ w ∈ Ts, w.before args s = true) (hin : ∀ w ∈ u_ws RAc TAc 4, w ∈ Ts) (hown : s.vm.findClass own = some m.cls) (hK : va_K D clA (tys3 cI cJ cZ) s) (hP : c_W D q cI cJ cZ z H) (hlink : (Cond.fieldLink own index "DrumMachine$Accumulator" "lower" "J").before args s = true) (hdg : decode cc pc = .ok (.putfield index, 3)) (kk : ∀ (H1 : Heap) (locs1 : List Loc), c_W D q cI cJ cZ (c_lower_s z v) H1 → va_S (c_qs q) H0 H1 locs1 → W p l e R s m args below meth c H1 locs1 cells slots Q (F0 m (pc + 3) ls rest)) : W p l e R s m args below meth c H locs cells slots Q (F0 m pc ls (.long v :: .ref (q 5) :: rest)) :=
  va_put (ci := 5) (v := .long v) (C := RAc) (T := TAc) (N := 4) hx hb hts hin tyAc tyAc_ok nmAc hown hK hP (c_D hq z) hS 5 rfl rfl 1 (by decide) hlink (fun _ h => h) rfl rfl rfl rfl (Nat.le_of_ble_eq_true rfl) hdg (fun H1 locs1 a _ b => kk H1 locs1 a b)
theorem cg5_minus (hx : p.tables.exec = Jvm.exec) (hb : c.code = cc) (hts : ∀ w ∈ Ts, w.before args s = true) (hin : ∀ w ∈ u_ws RAc TAc 4, w ∈ Ts) (hown : s.vm.findClass own = some m.cls) (hK : va_K D clA (tys3 cI cJ cZ) s) (hP : c_W D q cI cJ cZ z H) (hlink : (Cond.fieldLink own index "DrumMachine$Accumulator" "minus" "Z").before args s = true) (hdg : decode cc pc = .ok (.getfield index, 3)) (kk : W p l e R s m args below meth c H locs cells slots Q (F0 m (pc + 3) ls (.int (bb (c_amin z)) :: rest))) : W p l e R s m args below meth c H locs cells slots Q (F0 m pc ls (.ref (q 5) :: rest)) :=
  va_get (ci := 5) (v := .int (bb (c_amin z))) (C := RAc) (T := TAc) (N := 4) hx hb hts hin hown hK hP 5 rfl rfl 2 (by decide) hlink (fun _ h => h) rfl hdg kk
theorem cp5_minus (v : Bool) (hq : c_inj q) (hS : va_S (c_qs q) H0 H locs) (hx : p.tables.exec = Jvm.exec) (hb : c.code = cc) (hts : ∀ w ∈ Ts, w.before args s = true) (hin : ∀ w ∈ u_ws RAc TAc 4, w ∈ Ts) (hown : s.vm.findClass own = some m.cls) (hK : va_K D clA (tys3 cI cJ cZ) s) (hP : c_W D q cI cJ cZ z H) (hlink : (Cond.fieldLink own index "DrumMachine$Accumulator" "minus" "Z").before args s = true) (hdg : decode cc pc = .ok (.putfield index, 3)) (kk : ∀ (H1 : Heap) (locs1 : List Loc), c_W D q cI cJ cZ (c_amin_s z v) H1 → va_S (c_qs q) H0 H1 locs1 → W p l e R s m args below meth c H1 locs1 cells slots Q (F0 m (pc + 3) ls rest)) : W p l e R s m args below meth c H locs cells slots Q (F0 m pc ls (.int (bb v) :: .ref (q 5) :: rest)) :=
  va_put (ci := 5) (v := .int (bb v)) (C := RAc) (T := TAc) (N := 4) hx hb hts hin tyAc tyAc_ok nmAc hown hK hP (c_D hq z) hS 5 rfl rfl 2 (by decide) hlink (fun _ h => h) rfl rfl (nz_b v) (fz_b v) (Nat.le_of_ble_eq_true rfl) hdg (fun H1 locs1 a _ b => kk H1 locs1 a b)
theorem cg5_overflow (hx : p.tables.exec = Jvm.exec) (hb : c.code = cc) (hts : ∀ w ∈ Ts, w.before args s = true) (hin : ∀ w ∈ u_ws RAc TAc 4, w ∈ Ts) (hown : s.vm.findClass own = some m.cls) (hK : va_K D clA (tys3 cI cJ cZ) s) (hP : c_W D q cI cJ cZ z H) (hlink : (Cond.fieldLink own index "DrumMachine$Accumulator" "overflow" "Z").before args s = true) (hdg : decode cc pc = .ok (.getfield index, 3)) (kk : W p l e R s m args below meth c H locs cells slots Q (F0 m (pc + 3) ls (.int (bb (c_ovf z)) :: rest))) : W p l e R s m args below meth c H locs cells slots Q (F0 m pc ls (.ref (q 5) :: rest)) :=
  va_get (ci := 5) (v := .int (bb (c_ovf z))) (C := RAc) (T := TAc) (N := 4) hx hb hts hin hown hK hP 5 rfl rfl 3 (by decide) hlink (fun _ h => h) rfl hdg kk
theorem cp5_overflow (v : Bool) (hq : c_inj q) (hS : va_S (c_qs q) H0 H locs) (hx : p.tables.exec = Jvm.exec) (hb : c.code = cc) (hts : ∀ w ∈ Ts, w.before args s = true) (hin : ∀ w ∈ u_ws RAc TAc 4, w ∈ Ts) (hown : s.vm.findClass own = some m.cls) (hK : va_K D clA (tys3 cI cJ cZ) s) (hP : c_W D q cI cJ cZ z H) (hlink : (Cond.fieldLink own index "DrumMachine$Accumulator" "overflow" "Z").before args s = true) (hdg : decode cc pc = .ok (.putfield index, 3)) (kk : ∀ (H1 : Heap) (locs1 : List Loc), c_W D q cI cJ cZ (c_ovf_s z v) H1 → va_S (c_qs q) H0 H1 locs1 → W p l e R s m args below meth c H1 locs1 cells slots Q (F0 m (pc + 3) ls rest)) : W p l e R s m args below meth c H locs cells slots Q (F0 m pc ls (.int (bb v) :: .ref (q 5) :: rest)) :=
  va_put (ci := 5) (v := .int (bb v)) (C := RAc) (T := TAc) (N := 4) hx hb hts hin tyAc tyAc_ok nmAc hown hK hP (c_D hq z) hS 5 rfl rfl 3 (by decide) hlink (fun _ h => h) rfl rfl (nz_b v) (fz_b v) (Nat.le_of_ble_eq_true rfl) hdg (fun H1 locs1 a _ b => kk H1 locs1 a b)
theorem cg6_locationParts (hx : p.tables.exec = Jvm.exec) (hb : c.code = cc) (hts : ∀ w ∈ Ts, w.before args s = true) (hin : ∀ w ∈ u_ws RAs TAs 11, w ∈ Ts) (hown : s.vm.findClass own = some m.cls) (hK : va_K D clA (tys3 cI cJ cZ) s) (hP : c_W D q cI cJ cZ z H) (hlink : (Cond.fieldLink own index "DrumMachine$Assembler" "locationParts" "[I").before args s = true) (hdg : decode cc pc = .ok (.getfield index, 3)) (kk : W p l e R s m args below meth c H locs cells slots Q (F0 m (pc + 3) ls (.ref (q 13) :: rest))) : W p l e R s m args below meth c H locs cells slots Q (F0 m pc ls (.ref (q 6) :: rest)) :=
  va_get (ci := 6) (v := .ref (q 13)) (C := RAs) (T := TAs) (N := 11) hx hb hts hin hown hK hP 6 rfl rfl 0 (by decide) hlink (fun _ h => h) rfl hdg kk
theorem cg6_operations (hx : p.tables.exec = Jvm.exec) (hb : c.code = cc) (hts : ∀ w ∈ Ts, w.before args s = true) (hin : ∀ w ∈ u_ws RAs TAs 11, w ∈ Ts) (hown : s.vm.findClass own = some m.cls) (hK : va_K D clA (tys3 cI cJ cZ) s) (hP : c_W D q cI cJ cZ z H) (hlink : (Cond.fieldLink own index "DrumMachine$Assembler" "operations" "[I").before args s = true) (hdg : decode cc pc = .ok (.getfield index, 3)) (kk : W p l e R s m args below meth c H locs cells slots Q (F0 m (pc + 3) ls (.ref (q 14) :: rest))) : W p l e R s m args below meth c H locs cells slots Q (F0 m pc ls (.ref (q 6) :: rest)) :=
  va_get (ci := 6) (v := .ref (q 14)) (C := RAs) (T := TAs) (N := 11) hx hb hts hin hown hK hP 6 rfl rfl 1 (by decide) hlink (fun _ h => h) rfl hdg kk
theorem cg6_dataParts (hx : p.tables.exec = Jvm.exec) (hb : c.code = cc) (hts : ∀ w ∈ Ts, w.before args s = true) (hin : ∀ w ∈ u_ws RAs TAs 11, w ∈ Ts) (hown : s.vm.findClass own = some m.cls) (hK : va_K D clA (tys3 cI cJ cZ) s) (hP : c_W D q cI cJ cZ z H) (hlink : (Cond.fieldLink own index "DrumMachine$Assembler" "dataParts" "[I").before args s = true) (hdg : decode cc pc = .ok (.getfield index, 3)) (kk : W p l e R s m args below meth c H locs cells slots Q (F0 m (pc + 3) ls (.ref (q 15) :: rest))) : W p l e R s m args below meth c H locs cells slots Q (F0 m pc ls (.ref (q 6) :: rest)) :=
  va_get (ci := 6) (v := .ref (q 15)) (C := RAs) (T := TAs) (N := 11) hx hb hts hin hown hK hP 6 rfl rfl 2 (by decide) hlink (fun _ h => h) rfl hdg kk
theorem cg6_nextParts (hx : p.tables.exec = Jvm.exec) (hb : c.code = cc) (hts : ∀ w ∈ Ts, w.before args s = true) (hin : ∀ w ∈ u_ws RAs TAs 11, w ∈ Ts) (hown : s.vm.findClass own = some m.cls) (hK : va_K D clA (tys3 cI cJ cZ) s) (hP : c_W D q cI cJ cZ z H) (hlink : (Cond.fieldLink own index "DrumMachine$Assembler" "nextParts" "[I").before args s = true) (hdg : decode cc pc = .ok (.getfield index, 3)) (kk : W p l e R s m args below meth c H locs cells slots Q (F0 m (pc + 3) ls (.ref (q 16) :: rest))) : W p l e R s m args below meth c H locs cells slots Q (F0 m pc ls (.ref (q 6) :: rest)) :=
  va_get (ci := 6) (v := .ref (q 16)) (C := RAs) (T := TAs) (N := 11) hx hb hts hin hown hK hP 6 rfl rfl 3 (by decide) hlink (fun _ h => h) rfl hdg kk
theorem cg6_locations (hx : p.tables.exec = Jvm.exec) (hb : c.code = cc) (hts : ∀ w ∈ Ts, w.before args s = true) (hin : ∀ w ∈ u_ws RAs TAs 11, w ∈ Ts) (hown : s.vm.findClass own = some m.cls) (hK : va_K D clA (tys3 cI cJ cZ) s) (hP : c_W D q cI cJ cZ z H) (hlink : (Cond.fieldLink own index "DrumMachine$Assembler" "locations" "[I").before args s = true) (hdg : decode cc pc = .ok (.getfield index, 3)) (kk : W p l e R s m args below meth c H locs cells slots Q (F0 m (pc + 3) ls (.ref (q 17) :: rest))) : W p l e R s m args below meth c H locs cells slots Q (F0 m pc ls (.ref (q 6) :: rest)) :=
  va_get (ci := 6) (v := .ref (q 17)) (C := RAs) (T := TAs) (N := 11) hx hb hts hin hown hK hP 6 rfl rfl 4 (by decide) hlink (fun _ h => h) rfl hdg kk
theorem cg6_data (hx : p.tables.exec = Jvm.exec) (hb : c.code = cc) (hts : ∀ w ∈ Ts, w.before args s = true) (hin : ∀ w ∈ u_ws RAs TAs 11, w ∈ Ts) (hown : s.vm.findClass own = some m.cls) (hK : va_K D clA (tys3 cI cJ cZ) s) (hP : c_W D q cI cJ cZ z H) (hlink : (Cond.fieldLink own index "DrumMachine$Assembler" "data" "[I").before args s = true) (hdg : decode cc pc = .ok (.getfield index, 3)) (kk : W p l e R s m args below meth c H locs cells slots Q (F0 m (pc + 3) ls (.ref (q 18) :: rest))) : W p l e R s m args below meth c H locs cells slots Q (F0 m pc ls (.ref (q 6) :: rest)) :=
  va_get (ci := 6) (v := .ref (q 18)) (C := RAs) (T := TAs) (N := 11) hx hb hts hin hown hK hP 6 rfl rfl 5 (by decide) hlink (fun _ h => h) rfl hdg kk
theorem cg6_nexts (hx : p.tables.exec = Jvm.exec) (hb : c.code = cc) (hts : ∀ w ∈ Ts, w.before args s = true) (hin : ∀ w ∈ u_ws RAs TAs 11, w ∈ Ts) (hown : s.vm.findClass own = some m.cls) (hK : va_K D clA (tys3 cI cJ cZ) s) (hP : c_W D q cI cJ cZ z H) (hlink : (Cond.fieldLink own index "DrumMachine$Assembler" "nexts" "[I").before args s = true) (hdg : decode cc pc = .ok (.getfield index, 3)) (kk : W p l e R s m args below meth c H locs cells slots Q (F0 m (pc + 3) ls (.ref (q 19) :: rest))) : W p l e R s m args below meth c H locs cells slots Q (F0 m pc ls (.ref (q 6) :: rest)) :=
  va_get (ci := 6) (v := .ref (q 19)) (C := RAs) (T := TAs) (N := 11) hx hb hts hin hown hK hP 6 rfl rfl 6 (by decide) hlink (fun _ h => h) rfl hdg kk
theorem cg6_symbolPlaces (hx : p.tables.exec = Jvm.exec) (hb : c.code = cc) (hts : ∀ w ∈ Ts, w.before args s = true) (hin : ∀ w ∈ u_ws RAs TAs 11, w ∈ Ts) (hown : s.vm.findClass own = some m.cls) (hK : va_K D clA (tys3 cI cJ cZ) s) (hP : c_W D q cI cJ cZ z H) (hlink : (Cond.fieldLink own index "DrumMachine$Assembler" "symbolPlaces" "[I").before args s = true) (hdg : decode cc pc = .ok (.getfield index, 3)) (kk : W p l e R s m args below meth c H locs cells slots Q (F0 m (pc + 3) ls (.ref (q 20) :: rest))) : W p l e R s m args below meth c H locs cells slots Q (F0 m pc ls (.ref (q 6) :: rest)) :=
  va_get (ci := 6) (v := .ref (q 20)) (C := RAs) (T := TAs) (N := 11) hx hb hts hin hown hK hP 6 rfl rfl 7 (by decide) hlink (fun _ h => h) rfl hdg kk
theorem cg6_reserved (hx : p.tables.exec = Jvm.exec) (hb : c.code = cc) (hts : ∀ w ∈ Ts, w.before args s = true) (hin : ∀ w ∈ u_ws RAs TAs 11, w ∈ Ts) (hown : s.vm.findClass own = some m.cls) (hK : va_K D clA (tys3 cI cJ cZ) s) (hP : c_W D q cI cJ cZ z H) (hlink : (Cond.fieldLink own index "DrumMachine$Assembler" "reserved" "[Z").before args s = true) (hdg : decode cc pc = .ok (.getfield index, 3)) (kk : W p l e R s m args below meth c H locs cells slots Q (F0 m (pc + 3) ls (.ref (q 21) :: rest))) : W p l e R s m args below meth c H locs cells slots Q (F0 m pc ls (.ref (q 6) :: rest)) :=
  va_get (ci := 6) (v := .ref (q 21)) (C := RAs) (T := TAs) (N := 11) hx hb hts hin hown hK hP 6 rfl rfl 8 (by decide) hlink (fun _ h => h) rfl hdg kk
theorem cg6_taken (hx : p.tables.exec = Jvm.exec) (hb : c.code = cc) (hts : ∀ w ∈ Ts, w.before args s = true) (hin : ∀ w ∈ u_ws RAs TAs 11, w ∈ Ts) (hown : s.vm.findClass own = some m.cls) (hK : va_K D clA (tys3 cI cJ cZ) s) (hP : c_W D q cI cJ cZ z H) (hlink : (Cond.fieldLink own index "DrumMachine$Assembler" "taken" "[Z").before args s = true) (hdg : decode cc pc = .ok (.getfield index, 3)) (kk : W p l e R s m args below meth c H locs cells slots Q (F0 m (pc + 3) ls (.ref (q 22) :: rest))) : W p l e R s m args below meth c H locs cells slots Q (F0 m pc ls (.ref (q 6) :: rest)) :=
  va_get (ci := 6) (v := .ref (q 22)) (C := RAs) (T := TAs) (N := 11) hx hb hts hin hown hK hP 6 rfl rfl 9 (by decide) hlink (fun _ h => h) rfl hdg kk
theorem cg6_count (hx : p.tables.exec = Jvm.exec) (hb : c.code = cc) (hts : ∀ w ∈ Ts, w.before args s = true) (hin : ∀ w ∈ u_ws RAs TAs 11, w ∈ Ts) (hown : s.vm.findClass own = some m.cls) (hK : va_K D clA (tys3 cI cJ cZ) s) (hP : c_W D q cI cJ cZ z H) (hlink : (Cond.fieldLink own index "DrumMachine$Assembler" "count" "I").before args s = true) (hdg : decode cc pc = .ok (.getfield index, 3)) (kk : W p l e R s m args below meth c H locs cells slots Q (F0 m (pc + 3) ls (.int (c_acount z) :: rest))) : W p l e R s m args below meth c H locs cells slots Q (F0 m pc ls (.ref (q 6) :: rest)) :=
  va_get (ci := 6) (v := .int (c_acount z)) (C := RAs) (T := TAs) (N := 11) hx hb hts hin hown hK hP 6 rfl rfl 10 (by decide) hlink (fun _ h => h) rfl hdg kk
theorem cp6_count (v : Int32) (hq : c_inj q) (hS : va_S (c_qs q) H0 H locs) (hx : p.tables.exec = Jvm.exec) (hb : c.code = cc) (hts : ∀ w ∈ Ts, w.before args s = true) (hin : ∀ w ∈ u_ws RAs TAs 11, w ∈ Ts) (hown : s.vm.findClass own = some m.cls) (hK : va_K D clA (tys3 cI cJ cZ) s) (hP : c_W D q cI cJ cZ z H) (hlink : (Cond.fieldLink own index "DrumMachine$Assembler" "count" "I").before args s = true) (hdg : decode cc pc = .ok (.putfield index, 3)) (kk : ∀ (H1 : Heap) (locs1 : List Loc), c_W D q cI cJ cZ (c_acount_s z v) H1 → va_S (c_qs q) H0 H1 locs1 → W p l e R s m args below meth c H1 locs1 cells slots Q (F0 m (pc + 3) ls rest)) : W p l e R s m args below meth c H locs cells slots Q (F0 m pc ls (.int v :: .ref (q 6) :: rest)) :=
  va_put (ci := 6) (v := .int v) (C := RAs) (T := TAs) (N := 11) hx hb hts hin tyAs tyAs_ok nmAs hown hK hP (c_D hq z) hS 6 rfl rfl 10 (by decide) hlink (fun _ h => h) rfl rfl rfl rfl (Nat.le_of_ble_eq_true rfl) hdg (fun H1 locs1 a _ b => kk H1 locs1 a b)
theorem cl_codes {i : Int32} (hx : p.tables.exec = Jvm.exec) (hb : c.code = cc) (hK : va_K D clA (tys3 cI cJ cZ) s) (hP : c_W D q cI cJ cZ z H) (hin : vp_in i 2000) (hdg : decode cc pc = .ok (.iaload, 1)) (kk : W p l e R s m args below meth c H locs cells slots Q (F0 m (pc + 1) ls (.int (c_codes z i.toNatClampNeg) :: rest))) : W p l e R s m args below meth c H locs cells slots Q (F0 m pc ls (.int i :: .ref (q 7) :: rest)) :=
  va_iald hx hb hK hP 7 0 rfl rfl hin hdg kk
theorem cs_codes {i : Int32} (v : Int32) (hq : c_inj q) (hS : va_S (c_qs q) H0 H locs) (hx : p.tables.exec = Jvm.exec) (hb : c.code = cc) (hK : va_K D clA (tys3 cI cJ cZ) s) (hP : c_W D q cI cJ cZ z H) (hin : vp_in i 2000) (hdg : decode cc pc = .ok (.iastore, 1)) (kk : ∀ (H1 : Heap) (locs1 : List Loc), c_W D q cI cJ cZ (c_codes_s z (upd (c_codes z) i.toNatClampNeg v)) H1 → va_S (c_qs q) H0 H1 locs1 → W p l e R s m args below meth c H1 locs1 cells slots Q (F0 m (pc + 1) ls rest)) : W p l e R s m args below meth c H locs cells slots Q (F0 m pc ls (.int v :: .int i :: .ref (q 7) :: rest)) :=
  va_iast hx hb hK hP (c_D hq z) hS 7 0 rfl rfl hin hdg (fun H1 locs1 a _ b => kk H1 locs1 a b)
theorem cl_vals {i : Int32} (hx : p.tables.exec = Jvm.exec) (hb : c.code = cc) (hK : va_K D clA (tys3 cI cJ cZ) s) (hP : c_W D q cI cJ cZ z H) (hin : vp_in i 200) (hdg : decode cc pc = .ok (.laload, 1)) (kk : W p l e R s m args below meth c H locs cells slots Q (F0 m (pc + 1) ls (.long (c_vals z i.toNatClampNeg) :: rest))) : W p l e R s m args below meth c H locs cells slots Q (F0 m pc ls (.int i :: .ref (q 8) :: rest)) :=
  va_lald hx hb hK hP 8 1 rfl rfl hin hdg kk
theorem cs_vals {i : Int32} (v : Int64) (hq : c_inj q) (hS : va_S (c_qs q) H0 H locs) (hx : p.tables.exec = Jvm.exec) (hb : c.code = cc) (hK : va_K D clA (tys3 cI cJ cZ) s) (hP : c_W D q cI cJ cZ z H) (hin : vp_in i 200) (hdg : decode cc pc = .ok (.lastore, 1)) (kk : ∀ (H1 : Heap) (locs1 : List Loc), c_W D q cI cJ cZ (c_vals_s z (vp_updL (c_vals z) i.toNatClampNeg v)) H1 → va_S (c_qs q) H0 H1 locs1 → W p l e R s m args below meth c H1 locs1 cells slots Q (F0 m (pc + 1) ls rest)) : W p l e R s m args below meth c H locs cells slots Q (F0 m pc ls (.long v :: .int i :: .ref (q 8) :: rest)) :=
  va_last hx hb hK hP (c_D hq z) hS 8 1 rfl rfl hin hdg (fun H1 locs1 a _ b => kk H1 locs1 a b)
theorem cl_dmin {i : Int32} (hx : p.tables.exec = Jvm.exec) (hb : c.code = cc) (hK : va_K D clA (tys3 cI cJ cZ) s) (hP : c_W D q cI cJ cZ z H) (hin : vp_in i 200) (hdg : decode cc pc = .ok (.baload, 1)) (kk : W p l e R s m args below meth c H locs cells slots Q (F0 m (pc + 1) ls (.int (bb (c_dmin z i.toNatClampNeg)) :: rest))) : W p l e R s m args below meth c H locs cells slots Q (F0 m pc ls (.int i :: .ref (q 9) :: rest)) :=
  va_zald hx hb hK hP 9 2 rfl rfl hin hdg kk
theorem cs_dmin {i : Int32} (v : Bool) (hq : c_inj q) (hS : va_S (c_qs q) H0 H locs) (hx : p.tables.exec = Jvm.exec) (hb : c.code = cc) (hK : va_K D clA (tys3 cI cJ cZ) s) (hP : c_W D q cI cJ cZ z H) (hin : vp_in i 200) (hdg : decode cc pc = .ok (.bastore, 1)) (kk : ∀ (H1 : Heap) (locs1 : List Loc), c_W D q cI cJ cZ (c_dmin_s z (updB (c_dmin z) i.toNatClampNeg v)) H1 → va_S (c_qs q) H0 H1 locs1 → W p l e R s m args below meth c H1 locs1 cells slots Q (F0 m (pc + 1) ls rest)) : W p l e R s m args below meth c H locs cells slots Q (F0 m pc ls (.int (bb v) :: .int i :: .ref (q 9) :: rest)) :=
  va_zast hx hb hK hP (c_D hq z) hS 9 2 rfl rfl hin hdg (fun H1 locs1 a _ b => kk H1 locs1 (by rw [updB_eq] at a; exact a) b)
theorem cl_cvals {i : Int32} (hx : p.tables.exec = Jvm.exec) (hb : c.code = cc) (hK : va_K D clA (tys3 cI cJ cZ) s) (hP : c_W D q cI cJ cZ z H) (hin : vp_in i 20) (hdg : decode cc pc = .ok (.laload, 1)) (kk : W p l e R s m args below meth c H locs cells slots Q (F0 m (pc + 1) ls (.long (c_cvals z i.toNatClampNeg) :: rest))) : W p l e R s m args below meth c H locs cells slots Q (F0 m pc ls (.int i :: .ref (q 10) :: rest)) :=
  va_lald hx hb hK hP 10 1 rfl rfl hin hdg kk
theorem cs_cvals {i : Int32} (v : Int64) (hq : c_inj q) (hS : va_S (c_qs q) H0 H locs) (hx : p.tables.exec = Jvm.exec) (hb : c.code = cc) (hK : va_K D clA (tys3 cI cJ cZ) s) (hP : c_W D q cI cJ cZ z H) (hin : vp_in i 20) (hdg : decode cc pc = .ok (.lastore, 1)) (kk : ∀ (H1 : Heap) (locs1 : List Loc), c_W D q cI cJ cZ (c_cvals_s z (vp_updL (c_cvals z) i.toNatClampNeg v)) H1 → va_S (c_qs q) H0 H1 locs1 → W p l e R s m args below meth c H1 locs1 cells slots Q (F0 m (pc + 1) ls rest)) : W p l e R s m args below meth c H locs cells slots Q (F0 m pc ls (.long v :: .int i :: .ref (q 10) :: rest)) :=
  va_last hx hb hK hP (c_D hq z) hS 10 1 rfl rfl hin hdg (fun H1 locs1 a _ b => kk H1 locs1 a b)
theorem cl_cmin {i : Int32} (hx : p.tables.exec = Jvm.exec) (hb : c.code = cc) (hK : va_K D clA (tys3 cI cJ cZ) s) (hP : c_W D q cI cJ cZ z H) (hin : vp_in i 20) (hdg : decode cc pc = .ok (.baload, 1)) (kk : W p l e R s m args below meth c H locs cells slots Q (F0 m (pc + 1) ls (.int (bb (c_cmin z i.toNatClampNeg)) :: rest))) : W p l e R s m args below meth c H locs cells slots Q (F0 m pc ls (.int i :: .ref (q 11) :: rest)) :=
  va_zald hx hb hK hP 11 2 rfl rfl hin hdg kk
theorem cs_cmin {i : Int32} (v : Bool) (hq : c_inj q) (hS : va_S (c_qs q) H0 H locs) (hx : p.tables.exec = Jvm.exec) (hb : c.code = cc) (hK : va_K D clA (tys3 cI cJ cZ) s) (hP : c_W D q cI cJ cZ z H) (hin : vp_in i 20) (hdg : decode cc pc = .ok (.bastore, 1)) (kk : ∀ (H1 : Heap) (locs1 : List Loc), c_W D q cI cJ cZ (c_cmin_s z (updB (c_cmin z) i.toNatClampNeg v)) H1 → va_S (c_qs q) H0 H1 locs1 → W p l e R s m args below meth c H1 locs1 cells slots Q (F0 m (pc + 1) ls rest)) : W p l e R s m args below meth c H locs cells slots Q (F0 m pc ls (.int (bb v) :: .int i :: .ref (q 11) :: rest)) :=
  va_zast hx hb hK hP (c_D hq z) hS 11 2 rfl rfl hin hdg (fun H1 locs1 a _ b => kk H1 locs1 (by rw [updB_eq] at a; exact a) b)
theorem cl_words {i : Int32} (hx : p.tables.exec = Jvm.exec) (hb : c.code = cc) (hK : va_K D clA (tys3 cI cJ cZ) s) (hP : c_W D q cI cJ cZ z H) (hin : vp_in i 40) (hdg : decode cc pc = .ok (.laload, 1)) (kk : W p l e R s m args below meth c H locs cells slots Q (F0 m (pc + 1) ls (.long (c_words z i.toNatClampNeg) :: rest))) : W p l e R s m args below meth c H locs cells slots Q (F0 m pc ls (.int i :: .ref (q 12) :: rest)) :=
  va_lald hx hb hK hP 12 1 rfl rfl hin hdg kk
theorem cs_words {i : Int32} (v : Int64) (hq : c_inj q) (hS : va_S (c_qs q) H0 H locs) (hx : p.tables.exec = Jvm.exec) (hb : c.code = cc) (hK : va_K D clA (tys3 cI cJ cZ) s) (hP : c_W D q cI cJ cZ z H) (hin : vp_in i 40) (hdg : decode cc pc = .ok (.lastore, 1)) (kk : ∀ (H1 : Heap) (locs1 : List Loc), c_W D q cI cJ cZ (c_words_s z (vp_updL (c_words z) i.toNatClampNeg v)) H1 → va_S (c_qs q) H0 H1 locs1 → W p l e R s m args below meth c H1 locs1 cells slots Q (F0 m (pc + 1) ls rest)) : W p l e R s m args below meth c H locs cells slots Q (F0 m pc ls (.long v :: .int i :: .ref (q 12) :: rest)) :=
  va_last hx hb hK hP (c_D hq z) hS 12 1 rfl rfl hin hdg (fun H1 locs1 a _ b => kk H1 locs1 a b)
theorem cl_lparts {i : Int32} (hx : p.tables.exec = Jvm.exec) (hb : c.code = cc) (hK : va_K D clA (tys3 cI cJ cZ) s) (hP : c_W D q cI cJ cZ z H) (hin : vp_in i 40) (hdg : decode cc pc = .ok (.iaload, 1)) (kk : W p l e R s m args below meth c H locs cells slots Q (F0 m (pc + 1) ls (.int (c_lparts z i.toNatClampNeg) :: rest))) : W p l e R s m args below meth c H locs cells slots Q (F0 m pc ls (.int i :: .ref (q 13) :: rest)) :=
  va_iald hx hb hK hP 13 0 rfl rfl hin hdg kk
theorem cs_lparts {i : Int32} (v : Int32) (hq : c_inj q) (hS : va_S (c_qs q) H0 H locs) (hx : p.tables.exec = Jvm.exec) (hb : c.code = cc) (hK : va_K D clA (tys3 cI cJ cZ) s) (hP : c_W D q cI cJ cZ z H) (hin : vp_in i 40) (hdg : decode cc pc = .ok (.iastore, 1)) (kk : ∀ (H1 : Heap) (locs1 : List Loc), c_W D q cI cJ cZ (c_lparts_s z (upd (c_lparts z) i.toNatClampNeg v)) H1 → va_S (c_qs q) H0 H1 locs1 → W p l e R s m args below meth c H1 locs1 cells slots Q (F0 m (pc + 1) ls rest)) : W p l e R s m args below meth c H locs cells slots Q (F0 m pc ls (.int v :: .int i :: .ref (q 13) :: rest)) :=
  va_iast hx hb hK hP (c_D hq z) hS 13 0 rfl rfl hin hdg (fun H1 locs1 a _ b => kk H1 locs1 a b)
theorem cl_ops {i : Int32} (hx : p.tables.exec = Jvm.exec) (hb : c.code = cc) (hK : va_K D clA (tys3 cI cJ cZ) s) (hP : c_W D q cI cJ cZ z H) (hin : vp_in i 40) (hdg : decode cc pc = .ok (.iaload, 1)) (kk : W p l e R s m args below meth c H locs cells slots Q (F0 m (pc + 1) ls (.int (c_ops z i.toNatClampNeg) :: rest))) : W p l e R s m args below meth c H locs cells slots Q (F0 m pc ls (.int i :: .ref (q 14) :: rest)) :=
  va_iald hx hb hK hP 14 0 rfl rfl hin hdg kk
theorem cs_ops {i : Int32} (v : Int32) (hq : c_inj q) (hS : va_S (c_qs q) H0 H locs) (hx : p.tables.exec = Jvm.exec) (hb : c.code = cc) (hK : va_K D clA (tys3 cI cJ cZ) s) (hP : c_W D q cI cJ cZ z H) (hin : vp_in i 40) (hdg : decode cc pc = .ok (.iastore, 1)) (kk : ∀ (H1 : Heap) (locs1 : List Loc), c_W D q cI cJ cZ (c_ops_s z (upd (c_ops z) i.toNatClampNeg v)) H1 → va_S (c_qs q) H0 H1 locs1 → W p l e R s m args below meth c H1 locs1 cells slots Q (F0 m (pc + 1) ls rest)) : W p l e R s m args below meth c H locs cells slots Q (F0 m pc ls (.int v :: .int i :: .ref (q 14) :: rest)) :=
  va_iast hx hb hK hP (c_D hq z) hS 14 0 rfl rfl hin hdg (fun H1 locs1 a _ b => kk H1 locs1 a b)
theorem cl_dparts {i : Int32} (hx : p.tables.exec = Jvm.exec) (hb : c.code = cc) (hK : va_K D clA (tys3 cI cJ cZ) s) (hP : c_W D q cI cJ cZ z H) (hin : vp_in i 40) (hdg : decode cc pc = .ok (.iaload, 1)) (kk : W p l e R s m args below meth c H locs cells slots Q (F0 m (pc + 1) ls (.int (c_dparts z i.toNatClampNeg) :: rest))) : W p l e R s m args below meth c H locs cells slots Q (F0 m pc ls (.int i :: .ref (q 15) :: rest)) :=
  va_iald hx hb hK hP 15 0 rfl rfl hin hdg kk
theorem cs_dparts {i : Int32} (v : Int32) (hq : c_inj q) (hS : va_S (c_qs q) H0 H locs) (hx : p.tables.exec = Jvm.exec) (hb : c.code = cc) (hK : va_K D clA (tys3 cI cJ cZ) s) (hP : c_W D q cI cJ cZ z H) (hin : vp_in i 40) (hdg : decode cc pc = .ok (.iastore, 1)) (kk : ∀ (H1 : Heap) (locs1 : List Loc), c_W D q cI cJ cZ (c_dparts_s z (upd (c_dparts z) i.toNatClampNeg v)) H1 → va_S (c_qs q) H0 H1 locs1 → W p l e R s m args below meth c H1 locs1 cells slots Q (F0 m (pc + 1) ls rest)) : W p l e R s m args below meth c H locs cells slots Q (F0 m pc ls (.int v :: .int i :: .ref (q 15) :: rest)) :=
  va_iast hx hb hK hP (c_D hq z) hS 15 0 rfl rfl hin hdg (fun H1 locs1 a _ b => kk H1 locs1 a b)
theorem cl_nparts {i : Int32} (hx : p.tables.exec = Jvm.exec) (hb : c.code = cc) (hK : va_K D clA (tys3 cI cJ cZ) s) (hP : c_W D q cI cJ cZ z H) (hin : vp_in i 40) (hdg : decode cc pc = .ok (.iaload, 1)) (kk : W p l e R s m args below meth c H locs cells slots Q (F0 m (pc + 1) ls (.int (c_nparts z i.toNatClampNeg) :: rest))) : W p l e R s m args below meth c H locs cells slots Q (F0 m pc ls (.int i :: .ref (q 16) :: rest)) :=
  va_iald hx hb hK hP 16 0 rfl rfl hin hdg kk
theorem cs_nparts {i : Int32} (v : Int32) (hq : c_inj q) (hS : va_S (c_qs q) H0 H locs) (hx : p.tables.exec = Jvm.exec) (hb : c.code = cc) (hK : va_K D clA (tys3 cI cJ cZ) s) (hP : c_W D q cI cJ cZ z H) (hin : vp_in i 40) (hdg : decode cc pc = .ok (.iastore, 1)) (kk : ∀ (H1 : Heap) (locs1 : List Loc), c_W D q cI cJ cZ (c_nparts_s z (upd (c_nparts z) i.toNatClampNeg v)) H1 → va_S (c_qs q) H0 H1 locs1 → W p l e R s m args below meth c H1 locs1 cells slots Q (F0 m (pc + 1) ls rest)) : W p l e R s m args below meth c H locs cells slots Q (F0 m pc ls (.int v :: .int i :: .ref (q 16) :: rest)) :=
  va_iast hx hb hK hP (c_D hq z) hS 16 0 rfl rfl hin hdg (fun H1 locs1 a _ b => kk H1 locs1 a b)
theorem cl_locs {i : Int32} (hx : p.tables.exec = Jvm.exec) (hb : c.code = cc) (hK : va_K D clA (tys3 cI cJ cZ) s) (hP : c_W D q cI cJ cZ z H) (hin : vp_in i 40) (hdg : decode cc pc = .ok (.iaload, 1)) (kk : W p l e R s m args below meth c H locs cells slots Q (F0 m (pc + 1) ls (.int (c_locs z i.toNatClampNeg) :: rest))) : W p l e R s m args below meth c H locs cells slots Q (F0 m pc ls (.int i :: .ref (q 17) :: rest)) :=
  va_iald hx hb hK hP 17 0 rfl rfl hin hdg kk
theorem cs_locs {i : Int32} (v : Int32) (hq : c_inj q) (hS : va_S (c_qs q) H0 H locs) (hx : p.tables.exec = Jvm.exec) (hb : c.code = cc) (hK : va_K D clA (tys3 cI cJ cZ) s) (hP : c_W D q cI cJ cZ z H) (hin : vp_in i 40) (hdg : decode cc pc = .ok (.iastore, 1)) (kk : ∀ (H1 : Heap) (locs1 : List Loc), c_W D q cI cJ cZ (c_locs_s z (upd (c_locs z) i.toNatClampNeg v)) H1 → va_S (c_qs q) H0 H1 locs1 → W p l e R s m args below meth c H1 locs1 cells slots Q (F0 m (pc + 1) ls rest)) : W p l e R s m args below meth c H locs cells slots Q (F0 m pc ls (.int v :: .int i :: .ref (q 17) :: rest)) :=
  va_iast hx hb hK hP (c_D hq z) hS 17 0 rfl rfl hin hdg (fun H1 locs1 a _ b => kk H1 locs1 a b)
theorem cl_dat {i : Int32} (hx : p.tables.exec = Jvm.exec) (hb : c.code = cc) (hK : va_K D clA (tys3 cI cJ cZ) s) (hP : c_W D q cI cJ cZ z H) (hin : vp_in i 40) (hdg : decode cc pc = .ok (.iaload, 1)) (kk : W p l e R s m args below meth c H locs cells slots Q (F0 m (pc + 1) ls (.int (c_dat z i.toNatClampNeg) :: rest))) : W p l e R s m args below meth c H locs cells slots Q (F0 m pc ls (.int i :: .ref (q 18) :: rest)) :=
  va_iald hx hb hK hP 18 0 rfl rfl hin hdg kk
theorem cs_dat {i : Int32} (v : Int32) (hq : c_inj q) (hS : va_S (c_qs q) H0 H locs) (hx : p.tables.exec = Jvm.exec) (hb : c.code = cc) (hK : va_K D clA (tys3 cI cJ cZ) s) (hP : c_W D q cI cJ cZ z H) (hin : vp_in i 40) (hdg : decode cc pc = .ok (.iastore, 1)) (kk : ∀ (H1 : Heap) (locs1 : List Loc), c_W D q cI cJ cZ (c_dat_s z (upd (c_dat z) i.toNatClampNeg v)) H1 → va_S (c_qs q) H0 H1 locs1 → W p l e R s m args below meth c H1 locs1 cells slots Q (F0 m (pc + 1) ls rest)) : W p l e R s m args below meth c H locs cells slots Q (F0 m pc ls (.int v :: .int i :: .ref (q 18) :: rest)) :=
  va_iast hx hb hK hP (c_D hq z) hS 18 0 rfl rfl hin hdg (fun H1 locs1 a _ b => kk H1 locs1 a b)
theorem cl_nexts {i : Int32} (hx : p.tables.exec = Jvm.exec) (hb : c.code = cc) (hK : va_K D clA (tys3 cI cJ cZ) s) (hP : c_W D q cI cJ cZ z H) (hin : vp_in i 40) (hdg : decode cc pc = .ok (.iaload, 1)) (kk : W p l e R s m args below meth c H locs cells slots Q (F0 m (pc + 1) ls (.int (c_nexts z i.toNatClampNeg) :: rest))) : W p l e R s m args below meth c H locs cells slots Q (F0 m pc ls (.int i :: .ref (q 19) :: rest)) :=
  va_iald hx hb hK hP 19 0 rfl rfl hin hdg kk
theorem cs_nexts {i : Int32} (v : Int32) (hq : c_inj q) (hS : va_S (c_qs q) H0 H locs) (hx : p.tables.exec = Jvm.exec) (hb : c.code = cc) (hK : va_K D clA (tys3 cI cJ cZ) s) (hP : c_W D q cI cJ cZ z H) (hin : vp_in i 40) (hdg : decode cc pc = .ok (.iastore, 1)) (kk : ∀ (H1 : Heap) (locs1 : List Loc), c_W D q cI cJ cZ (c_nexts_s z (upd (c_nexts z) i.toNatClampNeg v)) H1 → va_S (c_qs q) H0 H1 locs1 → W p l e R s m args below meth c H1 locs1 cells slots Q (F0 m (pc + 1) ls rest)) : W p l e R s m args below meth c H locs cells slots Q (F0 m pc ls (.int v :: .int i :: .ref (q 19) :: rest)) :=
  va_iast hx hb hK hP (c_D hq z) hS 19 0 rfl rfl hin hdg (fun H1 locs1 a _ b => kk H1 locs1 a b)
theorem cl_syms {i : Int32} (hx : p.tables.exec = Jvm.exec) (hb : c.code = cc) (hK : va_K D clA (tys3 cI cJ cZ) s) (hP : c_W D q cI cJ cZ z H) (hin : vp_in i 20) (hdg : decode cc pc = .ok (.iaload, 1)) (kk : W p l e R s m args below meth c H locs cells slots Q (F0 m (pc + 1) ls (.int (c_syms z i.toNatClampNeg) :: rest))) : W p l e R s m args below meth c H locs cells slots Q (F0 m pc ls (.int i :: .ref (q 20) :: rest)) :=
  va_iald hx hb hK hP 20 0 rfl rfl hin hdg kk
theorem cs_syms {i : Int32} (v : Int32) (hq : c_inj q) (hS : va_S (c_qs q) H0 H locs) (hx : p.tables.exec = Jvm.exec) (hb : c.code = cc) (hK : va_K D clA (tys3 cI cJ cZ) s) (hP : c_W D q cI cJ cZ z H) (hin : vp_in i 20) (hdg : decode cc pc = .ok (.iastore, 1)) (kk : ∀ (H1 : Heap) (locs1 : List Loc), c_W D q cI cJ cZ (c_syms_s z (upd (c_syms z) i.toNatClampNeg v)) H1 → va_S (c_qs q) H0 H1 locs1 → W p l e R s m args below meth c H1 locs1 cells slots Q (F0 m (pc + 1) ls rest)) : W p l e R s m args below meth c H locs cells slots Q (F0 m pc ls (.int v :: .int i :: .ref (q 20) :: rest)) :=
  va_iast hx hb hK hP (c_D hq z) hS 20 0 rfl rfl hin hdg (fun H1 locs1 a _ b => kk H1 locs1 a b)
theorem cl_resv {i : Int32} (hx : p.tables.exec = Jvm.exec) (hb : c.code = cc) (hK : va_K D clA (tys3 cI cJ cZ) s) (hP : c_W D q cI cJ cZ z H) (hin : vp_in i 200) (hdg : decode cc pc = .ok (.baload, 1)) (kk : W p l e R s m args below meth c H locs cells slots Q (F0 m (pc + 1) ls (.int (bb (c_resv z i.toNatClampNeg)) :: rest))) : W p l e R s m args below meth c H locs cells slots Q (F0 m pc ls (.int i :: .ref (q 21) :: rest)) :=
  va_zald hx hb hK hP 21 2 rfl rfl hin hdg kk
theorem cs_resv {i : Int32} (v : Bool) (hq : c_inj q) (hS : va_S (c_qs q) H0 H locs) (hx : p.tables.exec = Jvm.exec) (hb : c.code = cc) (hK : va_K D clA (tys3 cI cJ cZ) s) (hP : c_W D q cI cJ cZ z H) (hin : vp_in i 200) (hdg : decode cc pc = .ok (.bastore, 1)) (kk : ∀ (H1 : Heap) (locs1 : List Loc), c_W D q cI cJ cZ (c_resv_s z (updB (c_resv z) i.toNatClampNeg v)) H1 → va_S (c_qs q) H0 H1 locs1 → W p l e R s m args below meth c H1 locs1 cells slots Q (F0 m (pc + 1) ls rest)) : W p l e R s m args below meth c H locs cells slots Q (F0 m pc ls (.int (bb v) :: .int i :: .ref (q 21) :: rest)) :=
  va_zast hx hb hK hP (c_D hq z) hS 21 2 rfl rfl hin hdg (fun H1 locs1 a _ b => kk H1 locs1 (by rw [updB_eq] at a; exact a) b)
theorem cl_taken {i : Int32} (hx : p.tables.exec = Jvm.exec) (hb : c.code = cc) (hK : va_K D clA (tys3 cI cJ cZ) s) (hP : c_W D q cI cJ cZ z H) (hin : vp_in i 200) (hdg : decode cc pc = .ok (.baload, 1)) (kk : W p l e R s m args below meth c H locs cells slots Q (F0 m (pc + 1) ls (.int (bb (c_taken z i.toNatClampNeg)) :: rest))) : W p l e R s m args below meth c H locs cells slots Q (F0 m pc ls (.int i :: .ref (q 22) :: rest)) :=
  va_zald hx hb hK hP 22 2 rfl rfl hin hdg kk
theorem cs_taken {i : Int32} (v : Bool) (hq : c_inj q) (hS : va_S (c_qs q) H0 H locs) (hx : p.tables.exec = Jvm.exec) (hb : c.code = cc) (hK : va_K D clA (tys3 cI cJ cZ) s) (hP : c_W D q cI cJ cZ z H) (hin : vp_in i 200) (hdg : decode cc pc = .ok (.bastore, 1)) (kk : ∀ (H1 : Heap) (locs1 : List Loc), c_W D q cI cJ cZ (c_taken_s z (updB (c_taken z) i.toNatClampNeg v)) H1 → va_S (c_qs q) H0 H1 locs1 → W p l e R s m args below meth c H1 locs1 cells slots Q (F0 m (pc + 1) ls rest)) : W p l e R s m args below meth c H locs cells slots Q (F0 m pc ls (.int (bb v) :: .int i :: .ref (q 22) :: rest)) :=
  va_zast hx hb hK hP (c_D hq z) hS 22 2 rfl rfl hin hdg (fun H1 locs1 a _ b => kk H1 locs1 (by rw [updB_eq] at a; exact a) b)
end
end
section
theorem dDg_fitWord_0 : decode ccDg_fitWord 0 = .ok (.lload_n 0, 1) := by decide +kernel
theorem dDg_fitWord_1 : decode ccDg_fitWord 1 = .ok (.lconst 0, 1) := by decide +kernel
theorem dDg_fitWord_2 : decode ccDg_fitWord 2 = .ok (.lcmp, 1) := by decide +kernel
theorem dDg_fitWord_3 : decode ccDg_fitWord 3 = .ok (.ifCond .lt 15, 3) := by decide +kernel
theorem dDg_fitWord_6 : decode ccDg_fitWord 6 = .ok (.lload_n 0, 1) := by decide +kernel
theorem dDg_fitWord_7 : decode ccDg_fitWord 7 = .ok (.ldc2_w 9, 3) := by decide +kernel
theorem dDg_fitWord_10 : decode ccDg_fitWord 10 = .ok (.lcmp, 1) := by decide +kernel
theorem dDg_fitWord_11 : decode ccDg_fitWord 11 = .ok (.ifCond .ge 7, 3) := by decide +kernel
theorem dDg_fitWord_14 : decode ccDg_fitWord 14 = .ok (.iconst 1, 1) := by decide +kernel
theorem dDg_fitWord_15 : decode ccDg_fitWord 15 = .ok (.goto 4, 3) := by decide +kernel
theorem dDg_fitWord_18 : decode ccDg_fitWord 18 = .ok (.iconst 0, 1) := by decide +kernel
theorem dDg_fitWord_19 : decode ccDg_fitWord 19 = .ok (.ireturn, 1) := by decide +kernel
def fDg_fitWord (v : Int64) : Bool :=
  (if v < 0 then false else (if 10000000000 ≤ v then false else true))
set_option maxHeartbeats 4000000 in
set_option maxRecDepth 100000 in
theorem kDg_fitWord (l : Launch) (v : Int64)  : Met l yDg_fitWord wsDg_fitWord { frames := 0, cells := 0, slots := 0, locals := 0 } (va_Pc [.long (v)] (fun _ => True)) (cQr (some (.int (bb (fDg_fitWord v))))) 0 0 (fun _ => False) := by
  refine Met.ofW (cc := ccDg_fitWord) (maxL := 2) (ret := (some .boolean)) (by decide +kernel) rfl ?_
  intro p e s m args below meth c s₁ B hml hv
  obtain ⟨rfl, -⟩ := hv
  have hx := B.exec
  have hb := B.bytes
  have hr := B.returns
  have hts := atoms_spec (ws := wsDg_fitWord) B.pre
  have hown : s.vm.findClass RDg = some m.cls := findClass_of_methodNamed B.named
  have hlocks := B.notSynchronized
  have w0 := hts (.constantLong RDg 9 (10000000000)) (List.mem_cons_of_mem _ wm2_83)
  have hl := lv_entry ([.long (v)]) (n := 2) (Nat.le_of_ble_eq_true rfl)
  rw [lg_entry_eq]
  generalize (lg_sl ([.long (v)]) ++ List.replicate (2 - (lg_sl ([.long (v)])).length) Slot.unset).toArray = ls at hl ⊢
  have hl : lv_has ls 2 [(0, .long (v))] := hl
  have hR := fDg_fitWord.eq_1 v
  refine lv_lload_n hx hb dDg_fitWord_0 rfl (lv_at hl 0 rfl) ?_
  refine lv_lconst (v := 0) hx hb dDg_fitWord_1 (by decide) ?_
  refine lc_lt hx hb dDg_fitWord_2 dDg_fitWord_3 rfl (fun h2 => ?_) (fun h2 => ?_)
  · have hR := hR.trans (if_pos h2)
    refine lv_iconst (v := 0) hx hb dDg_fitWord_18 (by decide) ?_
    exact W.zret hx hb hr rfl (fun t ht _ => ⟨by rw [hR]; first | done | rfl, ht⟩) (fun _ h => absurd h List.not_mem_nil) dDg_fitWord_19
  · have hR := hR.trans (if_neg h2)
    refine lv_lload_n hx hb dDg_fitWord_6 rfl (lv_at hl 0 rfl) ?_
    refine lv_ldc2 (v := 10000000000) hx hb hown w0 dDg_fitWord_7 ?_
    refine lc_ge hx hb dDg_fitWord_10 dDg_fitWord_11 rfl (fun h10 => ?_) (fun h10 => ?_)
    · have hR := hR.trans (if_pos h10)
      refine lv_iconst (v := 0) hx hb dDg_fitWord_18 (by decide) ?_
      exact W.zret hx hb hr rfl (fun t ht _ => ⟨by rw [hR]; first | done | rfl, ht⟩) (fun _ h => absurd h List.not_mem_nil) dDg_fitWord_19
    · have hR := hR.trans (if_neg h10)
      refine lv_iconst (v := 1) hx hb dDg_fitWord_14 (by decide) ?_
      refine lv_goto hx hb dDg_fitWord_15 rfl ?_
      exact W.zret hx hb hr rfl (fun t ht _ => ⟨by rw [hR]; first | done | rfl, ht⟩) (fun _ h => absurd h List.not_mem_nil) dDg_fitWord_19
theorem dDg_withSign_0 : decode ccDg_withSign 0 = .ok (.iload_n 2, 1) := by decide +kernel
theorem dDg_withSign_1 : decode ccDg_withSign 1 = .ok (.ifCond .eq 8, 3) := by decide +kernel
theorem dDg_withSign_4 : decode ccDg_withSign 4 = .ok (.lload_n 0, 1) := by decide +kernel
theorem dDg_withSign_5 : decode ccDg_withSign 5 = .ok (.lneg, 1) := by decide +kernel
theorem dDg_withSign_6 : decode ccDg_withSign 6 = .ok (.goto 4, 3) := by decide +kernel
theorem dDg_withSign_9 : decode ccDg_withSign 9 = .ok (.lload_n 0, 1) := by decide +kernel
theorem dDg_withSign_10 : decode ccDg_withSign 10 = .ok (.lreturn, 1) := by decide +kernel
def fDg_withSign (v : Int64) (b : Bool) : Int64 :=
  (if b = true then -v else v)
set_option maxHeartbeats 4000000 in
set_option maxRecDepth 100000 in
theorem kDg_withSign (l : Launch) (v : Int64) (b : Bool)  : Met l yDg_withSign wsDg_withSign { frames := 0, cells := 0, slots := 0, locals := 0 } (va_Pc [.long (v), .int (bb (b))] (fun _ => True)) (cQr (some (.long (fDg_withSign v b)))) 0 0 (fun _ => False) := by
  refine Met.ofW (cc := ccDg_withSign) (maxL := 3) (ret := (some .long)) (by decide +kernel) rfl ?_
  intro p e s m args below meth c s₁ B hml hv
  obtain ⟨rfl, -⟩ := hv
  have hx := B.exec
  have hb := B.bytes
  have hr := B.returns
  have hts := atoms_spec (ws := wsDg_withSign) B.pre
  have hown : s.vm.findClass RDg = some m.cls := findClass_of_methodNamed B.named
  have hlocks := B.notSynchronized
  have hl := lv_entry ([.long (v), .int (bb (b))]) (n := 3) (Nat.le_of_ble_eq_true rfl)
  rw [lg_entry_eq]
  generalize (lg_sl ([.long (v), .int (bb (b))]) ++ List.replicate (3 - (lg_sl ([.long (v), .int (bb (b))])).length) Slot.unset).toArray = ls at hl ⊢
  have hl : lv_has ls 3 [(0, .long (v)), (2, .int (bb (b)))] := hl
  have hR := fDg_withSign.eq_1 v b
  refine lv_iload_n hx hb dDg_withSign_0 rfl (lv_at hl 1 rfl) ?_
  refine wz_ifeq hx hb dDg_withSign_1 rfl (fun h1 => ?_) (fun h1 => ?_)
  · have hR := hR.trans (if_neg h1)
    refine lv_lload_n hx hb dDg_withSign_9 rfl (lv_at hl 0 rfl) ?_
    exact W.lret hx hb hr (fun t ht _ => ⟨by rw [hR]; first | done | rfl, ht⟩) (fun _ h => absurd h List.not_mem_nil) dDg_withSign_10
  · have hR := hR.trans (if_pos h1)
    refine lv_lload_n hx hb dDg_withSign_4 rfl (lv_at hl 0 rfl) ?_
    refine lv_lneg hx hb dDg_withSign_5 ?_
    refine lv_goto hx hb dDg_withSign_6 rfl ?_
    exact W.lret hx hb hr (fun t ht _ => ⟨by rw [hR]; first | done | rfl, ht⟩) (fun _ h => absurd h List.not_mem_nil) dDg_withSign_10
theorem dDg_powerOfTen_0 : decode ccDg_powerOfTen 0 = .ok (.lconst 1, 1) := by decide +kernel
theorem dDg_powerOfTen_1 : decode ccDg_powerOfTen 1 = .ok (.lstore_n 1, 1) := by decide +kernel
theorem dDg_powerOfTen_2 : decode ccDg_powerOfTen 2 = .ok (.iconst 0, 1) := by decide +kernel
theorem dDg_powerOfTen_3 : decode ccDg_powerOfTen 3 = .ok (.istore_n 3, 1) := by decide +kernel
theorem dDg_powerOfTen_4 : decode ccDg_powerOfTen 4 = .ok (.iload_n 3, 1) := by decide +kernel
theorem dDg_powerOfTen_5 : decode ccDg_powerOfTen 5 = .ok (.iload_n 0, 1) := by decide +kernel
theorem dDg_powerOfTen_6 : decode ccDg_powerOfTen 6 = .ok (.if_icmp .ge 21, 3) := by decide +kernel
theorem dDg_powerOfTen_9 : decode ccDg_powerOfTen 9 = .ok (.iload_n 3, 1) := by decide +kernel
theorem dDg_powerOfTen_10 : decode ccDg_powerOfTen 10 = .ok (.bipush 10, 2) := by decide +kernel
theorem dDg_powerOfTen_12 : decode ccDg_powerOfTen 12 = .ok (.if_icmp .ge 15, 3) := by decide +kernel
theorem dDg_powerOfTen_15 : decode ccDg_powerOfTen 15 = .ok (.lload_n 1, 1) := by decide +kernel
theorem dDg_powerOfTen_16 : decode ccDg_powerOfTen 16 = .ok (.ldc2_w 11, 3) := by decide +kernel
theorem dDg_powerOfTen_19 : decode ccDg_powerOfTen 19 = .ok (.lmul, 1) := by decide +kernel
theorem dDg_powerOfTen_20 : decode ccDg_powerOfTen 20 = .ok (.lstore_n 1, 1) := by decide +kernel
theorem dDg_powerOfTen_21 : decode ccDg_powerOfTen 21 = .ok (.iinc 3 1, 3) := by decide +kernel
theorem dDg_powerOfTen_24 : decode ccDg_powerOfTen 24 = .ok (.goto (-20), 3) := by decide +kernel
theorem dDg_powerOfTen_27 : decode ccDg_powerOfTen 27 = .ok (.lload_n 1, 1) := by decide +kernel
theorem dDg_powerOfTen_28 : decode ccDg_powerOfTen 28 = .ok (.lreturn, 1) := by decide +kernel
def fDg_powerOfTen_4  : Nat → Int32 → Int64 → Nat → Int64
  | 0, x, v1, v3 => 0
  | fu + 1, x, v1, v3 => (if x ≤ (nI (v3)) then v1 else (if 10 ≤ v3 then v1 else fDg_powerOfTen_4 fu x (v1 * 10) (v3 + 1)))
def fDg_powerOfTen (x : Int32) : Int64 :=
  fDg_powerOfTen_4 11 x 1 0
set_option maxHeartbeats 4000000 in
set_option maxRecDepth 100000 in
theorem kDg_powerOfTen (l : Launch) (x : Int32)  : Met l yDg_powerOfTen wsDg_powerOfTen { frames := 0, cells := 0, slots := 0, locals := 0 } (va_Pc [.int (x)] (fun _ => True)) (cQr (some (.long (fDg_powerOfTen x)))) 0 0 (fun _ => False) := by
  refine Met.ofW (cc := ccDg_powerOfTen) (maxL := 4) (ret := (some .long)) (by decide +kernel) rfl ?_
  intro p e s m args below meth c s₁ B hml hv
  obtain ⟨rfl, -⟩ := hv
  have hx := B.exec
  have hb := B.bytes
  have hr := B.returns
  have hts := atoms_spec (ws := wsDg_powerOfTen) B.pre
  have hown : s.vm.findClass RDg = some m.cls := findClass_of_methodNamed B.named
  have hlocks := B.notSynchronized
  have w0 := hts (.constantLong RDg 11 (10)) (List.mem_cons_of_mem _ wm3_173)
  have hl := lv_entry ([.int (x)]) (n := 4) (Nat.le_of_ble_eq_true rfl)
  rw [lg_entry_eq]
  generalize (lg_sl ([.int (x)]) ++ List.replicate (4 - (lg_sl ([.int (x)])).length) Slot.unset).toArray = ls at hl ⊢
  have hl : lv_has ls 4 [(0, .int (x))] := hl
  have hB4 : ∀ (n4 : Nat) (ls : Array Slot) (v1 : Int64) (v3 : Nat), 10 - v3 < n4 → fDg_powerOfTen x = fDg_powerOfTen_4 n4 x v1 v3 → v3 ≤ 10 → lv_has ls 4 [(0, .int (x)), (1, .long (v1)), (3, .int (nI (v3)))] → W p l e (headSpec wsDg_powerOfTen { frames := 0, cells := 0, slots := 0, locals := 0 }).room s m ([.int (x)] : List Value).toArray below meth c s.heap [] 0 0 (MQ below (cQr (some (.long (fDg_powerOfTen x)))) ([.int (x)] : List Value).toArray s 0 0 (fun _ => False)) (F0 m 4 ls []) := by
    intro n4
    induction n4 with
    | zero => intro ls v1 v3 hn4; exact absurd hn4 (Nat.not_lt_zero _)
    | succ n4 ih4 =>
      intro ls v1 v3 hn4 hR h3 hl
      rw [fDg_powerOfTen_4.eq_2] at hR
      refine lv_iload_n hx hb dDg_powerOfTen_4 rfl (lv_at hl 2 rfl) ?_
      refine lv_iload_n hx hb dDg_powerOfTen_5 rfl (lv_at hl 0 rfl) ?_
      refine lv_icmp_ge hx hb dDg_powerOfTen_6 rfl (fun h6 => ?_) (fun h6 => ?_)
      · have hR := hR.trans (if_pos h6)
        refine lv_lload_n hx hb dDg_powerOfTen_27 rfl (lv_at hl 1 rfl) ?_
        exact W.lret hx hb hr (fun t ht _ => ⟨by rw [hR]; first | done | rfl, ht⟩) (fun _ h => absurd h List.not_mem_nil) dDg_powerOfTen_28
      · have hR := hR.trans (if_neg h6)
        refine lv_iload_n hx hb dDg_powerOfTen_9 rfl (lv_at hl 2 rfl) ?_
        refine lv_bipush (v := 10) hx hb dDg_powerOfTen_10 (by decide) ?_
        refine wn_ge (x := v3) (y := 10) hx hb (by omega) (by omega) dDg_powerOfTen_12 rfl (fun h12 => ?_) (fun h12 => ?_)
        · have hR := hR.trans (if_pos h12)
          refine lv_lload_n hx hb dDg_powerOfTen_27 rfl (lv_at hl 1 rfl) ?_
          exact W.lret hx hb hr (fun t ht _ => ⟨by rw [hR]; first | done | rfl, ht⟩) (fun _ h => absurd h List.not_mem_nil) dDg_powerOfTen_28
        · have hR := hR.trans (if_neg h12)
          refine lv_lload_n hx hb dDg_powerOfTen_15 rfl (lv_at hl 1 rfl) ?_
          refine lv_ldc2 (v := 10) hx hb hown w0 dDg_powerOfTen_16 ?_
          refine lv_lmul hx hb dDg_powerOfTen_19 ?_
          refine lv_lstore_n (lv' := [(1, .long (v1 * 10)), (0, .int (x)), (3, .int (nI (v3)))]) hx hb dDg_powerOfTen_20 rfl hl (by decide) rfl (fun ls hl => ?_)
          refine lv_iinc (k := 2) (lv' := [(3, .int (nI (v3 + 1))), (1, .long (v1 * 10)), (0, .int (x))]) hx hb dDg_powerOfTen_21 hl rfl (nI_1 _) (by decide) rfl (fun ls hl => ?_)
          refine lv_goto hx hb dDg_powerOfTen_24 rfl ?_
          exact ih4 ls (v1 * 10) (v3 + 1) (by omega) hR (by first | assumption | omega) (lv_sub hl [2, 1, 0] rfl)
  have hR := fDg_powerOfTen.eq_1 x
  refine lv_lconst (v := 1) hx hb dDg_powerOfTen_0 (by decide) ?_
  refine lv_lstore_n (lv' := [(1, .long (1)), (0, .int (x))]) hx hb dDg_powerOfTen_1 rfl hl (by decide) rfl (fun ls hl => ?_)
  refine lv_iconst (v := 0) hx hb dDg_powerOfTen_2 (by decide) ?_
  refine lv_istore_n (lv' := [(3, .int (nI (0))), (1, .long (1)), (0, .int (x))]) hx hb dDg_powerOfTen_3 rfl hl (by decide) rfl (fun ls hl => ?_)
  exact hB4 11 ls 1 0 (by omega) hR (by first | assumption | omega) (lv_sub hl [2, 1, 0] rfl)
theorem pow_loop (x : Int32) : ∀ (n : Nat) (v1 : Int64) (v3 : Nat), v3 ≤ 10 → 10 - v3 < n → v1.toInt = 10 ^ v3 → v3 ≤ x.toInt.toNat → (fDg_powerOfTen_4 n x v1 v3).toInt = 10 ^ (min x.toInt.toNat 10) := by
  intro n
  induction n with
  | zero => intro v1 v3 _ h; omega
  | succ n ih =>
    intro v1 v3 h3 hn h1 hx
    rw [fDg_powerOfTen_4.eq_2]
    by_cases hc : x ≤ nI v3
    · rw [if_pos hc, h1]
      rw [Int32.le_iff_toInt_le, nI_toInt (by omega)] at hc
      have e : v3 = min x.toInt.toNat 10 := by omega
      rw [← e]
    · rw [if_neg hc]
      rw [Int32.le_iff_toInt_le, nI_toInt (by omega)] at hc
      by_cases h10 : 10 ≤ v3
      · rw [if_pos h10, h1]
        have e : v3 = min x.toInt.toNat 10 := by omega
        rw [← e]
      · rw [if_neg h10]
        refine ih _ _ (by omega) (by omega) ?_ (by omega)
        have h9 : v3 = 0 ∨ v3 = 1 ∨ v3 = 2 ∨ v3 = 3 ∨ v3 = 4 ∨ v3 = 5 ∨ v3 = 6 ∨ v3 = 7 ∨ v3 = 8 ∨ v3 = 9 := by omega
        have e10 : (10 : Int64).toInt = 10 := by decide
        rcases h9 with rfl | rfl | rfl | rfl | rfl | rfl | rfl | rfl | rfl | rfl <;> (rw [Kit.i64_mul (by rw [h1, e10]; decide) (by rw [h1, e10]; decide), h1, e10]; decide)
theorem pow_val (x : Int32) : (fDg_powerOfTen x).toInt = 10 ^ (min x.toInt.toNat 10) := by
  rw [fDg_powerOfTen.eq_1]
  exact pow_loop x 11 1 0 (by omega) (by omega) (by decide) (by omega)
theorem f_pow_ne (x : Int32) : ¬ fDg_powerOfTen x = 0 := by
  intro h
  have h1 := pow_val x
  rw [h] at h1
  have h2 : (0 : Int64).toInt = 0 := by decide
  rw [h2] at h1
  have h3 : min x.toInt.toNat 10 ≤ 10 := by omega
  generalize min x.toInt.toNat 10 = k at h1 h3
  have h9 : k = 0 ∨ k = 1 ∨ k = 2 ∨ k = 3 ∨ k = 4 ∨ k = 5 ∨ k = 6 ∨ k = 7 ∨ k = 8 ∨ k = 9 ∨ k = 10 := by omega
  rcases h9 with rfl | rfl | rfl | rfl | rfl | rfl | rfl | rfl | rfl | rfl | rfl <;> (revert h1; decide)
theorem dDg_digitAt_0 : decode ccDg_digitAt 0 = .ok (.lload_n 0, 1) := by decide +kernel
theorem dDg_digitAt_1 : decode ccDg_digitAt 1 = .ok (.iload_n 2, 1) := by decide +kernel
theorem dDg_digitAt_2 : decode ccDg_digitAt 2 = .ok (.invokestatic 13, 3) := by decide +kernel
theorem dDg_digitAt_5 : decode ccDg_digitAt 5 = .ok (.ldiv, 1) := by decide +kernel
theorem dDg_digitAt_6 : decode ccDg_digitAt 6 = .ok (.ldc2_w 11, 3) := by decide +kernel
theorem dDg_digitAt_9 : decode ccDg_digitAt 9 = .ok (.lrem, 1) := by decide +kernel
theorem dDg_digitAt_10 : decode ccDg_digitAt 10 = .ok (.l2i, 1) := by decide +kernel
theorem dDg_digitAt_11 : decode ccDg_digitAt 11 = .ok (.ireturn, 1) := by decide +kernel
def fDg_digitAt (v : Int64) (i : Int32) : Int32 :=
  ((v / (fDg_powerOfTen i)) % 10).toInt32
set_option maxHeartbeats 4000000 in
set_option maxRecDepth 100000 in
theorem kDg_digitAt (l : Launch) (v : Int64) (i : Int32)  : Met l yDg_digitAt wsDg_digitAt { frames := 1, cells := 0, slots := 0, locals := 23 } (va_Pc [.long (v), .int (i)] (fun _ => True)) (cQr (some (.int (fDg_digitAt v i)))) 0 0 (fun _ => False) := by
  refine Met.ofW (cc := ccDg_digitAt) (maxL := 3) (ret := (some .int)) (by decide +kernel) rfl ?_
  intro p e s m args below meth c s₁ B hml hv
  obtain ⟨rfl, -⟩ := hv
  have hx := B.exec
  have hb := B.bytes
  have hr := B.returns
  have hts := atoms_spec (ws := wsDg_digitAt) B.pre
  have hown : s.vm.findClass RDg = some m.cls := findClass_of_methodNamed B.named
  have hlocks := B.notSynchronized
  have w0 := hts (.constantLong RDg 11 (10)) (List.mem_cons_of_mem _ wm3_173)
  have hl := lv_entry ([.long (v), .int (i)]) (n := 3) (Nat.le_of_ble_eq_true rfl)
  rw [lg_entry_eq]
  generalize (lg_sl ([.long (v), .int (i)]) ++ List.replicate (3 - (lg_sl ([.long (v), .int (i)])).length) Slot.unset).toArray = ls at hl ⊢
  have hl : lv_has ls 3 [(0, .long (v)), (2, .int (i))] := hl
  have hR := fDg_digitAt.eq_1 v i
  refine lv_lload_n hx hb dDg_digitAt_0 rfl (lv_at hl 0 rfl) ?_
  refine lv_iload_n hx hb dDg_digitAt_1 rfl (lv_at hl 1 rfl) ?_
  refine cl_rd (W.runS (As := [.int (i)]) (rest := [.long (v)]) ⟨hx, hb, hml, hown, hts⟩ (kDg_powerOfTen l i) (va_cwS 1 hts (gS wm3_185 wm3_171 wm1_14 wm3_172) rfl rfl rfl (by decide +kernel) ⟨Nat.le_of_ble_eq_true rfl, Nat.le_of_ble_eq_true rfl⟩) (preT) rfl rfl hl.1 rfl (lv_room (Nat.le_of_ble_eq_true rfl)) dDg_digitAt_2 ⟨Nat.le_refl _, Nat.le_refl _⟩) ?_
  refine lv_ldiv hx hb dDg_digitAt_5 (f_pow_ne i) ?_
  refine lv_ldc2 (v := 10) hx hb hown w0 dDg_digitAt_6 ?_
  refine lm_lrem hx hb dDg_digitAt_9 (by decide) ?_
  refine lv_l2i hx hb dDg_digitAt_10 rfl ?_
  exact W.iret hx hb hr (fun t ht _ => ⟨by rw [hR]; first | done | rfl, ht⟩) (fun _ h => absurd h List.not_mem_nil) dDg_digitAt_11
theorem dDg_sum_0 : decode ccDg_sum 0 = .ok (.iconst 0, 1) := by decide +kernel
theorem dDg_sum_1 : decode ccDg_sum 1 = .ok (.istore_n 2, 1) := by decide +kernel
theorem dDg_sum_2 : decode ccDg_sum 2 = .ok (.lload_n 0, 1) := by decide +kernel
theorem dDg_sum_3 : decode ccDg_sum 3 = .ok (.lstore_n 3, 1) := by decide +kernel
theorem dDg_sum_4 : decode ccDg_sum 4 = .ok (.iconst 0, 1) := by decide +kernel
theorem dDg_sum_5 : decode ccDg_sum 5 = .ok (.istore 5, 2) := by decide +kernel
theorem dDg_sum_7 : decode ccDg_sum 7 = .ok (.iload 5, 2) := by decide +kernel
theorem dDg_sum_9 : decode ccDg_sum 9 = .ok (.bipush 10, 2) := by decide +kernel
theorem dDg_sum_11 : decode ccDg_sum 11 = .ok (.if_icmp .ge 24, 3) := by decide +kernel
theorem dDg_sum_14 : decode ccDg_sum 14 = .ok (.iload_n 2, 1) := by decide +kernel
theorem dDg_sum_15 : decode ccDg_sum 15 = .ok (.lload_n 3, 1) := by decide +kernel
theorem dDg_sum_16 : decode ccDg_sum 16 = .ok (.ldc2_w 11, 3) := by decide +kernel
theorem dDg_sum_19 : decode ccDg_sum 19 = .ok (.lrem, 1) := by decide +kernel
theorem dDg_sum_20 : decode ccDg_sum 20 = .ok (.l2i, 1) := by decide +kernel
theorem dDg_sum_21 : decode ccDg_sum 21 = .ok (.iadd, 1) := by decide +kernel
theorem dDg_sum_22 : decode ccDg_sum 22 = .ok (.istore_n 2, 1) := by decide +kernel
theorem dDg_sum_23 : decode ccDg_sum 23 = .ok (.lload_n 3, 1) := by decide +kernel
theorem dDg_sum_24 : decode ccDg_sum 24 = .ok (.ldc2_w 11, 3) := by decide +kernel
theorem dDg_sum_27 : decode ccDg_sum 27 = .ok (.ldiv, 1) := by decide +kernel
theorem dDg_sum_28 : decode ccDg_sum 28 = .ok (.lstore_n 3, 1) := by decide +kernel
theorem dDg_sum_29 : decode ccDg_sum 29 = .ok (.iinc 5 1, 3) := by decide +kernel
theorem dDg_sum_32 : decode ccDg_sum 32 = .ok (.goto (-25), 3) := by decide +kernel
theorem dDg_sum_35 : decode ccDg_sum 35 = .ok (.iload_n 2, 1) := by decide +kernel
theorem dDg_sum_36 : decode ccDg_sum 36 = .ok (.ireturn, 1) := by decide +kernel
def fDg_sum_7  : Nat → Int32 → Int64 → Nat → Int32
  | 0, v2, v3, v5 => 0
  | fu + 1, v2, v3, v5 => (if 10 ≤ v5 then v2 else fDg_sum_7 fu (v2 + ((v3 % 10).toInt32)) (v3 / 10) (v5 + 1))
def fDg_sum (v : Int64) : Int32 :=
  fDg_sum_7 11 0 v 0
set_option maxHeartbeats 4000000 in
set_option maxRecDepth 100000 in
theorem kDg_sum (l : Launch) (v : Int64)  : Met l yDg_sum wsDg_sum { frames := 0, cells := 0, slots := 0, locals := 0 } (va_Pc [.long (v)] (fun _ => True)) (cQr (some (.int (fDg_sum v)))) 0 0 (fun _ => False) := by
  refine Met.ofW (cc := ccDg_sum) (maxL := 6) (ret := (some .int)) (by decide +kernel) rfl ?_
  intro p e s m args below meth c s₁ B hml hv
  obtain ⟨rfl, -⟩ := hv
  have hx := B.exec
  have hb := B.bytes
  have hr := B.returns
  have hts := atoms_spec (ws := wsDg_sum) B.pre
  have hown : s.vm.findClass RDg = some m.cls := findClass_of_methodNamed B.named
  have hlocks := B.notSynchronized
  have w0 := hts (.constantLong RDg 11 (10)) (List.mem_cons_of_mem _ wm3_173)
  have hl := lv_entry ([.long (v)]) (n := 6) (Nat.le_of_ble_eq_true rfl)
  rw [lg_entry_eq]
  generalize (lg_sl ([.long (v)]) ++ List.replicate (6 - (lg_sl ([.long (v)])).length) Slot.unset).toArray = ls at hl ⊢
  have hl : lv_has ls 6 [(0, .long (v))] := hl
  have hB7 : ∀ (n7 : Nat) (ls : Array Slot) (v2 : Int32) (v3 : Int64) (v5 : Nat), 10 - v5 < n7 → fDg_sum v = fDg_sum_7 n7 v2 v3 v5 → v5 ≤ 10 → lv_has ls 6 [(2, .int (v2)), (3, .long (v3)), (5, .int (nI (v5)))] → W p l e (headSpec wsDg_sum { frames := 0, cells := 0, slots := 0, locals := 0 }).room s m ([.long (v)] : List Value).toArray below meth c s.heap [] 0 0 (MQ below (cQr (some (.int (fDg_sum v)))) ([.long (v)] : List Value).toArray s 0 0 (fun _ => False)) (F0 m 7 ls []) := by
    intro n7
    induction n7 with
    | zero => intro ls v2 v3 v5 hn7; exact absurd hn7 (Nat.not_lt_zero _)
    | succ n7 ih7 =>
      intro ls v2 v3 v5 hn7 hR h5 hl
      rw [fDg_sum_7.eq_2] at hR
      refine lv_iload hx hb dDg_sum_7 (lv_at hl 2 rfl) ?_
      refine lv_bipush (v := 10) hx hb dDg_sum_9 (by decide) ?_
      refine wn_ge (x := v5) (y := 10) hx hb (by omega) (by omega) dDg_sum_11 rfl (fun h11 => ?_) (fun h11 => ?_)
      · have hR := hR.trans (if_pos h11)
        refine lv_iload_n hx hb dDg_sum_35 rfl (lv_at hl 0 rfl) ?_
        exact W.iret hx hb hr (fun t ht _ => ⟨by rw [hR]; first | done | rfl, ht⟩) (fun _ h => absurd h List.not_mem_nil) dDg_sum_36
      · have hR := hR.trans (if_neg h11)
        refine lv_iload_n hx hb dDg_sum_14 rfl (lv_at hl 0 rfl) ?_
        refine lv_lload_n hx hb dDg_sum_15 rfl (lv_at hl 1 rfl) ?_
        refine lv_ldc2 (v := 10) hx hb hown w0 dDg_sum_16 ?_
        refine lm_lrem hx hb dDg_sum_19 (by decide) ?_
        refine lv_l2i hx hb dDg_sum_20 rfl ?_
        refine lv_iadd hx hb dDg_sum_21 ?_
        refine lv_istore_n (lv' := [(2, .int (v2 + ((v3 % 10).toInt32))), (3, .long (v3)), (5, .int (nI (v5)))]) hx hb dDg_sum_22 rfl hl (by decide) rfl (fun ls hl => ?_)
        refine lv_lload_n hx hb dDg_sum_23 rfl (lv_at hl 1 rfl) ?_
        refine lv_ldc2 (v := 10) hx hb hown w0 dDg_sum_24 ?_
        refine lv_ldiv hx hb dDg_sum_27 (by decide) ?_
        refine lv_lstore_n (lv' := [(3, .long (v3 / 10)), (2, .int (v2 + ((v3 % 10).toInt32))), (5, .int (nI (v5)))]) hx hb dDg_sum_28 rfl hl (by decide) rfl (fun ls hl => ?_)
        refine lv_iinc (k := 2) (lv' := [(5, .int (nI (v5 + 1))), (3, .long (v3 / 10)), (2, .int (v2 + ((v3 % 10).toInt32)))]) hx hb dDg_sum_29 hl rfl (nI_1 _) (by decide) rfl (fun ls hl => ?_)
        refine lv_goto hx hb dDg_sum_32 rfl ?_
        exact ih7 ls (v2 + ((v3 % 10).toInt32)) (v3 / 10) (v5 + 1) (by omega) hR (by first | assumption | omega) (lv_sub hl [2, 1, 0] rfl)
  have hR := fDg_sum.eq_1 v
  refine lv_iconst (v := 0) hx hb dDg_sum_0 (by decide) ?_
  refine lv_istore_n (lv' := [(2, .int (0)), (0, .long (v))]) hx hb dDg_sum_1 rfl hl (by decide) rfl (fun ls hl => ?_)
  refine lv_lload_n hx hb dDg_sum_2 rfl (lv_at hl 1 rfl) ?_
  refine lv_lstore_n (lv' := [(3, .long (v)), (2, .int (0)), (0, .long (v))]) hx hb dDg_sum_3 rfl hl (by decide) rfl (fun ls hl => ?_)
  refine lv_iconst (v := 0) hx hb dDg_sum_4 (by decide) ?_
  refine lv_istore (lv' := [(5, .int (nI (0))), (3, .long (v)), (2, .int (0)), (0, .long (v))]) hx hb dDg_sum_5 hl (by decide) rfl (fun ls hl => ?_)
  exact hB7 11 ls 0 v 0 (by omega) hR (by first | assumption | omega) (lv_sub hl [2, 1, 0] rfl)
theorem dDg_operationOf_0 : decode ccDg_operationOf 0 = .ok (.lload_n 0, 1) := by decide +kernel
theorem dDg_operationOf_1 : decode ccDg_operationOf 1 = .ok (.ldc2_w 17, 3) := by decide +kernel
theorem dDg_operationOf_4 : decode ccDg_operationOf 4 = .ok (.ldiv, 1) := by decide +kernel
theorem dDg_operationOf_5 : decode ccDg_operationOf 5 = .ok (.l2i, 1) := by decide +kernel
theorem dDg_operationOf_6 : decode ccDg_operationOf 6 = .ok (.ireturn, 1) := by decide +kernel
def fDg_operationOf (v : Int64) : Int32 :=
  (v / 100000000).toInt32
set_option maxHeartbeats 4000000 in
set_option maxRecDepth 100000 in
theorem kDg_operationOf (l : Launch) (v : Int64)  : Met l yDg_operationOf wsDg_operationOf { frames := 0, cells := 0, slots := 0, locals := 0 } (va_Pc [.long (v)] (fun _ => True)) (cQr (some (.int (fDg_operationOf v)))) 0 0 (fun _ => False) := by
  refine Met.ofW (cc := ccDg_operationOf) (maxL := 2) (ret := (some .int)) (by decide +kernel) rfl ?_
  intro p e s m args below meth c s₁ B hml hv
  obtain ⟨rfl, -⟩ := hv
  have hx := B.exec
  have hb := B.bytes
  have hr := B.returns
  have hts := atoms_spec (ws := wsDg_operationOf) B.pre
  have hown : s.vm.findClass RDg = some m.cls := findClass_of_methodNamed B.named
  have hlocks := B.notSynchronized
  have w0 := hts (.constantLong RDg 17 (100000000)) (List.mem_cons_of_mem _ wm3_79)
  have hl := lv_entry ([.long (v)]) (n := 2) (Nat.le_of_ble_eq_true rfl)
  rw [lg_entry_eq]
  generalize (lg_sl ([.long (v)]) ++ List.replicate (2 - (lg_sl ([.long (v)])).length) Slot.unset).toArray = ls at hl ⊢
  have hl : lv_has ls 2 [(0, .long (v))] := hl
  have hR := fDg_operationOf.eq_1 v
  refine lv_lload_n hx hb dDg_operationOf_0 rfl (lv_at hl 0 rfl) ?_
  refine lv_ldc2 (v := 100000000) hx hb hown w0 dDg_operationOf_1 ?_
  refine lv_ldiv hx hb dDg_operationOf_4 (by decide) ?_
  refine lv_l2i hx hb dDg_operationOf_5 rfl ?_
  exact W.iret hx hb hr (fun t ht _ => ⟨by rw [hR]; first | done | rfl, ht⟩) (fun _ h => absurd h List.not_mem_nil) dDg_operationOf_6
theorem dDg_dataAddressOf_0 : decode ccDg_dataAddressOf 0 = .ok (.lload_n 0, 1) := by decide +kernel
theorem dDg_dataAddressOf_1 : decode ccDg_dataAddressOf 1 = .ok (.ldc2_w 19, 3) := by decide +kernel
theorem dDg_dataAddressOf_4 : decode ccDg_dataAddressOf 4 = .ok (.ldiv, 1) := by decide +kernel
theorem dDg_dataAddressOf_5 : decode ccDg_dataAddressOf 5 = .ok (.ldc2_w 19, 3) := by decide +kernel
theorem dDg_dataAddressOf_8 : decode ccDg_dataAddressOf 8 = .ok (.lrem, 1) := by decide +kernel
theorem dDg_dataAddressOf_9 : decode ccDg_dataAddressOf 9 = .ok (.l2i, 1) := by decide +kernel
theorem dDg_dataAddressOf_10 : decode ccDg_dataAddressOf 10 = .ok (.ireturn, 1) := by decide +kernel
def fDg_dataAddressOf (v : Int64) : Int32 :=
  ((v / 10000) % 10000).toInt32
set_option maxHeartbeats 4000000 in
set_option maxRecDepth 100000 in
theorem kDg_dataAddressOf (l : Launch) (v : Int64)  : Met l yDg_dataAddressOf wsDg_dataAddressOf { frames := 0, cells := 0, slots := 0, locals := 0 } (va_Pc [.long (v)] (fun _ => True)) (cQr (some (.int (fDg_dataAddressOf v)))) 0 0 (fun _ => False) := by
  refine Met.ofW (cc := ccDg_dataAddressOf) (maxL := 2) (ret := (some .int)) (by decide +kernel) rfl ?_
  intro p e s m args below meth c s₁ B hml hv
  obtain ⟨rfl, -⟩ := hv
  have hx := B.exec
  have hb := B.bytes
  have hr := B.returns
  have hts := atoms_spec (ws := wsDg_dataAddressOf) B.pre
  have hown : s.vm.findClass RDg = some m.cls := findClass_of_methodNamed B.named
  have hlocks := B.notSynchronized
  have w0 := hts (.constantLong RDg 19 (10000)) (List.mem_cons_of_mem _ wm3_80)
  have hl := lv_entry ([.long (v)]) (n := 2) (Nat.le_of_ble_eq_true rfl)
  rw [lg_entry_eq]
  generalize (lg_sl ([.long (v)]) ++ List.replicate (2 - (lg_sl ([.long (v)])).length) Slot.unset).toArray = ls at hl ⊢
  have hl : lv_has ls 2 [(0, .long (v))] := hl
  have hR := fDg_dataAddressOf.eq_1 v
  refine lv_lload_n hx hb dDg_dataAddressOf_0 rfl (lv_at hl 0 rfl) ?_
  refine lv_ldc2 (v := 10000) hx hb hown w0 dDg_dataAddressOf_1 ?_
  refine lv_ldiv hx hb dDg_dataAddressOf_4 (by decide) ?_
  refine lv_ldc2 (v := 10000) hx hb hown w0 dDg_dataAddressOf_5 ?_
  refine lm_lrem hx hb dDg_dataAddressOf_8 (by decide) ?_
  refine lv_l2i hx hb dDg_dataAddressOf_9 rfl ?_
  exact W.iret hx hb hr (fun t ht _ => ⟨by rw [hR]; first | done | rfl, ht⟩) (fun _ h => absurd h List.not_mem_nil) dDg_dataAddressOf_10
theorem dDg_nextAddressOf_0 : decode ccDg_nextAddressOf 0 = .ok (.lload_n 0, 1) := by decide +kernel
theorem dDg_nextAddressOf_1 : decode ccDg_nextAddressOf 1 = .ok (.ldc2_w 19, 3) := by decide +kernel
theorem dDg_nextAddressOf_4 : decode ccDg_nextAddressOf 4 = .ok (.lrem, 1) := by decide +kernel
theorem dDg_nextAddressOf_5 : decode ccDg_nextAddressOf 5 = .ok (.l2i, 1) := by decide +kernel
theorem dDg_nextAddressOf_6 : decode ccDg_nextAddressOf 6 = .ok (.ireturn, 1) := by decide +kernel
def fDg_nextAddressOf (v : Int64) : Int32 :=
  (v % 10000).toInt32
set_option maxHeartbeats 4000000 in
set_option maxRecDepth 100000 in
theorem kDg_nextAddressOf (l : Launch) (v : Int64)  : Met l yDg_nextAddressOf wsDg_nextAddressOf { frames := 0, cells := 0, slots := 0, locals := 0 } (va_Pc [.long (v)] (fun _ => True)) (cQr (some (.int (fDg_nextAddressOf v)))) 0 0 (fun _ => False) := by
  refine Met.ofW (cc := ccDg_nextAddressOf) (maxL := 2) (ret := (some .int)) (by decide +kernel) rfl ?_
  intro p e s m args below meth c s₁ B hml hv
  obtain ⟨rfl, -⟩ := hv
  have hx := B.exec
  have hb := B.bytes
  have hr := B.returns
  have hts := atoms_spec (ws := wsDg_nextAddressOf) B.pre
  have hown : s.vm.findClass RDg = some m.cls := findClass_of_methodNamed B.named
  have hlocks := B.notSynchronized
  have w0 := hts (.constantLong RDg 19 (10000)) (List.mem_cons_of_mem _ wm3_80)
  have hl := lv_entry ([.long (v)]) (n := 2) (Nat.le_of_ble_eq_true rfl)
  rw [lg_entry_eq]
  generalize (lg_sl ([.long (v)]) ++ List.replicate (2 - (lg_sl ([.long (v)])).length) Slot.unset).toArray = ls at hl ⊢
  have hl : lv_has ls 2 [(0, .long (v))] := hl
  have hR := fDg_nextAddressOf.eq_1 v
  refine lv_lload_n hx hb dDg_nextAddressOf_0 rfl (lv_at hl 0 rfl) ?_
  refine lv_ldc2 (v := 10000) hx hb hown w0 dDg_nextAddressOf_1 ?_
  refine lm_lrem hx hb dDg_nextAddressOf_4 (by decide) ?_
  refine lv_l2i hx hb dDg_nextAddressOf_5 rfl ?_
  exact W.iret hx hb hr (fun t ht _ => ⟨by rw [hR]; first | done | rfl, ht⟩) (fun _ h => absurd h List.not_mem_nil) dDg_nextAddressOf_6
theorem dDg_instruction_0 : decode ccDg_instruction 0 = .ok (.iload_n 0, 1) := by decide +kernel
theorem dDg_instruction_1 : decode ccDg_instruction 1 = .ok (.i2l, 1) := by decide +kernel
theorem dDg_instruction_2 : decode ccDg_instruction 2 = .ok (.ldc2_w 17, 3) := by decide +kernel
theorem dDg_instruction_5 : decode ccDg_instruction 5 = .ok (.lmul, 1) := by decide +kernel
theorem dDg_instruction_6 : decode ccDg_instruction 6 = .ok (.iload_n 1, 1) := by decide +kernel
theorem dDg_instruction_7 : decode ccDg_instruction 7 = .ok (.i2l, 1) := by decide +kernel
theorem dDg_instruction_8 : decode ccDg_instruction 8 = .ok (.ldc2_w 19, 3) := by decide +kernel
theorem dDg_instruction_11 : decode ccDg_instruction 11 = .ok (.lmul, 1) := by decide +kernel
theorem dDg_instruction_12 : decode ccDg_instruction 12 = .ok (.ladd, 1) := by decide +kernel
theorem dDg_instruction_13 : decode ccDg_instruction 13 = .ok (.iload_n 2, 1) := by decide +kernel
theorem dDg_instruction_14 : decode ccDg_instruction 14 = .ok (.i2l, 1) := by decide +kernel
theorem dDg_instruction_15 : decode ccDg_instruction 15 = .ok (.ladd, 1) := by decide +kernel
theorem dDg_instruction_16 : decode ccDg_instruction 16 = .ok (.lreturn, 1) := by decide +kernel
def fDg_instruction (o : Int32) (d : Int32) (x : Int32) : Int64 :=
  ((o.toInt64 * 100000000) + (d.toInt64 * 10000)) + x.toInt64
set_option maxHeartbeats 4000000 in
set_option maxRecDepth 100000 in
theorem kDg_instruction (l : Launch) (o : Int32) (d : Int32) (x : Int32)  : Met l yDg_instruction wsDg_instruction { frames := 0, cells := 0, slots := 0, locals := 0 } (va_Pc [.int (o), .int (d), .int (x)] (fun _ => True)) (cQr (some (.long (fDg_instruction o d x)))) 0 0 (fun _ => False) := by
  refine Met.ofW (cc := ccDg_instruction) (maxL := 3) (ret := (some .long)) (by decide +kernel) rfl ?_
  intro p e s m args below meth c s₁ B hml hv
  obtain ⟨rfl, -⟩ := hv
  have hx := B.exec
  have hb := B.bytes
  have hr := B.returns
  have hts := atoms_spec (ws := wsDg_instruction) B.pre
  have hown : s.vm.findClass RDg = some m.cls := findClass_of_methodNamed B.named
  have hlocks := B.notSynchronized
  have w0 := hts (.constantLong RDg 17 (100000000)) (List.mem_cons_of_mem _ wm3_79)
  have w1 := hts (.constantLong RDg 19 (10000)) (List.mem_cons_of_mem _ wm3_80)
  have hl := lv_entry ([.int (o), .int (d), .int (x)]) (n := 3) (Nat.le_of_ble_eq_true rfl)
  rw [lg_entry_eq]
  generalize (lg_sl ([.int (o), .int (d), .int (x)]) ++ List.replicate (3 - (lg_sl ([.int (o), .int (d), .int (x)])).length) Slot.unset).toArray = ls at hl ⊢
  have hl : lv_has ls 3 [(0, .int (o)), (1, .int (d)), (2, .int (x))] := hl
  have hR := fDg_instruction.eq_1 o d x
  refine lv_iload_n hx hb dDg_instruction_0 rfl (lv_at hl 0 rfl) ?_
  refine lv_i2l hx hb dDg_instruction_1 rfl ?_
  refine lv_ldc2 (v := 100000000) hx hb hown w0 dDg_instruction_2 ?_
  refine lv_lmul hx hb dDg_instruction_5 ?_
  refine lv_iload_n hx hb dDg_instruction_6 rfl (lv_at hl 1 rfl) ?_
  refine lv_i2l hx hb dDg_instruction_7 rfl ?_
  refine lv_ldc2 (v := 10000) hx hb hown w1 dDg_instruction_8 ?_
  refine lv_lmul hx hb dDg_instruction_11 ?_
  refine lv_ladd hx hb dDg_instruction_12 ?_
  refine lv_iload_n hx hb dDg_instruction_13 rfl (lv_at hl 2 rfl) ?_
  refine lv_i2l hx hb dDg_instruction_14 rfl ?_
  refine lv_ladd hx hb dDg_instruction_15 ?_
  exact W.lret hx hb hr (fun t ht _ => ⟨by rw [hR]; first | done | rfl, ht⟩) (fun _ h => absurd h List.not_mem_nil) dDg_instruction_16
theorem dDg_withDataAddress_0 : decode ccDg_withDataAddress 0 = .ok (.lload_n 0, 1) := by decide +kernel
theorem dDg_withDataAddress_1 : decode ccDg_withDataAddress 1 = .ok (.ldc2_w 19, 3) := by decide +kernel
theorem dDg_withDataAddress_4 : decode ccDg_withDataAddress 4 = .ok (.ldiv, 1) := by decide +kernel
theorem dDg_withDataAddress_5 : decode ccDg_withDataAddress 5 = .ok (.ldc2_w 19, 3) := by decide +kernel
theorem dDg_withDataAddress_8 : decode ccDg_withDataAddress 8 = .ok (.lrem, 1) := by decide +kernel
theorem dDg_withDataAddress_9 : decode ccDg_withDataAddress 9 = .ok (.lstore_n 3, 1) := by decide +kernel
theorem dDg_withDataAddress_10 : decode ccDg_withDataAddress 10 = .ok (.lload_n 0, 1) := by decide +kernel
theorem dDg_withDataAddress_11 : decode ccDg_withDataAddress 11 = .ok (.iload_n 2, 1) := by decide +kernel
theorem dDg_withDataAddress_12 : decode ccDg_withDataAddress 12 = .ok (.i2l, 1) := by decide +kernel
theorem dDg_withDataAddress_13 : decode ccDg_withDataAddress 13 = .ok (.lload_n 3, 1) := by decide +kernel
theorem dDg_withDataAddress_14 : decode ccDg_withDataAddress 14 = .ok (.lsub, 1) := by decide +kernel
theorem dDg_withDataAddress_15 : decode ccDg_withDataAddress 15 = .ok (.ldc2_w 19, 3) := by decide +kernel
theorem dDg_withDataAddress_18 : decode ccDg_withDataAddress 18 = .ok (.lmul, 1) := by decide +kernel
theorem dDg_withDataAddress_19 : decode ccDg_withDataAddress 19 = .ok (.ladd, 1) := by decide +kernel
theorem dDg_withDataAddress_20 : decode ccDg_withDataAddress 20 = .ok (.lreturn, 1) := by decide +kernel
def fDg_withDataAddress (v : Int64) (d : Int32) : Int64 :=
  v + ((d.toInt64 - ((v / 10000) % 10000)) * 10000)
set_option maxHeartbeats 4000000 in
set_option maxRecDepth 100000 in
theorem kDg_withDataAddress (l : Launch) (v : Int64) (d : Int32)  : Met l yDg_withDataAddress wsDg_withDataAddress { frames := 0, cells := 0, slots := 0, locals := 0 } (va_Pc [.long (v), .int (d)] (fun _ => True)) (cQr (some (.long (fDg_withDataAddress v d)))) 0 0 (fun _ => False) := by
  refine Met.ofW (cc := ccDg_withDataAddress) (maxL := 5) (ret := (some .long)) (by decide +kernel) rfl ?_
  intro p e s m args below meth c s₁ B hml hv
  obtain ⟨rfl, -⟩ := hv
  have hx := B.exec
  have hb := B.bytes
  have hr := B.returns
  have hts := atoms_spec (ws := wsDg_withDataAddress) B.pre
  have hown : s.vm.findClass RDg = some m.cls := findClass_of_methodNamed B.named
  have hlocks := B.notSynchronized
  have w0 := hts (.constantLong RDg 19 (10000)) (List.mem_cons_of_mem _ wm3_80)
  have hl := lv_entry ([.long (v), .int (d)]) (n := 5) (Nat.le_of_ble_eq_true rfl)
  rw [lg_entry_eq]
  generalize (lg_sl ([.long (v), .int (d)]) ++ List.replicate (5 - (lg_sl ([.long (v), .int (d)])).length) Slot.unset).toArray = ls at hl ⊢
  have hl : lv_has ls 5 [(0, .long (v)), (2, .int (d))] := hl
  have hR := fDg_withDataAddress.eq_1 v d
  refine lv_lload_n hx hb dDg_withDataAddress_0 rfl (lv_at hl 0 rfl) ?_
  refine lv_ldc2 (v := 10000) hx hb hown w0 dDg_withDataAddress_1 ?_
  refine lv_ldiv hx hb dDg_withDataAddress_4 (by decide) ?_
  refine lv_ldc2 (v := 10000) hx hb hown w0 dDg_withDataAddress_5 ?_
  refine lm_lrem hx hb dDg_withDataAddress_8 (by decide) ?_
  refine lv_lstore_n (lv' := [(3, .long ((v / 10000) % 10000)), (0, .long (v)), (2, .int (d))]) hx hb dDg_withDataAddress_9 rfl hl (by decide) rfl (fun ls hl => ?_)
  refine lv_lload_n hx hb dDg_withDataAddress_10 rfl (lv_at hl 1 rfl) ?_
  refine lv_iload_n hx hb dDg_withDataAddress_11 rfl (lv_at hl 2 rfl) ?_
  refine lv_i2l hx hb dDg_withDataAddress_12 rfl ?_
  refine lv_lload_n hx hb dDg_withDataAddress_13 rfl (lv_at hl 0 rfl) ?_
  refine lv_lsub hx hb dDg_withDataAddress_14 ?_
  refine lv_ldc2 (v := 10000) hx hb hown w0 dDg_withDataAddress_15 ?_
  refine lv_lmul hx hb dDg_withDataAddress_18 ?_
  refine lv_ladd hx hb dDg_withDataAddress_19 ?_
  exact W.lret hx hb hr (fun t ht _ => ⟨by rw [hR]; first | done | rfl, ht⟩) (fun _ h => absurd h List.not_mem_nil) dDg_withDataAddress_20
theorem dMa_floorDiv_0 : decode ccMa_floorDiv 0 = .ok (.lload_n 0, 1) := by decide +kernel
theorem dMa_floorDiv_1 : decode ccMa_floorDiv 1 = .ok (.lload_n 2, 1) := by decide +kernel
theorem dMa_floorDiv_2 : decode ccMa_floorDiv 2 = .ok (.ldiv, 1) := by decide +kernel
theorem dMa_floorDiv_3 : decode ccMa_floorDiv 3 = .ok (.lstore 4, 2) := by decide +kernel
theorem dMa_floorDiv_5 : decode ccMa_floorDiv 5 = .ok (.lload_n 0, 1) := by decide +kernel
theorem dMa_floorDiv_6 : decode ccMa_floorDiv 6 = .ok (.lload_n 2, 1) := by decide +kernel
theorem dMa_floorDiv_7 : decode ccMa_floorDiv 7 = .ok (.lxor, 1) := by decide +kernel
theorem dMa_floorDiv_8 : decode ccMa_floorDiv 8 = .ok (.lconst 0, 1) := by decide +kernel
theorem dMa_floorDiv_9 : decode ccMa_floorDiv 9 = .ok (.lcmp, 1) := by decide +kernel
theorem dMa_floorDiv_10 : decode ccMa_floorDiv 10 = .ok (.ifCond .ge 17, 3) := by decide +kernel
theorem dMa_floorDiv_13 : decode ccMa_floorDiv 13 = .ok (.lload 4, 2) := by decide +kernel
theorem dMa_floorDiv_15 : decode ccMa_floorDiv 15 = .ok (.lload_n 2, 1) := by decide +kernel
theorem dMa_floorDiv_16 : decode ccMa_floorDiv 16 = .ok (.lmul, 1) := by decide +kernel
theorem dMa_floorDiv_17 : decode ccMa_floorDiv 17 = .ok (.lload_n 0, 1) := by decide +kernel
theorem dMa_floorDiv_18 : decode ccMa_floorDiv 18 = .ok (.lcmp, 1) := by decide +kernel
theorem dMa_floorDiv_19 : decode ccMa_floorDiv 19 = .ok (.ifCond .eq 8, 3) := by decide +kernel
theorem dMa_floorDiv_22 : decode ccMa_floorDiv 22 = .ok (.lload 4, 2) := by decide +kernel
theorem dMa_floorDiv_24 : decode ccMa_floorDiv 24 = .ok (.lconst 1, 1) := by decide +kernel
theorem dMa_floorDiv_25 : decode ccMa_floorDiv 25 = .ok (.lsub, 1) := by decide +kernel
theorem dMa_floorDiv_26 : decode ccMa_floorDiv 26 = .ok (.lreturn, 1) := by decide +kernel
theorem dMa_floorDiv_27 : decode ccMa_floorDiv 27 = .ok (.lload 4, 2) := by decide +kernel
theorem dMa_floorDiv_29 : decode ccMa_floorDiv 29 = .ok (.lreturn, 1) := by decide +kernel
def fMa_floorDiv (x : Int64) (y : Int64) : Int64 :=
  (if 0 ≤ (x ^^^ y) then x / y else (if ((x / y) * y) = x then x / y else (x / y) - 1))
set_option maxHeartbeats 4000000 in
set_option maxRecDepth 100000 in
theorem kMa_floorDiv (l : Launch) (x : Int64) (y : Int64) (hy : ¬ y = 0) : Met l yMa_floorDiv wsMa_floorDiv { frames := 0, cells := 0, slots := 0, locals := 0 } (va_Pc [.long (x), .long (y)] (fun _ => True)) (cQr (some (.long (fMa_floorDiv x y)))) 0 0 (fun _ => False) := by
  refine va_MetF (cc := ccMa_floorDiv) (maxL := 6) (ret := (some .long)) (by decide +kernel) rfl ?_
  intro p e s m args below meth c s₁ B hml hv
  obtain ⟨rfl, -⟩ := hv
  have hx := B.exec
  have hb := B.bytes
  have hr := B.returns
  have hts := atoms_spec (ws := wsMa_floorDiv) B.pre
  have hown : s.vm.findClass RMa = some m.cls := findClass_of_methodNamed B.named
  have hlocks := B.notSynchronized
  have hl := lv_entry ([.long (x), .long (y)]) (n := 6) (Nat.le_of_ble_eq_true rfl)
  rw [lg_entry_eq]
  generalize (lg_sl ([.long (x), .long (y)]) ++ List.replicate (6 - (lg_sl ([.long (x), .long (y)])).length) Slot.unset).toArray = ls at hl ⊢
  have hl : lv_has ls 6 [(0, .long (x)), (2, .long (y))] := hl
  have hR := fMa_floorDiv.eq_1 x y
  refine lv_lload_n hx hb dMa_floorDiv_0 rfl (lv_at hl 0 rfl) ?_
  refine lv_lload_n hx hb dMa_floorDiv_1 rfl (lv_at hl 1 rfl) ?_
  refine lv_ldiv hx hb dMa_floorDiv_2 hy ?_
  refine lv_lstore (lv' := [(4, .long (x / y)), (0, .long (x)), (2, .long (y))]) hx hb dMa_floorDiv_3 hl (by decide) rfl (fun ls hl => ?_)
  refine lv_lload_n hx hb dMa_floorDiv_5 rfl (lv_at hl 1 rfl) ?_
  refine lv_lload_n hx hb dMa_floorDiv_6 rfl (lv_at hl 2 rfl) ?_
  refine lv_lxor hx hb dMa_floorDiv_7 ?_
  refine lv_lconst (v := 0) hx hb dMa_floorDiv_8 (by decide) ?_
  refine lc_ge hx hb dMa_floorDiv_9 dMa_floorDiv_10 rfl (fun h9 => ?_) (fun h9 => ?_)
  · have hR := hR.trans (if_pos h9)
    refine lv_lload hx hb dMa_floorDiv_27 (lv_at hl 0 rfl) ?_
    exact W.lret hx hb hr (fun t ht _ => ⟨by rw [hR]; first | done | rfl, ht⟩) (fun _ h => absurd h List.not_mem_nil) dMa_floorDiv_29
  · have hR := hR.trans (if_neg h9)
    refine lv_lload hx hb dMa_floorDiv_13 (lv_at hl 0 rfl) ?_
    refine lv_lload_n hx hb dMa_floorDiv_15 rfl (lv_at hl 2 rfl) ?_
    refine lv_lmul hx hb dMa_floorDiv_16 ?_
    refine lv_lload_n hx hb dMa_floorDiv_17 rfl (lv_at hl 1 rfl) ?_
    refine lc_eq hx hb dMa_floorDiv_18 dMa_floorDiv_19 rfl (fun h18 => ?_) (fun h18 => ?_)
    · have hR := hR.trans (if_pos h18)
      refine lv_lload hx hb dMa_floorDiv_27 (lv_at hl 0 rfl) ?_
      exact W.lret hx hb hr (fun t ht _ => ⟨by rw [hR]; first | done | rfl, ht⟩) (fun _ h => absurd h List.not_mem_nil) dMa_floorDiv_29
    · have hR := hR.trans (if_neg h18)
      refine lv_lload hx hb dMa_floorDiv_22 (lv_at hl 0 rfl) ?_
      refine lv_lconst (v := 1) hx hb dMa_floorDiv_24 (by decide) ?_
      refine lv_lsub hx hb dMa_floorDiv_25 ?_
      exact W.lret hx hb hr (fun t ht _ => ⟨by rw [hR]; first | done | rfl, ht⟩) (fun _ h => absurd h List.not_mem_nil) dMa_floorDiv_26
theorem dMa_floorMod_0 : decode ccMa_floorMod 0 = .ok (.lload_n 0, 1) := by decide +kernel
theorem dMa_floorMod_1 : decode ccMa_floorMod 1 = .ok (.lload_n 2, 1) := by decide +kernel
theorem dMa_floorMod_2 : decode ccMa_floorMod 2 = .ok (.lrem, 1) := by decide +kernel
theorem dMa_floorMod_3 : decode ccMa_floorMod 3 = .ok (.lstore 4, 2) := by decide +kernel
theorem dMa_floorMod_5 : decode ccMa_floorMod 5 = .ok (.lload_n 0, 1) := by decide +kernel
theorem dMa_floorMod_6 : decode ccMa_floorMod 6 = .ok (.lload_n 2, 1) := by decide +kernel
theorem dMa_floorMod_7 : decode ccMa_floorMod 7 = .ok (.lxor, 1) := by decide +kernel
theorem dMa_floorMod_8 : decode ccMa_floorMod 8 = .ok (.lconst 0, 1) := by decide +kernel
theorem dMa_floorMod_9 : decode ccMa_floorMod 9 = .ok (.lcmp, 1) := by decide +kernel
theorem dMa_floorMod_10 : decode ccMa_floorMod 10 = .ok (.ifCond .ge 15, 3) := by decide +kernel
theorem dMa_floorMod_13 : decode ccMa_floorMod 13 = .ok (.lload 4, 2) := by decide +kernel
theorem dMa_floorMod_15 : decode ccMa_floorMod 15 = .ok (.lconst 0, 1) := by decide +kernel
theorem dMa_floorMod_16 : decode ccMa_floorMod 16 = .ok (.lcmp, 1) := by decide +kernel
theorem dMa_floorMod_17 : decode ccMa_floorMod 17 = .ok (.ifCond .eq 8, 3) := by decide +kernel
theorem dMa_floorMod_20 : decode ccMa_floorMod 20 = .ok (.lload 4, 2) := by decide +kernel
theorem dMa_floorMod_22 : decode ccMa_floorMod 22 = .ok (.lload_n 2, 1) := by decide +kernel
theorem dMa_floorMod_23 : decode ccMa_floorMod 23 = .ok (.ladd, 1) := by decide +kernel
theorem dMa_floorMod_24 : decode ccMa_floorMod 24 = .ok (.lreturn, 1) := by decide +kernel
theorem dMa_floorMod_25 : decode ccMa_floorMod 25 = .ok (.lload 4, 2) := by decide +kernel
theorem dMa_floorMod_27 : decode ccMa_floorMod 27 = .ok (.lreturn, 1) := by decide +kernel
def fMa_floorMod (x : Int64) (y : Int64) : Int64 :=
  (if 0 ≤ (x ^^^ y) then x % y else (if (x % y) = 0 then x % y else (x % y) + y))
set_option maxHeartbeats 4000000 in
set_option maxRecDepth 100000 in
theorem kMa_floorMod (l : Launch) (x : Int64) (y : Int64) (hy : ¬ y = 0) : Met l yMa_floorMod wsMa_floorMod { frames := 0, cells := 0, slots := 0, locals := 0 } (va_Pc [.long (x), .long (y)] (fun _ => True)) (cQr (some (.long (fMa_floorMod x y)))) 0 0 (fun _ => False) := by
  refine va_MetF (cc := ccMa_floorMod) (maxL := 6) (ret := (some .long)) (by decide +kernel) rfl ?_
  intro p e s m args below meth c s₁ B hml hv
  obtain ⟨rfl, -⟩ := hv
  have hx := B.exec
  have hb := B.bytes
  have hr := B.returns
  have hts := atoms_spec (ws := wsMa_floorMod) B.pre
  have hown : s.vm.findClass RMa = some m.cls := findClass_of_methodNamed B.named
  have hlocks := B.notSynchronized
  have hl := lv_entry ([.long (x), .long (y)]) (n := 6) (Nat.le_of_ble_eq_true rfl)
  rw [lg_entry_eq]
  generalize (lg_sl ([.long (x), .long (y)]) ++ List.replicate (6 - (lg_sl ([.long (x), .long (y)])).length) Slot.unset).toArray = ls at hl ⊢
  have hl : lv_has ls 6 [(0, .long (x)), (2, .long (y))] := hl
  have hR := fMa_floorMod.eq_1 x y
  refine lv_lload_n hx hb dMa_floorMod_0 rfl (lv_at hl 0 rfl) ?_
  refine lv_lload_n hx hb dMa_floorMod_1 rfl (lv_at hl 1 rfl) ?_
  refine lm_lrem hx hb dMa_floorMod_2 hy ?_
  refine lv_lstore (lv' := [(4, .long (x % y)), (0, .long (x)), (2, .long (y))]) hx hb dMa_floorMod_3 hl (by decide) rfl (fun ls hl => ?_)
  refine lv_lload_n hx hb dMa_floorMod_5 rfl (lv_at hl 1 rfl) ?_
  refine lv_lload_n hx hb dMa_floorMod_6 rfl (lv_at hl 2 rfl) ?_
  refine lv_lxor hx hb dMa_floorMod_7 ?_
  refine lv_lconst (v := 0) hx hb dMa_floorMod_8 (by decide) ?_
  refine lc_ge hx hb dMa_floorMod_9 dMa_floorMod_10 rfl (fun h9 => ?_) (fun h9 => ?_)
  · have hR := hR.trans (if_pos h9)
    refine lv_lload hx hb dMa_floorMod_25 (lv_at hl 0 rfl) ?_
    exact W.lret hx hb hr (fun t ht _ => ⟨by rw [hR]; first | done | rfl, ht⟩) (fun _ h => absurd h List.not_mem_nil) dMa_floorMod_27
  · have hR := hR.trans (if_neg h9)
    refine lv_lload hx hb dMa_floorMod_13 (lv_at hl 0 rfl) ?_
    refine lv_lconst (v := 0) hx hb dMa_floorMod_15 (by decide) ?_
    refine lc_eq hx hb dMa_floorMod_16 dMa_floorMod_17 rfl (fun h16 => ?_) (fun h16 => ?_)
    · have hR := hR.trans (if_pos h16)
      refine lv_lload hx hb dMa_floorMod_25 (lv_at hl 0 rfl) ?_
      exact W.lret hx hb hr (fun t ht _ => ⟨by rw [hR]; first | done | rfl, ht⟩) (fun _ h => absurd h List.not_mem_nil) dMa_floorMod_27
    · have hR := hR.trans (if_neg h16)
      refine lv_lload hx hb dMa_floorMod_20 (lv_at hl 0 rfl) ?_
      refine lv_lload_n hx hb dMa_floorMod_22 rfl (lv_at hl 2 rfl) ?_
      refine lv_ladd hx hb dMa_floorMod_23 ?_
      exact W.lret hx hb hr (fun t ht _ => ⟨by rw [hR]; first | done | rfl, ht⟩) (fun _ h => absurd h List.not_mem_nil) dMa_floorMod_24
end
section
theorem dOp_branchesOnEight_0 : decode ccOp_branchesOnEight 0 = .ok (.iload_n 0, 1) := by decide +kernel
theorem dOp_branchesOnEight_1 : decode ccOp_branchesOnEight 1 = .ok (.bipush 90, 2) := by decide +kernel
theorem dOp_branchesOnEight_3 : decode ccOp_branchesOnEight 3 = .ok (.if_icmp .lt 13, 3) := by decide +kernel
theorem dOp_branchesOnEight_6 : decode ccOp_branchesOnEight 6 = .ok (.iload_n 0, 1) := by decide +kernel
theorem dOp_branchesOnEight_7 : decode ccOp_branchesOnEight 7 = .ok (.bipush 99, 2) := by decide +kernel
theorem dOp_branchesOnEight_9 : decode ccOp_branchesOnEight 9 = .ok (.if_icmp .gt 7, 3) := by decide +kernel
theorem dOp_branchesOnEight_12 : decode ccOp_branchesOnEight 12 = .ok (.iconst 1, 1) := by decide +kernel
theorem dOp_branchesOnEight_13 : decode ccOp_branchesOnEight 13 = .ok (.goto 4, 3) := by decide +kernel
theorem dOp_branchesOnEight_16 : decode ccOp_branchesOnEight 16 = .ok (.iconst 0, 1) := by decide +kernel
theorem dOp_branchesOnEight_17 : decode ccOp_branchesOnEight 17 = .ok (.ireturn, 1) := by decide +kernel
def fOp_branchesOnEight (o : Int32) : Bool :=
  (if o < (90 : Int32) then false else (if (99 : Int32) < o then false else true))
set_option maxHeartbeats 4000000 in
set_option maxRecDepth 100000 in
theorem kOp_branchesOnEight (l : Launch) (o : Int32)  : Met l yOp_branchesOnEight wsOp_branchesOnEight { frames := 0, cells := 0, slots := 0, locals := 0 } (va_Pc [.int (o)] (fun _ => True)) (cQr (some (.int (bb (fOp_branchesOnEight o))))) 0 0 (fun _ => False) := by
  refine Met.ofW (cc := ccOp_branchesOnEight) (maxL := 1) (ret := (some .boolean)) (by decide +kernel) rfl ?_
  intro p e s m args below meth c s₁ B hml hv
  obtain ⟨rfl, -⟩ := hv
  have hx := B.exec
  have hb := B.bytes
  have hr := B.returns
  have hts := atoms_spec (ws := wsOp_branchesOnEight) B.pre
  have hown : s.vm.findClass ROp = some m.cls := findClass_of_methodNamed B.named
  have hlocks := B.notSynchronized
  have hl := lv_entry ([.int (o)]) (n := 1) (Nat.le_of_ble_eq_true rfl)
  rw [lg_entry_eq]
  generalize (lg_sl ([.int (o)]) ++ List.replicate (1 - (lg_sl ([.int (o)])).length) Slot.unset).toArray = ls at hl ⊢
  have hl : lv_has ls 1 [(0, .int (o))] := hl
  have hR := fOp_branchesOnEight.eq_1 o
  refine lv_iload_n hx hb dOp_branchesOnEight_0 rfl (lv_at hl 0 rfl) ?_
  refine lv_bipush (v := 90) hx hb dOp_branchesOnEight_1 (by decide) ?_
  refine lv_icmp_lt hx hb dOp_branchesOnEight_3 rfl (fun h3 => ?_) (fun h3 => ?_)
  · have hR := hR.trans (if_pos h3)
    refine lv_iconst (v := 0) hx hb dOp_branchesOnEight_16 (by decide) ?_
    exact W.zret hx hb hr rfl (fun t ht _ => ⟨by rw [hR]; first | done | rfl, ht⟩) (fun _ h => absurd h List.not_mem_nil) dOp_branchesOnEight_17
  · have hR := hR.trans (if_neg h3)
    refine lv_iload_n hx hb dOp_branchesOnEight_6 rfl (lv_at hl 0 rfl) ?_
    refine lv_bipush (v := 99) hx hb dOp_branchesOnEight_7 (by decide) ?_
    refine lv_icmp_gt hx hb dOp_branchesOnEight_9 rfl (fun h9 => ?_) (fun h9 => ?_)
    · have hR := hR.trans (if_pos h9)
      refine lv_iconst (v := 0) hx hb dOp_branchesOnEight_16 (by decide) ?_
      exact W.zret hx hb hr rfl (fun t ht _ => ⟨by rw [hR]; first | done | rfl, ht⟩) (fun _ h => absurd h List.not_mem_nil) dOp_branchesOnEight_17
    · have hR := hR.trans (if_neg h9)
      refine lv_iconst (v := 1) hx hb dOp_branchesOnEight_12 (by decide) ?_
      refine lv_goto hx hb dOp_branchesOnEight_13 rfl ?_
      exact W.zret hx hb hr rfl (fun t ht _ => ⟨by rw [hR]; first | done | rfl, ht⟩) (fun _ h => absurd h List.not_mem_nil) dOp_branchesOnEight_17
theorem dOp_kindOf_0 : decode ccOp_kindOf 0 = .ok (.iload_n 0, 1) := by decide +kernel
theorem dOp_kindOf_1 : decode ccOp_kindOf 1 = .ok (.tableswitch 368 0 84 #[355, 355, 368, 368, 368, 368, 368, 368, 368, 368, 361, 361, 368, 368, 363, 361, 361, 368, 368, 363, 365, 365, 365, 368, 365, 368, 368, 368, 368, 368, 357, 357, 368, 368, 368, 357, 368, 368, 368, 368, 368, 368, 368, 368, 359, 359, 359, 359, 368, 368, 368, 368, 368, 368, 368, 368, 368, 368, 368, 368, 361, 361, 368, 368, 368, 361, 361, 361, 368, 363, 365, 363, 368, 368, 368, 368, 368, 368, 368, 368, 368, 368, 368, 368, 363], 355) := by decide +kernel
theorem dOp_kindOf_356 : decode ccOp_kindOf 356 = .ok (.iconst 1, 1) := by decide +kernel
theorem dOp_kindOf_357 : decode ccOp_kindOf 357 = .ok (.ireturn, 1) := by decide +kernel
theorem dOp_kindOf_358 : decode ccOp_kindOf 358 = .ok (.iconst 2, 1) := by decide +kernel
theorem dOp_kindOf_359 : decode ccOp_kindOf 359 = .ok (.ireturn, 1) := by decide +kernel
theorem dOp_kindOf_360 : decode ccOp_kindOf 360 = .ok (.iconst 3, 1) := by decide +kernel
theorem dOp_kindOf_361 : decode ccOp_kindOf 361 = .ok (.ireturn, 1) := by decide +kernel
theorem dOp_kindOf_362 : decode ccOp_kindOf 362 = .ok (.iconst 4, 1) := by decide +kernel
theorem dOp_kindOf_363 : decode ccOp_kindOf 363 = .ok (.ireturn, 1) := by decide +kernel
theorem dOp_kindOf_364 : decode ccOp_kindOf 364 = .ok (.iconst 5, 1) := by decide +kernel
theorem dOp_kindOf_365 : decode ccOp_kindOf 365 = .ok (.ireturn, 1) := by decide +kernel
theorem dOp_kindOf_366 : decode ccOp_kindOf 366 = .ok (.bipush 6, 2) := by decide +kernel
theorem dOp_kindOf_368 : decode ccOp_kindOf 368 = .ok (.ireturn, 1) := by decide +kernel
theorem dOp_kindOf_369 : decode ccOp_kindOf 369 = .ok (.iload_n 0, 1) := by decide +kernel
theorem dOp_kindOf_370 : decode ccOp_kindOf 370 = .ok (.invokestatic 9, 3) := by decide +kernel
theorem dOp_kindOf_373 : decode ccOp_kindOf 373 = .ok (.ifCond .eq 7, 3) := by decide +kernel
theorem dOp_kindOf_376 : decode ccOp_kindOf 376 = .ok (.iconst 3, 1) := by decide +kernel
theorem dOp_kindOf_377 : decode ccOp_kindOf 377 = .ok (.goto 4, 3) := by decide +kernel
theorem dOp_kindOf_380 : decode ccOp_kindOf 380 = .ok (.iconst 0, 1) := by decide +kernel
theorem dOp_kindOf_381 : decode ccOp_kindOf 381 = .ok (.ireturn, 1) := by decide +kernel
set_option maxRecDepth 20000 in
theorem hole_fOp_kindOf_1 : ∀ i : Fin 85, i.val ∈ ([0, 1, 10, 11, 14, 15, 16, 19, 20, 21, 22, 24, 30, 31, 35, 44, 45, 46, 47, 60, 61, 65, 66, 67, 69, 70, 71, 84] : List Nat) ∨ (#[355, 355, 368, 368, 368, 368, 368, 368, 368, 368, 361, 361, 368, 368, 363, 361, 361, 368, 368, 363, 365, 365, 365, 368, 365, 368, 368, 368, 368, 368, 357, 357, 368, 368, 368, 357, 368, 368, 368, 368, 368, 368, 368, 368, 359, 359, 359, 359, 368, 368, 368, 368, 368, 368, 368, 368, 368, 368, 368, 368, 361, 361, 368, 368, 368, 361, 361, 361, 368, 363, 365, 363, 368, 368, 368, 368, 368, 368, 368, 368, 368, 368, 368, 368, 363] : Array Int)[i.val]? = some 368 := by decide
def fOp_kindOf (o : Int32) : Int32 :=
  (if o = 0 then 1 else (if o = 1 then 1 else (if o = 10 then 4 else (if o = 11 then 4 else (if o = 14 then 5 else (if o = 15 then 4 else (if o = 16 then 4 else (if o = 19 then 5 else (if o = 20 then 6 else (if o = 21 then 6 else (if o = 22 then 6 else (if o = 24 then 6 else (if o = 30 then 2 else (if o = 31 then 2 else (if o = 35 then 2 else (if o = 44 then 3 else (if o = 45 then 3 else (if o = 46 then 3 else (if o = 47 then 3 else (if o = 60 then 4 else (if o = 61 then 4 else (if o = 65 then 4 else (if o = 66 then 4 else (if o = 67 then 4 else (if o = 69 then 5 else (if o = 70 then 6 else (if o = 71 then 5 else (if o = 84 then 5 else (if (fOp_branchesOnEight o) = true then 3 else 0)))))))))))))))))))))))))))))
set_option maxHeartbeats 4000000 in
set_option maxRecDepth 100000 in
theorem kOp_kindOf (l : Launch) (o : Int32)  : Met l yOp_kindOf wsOp_kindOf { frames := 1, cells := 0, slots := 0, locals := 20 } (va_Pc [.int (o)] (fun _ => True)) (cQr (some (.int (fOp_kindOf o)))) 0 0 (fun _ => False) := by
  refine Met.ofW (cc := ccOp_kindOf) (maxL := 1) (ret := (some .int)) (by decide +kernel) rfl ?_
  intro p e s m args below meth c s₁ B hml hv
  obtain ⟨rfl, -⟩ := hv
  have hx := B.exec
  have hb := B.bytes
  have hr := B.returns
  have hts := atoms_spec (ws := wsOp_kindOf) B.pre
  have hown : s.vm.findClass ROp = some m.cls := findClass_of_methodNamed B.named
  have hlocks := B.notSynchronized
  have hl := lv_entry ([.int (o)]) (n := 1) (Nat.le_of_ble_eq_true rfl)
  rw [lg_entry_eq]
  generalize (lg_sl ([.int (o)]) ++ List.replicate (1 - (lg_sl ([.int (o)])).length) Slot.unset).toArray = ls at hl ⊢
  have hl : lv_has ls 1 [(0, .int (o))] := hl
  have hR := fOp_kindOf.eq_1 o
  refine lv_iload_n hx hb dOp_kindOf_0 rfl (lv_at hl 0 rfl) ?_
  by_cases h1_0 : o = 0
  · have hR := hR.trans (if_pos h1_0)
    refine lv_tableIn (off := 355) (tgt := 356) hx hb dOp_kindOf_1 (by rw [h1_0]; decide) (by rw [h1_0]; decide) (by rw [h1_0]; decide) rfl ?_
    refine lv_iconst (v := 1) hx hb dOp_kindOf_356 (by decide) ?_
    exact W.iret hx hb hr (fun t ht _ => ⟨by rw [hR]; first | done | rfl, ht⟩) (fun _ h => absurd h List.not_mem_nil) dOp_kindOf_357
  · have hR := hR.trans (if_neg h1_0)
    by_cases h1_1 : o = 1
    · have hR := hR.trans (if_pos h1_1)
      refine lv_tableIn (off := 355) (tgt := 356) hx hb dOp_kindOf_1 (by rw [h1_1]; decide) (by rw [h1_1]; decide) (by rw [h1_1]; decide) rfl ?_
      refine lv_iconst (v := 1) hx hb dOp_kindOf_356 (by decide) ?_
      exact W.iret hx hb hr (fun t ht _ => ⟨by rw [hR]; first | done | rfl, ht⟩) (fun _ h => absurd h List.not_mem_nil) dOp_kindOf_357
    · have hR := hR.trans (if_neg h1_1)
      by_cases h1_10 : o = 10
      · have hR := hR.trans (if_pos h1_10)
        refine lv_tableIn (off := 361) (tgt := 362) hx hb dOp_kindOf_1 (by rw [h1_10]; decide) (by rw [h1_10]; decide) (by rw [h1_10]; decide) rfl ?_
        refine lv_iconst (v := 4) hx hb dOp_kindOf_362 (by decide) ?_
        exact W.iret hx hb hr (fun t ht _ => ⟨by rw [hR]; first | done | rfl, ht⟩) (fun _ h => absurd h List.not_mem_nil) dOp_kindOf_363
      · have hR := hR.trans (if_neg h1_10)
        by_cases h1_11 : o = 11
        · have hR := hR.trans (if_pos h1_11)
          refine lv_tableIn (off := 361) (tgt := 362) hx hb dOp_kindOf_1 (by rw [h1_11]; decide) (by rw [h1_11]; decide) (by rw [h1_11]; decide) rfl ?_
          refine lv_iconst (v := 4) hx hb dOp_kindOf_362 (by decide) ?_
          exact W.iret hx hb hr (fun t ht _ => ⟨by rw [hR]; first | done | rfl, ht⟩) (fun _ h => absurd h List.not_mem_nil) dOp_kindOf_363
        · have hR := hR.trans (if_neg h1_11)
          by_cases h1_14 : o = 14
          · have hR := hR.trans (if_pos h1_14)
            refine lv_tableIn (off := 363) (tgt := 364) hx hb dOp_kindOf_1 (by rw [h1_14]; decide) (by rw [h1_14]; decide) (by rw [h1_14]; decide) rfl ?_
            refine lv_iconst (v := 5) hx hb dOp_kindOf_364 (by decide) ?_
            exact W.iret hx hb hr (fun t ht _ => ⟨by rw [hR]; first | done | rfl, ht⟩) (fun _ h => absurd h List.not_mem_nil) dOp_kindOf_365
          · have hR := hR.trans (if_neg h1_14)
            by_cases h1_15 : o = 15
            · have hR := hR.trans (if_pos h1_15)
              refine lv_tableIn (off := 361) (tgt := 362) hx hb dOp_kindOf_1 (by rw [h1_15]; decide) (by rw [h1_15]; decide) (by rw [h1_15]; decide) rfl ?_
              refine lv_iconst (v := 4) hx hb dOp_kindOf_362 (by decide) ?_
              exact W.iret hx hb hr (fun t ht _ => ⟨by rw [hR]; first | done | rfl, ht⟩) (fun _ h => absurd h List.not_mem_nil) dOp_kindOf_363
            · have hR := hR.trans (if_neg h1_15)
              by_cases h1_16 : o = 16
              · have hR := hR.trans (if_pos h1_16)
                refine lv_tableIn (off := 361) (tgt := 362) hx hb dOp_kindOf_1 (by rw [h1_16]; decide) (by rw [h1_16]; decide) (by rw [h1_16]; decide) rfl ?_
                refine lv_iconst (v := 4) hx hb dOp_kindOf_362 (by decide) ?_
                exact W.iret hx hb hr (fun t ht _ => ⟨by rw [hR]; first | done | rfl, ht⟩) (fun _ h => absurd h List.not_mem_nil) dOp_kindOf_363
              · have hR := hR.trans (if_neg h1_16)
                by_cases h1_19 : o = 19
                · have hR := hR.trans (if_pos h1_19)
                  refine lv_tableIn (off := 363) (tgt := 364) hx hb dOp_kindOf_1 (by rw [h1_19]; decide) (by rw [h1_19]; decide) (by rw [h1_19]; decide) rfl ?_
                  refine lv_iconst (v := 5) hx hb dOp_kindOf_364 (by decide) ?_
                  exact W.iret hx hb hr (fun t ht _ => ⟨by rw [hR]; first | done | rfl, ht⟩) (fun _ h => absurd h List.not_mem_nil) dOp_kindOf_365
                · have hR := hR.trans (if_neg h1_19)
                  by_cases h1_20 : o = 20
                  · have hR := hR.trans (if_pos h1_20)
                    refine lv_tableIn (off := 365) (tgt := 366) hx hb dOp_kindOf_1 (by rw [h1_20]; decide) (by rw [h1_20]; decide) (by rw [h1_20]; decide) rfl ?_
                    refine lv_bipush (v := 6) hx hb dOp_kindOf_366 (by decide) ?_
                    exact W.iret hx hb hr (fun t ht _ => ⟨by rw [hR]; first | done | rfl, ht⟩) (fun _ h => absurd h List.not_mem_nil) dOp_kindOf_368
                  · have hR := hR.trans (if_neg h1_20)
                    by_cases h1_21 : o = 21
                    · have hR := hR.trans (if_pos h1_21)
                      refine lv_tableIn (off := 365) (tgt := 366) hx hb dOp_kindOf_1 (by rw [h1_21]; decide) (by rw [h1_21]; decide) (by rw [h1_21]; decide) rfl ?_
                      refine lv_bipush (v := 6) hx hb dOp_kindOf_366 (by decide) ?_
                      exact W.iret hx hb hr (fun t ht _ => ⟨by rw [hR]; first | done | rfl, ht⟩) (fun _ h => absurd h List.not_mem_nil) dOp_kindOf_368
                    · have hR := hR.trans (if_neg h1_21)
                      by_cases h1_22 : o = 22
                      · have hR := hR.trans (if_pos h1_22)
                        refine lv_tableIn (off := 365) (tgt := 366) hx hb dOp_kindOf_1 (by rw [h1_22]; decide) (by rw [h1_22]; decide) (by rw [h1_22]; decide) rfl ?_
                        refine lv_bipush (v := 6) hx hb dOp_kindOf_366 (by decide) ?_
                        exact W.iret hx hb hr (fun t ht _ => ⟨by rw [hR]; first | done | rfl, ht⟩) (fun _ h => absurd h List.not_mem_nil) dOp_kindOf_368
                      · have hR := hR.trans (if_neg h1_22)
                        by_cases h1_24 : o = 24
                        · have hR := hR.trans (if_pos h1_24)
                          refine lv_tableIn (off := 365) (tgt := 366) hx hb dOp_kindOf_1 (by rw [h1_24]; decide) (by rw [h1_24]; decide) (by rw [h1_24]; decide) rfl ?_
                          refine lv_bipush (v := 6) hx hb dOp_kindOf_366 (by decide) ?_
                          exact W.iret hx hb hr (fun t ht _ => ⟨by rw [hR]; first | done | rfl, ht⟩) (fun _ h => absurd h List.not_mem_nil) dOp_kindOf_368
                        · have hR := hR.trans (if_neg h1_24)
                          by_cases h1_30 : o = 30
                          · have hR := hR.trans (if_pos h1_30)
                            refine lv_tableIn (off := 357) (tgt := 358) hx hb dOp_kindOf_1 (by rw [h1_30]; decide) (by rw [h1_30]; decide) (by rw [h1_30]; decide) rfl ?_
                            refine lv_iconst (v := 2) hx hb dOp_kindOf_358 (by decide) ?_
                            exact W.iret hx hb hr (fun t ht _ => ⟨by rw [hR]; first | done | rfl, ht⟩) (fun _ h => absurd h List.not_mem_nil) dOp_kindOf_359
                          · have hR := hR.trans (if_neg h1_30)
                            by_cases h1_31 : o = 31
                            · have hR := hR.trans (if_pos h1_31)
                              refine lv_tableIn (off := 357) (tgt := 358) hx hb dOp_kindOf_1 (by rw [h1_31]; decide) (by rw [h1_31]; decide) (by rw [h1_31]; decide) rfl ?_
                              refine lv_iconst (v := 2) hx hb dOp_kindOf_358 (by decide) ?_
                              exact W.iret hx hb hr (fun t ht _ => ⟨by rw [hR]; first | done | rfl, ht⟩) (fun _ h => absurd h List.not_mem_nil) dOp_kindOf_359
                            · have hR := hR.trans (if_neg h1_31)
                              by_cases h1_35 : o = 35
                              · have hR := hR.trans (if_pos h1_35)
                                refine lv_tableIn (off := 357) (tgt := 358) hx hb dOp_kindOf_1 (by rw [h1_35]; decide) (by rw [h1_35]; decide) (by rw [h1_35]; decide) rfl ?_
                                refine lv_iconst (v := 2) hx hb dOp_kindOf_358 (by decide) ?_
                                exact W.iret hx hb hr (fun t ht _ => ⟨by rw [hR]; first | done | rfl, ht⟩) (fun _ h => absurd h List.not_mem_nil) dOp_kindOf_359
                              · have hR := hR.trans (if_neg h1_35)
                                by_cases h1_44 : o = 44
                                · have hR := hR.trans (if_pos h1_44)
                                  refine lv_tableIn (off := 359) (tgt := 360) hx hb dOp_kindOf_1 (by rw [h1_44]; decide) (by rw [h1_44]; decide) (by rw [h1_44]; decide) rfl ?_
                                  refine lv_iconst (v := 3) hx hb dOp_kindOf_360 (by decide) ?_
                                  exact W.iret hx hb hr (fun t ht _ => ⟨by rw [hR]; first | done | rfl, ht⟩) (fun _ h => absurd h List.not_mem_nil) dOp_kindOf_361
                                · have hR := hR.trans (if_neg h1_44)
                                  by_cases h1_45 : o = 45
                                  · have hR := hR.trans (if_pos h1_45)
                                    refine lv_tableIn (off := 359) (tgt := 360) hx hb dOp_kindOf_1 (by rw [h1_45]; decide) (by rw [h1_45]; decide) (by rw [h1_45]; decide) rfl ?_
                                    refine lv_iconst (v := 3) hx hb dOp_kindOf_360 (by decide) ?_
                                    exact W.iret hx hb hr (fun t ht _ => ⟨by rw [hR]; first | done | rfl, ht⟩) (fun _ h => absurd h List.not_mem_nil) dOp_kindOf_361
                                  · have hR := hR.trans (if_neg h1_45)
                                    by_cases h1_46 : o = 46
                                    · have hR := hR.trans (if_pos h1_46)
                                      refine lv_tableIn (off := 359) (tgt := 360) hx hb dOp_kindOf_1 (by rw [h1_46]; decide) (by rw [h1_46]; decide) (by rw [h1_46]; decide) rfl ?_
                                      refine lv_iconst (v := 3) hx hb dOp_kindOf_360 (by decide) ?_
                                      exact W.iret hx hb hr (fun t ht _ => ⟨by rw [hR]; first | done | rfl, ht⟩) (fun _ h => absurd h List.not_mem_nil) dOp_kindOf_361
                                    · have hR := hR.trans (if_neg h1_46)
                                      by_cases h1_47 : o = 47
                                      · have hR := hR.trans (if_pos h1_47)
                                        refine lv_tableIn (off := 359) (tgt := 360) hx hb dOp_kindOf_1 (by rw [h1_47]; decide) (by rw [h1_47]; decide) (by rw [h1_47]; decide) rfl ?_
                                        refine lv_iconst (v := 3) hx hb dOp_kindOf_360 (by decide) ?_
                                        exact W.iret hx hb hr (fun t ht _ => ⟨by rw [hR]; first | done | rfl, ht⟩) (fun _ h => absurd h List.not_mem_nil) dOp_kindOf_361
                                      · have hR := hR.trans (if_neg h1_47)
                                        by_cases h1_60 : o = 60
                                        · have hR := hR.trans (if_pos h1_60)
                                          refine lv_tableIn (off := 361) (tgt := 362) hx hb dOp_kindOf_1 (by rw [h1_60]; decide) (by rw [h1_60]; decide) (by rw [h1_60]; decide) rfl ?_
                                          refine lv_iconst (v := 4) hx hb dOp_kindOf_362 (by decide) ?_
                                          exact W.iret hx hb hr (fun t ht _ => ⟨by rw [hR]; first | done | rfl, ht⟩) (fun _ h => absurd h List.not_mem_nil) dOp_kindOf_363
                                        · have hR := hR.trans (if_neg h1_60)
                                          by_cases h1_61 : o = 61
                                          · have hR := hR.trans (if_pos h1_61)
                                            refine lv_tableIn (off := 361) (tgt := 362) hx hb dOp_kindOf_1 (by rw [h1_61]; decide) (by rw [h1_61]; decide) (by rw [h1_61]; decide) rfl ?_
                                            refine lv_iconst (v := 4) hx hb dOp_kindOf_362 (by decide) ?_
                                            exact W.iret hx hb hr (fun t ht _ => ⟨by rw [hR]; first | done | rfl, ht⟩) (fun _ h => absurd h List.not_mem_nil) dOp_kindOf_363
                                          · have hR := hR.trans (if_neg h1_61)
                                            by_cases h1_65 : o = 65
                                            · have hR := hR.trans (if_pos h1_65)
                                              refine lv_tableIn (off := 361) (tgt := 362) hx hb dOp_kindOf_1 (by rw [h1_65]; decide) (by rw [h1_65]; decide) (by rw [h1_65]; decide) rfl ?_
                                              refine lv_iconst (v := 4) hx hb dOp_kindOf_362 (by decide) ?_
                                              exact W.iret hx hb hr (fun t ht _ => ⟨by rw [hR]; first | done | rfl, ht⟩) (fun _ h => absurd h List.not_mem_nil) dOp_kindOf_363
                                            · have hR := hR.trans (if_neg h1_65)
                                              by_cases h1_66 : o = 66
                                              · have hR := hR.trans (if_pos h1_66)
                                                refine lv_tableIn (off := 361) (tgt := 362) hx hb dOp_kindOf_1 (by rw [h1_66]; decide) (by rw [h1_66]; decide) (by rw [h1_66]; decide) rfl ?_
                                                refine lv_iconst (v := 4) hx hb dOp_kindOf_362 (by decide) ?_
                                                exact W.iret hx hb hr (fun t ht _ => ⟨by rw [hR]; first | done | rfl, ht⟩) (fun _ h => absurd h List.not_mem_nil) dOp_kindOf_363
                                              · have hR := hR.trans (if_neg h1_66)
                                                by_cases h1_67 : o = 67
                                                · have hR := hR.trans (if_pos h1_67)
                                                  refine lv_tableIn (off := 361) (tgt := 362) hx hb dOp_kindOf_1 (by rw [h1_67]; decide) (by rw [h1_67]; decide) (by rw [h1_67]; decide) rfl ?_
                                                  refine lv_iconst (v := 4) hx hb dOp_kindOf_362 (by decide) ?_
                                                  exact W.iret hx hb hr (fun t ht _ => ⟨by rw [hR]; first | done | rfl, ht⟩) (fun _ h => absurd h List.not_mem_nil) dOp_kindOf_363
                                                · have hR := hR.trans (if_neg h1_67)
                                                  by_cases h1_69 : o = 69
                                                  · have hR := hR.trans (if_pos h1_69)
                                                    refine lv_tableIn (off := 363) (tgt := 364) hx hb dOp_kindOf_1 (by rw [h1_69]; decide) (by rw [h1_69]; decide) (by rw [h1_69]; decide) rfl ?_
                                                    refine lv_iconst (v := 5) hx hb dOp_kindOf_364 (by decide) ?_
                                                    exact W.iret hx hb hr (fun t ht _ => ⟨by rw [hR]; first | done | rfl, ht⟩) (fun _ h => absurd h List.not_mem_nil) dOp_kindOf_365
                                                  · have hR := hR.trans (if_neg h1_69)
                                                    by_cases h1_70 : o = 70
                                                    · have hR := hR.trans (if_pos h1_70)
                                                      refine lv_tableIn (off := 365) (tgt := 366) hx hb dOp_kindOf_1 (by rw [h1_70]; decide) (by rw [h1_70]; decide) (by rw [h1_70]; decide) rfl ?_
                                                      refine lv_bipush (v := 6) hx hb dOp_kindOf_366 (by decide) ?_
                                                      exact W.iret hx hb hr (fun t ht _ => ⟨by rw [hR]; first | done | rfl, ht⟩) (fun _ h => absurd h List.not_mem_nil) dOp_kindOf_368
                                                    · have hR := hR.trans (if_neg h1_70)
                                                      by_cases h1_71 : o = 71
                                                      · have hR := hR.trans (if_pos h1_71)
                                                        refine lv_tableIn (off := 363) (tgt := 364) hx hb dOp_kindOf_1 (by rw [h1_71]; decide) (by rw [h1_71]; decide) (by rw [h1_71]; decide) rfl ?_
                                                        refine lv_iconst (v := 5) hx hb dOp_kindOf_364 (by decide) ?_
                                                        exact W.iret hx hb hr (fun t ht _ => ⟨by rw [hR]; first | done | rfl, ht⟩) (fun _ h => absurd h List.not_mem_nil) dOp_kindOf_365
                                                      · have hR := hR.trans (if_neg h1_71)
                                                        by_cases h1_84 : o = 84
                                                        · have hR := hR.trans (if_pos h1_84)
                                                          refine lv_tableIn (off := 363) (tgt := 364) hx hb dOp_kindOf_1 (by rw [h1_84]; decide) (by rw [h1_84]; decide) (by rw [h1_84]; decide) rfl ?_
                                                          refine lv_iconst (v := 5) hx hb dOp_kindOf_364 (by decide) ?_
                                                          exact W.iret hx hb hr (fun t ht _ => ⟨by rw [hR]; first | done | rfl, ht⟩) (fun _ h => absurd h List.not_mem_nil) dOp_kindOf_365
                                                        · have hR := hR.trans (if_neg h1_84)
                                                          have nh1_0 := lv_neT (k := 0) (a := 0) h1_0 (by decide)
                                                          have nh1_1 := lv_neT (k := 1) (a := 1) h1_1 (by decide)
                                                          have nh1_10 := lv_neT (k := 10) (a := 10) h1_10 (by decide)
                                                          have nh1_11 := lv_neT (k := 11) (a := 11) h1_11 (by decide)
                                                          have nh1_14 := lv_neT (k := 14) (a := 14) h1_14 (by decide)
                                                          have nh1_15 := lv_neT (k := 15) (a := 15) h1_15 (by decide)
                                                          have nh1_16 := lv_neT (k := 16) (a := 16) h1_16 (by decide)
                                                          have nh1_19 := lv_neT (k := 19) (a := 19) h1_19 (by decide)
                                                          have nh1_20 := lv_neT (k := 20) (a := 20) h1_20 (by decide)
                                                          have nh1_21 := lv_neT (k := 21) (a := 21) h1_21 (by decide)
                                                          have nh1_22 := lv_neT (k := 22) (a := 22) h1_22 (by decide)
                                                          have nh1_24 := lv_neT (k := 24) (a := 24) h1_24 (by decide)
                                                          have nh1_30 := lv_neT (k := 30) (a := 30) h1_30 (by decide)
                                                          have nh1_31 := lv_neT (k := 31) (a := 31) h1_31 (by decide)
                                                          have nh1_35 := lv_neT (k := 35) (a := 35) h1_35 (by decide)
                                                          have nh1_44 := lv_neT (k := 44) (a := 44) h1_44 (by decide)
                                                          have nh1_45 := lv_neT (k := 45) (a := 45) h1_45 (by decide)
                                                          have nh1_46 := lv_neT (k := 46) (a := 46) h1_46 (by decide)
                                                          have nh1_47 := lv_neT (k := 47) (a := 47) h1_47 (by decide)
                                                          have nh1_60 := lv_neT (k := 60) (a := 60) h1_60 (by decide)
                                                          have nh1_61 := lv_neT (k := 61) (a := 61) h1_61 (by decide)
                                                          have nh1_65 := lv_neT (k := 65) (a := 65) h1_65 (by decide)
                                                          have nh1_66 := lv_neT (k := 66) (a := 66) h1_66 (by decide)
                                                          have nh1_67 := lv_neT (k := 67) (a := 67) h1_67 (by decide)
                                                          have nh1_69 := lv_neT (k := 69) (a := 69) h1_69 (by decide)
                                                          have nh1_70 := lv_neT (k := 70) (a := 70) h1_70 (by decide)
                                                          have nh1_71 := lv_neT (k := 71) (a := 71) h1_71 (by decide)
                                                          have nh1_84 := lv_neT (k := 84) (a := 84) h1_84 (by decide)
                                                          by_cases hO : o.toInt < 0 ∨ 84 < o.toInt
                                                          · refine lv_tableOut (tgt := 369) hx hb dOp_kindOf_1 hO rfl ?_
                                                            refine lv_iload_n hx hb dOp_kindOf_369 rfl (lv_at hl 0 rfl) ?_
                                                            refine cl_rd (W.runS (As := [.int (o)]) (rest := []) ⟨hx, hb, hml, hown, hts⟩ (kOp_branchesOnEight l o) (va_cwS 1 hts (gS wm2_183 wm2_184 wm1_17 wm2_185) rfl rfl rfl (by decide +kernel) ⟨Nat.le_of_ble_eq_true rfl, Nat.le_of_ble_eq_true rfl⟩) (preT) rfl rfl hl.1 rfl (lv_room (Nat.le_of_ble_eq_true rfl)) dOp_kindOf_370 ⟨Nat.le_refl _, Nat.le_refl _⟩) ?_
                                                            refine wz_ifeq hx hb dOp_kindOf_373 rfl (fun h373 => ?_) (fun h373 => ?_)
                                                            · have hR := hR.trans (if_neg h373)
                                                              refine lv_iconst (v := 0) hx hb dOp_kindOf_380 (by decide) ?_
                                                              exact W.iret hx hb hr (fun t ht _ => ⟨by rw [hR]; first | done | rfl, ht⟩) (fun _ h => absurd h List.not_mem_nil) dOp_kindOf_381
                                                            · have hR := hR.trans (if_pos h373)
                                                              refine lv_iconst (v := 3) hx hb dOp_kindOf_376 (by decide) ?_
                                                              refine lv_goto hx hb dOp_kindOf_377 rfl ?_
                                                              exact W.iret hx hb hr (fun t ht _ => ⟨by rw [hR]; first | done | rfl, ht⟩) (fun _ h => absurd h List.not_mem_nil) dOp_kindOf_381
                                                          · have hi : (o.toInt - 0).toNat < 85 := by omega
                                                            rcases hole_fOp_kindOf_1 ⟨(o.toInt - 0).toNat, hi⟩ with hm | hm
                                                            · exfalso
                                                              simp only [List.mem_cons, List.not_mem_nil, or_false] at hm
                                                              omega
                                                            · refine lv_tableIn (off := 368) (tgt := 369) hx hb dOp_kindOf_1 (by omega) (by omega) hm rfl ?_
                                                              refine lv_iload_n hx hb dOp_kindOf_369 rfl (lv_at hl 0 rfl) ?_
                                                              refine cl_rd (W.runS (As := [.int (o)]) (rest := []) ⟨hx, hb, hml, hown, hts⟩ (kOp_branchesOnEight l o) (va_cwS 1 hts (gS wm2_183 wm2_184 wm1_17 wm2_185) rfl rfl rfl (by decide +kernel) ⟨Nat.le_of_ble_eq_true rfl, Nat.le_of_ble_eq_true rfl⟩) (preT) rfl rfl hl.1 rfl (lv_room (Nat.le_of_ble_eq_true rfl)) dOp_kindOf_370 ⟨Nat.le_refl _, Nat.le_refl _⟩) ?_
                                                              refine wz_ifeq hx hb dOp_kindOf_373 rfl (fun h373 => ?_) (fun h373 => ?_)
                                                              · have hR := hR.trans (if_neg h373)
                                                                refine lv_iconst (v := 0) hx hb dOp_kindOf_380 (by decide) ?_
                                                                exact W.iret hx hb hr (fun t ht _ => ⟨by rw [hR]; first | done | rfl, ht⟩) (fun _ h => absurd h List.not_mem_nil) dOp_kindOf_381
                                                              · have hR := hR.trans (if_pos h373)
                                                                refine lv_iconst (v := 3) hx hb dOp_kindOf_376 (by decide) ?_
                                                                refine lv_goto hx hb dOp_kindOf_377 rfl ?_
                                                                exact W.iret hx hb hr (fun t ht _ => ⟨by rw [hR]; first | done | rfl, ht⟩) (fun _ h => absurd h List.not_mem_nil) dOp_kindOf_381
theorem dOp_exists_0 : decode ccOp_exists 0 = .ok (.iload_n 0, 1) := by decide +kernel
theorem dOp_exists_1 : decode ccOp_exists 1 = .ok (.invokestatic 13, 3) := by decide +kernel
theorem dOp_exists_4 : decode ccOp_exists 4 = .ok (.ifCond .eq 7, 3) := by decide +kernel
theorem dOp_exists_7 : decode ccOp_exists 7 = .ok (.iconst 1, 1) := by decide +kernel
theorem dOp_exists_8 : decode ccOp_exists 8 = .ok (.goto 4, 3) := by decide +kernel
theorem dOp_exists_11 : decode ccOp_exists 11 = .ok (.iconst 0, 1) := by decide +kernel
theorem dOp_exists_12 : decode ccOp_exists 12 = .ok (.ireturn, 1) := by decide +kernel
def fOp_exists (o : Int32) : Bool :=
  (if (fOp_kindOf o) = 0 then false else true)
set_option maxHeartbeats 4000000 in
set_option maxRecDepth 100000 in
theorem kOp_exists (l : Launch) (o : Int32)  : Met l yOp_exists wsOp_exists { frames := 2, cells := 0, slots := 0, locals := 40 } (va_Pc [.int (o)] (fun _ => True)) (cQr (some (.int (bb (fOp_exists o))))) 0 0 (fun _ => False) := by
  refine Met.ofW (cc := ccOp_exists) (maxL := 1) (ret := (some .boolean)) (by decide +kernel) rfl ?_
  intro p e s m args below meth c s₁ B hml hv
  obtain ⟨rfl, -⟩ := hv
  have hx := B.exec
  have hb := B.bytes
  have hr := B.returns
  have hts := atoms_spec (ws := wsOp_exists) B.pre
  have hown : s.vm.findClass ROp = some m.cls := findClass_of_methodNamed B.named
  have hlocks := B.notSynchronized
  have hl := lv_entry ([.int (o)]) (n := 1) (Nat.le_of_ble_eq_true rfl)
  rw [lg_entry_eq]
  generalize (lg_sl ([.int (o)]) ++ List.replicate (1 - (lg_sl ([.int (o)])).length) Slot.unset).toArray = ls at hl ⊢
  have hl : lv_has ls 1 [(0, .int (o))] := hl
  have hR := fOp_exists.eq_1 o
  refine lv_iload_n hx hb dOp_exists_0 rfl (lv_at hl 0 rfl) ?_
  refine cl_rd (W.runS (As := [.int (o)]) (rest := []) ⟨hx, hb, hml, hown, hts⟩ (kOp_kindOf l o) (va_cwS 1 hts (gS wm2_180 wm2_181 wm1_17 wm2_182) rfl rfl rfl (by decide +kernel) ⟨Nat.le_of_ble_eq_true rfl, Nat.le_of_ble_eq_true rfl⟩) (preT) rfl rfl hl.1 rfl (lv_room (Nat.le_of_ble_eq_true rfl)) dOp_exists_1 ⟨Nat.le_refl _, Nat.le_refl _⟩) ?_
  refine lv_if_eq hx hb dOp_exists_4 rfl (fun h4 => ?_) (fun h4 => ?_)
  · have hR := hR.trans (if_pos h4)
    refine lv_iconst (v := 0) hx hb dOp_exists_11 (by decide) ?_
    exact W.zret hx hb hr rfl (fun t ht _ => ⟨by rw [hR]; first | done | rfl, ht⟩) (fun _ h => absurd h List.not_mem_nil) dOp_exists_12
  · have hR := hR.trans (if_neg h4)
    refine lv_iconst (v := 1) hx hb dOp_exists_7 (by decide) ?_
    refine lv_goto hx hb dOp_exists_8 rfl ?_
    exact W.zret hx hb hr rfl (fun t ht _ => ⟨by rw [hR]; first | done | rfl, ht⟩) (fun _ h => absurd h List.not_mem_nil) dOp_exists_12
theorem dOp_shifts_0 : decode ccOp_shifts 0 = .ok (.iload_n 0, 1) := by decide +kernel
theorem dOp_shifts_1 : decode ccOp_shifts 1 = .ok (.invokestatic 13, 3) := by decide +kernel
theorem dOp_shifts_4 : decode ccOp_shifts 4 = .ok (.iconst 2, 1) := by decide +kernel
theorem dOp_shifts_5 : decode ccOp_shifts 5 = .ok (.if_icmp .ne 7, 3) := by decide +kernel
theorem dOp_shifts_8 : decode ccOp_shifts 8 = .ok (.iconst 1, 1) := by decide +kernel
theorem dOp_shifts_9 : decode ccOp_shifts 9 = .ok (.goto 4, 3) := by decide +kernel
theorem dOp_shifts_12 : decode ccOp_shifts 12 = .ok (.iconst 0, 1) := by decide +kernel
theorem dOp_shifts_13 : decode ccOp_shifts 13 = .ok (.ireturn, 1) := by decide +kernel
def fOp_shifts (o : Int32) : Bool :=
  (if (fOp_kindOf o) = (2 : Int32) then true else false)
set_option maxHeartbeats 4000000 in
set_option maxRecDepth 100000 in
theorem kOp_shifts (l : Launch) (o : Int32)  : Met l yOp_shifts wsOp_shifts { frames := 2, cells := 0, slots := 0, locals := 40 } (va_Pc [.int (o)] (fun _ => True)) (cQr (some (.int (bb (fOp_shifts o))))) 0 0 (fun _ => False) := by
  refine Met.ofW (cc := ccOp_shifts) (maxL := 1) (ret := (some .boolean)) (by decide +kernel) rfl ?_
  intro p e s m args below meth c s₁ B hml hv
  obtain ⟨rfl, -⟩ := hv
  have hx := B.exec
  have hb := B.bytes
  have hr := B.returns
  have hts := atoms_spec (ws := wsOp_shifts) B.pre
  have hown : s.vm.findClass ROp = some m.cls := findClass_of_methodNamed B.named
  have hlocks := B.notSynchronized
  have hl := lv_entry ([.int (o)]) (n := 1) (Nat.le_of_ble_eq_true rfl)
  rw [lg_entry_eq]
  generalize (lg_sl ([.int (o)]) ++ List.replicate (1 - (lg_sl ([.int (o)])).length) Slot.unset).toArray = ls at hl ⊢
  have hl : lv_has ls 1 [(0, .int (o))] := hl
  have hR := fOp_shifts.eq_1 o
  refine lv_iload_n hx hb dOp_shifts_0 rfl (lv_at hl 0 rfl) ?_
  refine cl_rd (W.runS (As := [.int (o)]) (rest := []) ⟨hx, hb, hml, hown, hts⟩ (kOp_kindOf l o) (va_cwS 1 hts (gS wm2_180 wm2_181 wm1_17 wm2_182) rfl rfl rfl (by decide +kernel) ⟨Nat.le_of_ble_eq_true rfl, Nat.le_of_ble_eq_true rfl⟩) (preT) rfl rfl hl.1 rfl (lv_room (Nat.le_of_ble_eq_true rfl)) dOp_shifts_1 ⟨Nat.le_refl _, Nat.le_refl _⟩) ?_
  refine lv_iconst (v := 2) hx hb dOp_shifts_4 (by decide) ?_
  refine lv_icmp_ne hx hb dOp_shifts_5 rfl (fun h5 => ?_) (fun h5 => ?_)
  · have hR := hR.trans (if_neg h5)
    refine lv_iconst (v := 0) hx hb dOp_shifts_12 (by decide) ?_
    exact W.zret hx hb hr rfl (fun t ht _ => ⟨by rw [hR]; first | done | rfl, ht⟩) (fun _ h => absurd h List.not_mem_nil) dOp_shifts_13
  · have hR := hR.trans (if_pos h5)
    refine lv_iconst (v := 1) hx hb dOp_shifts_8 (by decide) ?_
    refine lv_goto hx hb dOp_shifts_9 rfl ?_
    exact W.zret hx hb hr rfl (fun t ht _ => ⟨by rw [hR]; first | done | rfl, ht⟩) (fun _ h => absurd h List.not_mem_nil) dOp_shifts_13
theorem dOp_adds_0 : decode ccOp_adds 0 = .ok (.iload_n 0, 1) := by decide +kernel
theorem dOp_adds_1 : decode ccOp_adds 1 = .ok (.invokestatic 13, 3) := by decide +kernel
theorem dOp_adds_4 : decode ccOp_adds 4 = .ok (.iconst 4, 1) := by decide +kernel
theorem dOp_adds_5 : decode ccOp_adds 5 = .ok (.if_icmp .ne 7, 3) := by decide +kernel
theorem dOp_adds_8 : decode ccOp_adds 8 = .ok (.iconst 1, 1) := by decide +kernel
theorem dOp_adds_9 : decode ccOp_adds 9 = .ok (.goto 4, 3) := by decide +kernel
theorem dOp_adds_12 : decode ccOp_adds 12 = .ok (.iconst 0, 1) := by decide +kernel
theorem dOp_adds_13 : decode ccOp_adds 13 = .ok (.ireturn, 1) := by decide +kernel
def fOp_adds (o : Int32) : Bool :=
  (if (fOp_kindOf o) = (4 : Int32) then true else false)
set_option maxHeartbeats 4000000 in
set_option maxRecDepth 100000 in
theorem kOp_adds (l : Launch) (o : Int32)  : Met l yOp_adds wsOp_adds { frames := 2, cells := 0, slots := 0, locals := 40 } (va_Pc [.int (o)] (fun _ => True)) (cQr (some (.int (bb (fOp_adds o))))) 0 0 (fun _ => False) := by
  refine Met.ofW (cc := ccOp_adds) (maxL := 1) (ret := (some .boolean)) (by decide +kernel) rfl ?_
  intro p e s m args below meth c s₁ B hml hv
  obtain ⟨rfl, -⟩ := hv
  have hx := B.exec
  have hb := B.bytes
  have hr := B.returns
  have hts := atoms_spec (ws := wsOp_adds) B.pre
  have hown : s.vm.findClass ROp = some m.cls := findClass_of_methodNamed B.named
  have hlocks := B.notSynchronized
  have hl := lv_entry ([.int (o)]) (n := 1) (Nat.le_of_ble_eq_true rfl)
  rw [lg_entry_eq]
  generalize (lg_sl ([.int (o)]) ++ List.replicate (1 - (lg_sl ([.int (o)])).length) Slot.unset).toArray = ls at hl ⊢
  have hl : lv_has ls 1 [(0, .int (o))] := hl
  have hR := fOp_adds.eq_1 o
  refine lv_iload_n hx hb dOp_adds_0 rfl (lv_at hl 0 rfl) ?_
  refine cl_rd (W.runS (As := [.int (o)]) (rest := []) ⟨hx, hb, hml, hown, hts⟩ (kOp_kindOf l o) (va_cwS 1 hts (gS wm2_180 wm2_181 wm1_17 wm2_182) rfl rfl rfl (by decide +kernel) ⟨Nat.le_of_ble_eq_true rfl, Nat.le_of_ble_eq_true rfl⟩) (preT) rfl rfl hl.1 rfl (lv_room (Nat.le_of_ble_eq_true rfl)) dOp_adds_1 ⟨Nat.le_refl _, Nat.le_refl _⟩) ?_
  refine lv_iconst (v := 4) hx hb dOp_adds_4 (by decide) ?_
  refine lv_icmp_ne hx hb dOp_adds_5 rfl (fun h5 => ?_) (fun h5 => ?_)
  · have hR := hR.trans (if_neg h5)
    refine lv_iconst (v := 0) hx hb dOp_adds_12 (by decide) ?_
    exact W.zret hx hb hr rfl (fun t ht _ => ⟨by rw [hR]; first | done | rfl, ht⟩) (fun _ h => absurd h List.not_mem_nil) dOp_adds_13
  · have hR := hR.trans (if_pos h5)
    refine lv_iconst (v := 1) hx hb dOp_adds_8 (by decide) ?_
    refine lv_goto hx hb dOp_adds_9 rfl ?_
    exact W.zret hx hb hr rfl (fun t ht _ => ⟨by rw [hR]; first | done | rfl, ht⟩) (fun _ h => absurd h List.not_mem_nil) dOp_adds_13
theorem dOp_writes_0 : decode ccOp_writes 0 = .ok (.iload_n 0, 1) := by decide +kernel
theorem dOp_writes_1 : decode ccOp_writes 1 = .ok (.invokestatic 13, 3) := by decide +kernel
theorem dOp_writes_4 : decode ccOp_writes 4 = .ok (.bipush 6, 2) := by decide +kernel
theorem dOp_writes_6 : decode ccOp_writes 6 = .ok (.if_icmp .ne 7, 3) := by decide +kernel
theorem dOp_writes_9 : decode ccOp_writes 9 = .ok (.iconst 1, 1) := by decide +kernel
theorem dOp_writes_10 : decode ccOp_writes 10 = .ok (.goto 4, 3) := by decide +kernel
theorem dOp_writes_13 : decode ccOp_writes 13 = .ok (.iconst 0, 1) := by decide +kernel
theorem dOp_writes_14 : decode ccOp_writes 14 = .ok (.ireturn, 1) := by decide +kernel
def fOp_writes (o : Int32) : Bool :=
  (if (fOp_kindOf o) = (6 : Int32) then true else false)
set_option maxHeartbeats 4000000 in
set_option maxRecDepth 100000 in
theorem kOp_writes (l : Launch) (o : Int32)  : Met l yOp_writes wsOp_writes { frames := 2, cells := 0, slots := 0, locals := 40 } (va_Pc [.int (o)] (fun _ => True)) (cQr (some (.int (bb (fOp_writes o))))) 0 0 (fun _ => False) := by
  refine Met.ofW (cc := ccOp_writes) (maxL := 1) (ret := (some .boolean)) (by decide +kernel) rfl ?_
  intro p e s m args below meth c s₁ B hml hv
  obtain ⟨rfl, -⟩ := hv
  have hx := B.exec
  have hb := B.bytes
  have hr := B.returns
  have hts := atoms_spec (ws := wsOp_writes) B.pre
  have hown : s.vm.findClass ROp = some m.cls := findClass_of_methodNamed B.named
  have hlocks := B.notSynchronized
  have hl := lv_entry ([.int (o)]) (n := 1) (Nat.le_of_ble_eq_true rfl)
  rw [lg_entry_eq]
  generalize (lg_sl ([.int (o)]) ++ List.replicate (1 - (lg_sl ([.int (o)])).length) Slot.unset).toArray = ls at hl ⊢
  have hl : lv_has ls 1 [(0, .int (o))] := hl
  have hR := fOp_writes.eq_1 o
  refine lv_iload_n hx hb dOp_writes_0 rfl (lv_at hl 0 rfl) ?_
  refine cl_rd (W.runS (As := [.int (o)]) (rest := []) ⟨hx, hb, hml, hown, hts⟩ (kOp_kindOf l o) (va_cwS 1 hts (gS wm2_180 wm2_181 wm1_17 wm2_182) rfl rfl rfl (by decide +kernel) ⟨Nat.le_of_ble_eq_true rfl, Nat.le_of_ble_eq_true rfl⟩) (preT) rfl rfl hl.1 rfl (lv_room (Nat.le_of_ble_eq_true rfl)) dOp_writes_1 ⟨Nat.le_refl _, Nat.le_refl _⟩) ?_
  refine lv_bipush (v := 6) hx hb dOp_writes_4 (by decide) ?_
  refine lv_icmp_ne hx hb dOp_writes_6 rfl (fun h6 => ?_) (fun h6 => ?_)
  · have hR := hR.trans (if_neg h6)
    refine lv_iconst (v := 0) hx hb dOp_writes_13 (by decide) ?_
    exact W.zret hx hb hr rfl (fun t ht _ => ⟨by rw [hR]; first | done | rfl, ht⟩) (fun _ h => absurd h List.not_mem_nil) dOp_writes_14
  · have hR := hR.trans (if_pos h6)
    refine lv_iconst (v := 1) hx hb dOp_writes_9 (by decide) ?_
    refine lv_goto hx hb dOp_writes_10 rfl ?_
    exact W.zret hx hb hr rfl (fun t ht _ => ⟨by rw [hR]; first | done | rfl, ht⟩) (fun _ h => absurd h List.not_mem_nil) dOp_writes_14
theorem dOp_accessesData_0 : decode ccOp_accessesData 0 = .ok (.iload_n 0, 1) := by decide +kernel
theorem dOp_accessesData_1 : decode ccOp_accessesData 1 = .ok (.invokestatic 13, 3) := by decide +kernel
theorem dOp_accessesData_4 : decode ccOp_accessesData 4 = .ok (.istore_n 1, 1) := by decide +kernel
theorem dOp_accessesData_5 : decode ccOp_accessesData 5 = .ok (.iload_n 1, 1) := by decide +kernel
theorem dOp_accessesData_6 : decode ccOp_accessesData 6 = .ok (.iconst 4, 1) := by decide +kernel
theorem dOp_accessesData_7 : decode ccOp_accessesData 7 = .ok (.if_icmp .eq 14, 3) := by decide +kernel
theorem dOp_accessesData_10 : decode ccOp_accessesData 10 = .ok (.iload_n 1, 1) := by decide +kernel
theorem dOp_accessesData_11 : decode ccOp_accessesData 11 = .ok (.iconst 5, 1) := by decide +kernel
theorem dOp_accessesData_12 : decode ccOp_accessesData 12 = .ok (.if_icmp .eq 9, 3) := by decide +kernel
theorem dOp_accessesData_15 : decode ccOp_accessesData 15 = .ok (.iload_n 1, 1) := by decide +kernel
theorem dOp_accessesData_16 : decode ccOp_accessesData 16 = .ok (.bipush 6, 2) := by decide +kernel
theorem dOp_accessesData_18 : decode ccOp_accessesData 18 = .ok (.if_icmp .ne 7, 3) := by decide +kernel
theorem dOp_accessesData_21 : decode ccOp_accessesData 21 = .ok (.iconst 1, 1) := by decide +kernel
theorem dOp_accessesData_22 : decode ccOp_accessesData 22 = .ok (.goto 4, 3) := by decide +kernel
theorem dOp_accessesData_25 : decode ccOp_accessesData 25 = .ok (.iconst 0, 1) := by decide +kernel
theorem dOp_accessesData_26 : decode ccOp_accessesData 26 = .ok (.ireturn, 1) := by decide +kernel
def fOp_accessesData (o : Int32) : Bool :=
  (if (fOp_kindOf o) = (4 : Int32) then true else (if (fOp_kindOf o) = (5 : Int32) then true else (if (fOp_kindOf o) = (6 : Int32) then true else false)))
set_option maxHeartbeats 4000000 in
set_option maxRecDepth 100000 in
theorem kOp_accessesData (l : Launch) (o : Int32)  : Met l yOp_accessesData wsOp_accessesData { frames := 2, cells := 0, slots := 0, locals := 40 } (va_Pc [.int (o)] (fun _ => True)) (cQr (some (.int (bb (fOp_accessesData o))))) 0 0 (fun _ => False) := by
  refine Met.ofW (cc := ccOp_accessesData) (maxL := 2) (ret := (some .boolean)) (by decide +kernel) rfl ?_
  intro p e s m args below meth c s₁ B hml hv
  obtain ⟨rfl, -⟩ := hv
  have hx := B.exec
  have hb := B.bytes
  have hr := B.returns
  have hts := atoms_spec (ws := wsOp_accessesData) B.pre
  have hown : s.vm.findClass ROp = some m.cls := findClass_of_methodNamed B.named
  have hlocks := B.notSynchronized
  have hl := lv_entry ([.int (o)]) (n := 2) (Nat.le_of_ble_eq_true rfl)
  rw [lg_entry_eq]
  generalize (lg_sl ([.int (o)]) ++ List.replicate (2 - (lg_sl ([.int (o)])).length) Slot.unset).toArray = ls at hl ⊢
  have hl : lv_has ls 2 [(0, .int (o))] := hl
  have hR := fOp_accessesData.eq_1 o
  refine lv_iload_n hx hb dOp_accessesData_0 rfl (lv_at hl 0 rfl) ?_
  refine cl_rd (W.runS (As := [.int (o)]) (rest := []) ⟨hx, hb, hml, hown, hts⟩ (kOp_kindOf l o) (va_cwS 1 hts (gS wm2_180 wm2_181 wm1_17 wm2_182) rfl rfl rfl (by decide +kernel) ⟨Nat.le_of_ble_eq_true rfl, Nat.le_of_ble_eq_true rfl⟩) (preT) rfl rfl hl.1 rfl (lv_room (Nat.le_of_ble_eq_true rfl)) dOp_accessesData_1 ⟨Nat.le_refl _, Nat.le_refl _⟩) ?_
  refine lv_istore_n (lv' := [(1, .int (fOp_kindOf o)), (0, .int (o))]) hx hb dOp_accessesData_4 rfl hl (by decide) rfl (fun ls hl => ?_)
  refine lv_iload_n hx hb dOp_accessesData_5 rfl (lv_at hl 0 rfl) ?_
  refine lv_iconst (v := 4) hx hb dOp_accessesData_6 (by decide) ?_
  refine lv_icmp_eq hx hb dOp_accessesData_7 rfl (fun h7 => ?_) (fun h7 => ?_)
  · have hR := hR.trans (if_pos h7)
    refine lv_iconst (v := 1) hx hb dOp_accessesData_21 (by decide) ?_
    refine lv_goto hx hb dOp_accessesData_22 rfl ?_
    exact W.zret hx hb hr rfl (fun t ht _ => ⟨by rw [hR]; first | done | rfl, ht⟩) (fun _ h => absurd h List.not_mem_nil) dOp_accessesData_26
  · have hR := hR.trans (if_neg h7)
    refine lv_iload_n hx hb dOp_accessesData_10 rfl (lv_at hl 0 rfl) ?_
    refine lv_iconst (v := 5) hx hb dOp_accessesData_11 (by decide) ?_
    refine lv_icmp_eq hx hb dOp_accessesData_12 rfl (fun h12 => ?_) (fun h12 => ?_)
    · have hR := hR.trans (if_pos h12)
      refine lv_iconst (v := 1) hx hb dOp_accessesData_21 (by decide) ?_
      refine lv_goto hx hb dOp_accessesData_22 rfl ?_
      exact W.zret hx hb hr rfl (fun t ht _ => ⟨by rw [hR]; first | done | rfl, ht⟩) (fun _ h => absurd h List.not_mem_nil) dOp_accessesData_26
    · have hR := hR.trans (if_neg h12)
      refine lv_iload_n hx hb dOp_accessesData_15 rfl (lv_at hl 0 rfl) ?_
      refine lv_bipush (v := 6) hx hb dOp_accessesData_16 (by decide) ?_
      refine lv_icmp_ne hx hb dOp_accessesData_18 rfl (fun h18 => ?_) (fun h18 => ?_)
      · have hR := hR.trans (if_neg h18)
        refine lv_iconst (v := 0) hx hb dOp_accessesData_25 (by decide) ?_
        exact W.zret hx hb hr rfl (fun t ht _ => ⟨by rw [hR]; first | done | rfl, ht⟩) (fun _ h => absurd h List.not_mem_nil) dOp_accessesData_26
      · have hR := hR.trans (if_pos h18)
        refine lv_iconst (v := 1) hx hb dOp_accessesData_21 (by decide) ?_
        refine lv_goto hx hb dOp_accessesData_22 rfl ?_
        exact W.zret hx hb hr rfl (fun t ht _ => ⟨by rw [hR]; first | done | rfl, ht⟩) (fun _ h => absurd h List.not_mem_nil) dOp_accessesData_26
theorem dOp_addsToUpper_0 : decode ccOp_addsToUpper 0 = .ok (.iload_n 0, 1) := by decide +kernel
theorem dOp_addsToUpper_1 : decode ccOp_addsToUpper 1 = .ok (.bipush 10, 2) := by decide +kernel
theorem dOp_addsToUpper_3 : decode ccOp_addsToUpper 3 = .ok (.if_icmp .eq 21, 3) := by decide +kernel
theorem dOp_addsToUpper_6 : decode ccOp_addsToUpper 6 = .ok (.iload_n 0, 1) := by decide +kernel
theorem dOp_addsToUpper_7 : decode ccOp_addsToUpper 7 = .ok (.bipush 11, 2) := by decide +kernel
theorem dOp_addsToUpper_9 : decode ccOp_addsToUpper 9 = .ok (.if_icmp .eq 15, 3) := by decide +kernel
theorem dOp_addsToUpper_12 : decode ccOp_addsToUpper 12 = .ok (.iload_n 0, 1) := by decide +kernel
theorem dOp_addsToUpper_13 : decode ccOp_addsToUpper 13 = .ok (.bipush 60, 2) := by decide +kernel
theorem dOp_addsToUpper_15 : decode ccOp_addsToUpper 15 = .ok (.if_icmp .eq 9, 3) := by decide +kernel
theorem dOp_addsToUpper_18 : decode ccOp_addsToUpper 18 = .ok (.iload_n 0, 1) := by decide +kernel
theorem dOp_addsToUpper_19 : decode ccOp_addsToUpper 19 = .ok (.bipush 61, 2) := by decide +kernel
theorem dOp_addsToUpper_21 : decode ccOp_addsToUpper 21 = .ok (.if_icmp .ne 7, 3) := by decide +kernel
theorem dOp_addsToUpper_24 : decode ccOp_addsToUpper 24 = .ok (.iconst 1, 1) := by decide +kernel
theorem dOp_addsToUpper_25 : decode ccOp_addsToUpper 25 = .ok (.goto 4, 3) := by decide +kernel
theorem dOp_addsToUpper_28 : decode ccOp_addsToUpper 28 = .ok (.iconst 0, 1) := by decide +kernel
theorem dOp_addsToUpper_29 : decode ccOp_addsToUpper 29 = .ok (.ireturn, 1) := by decide +kernel
def fOp_addsToUpper (o : Int32) : Bool :=
  (if o = (10 : Int32) then true else (if o = (11 : Int32) then true else (if o = (60 : Int32) then true else (if o = (61 : Int32) then true else false))))
set_option maxHeartbeats 4000000 in
set_option maxRecDepth 100000 in
theorem kOp_addsToUpper (l : Launch) (o : Int32)  : Met l yOp_addsToUpper wsOp_addsToUpper { frames := 0, cells := 0, slots := 0, locals := 0 } (va_Pc [.int (o)] (fun _ => True)) (cQr (some (.int (bb (fOp_addsToUpper o))))) 0 0 (fun _ => False) := by
  refine Met.ofW (cc := ccOp_addsToUpper) (maxL := 1) (ret := (some .boolean)) (by decide +kernel) rfl ?_
  intro p e s m args below meth c s₁ B hml hv
  obtain ⟨rfl, -⟩ := hv
  have hx := B.exec
  have hb := B.bytes
  have hr := B.returns
  have hts := atoms_spec (ws := wsOp_addsToUpper) B.pre
  have hown : s.vm.findClass ROp = some m.cls := findClass_of_methodNamed B.named
  have hlocks := B.notSynchronized
  have hl := lv_entry ([.int (o)]) (n := 1) (Nat.le_of_ble_eq_true rfl)
  rw [lg_entry_eq]
  generalize (lg_sl ([.int (o)]) ++ List.replicate (1 - (lg_sl ([.int (o)])).length) Slot.unset).toArray = ls at hl ⊢
  have hl : lv_has ls 1 [(0, .int (o))] := hl
  have hR := fOp_addsToUpper.eq_1 o
  refine lv_iload_n hx hb dOp_addsToUpper_0 rfl (lv_at hl 0 rfl) ?_
  refine lv_bipush (v := 10) hx hb dOp_addsToUpper_1 (by decide) ?_
  refine lv_icmp_eq hx hb dOp_addsToUpper_3 rfl (fun h3 => ?_) (fun h3 => ?_)
  · have hR := hR.trans (if_pos h3)
    refine lv_iconst (v := 1) hx hb dOp_addsToUpper_24 (by decide) ?_
    refine lv_goto hx hb dOp_addsToUpper_25 rfl ?_
    exact W.zret hx hb hr rfl (fun t ht _ => ⟨by rw [hR]; first | done | rfl, ht⟩) (fun _ h => absurd h List.not_mem_nil) dOp_addsToUpper_29
  · have hR := hR.trans (if_neg h3)
    refine lv_iload_n hx hb dOp_addsToUpper_6 rfl (lv_at hl 0 rfl) ?_
    refine lv_bipush (v := 11) hx hb dOp_addsToUpper_7 (by decide) ?_
    refine lv_icmp_eq hx hb dOp_addsToUpper_9 rfl (fun h9 => ?_) (fun h9 => ?_)
    · have hR := hR.trans (if_pos h9)
      refine lv_iconst (v := 1) hx hb dOp_addsToUpper_24 (by decide) ?_
      refine lv_goto hx hb dOp_addsToUpper_25 rfl ?_
      exact W.zret hx hb hr rfl (fun t ht _ => ⟨by rw [hR]; first | done | rfl, ht⟩) (fun _ h => absurd h List.not_mem_nil) dOp_addsToUpper_29
    · have hR := hR.trans (if_neg h9)
      refine lv_iload_n hx hb dOp_addsToUpper_12 rfl (lv_at hl 0 rfl) ?_
      refine lv_bipush (v := 60) hx hb dOp_addsToUpper_13 (by decide) ?_
      refine lv_icmp_eq hx hb dOp_addsToUpper_15 rfl (fun h15 => ?_) (fun h15 => ?_)
      · have hR := hR.trans (if_pos h15)
        refine lv_iconst (v := 1) hx hb dOp_addsToUpper_24 (by decide) ?_
        refine lv_goto hx hb dOp_addsToUpper_25 rfl ?_
        exact W.zret hx hb hr rfl (fun t ht _ => ⟨by rw [hR]; first | done | rfl, ht⟩) (fun _ h => absurd h List.not_mem_nil) dOp_addsToUpper_29
      · have hR := hR.trans (if_neg h15)
        refine lv_iload_n hx hb dOp_addsToUpper_18 rfl (lv_at hl 0 rfl) ?_
        refine lv_bipush (v := 61) hx hb dOp_addsToUpper_19 (by decide) ?_
        refine lv_icmp_ne hx hb dOp_addsToUpper_21 rfl (fun h21 => ?_) (fun h21 => ?_)
        · have hR := hR.trans (if_neg h21)
          refine lv_iconst (v := 0) hx hb dOp_addsToUpper_28 (by decide) ?_
          exact W.zret hx hb hr rfl (fun t ht _ => ⟨by rw [hR]; first | done | rfl, ht⟩) (fun _ h => absurd h List.not_mem_nil) dOp_addsToUpper_29
        · have hR := hR.trans (if_pos h21)
          refine lv_iconst (v := 1) hx hb dOp_addsToUpper_24 (by decide) ?_
          refine lv_goto hx hb dOp_addsToUpper_25 rfl ?_
          exact W.zret hx hb hr rfl (fun t ht _ => ⟨by rw [hR]; first | done | rfl, ht⟩) (fun _ h => absurd h List.not_mem_nil) dOp_addsToUpper_29
theorem dOp_subtracts_0 : decode ccOp_subtracts 0 = .ok (.iload_n 0, 1) := by decide +kernel
theorem dOp_subtracts_1 : decode ccOp_subtracts 1 = .ok (.bipush 11, 2) := by decide +kernel
theorem dOp_subtracts_3 : decode ccOp_subtracts 3 = .ok (.if_icmp .eq 21, 3) := by decide +kernel
theorem dOp_subtracts_6 : decode ccOp_subtracts 6 = .ok (.iload_n 0, 1) := by decide +kernel
theorem dOp_subtracts_7 : decode ccOp_subtracts 7 = .ok (.bipush 16, 2) := by decide +kernel
theorem dOp_subtracts_9 : decode ccOp_subtracts 9 = .ok (.if_icmp .eq 15, 3) := by decide +kernel
theorem dOp_subtracts_12 : decode ccOp_subtracts 12 = .ok (.iload_n 0, 1) := by decide +kernel
theorem dOp_subtracts_13 : decode ccOp_subtracts 13 = .ok (.bipush 61, 2) := by decide +kernel
theorem dOp_subtracts_15 : decode ccOp_subtracts 15 = .ok (.if_icmp .eq 9, 3) := by decide +kernel
theorem dOp_subtracts_18 : decode ccOp_subtracts 18 = .ok (.iload_n 0, 1) := by decide +kernel
theorem dOp_subtracts_19 : decode ccOp_subtracts 19 = .ok (.bipush 66, 2) := by decide +kernel
theorem dOp_subtracts_21 : decode ccOp_subtracts 21 = .ok (.if_icmp .ne 7, 3) := by decide +kernel
theorem dOp_subtracts_24 : decode ccOp_subtracts 24 = .ok (.iconst 1, 1) := by decide +kernel
theorem dOp_subtracts_25 : decode ccOp_subtracts 25 = .ok (.goto 4, 3) := by decide +kernel
theorem dOp_subtracts_28 : decode ccOp_subtracts 28 = .ok (.iconst 0, 1) := by decide +kernel
theorem dOp_subtracts_29 : decode ccOp_subtracts 29 = .ok (.ireturn, 1) := by decide +kernel
def fOp_subtracts (o : Int32) : Bool :=
  (if o = (11 : Int32) then true else (if o = (16 : Int32) then true else (if o = (61 : Int32) then true else (if o = (66 : Int32) then true else false))))
set_option maxHeartbeats 4000000 in
set_option maxRecDepth 100000 in
theorem kOp_subtracts (l : Launch) (o : Int32)  : Met l yOp_subtracts wsOp_subtracts { frames := 0, cells := 0, slots := 0, locals := 0 } (va_Pc [.int (o)] (fun _ => True)) (cQr (some (.int (bb (fOp_subtracts o))))) 0 0 (fun _ => False) := by
  refine Met.ofW (cc := ccOp_subtracts) (maxL := 1) (ret := (some .boolean)) (by decide +kernel) rfl ?_
  intro p e s m args below meth c s₁ B hml hv
  obtain ⟨rfl, -⟩ := hv
  have hx := B.exec
  have hb := B.bytes
  have hr := B.returns
  have hts := atoms_spec (ws := wsOp_subtracts) B.pre
  have hown : s.vm.findClass ROp = some m.cls := findClass_of_methodNamed B.named
  have hlocks := B.notSynchronized
  have hl := lv_entry ([.int (o)]) (n := 1) (Nat.le_of_ble_eq_true rfl)
  rw [lg_entry_eq]
  generalize (lg_sl ([.int (o)]) ++ List.replicate (1 - (lg_sl ([.int (o)])).length) Slot.unset).toArray = ls at hl ⊢
  have hl : lv_has ls 1 [(0, .int (o))] := hl
  have hR := fOp_subtracts.eq_1 o
  refine lv_iload_n hx hb dOp_subtracts_0 rfl (lv_at hl 0 rfl) ?_
  refine lv_bipush (v := 11) hx hb dOp_subtracts_1 (by decide) ?_
  refine lv_icmp_eq hx hb dOp_subtracts_3 rfl (fun h3 => ?_) (fun h3 => ?_)
  · have hR := hR.trans (if_pos h3)
    refine lv_iconst (v := 1) hx hb dOp_subtracts_24 (by decide) ?_
    refine lv_goto hx hb dOp_subtracts_25 rfl ?_
    exact W.zret hx hb hr rfl (fun t ht _ => ⟨by rw [hR]; first | done | rfl, ht⟩) (fun _ h => absurd h List.not_mem_nil) dOp_subtracts_29
  · have hR := hR.trans (if_neg h3)
    refine lv_iload_n hx hb dOp_subtracts_6 rfl (lv_at hl 0 rfl) ?_
    refine lv_bipush (v := 16) hx hb dOp_subtracts_7 (by decide) ?_
    refine lv_icmp_eq hx hb dOp_subtracts_9 rfl (fun h9 => ?_) (fun h9 => ?_)
    · have hR := hR.trans (if_pos h9)
      refine lv_iconst (v := 1) hx hb dOp_subtracts_24 (by decide) ?_
      refine lv_goto hx hb dOp_subtracts_25 rfl ?_
      exact W.zret hx hb hr rfl (fun t ht _ => ⟨by rw [hR]; first | done | rfl, ht⟩) (fun _ h => absurd h List.not_mem_nil) dOp_subtracts_29
    · have hR := hR.trans (if_neg h9)
      refine lv_iload_n hx hb dOp_subtracts_12 rfl (lv_at hl 0 rfl) ?_
      refine lv_bipush (v := 61) hx hb dOp_subtracts_13 (by decide) ?_
      refine lv_icmp_eq hx hb dOp_subtracts_15 rfl (fun h15 => ?_) (fun h15 => ?_)
      · have hR := hR.trans (if_pos h15)
        refine lv_iconst (v := 1) hx hb dOp_subtracts_24 (by decide) ?_
        refine lv_goto hx hb dOp_subtracts_25 rfl ?_
        exact W.zret hx hb hr rfl (fun t ht _ => ⟨by rw [hR]; first | done | rfl, ht⟩) (fun _ h => absurd h List.not_mem_nil) dOp_subtracts_29
      · have hR := hR.trans (if_neg h15)
        refine lv_iload_n hx hb dOp_subtracts_18 rfl (lv_at hl 0 rfl) ?_
        refine lv_bipush (v := 66) hx hb dOp_subtracts_19 (by decide) ?_
        refine lv_icmp_ne hx hb dOp_subtracts_21 rfl (fun h21 => ?_) (fun h21 => ?_)
        · have hR := hR.trans (if_neg h21)
          refine lv_iconst (v := 0) hx hb dOp_subtracts_28 (by decide) ?_
          exact W.zret hx hb hr rfl (fun t ht _ => ⟨by rw [hR]; first | done | rfl, ht⟩) (fun _ h => absurd h List.not_mem_nil) dOp_subtracts_29
        · have hR := hR.trans (if_pos h21)
          refine lv_iconst (v := 1) hx hb dOp_subtracts_24 (by decide) ?_
          refine lv_goto hx hb dOp_subtracts_25 rfl ?_
          exact W.zret hx hb hr rfl (fun t ht _ => ⟨by rw [hR]; first | done | rfl, ht⟩) (fun _ h => absurd h List.not_mem_nil) dOp_subtracts_29
theorem dOp_resetsFirst_0 : decode ccOp_resetsFirst 0 = .ok (.iload_n 0, 1) := by decide +kernel
theorem dOp_resetsFirst_1 : decode ccOp_resetsFirst 1 = .ok (.bipush 60, 2) := by decide +kernel
theorem dOp_resetsFirst_3 : decode ccOp_resetsFirst 3 = .ok (.if_icmp .eq 27, 3) := by decide +kernel
theorem dOp_resetsFirst_6 : decode ccOp_resetsFirst 6 = .ok (.iload_n 0, 1) := by decide +kernel
theorem dOp_resetsFirst_7 : decode ccOp_resetsFirst 7 = .ok (.bipush 61, 2) := by decide +kernel
theorem dOp_resetsFirst_9 : decode ccOp_resetsFirst 9 = .ok (.if_icmp .eq 21, 3) := by decide +kernel
theorem dOp_resetsFirst_12 : decode ccOp_resetsFirst 12 = .ok (.iload_n 0, 1) := by decide +kernel
theorem dOp_resetsFirst_13 : decode ccOp_resetsFirst 13 = .ok (.bipush 65, 2) := by decide +kernel
theorem dOp_resetsFirst_15 : decode ccOp_resetsFirst 15 = .ok (.if_icmp .eq 15, 3) := by decide +kernel
theorem dOp_resetsFirst_18 : decode ccOp_resetsFirst 18 = .ok (.iload_n 0, 1) := by decide +kernel
theorem dOp_resetsFirst_19 : decode ccOp_resetsFirst 19 = .ok (.bipush 66, 2) := by decide +kernel
theorem dOp_resetsFirst_21 : decode ccOp_resetsFirst 21 = .ok (.if_icmp .eq 9, 3) := by decide +kernel
theorem dOp_resetsFirst_24 : decode ccOp_resetsFirst 24 = .ok (.iload_n 0, 1) := by decide +kernel
theorem dOp_resetsFirst_25 : decode ccOp_resetsFirst 25 = .ok (.bipush 67, 2) := by decide +kernel
theorem dOp_resetsFirst_27 : decode ccOp_resetsFirst 27 = .ok (.if_icmp .ne 7, 3) := by decide +kernel
theorem dOp_resetsFirst_30 : decode ccOp_resetsFirst 30 = .ok (.iconst 1, 1) := by decide +kernel
theorem dOp_resetsFirst_31 : decode ccOp_resetsFirst 31 = .ok (.goto 4, 3) := by decide +kernel
theorem dOp_resetsFirst_34 : decode ccOp_resetsFirst 34 = .ok (.iconst 0, 1) := by decide +kernel
theorem dOp_resetsFirst_35 : decode ccOp_resetsFirst 35 = .ok (.ireturn, 1) := by decide +kernel
def fOp_resetsFirst (o : Int32) : Bool :=
  (if o = (60 : Int32) then true else (if o = (61 : Int32) then true else (if o = (65 : Int32) then true else (if o = (66 : Int32) then true else (if o = (67 : Int32) then true else false)))))
set_option maxHeartbeats 4000000 in
set_option maxRecDepth 100000 in
theorem kOp_resetsFirst (l : Launch) (o : Int32)  : Met l yOp_resetsFirst wsOp_resetsFirst { frames := 0, cells := 0, slots := 0, locals := 0 } (va_Pc [.int (o)] (fun _ => True)) (cQr (some (.int (bb (fOp_resetsFirst o))))) 0 0 (fun _ => False) := by
  refine Met.ofW (cc := ccOp_resetsFirst) (maxL := 1) (ret := (some .boolean)) (by decide +kernel) rfl ?_
  intro p e s m args below meth c s₁ B hml hv
  obtain ⟨rfl, -⟩ := hv
  have hx := B.exec
  have hb := B.bytes
  have hr := B.returns
  have hts := atoms_spec (ws := wsOp_resetsFirst) B.pre
  have hown : s.vm.findClass ROp = some m.cls := findClass_of_methodNamed B.named
  have hlocks := B.notSynchronized
  have hl := lv_entry ([.int (o)]) (n := 1) (Nat.le_of_ble_eq_true rfl)
  rw [lg_entry_eq]
  generalize (lg_sl ([.int (o)]) ++ List.replicate (1 - (lg_sl ([.int (o)])).length) Slot.unset).toArray = ls at hl ⊢
  have hl : lv_has ls 1 [(0, .int (o))] := hl
  have hR := fOp_resetsFirst.eq_1 o
  refine lv_iload_n hx hb dOp_resetsFirst_0 rfl (lv_at hl 0 rfl) ?_
  refine lv_bipush (v := 60) hx hb dOp_resetsFirst_1 (by decide) ?_
  refine lv_icmp_eq hx hb dOp_resetsFirst_3 rfl (fun h3 => ?_) (fun h3 => ?_)
  · have hR := hR.trans (if_pos h3)
    refine lv_iconst (v := 1) hx hb dOp_resetsFirst_30 (by decide) ?_
    refine lv_goto hx hb dOp_resetsFirst_31 rfl ?_
    exact W.zret hx hb hr rfl (fun t ht _ => ⟨by rw [hR]; first | done | rfl, ht⟩) (fun _ h => absurd h List.not_mem_nil) dOp_resetsFirst_35
  · have hR := hR.trans (if_neg h3)
    refine lv_iload_n hx hb dOp_resetsFirst_6 rfl (lv_at hl 0 rfl) ?_
    refine lv_bipush (v := 61) hx hb dOp_resetsFirst_7 (by decide) ?_
    refine lv_icmp_eq hx hb dOp_resetsFirst_9 rfl (fun h9 => ?_) (fun h9 => ?_)
    · have hR := hR.trans (if_pos h9)
      refine lv_iconst (v := 1) hx hb dOp_resetsFirst_30 (by decide) ?_
      refine lv_goto hx hb dOp_resetsFirst_31 rfl ?_
      exact W.zret hx hb hr rfl (fun t ht _ => ⟨by rw [hR]; first | done | rfl, ht⟩) (fun _ h => absurd h List.not_mem_nil) dOp_resetsFirst_35
    · have hR := hR.trans (if_neg h9)
      refine lv_iload_n hx hb dOp_resetsFirst_12 rfl (lv_at hl 0 rfl) ?_
      refine lv_bipush (v := 65) hx hb dOp_resetsFirst_13 (by decide) ?_
      refine lv_icmp_eq hx hb dOp_resetsFirst_15 rfl (fun h15 => ?_) (fun h15 => ?_)
      · have hR := hR.trans (if_pos h15)
        refine lv_iconst (v := 1) hx hb dOp_resetsFirst_30 (by decide) ?_
        refine lv_goto hx hb dOp_resetsFirst_31 rfl ?_
        exact W.zret hx hb hr rfl (fun t ht _ => ⟨by rw [hR]; first | done | rfl, ht⟩) (fun _ h => absurd h List.not_mem_nil) dOp_resetsFirst_35
      · have hR := hR.trans (if_neg h15)
        refine lv_iload_n hx hb dOp_resetsFirst_18 rfl (lv_at hl 0 rfl) ?_
        refine lv_bipush (v := 66) hx hb dOp_resetsFirst_19 (by decide) ?_
        refine lv_icmp_eq hx hb dOp_resetsFirst_21 rfl (fun h21 => ?_) (fun h21 => ?_)
        · have hR := hR.trans (if_pos h21)
          refine lv_iconst (v := 1) hx hb dOp_resetsFirst_30 (by decide) ?_
          refine lv_goto hx hb dOp_resetsFirst_31 rfl ?_
          exact W.zret hx hb hr rfl (fun t ht _ => ⟨by rw [hR]; first | done | rfl, ht⟩) (fun _ h => absurd h List.not_mem_nil) dOp_resetsFirst_35
        · have hR := hR.trans (if_neg h21)
          refine lv_iload_n hx hb dOp_resetsFirst_24 rfl (lv_at hl 0 rfl) ?_
          refine lv_bipush (v := 67) hx hb dOp_resetsFirst_25 (by decide) ?_
          refine lv_icmp_ne hx hb dOp_resetsFirst_27 rfl (fun h27 => ?_) (fun h27 => ?_)
          · have hR := hR.trans (if_neg h27)
            refine lv_iconst (v := 0) hx hb dOp_resetsFirst_34 (by decide) ?_
            exact W.zret hx hb hr rfl (fun t ht _ => ⟨by rw [hR]; first | done | rfl, ht⟩) (fun _ h => absurd h List.not_mem_nil) dOp_resetsFirst_35
          · have hR := hR.trans (if_pos h27)
            refine lv_iconst (v := 1) hx hb dOp_resetsFirst_30 (by decide) ?_
            refine lv_goto hx hb dOp_resetsFirst_31 rfl ?_
            exact W.zret hx hb hr rfl (fun t ht _ => ⟨by rw [hR]; first | done | rfl, ht⟩) (fun _ h => absurd h List.not_mem_nil) dOp_resetsFirst_35
theorem dOp_shiftLength_0 : decode ccOp_shiftLength 0 = .ok (.iload_n 1, 1) := by decide +kernel
theorem dOp_shiftLength_1 : decode ccOp_shiftLength 1 = .ok (.bipush 10, 2) := by decide +kernel
theorem dOp_shiftLength_3 : decode ccOp_shiftLength 3 = .ok (.irem, 1) := by decide +kernel
theorem dOp_shiftLength_4 : decode ccOp_shiftLength 4 = .ok (.istore_n 2, 1) := by decide +kernel
theorem dOp_shiftLength_5 : decode ccOp_shiftLength 5 = .ok (.iload_n 0, 1) := by decide +kernel
theorem dOp_shiftLength_6 : decode ccOp_shiftLength 6 = .ok (.bipush 31, 2) := by decide +kernel
theorem dOp_shiftLength_8 : decode ccOp_shiftLength 8 = .ok (.if_icmp .ne 12, 3) := by decide +kernel
theorem dOp_shiftLength_11 : decode ccOp_shiftLength 11 = .ok (.iload_n 2, 1) := by decide +kernel
theorem dOp_shiftLength_12 : decode ccOp_shiftLength 12 = .ok (.ifCond .ne 8, 3) := by decide +kernel
theorem dOp_shiftLength_15 : decode ccOp_shiftLength 15 = .ok (.bipush 10, 2) := by decide +kernel
theorem dOp_shiftLength_17 : decode ccOp_shiftLength 17 = .ok (.goto 4, 3) := by decide +kernel
theorem dOp_shiftLength_20 : decode ccOp_shiftLength 20 = .ok (.iload_n 2, 1) := by decide +kernel
theorem dOp_shiftLength_21 : decode ccOp_shiftLength 21 = .ok (.ireturn, 1) := by decide +kernel
def fOp_shiftLength (o : Int32) (d : Int32) : Int32 :=
  (if o = (31 : Int32) then (if (d % 10) = 0 then 10 else d % 10) else d % 10)
set_option maxHeartbeats 4000000 in
set_option maxRecDepth 100000 in
theorem kOp_shiftLength (l : Launch) (o : Int32) (d : Int32)  : Met l yOp_shiftLength wsOp_shiftLength { frames := 0, cells := 0, slots := 0, locals := 0 } (va_Pc [.int (o), .int (d)] (fun _ => True)) (cQr (some (.int (fOp_shiftLength o d)))) 0 0 (fun _ => False) := by
  refine Met.ofW (cc := ccOp_shiftLength) (maxL := 3) (ret := (some .int)) (by decide +kernel) rfl ?_
  intro p e s m args below meth c s₁ B hml hv
  obtain ⟨rfl, -⟩ := hv
  have hx := B.exec
  have hb := B.bytes
  have hr := B.returns
  have hts := atoms_spec (ws := wsOp_shiftLength) B.pre
  have hown : s.vm.findClass ROp = some m.cls := findClass_of_methodNamed B.named
  have hlocks := B.notSynchronized
  have hl := lv_entry ([.int (o), .int (d)]) (n := 3) (Nat.le_of_ble_eq_true rfl)
  rw [lg_entry_eq]
  generalize (lg_sl ([.int (o), .int (d)]) ++ List.replicate (3 - (lg_sl ([.int (o), .int (d)])).length) Slot.unset).toArray = ls at hl ⊢
  have hl : lv_has ls 3 [(0, .int (o)), (1, .int (d))] := hl
  have hR := fOp_shiftLength.eq_1 o d
  refine lv_iload_n hx hb dOp_shiftLength_0 rfl (lv_at hl 1 rfl) ?_
  refine lv_bipush (v := 10) hx hb dOp_shiftLength_1 (by decide) ?_
  refine lm_irem hx hb dOp_shiftLength_3 (by decide) ?_
  refine lv_istore_n (lv' := [(2, .int (d % 10)), (0, .int (o)), (1, .int (d))]) hx hb dOp_shiftLength_4 rfl hl (by decide) rfl (fun ls hl => ?_)
  refine lv_iload_n hx hb dOp_shiftLength_5 rfl (lv_at hl 1 rfl) ?_
  refine lv_bipush (v := 31) hx hb dOp_shiftLength_6 (by decide) ?_
  refine lv_icmp_ne hx hb dOp_shiftLength_8 rfl (fun h8 => ?_) (fun h8 => ?_)
  · have hR := hR.trans (if_neg h8)
    refine lv_iload_n hx hb dOp_shiftLength_20 rfl (lv_at hl 0 rfl) ?_
    exact W.iret hx hb hr (fun t ht _ => ⟨by rw [hR]; first | done | rfl, ht⟩) (fun _ h => absurd h List.not_mem_nil) dOp_shiftLength_21
  · have hR := hR.trans (if_pos h8)
    refine lv_iload_n hx hb dOp_shiftLength_11 rfl (lv_at hl 0 rfl) ?_
    refine lv_if_ne hx hb dOp_shiftLength_12 rfl (fun h12 => ?_) (fun h12 => ?_)
    · have hR := hR.trans (if_neg h12)
      refine lv_iload_n hx hb dOp_shiftLength_20 rfl (lv_at hl 0 rfl) ?_
      exact W.iret hx hb hr (fun t ht _ => ⟨by rw [hR]; first | done | rfl, ht⟩) (fun _ h => absurd h List.not_mem_nil) dOp_shiftLength_21
    · have hR := hR.trans (if_pos h12)
      refine lv_bipush (v := 10) hx hb dOp_shiftLength_15 (by decide) ?_
      refine lv_goto hx hb dOp_shiftLength_17 rfl ?_
      exact W.iret hx hb hr (fun t ht _ => ⟨by rw [hR]; first | done | rfl, ht⟩) (fun _ h => absurd h List.not_mem_nil) dOp_shiftLength_21
theorem dOp_fixedTime_0 : decode ccOp_fixedTime 0 = .ok (.iload_n 0, 1) := by decide +kernel
theorem dOp_fixedTime_1 : decode ccOp_fixedTime 1 = .ok (.invokestatic 13, 3) := by decide +kernel
theorem dOp_fixedTime_4 : decode ccOp_fixedTime 4 = .ok (.istore_n 2, 1) := by decide +kernel
theorem dOp_fixedTime_5 : decode ccOp_fixedTime 5 = .ok (.iload_n 2, 1) := by decide +kernel
theorem dOp_fixedTime_6 : decode ccOp_fixedTime 6 = .ok (.iconst 4, 1) := by decide +kernel
theorem dOp_fixedTime_7 : decode ccOp_fixedTime 7 = .ok (.if_icmp .ne 5, 3) := by decide +kernel
theorem dOp_fixedTime_10 : decode ccOp_fixedTime 10 = .ok (.iconst 2, 1) := by decide +kernel
theorem dOp_fixedTime_11 : decode ccOp_fixedTime 11 = .ok (.ireturn, 1) := by decide +kernel
theorem dOp_fixedTime_12 : decode ccOp_fixedTime 12 = .ok (.iload_n 2, 1) := by decide +kernel
theorem dOp_fixedTime_13 : decode ccOp_fixedTime 13 = .ok (.iconst 2, 1) := by decide +kernel
theorem dOp_fixedTime_14 : decode ccOp_fixedTime 14 = .ok (.if_icmp .ne 23, 3) := by decide +kernel
theorem dOp_fixedTime_17 : decode ccOp_fixedTime 17 = .ok (.iload_n 0, 1) := by decide +kernel
theorem dOp_fixedTime_18 : decode ccOp_fixedTime 18 = .ok (.bipush 31, 2) := by decide +kernel
theorem dOp_fixedTime_20 : decode ccOp_fixedTime 20 = .ok (.if_icmp .ne 7, 3) := by decide +kernel
theorem dOp_fixedTime_23 : decode ccOp_fixedTime 23 = .ok (.iconst 1, 1) := by decide +kernel
theorem dOp_fixedTime_24 : decode ccOp_fixedTime 24 = .ok (.goto 4, 3) := by decide +kernel
theorem dOp_fixedTime_27 : decode ccOp_fixedTime 27 = .ok (.iconst 0, 1) := by decide +kernel
theorem dOp_fixedTime_28 : decode ccOp_fixedTime 28 = .ok (.istore_n 3, 1) := by decide +kernel
theorem dOp_fixedTime_29 : decode ccOp_fixedTime 29 = .ok (.iload_n 0, 1) := by decide +kernel
theorem dOp_fixedTime_30 : decode ccOp_fixedTime 30 = .ok (.iload_n 1, 1) := by decide +kernel
theorem dOp_fixedTime_31 : decode ccOp_fixedTime 31 = .ok (.invokestatic 17, 3) := by decide +kernel
theorem dOp_fixedTime_34 : decode ccOp_fixedTime 34 = .ok (.iload_n 3, 1) := by decide +kernel
theorem dOp_fixedTime_35 : decode ccOp_fixedTime 35 = .ok (.iadd, 1) := by decide +kernel
theorem dOp_fixedTime_36 : decode ccOp_fixedTime 36 = .ok (.ireturn, 1) := by decide +kernel
theorem dOp_fixedTime_37 : decode ccOp_fixedTime 37 = .ok (.iload_n 0, 1) := by decide +kernel
theorem dOp_fixedTime_38 : decode ccOp_fixedTime 38 = .ok (.lookupswitch 48 #[(14, 42), (19, 42), (70, 45), (71, 45)], 42) := by decide +kernel
theorem dOp_fixedTime_80 : decode ccOp_fixedTime 80 = .ok (.bipush 20, 2) := by decide +kernel
theorem dOp_fixedTime_82 : decode ccOp_fixedTime 82 = .ok (.ireturn, 1) := by decide +kernel
theorem dOp_fixedTime_83 : decode ccOp_fixedTime 83 = .ok (.bipush 10, 2) := by decide +kernel
theorem dOp_fixedTime_85 : decode ccOp_fixedTime 85 = .ok (.ireturn, 1) := by decide +kernel
theorem dOp_fixedTime_86 : decode ccOp_fixedTime 86 = .ok (.iconst 0, 1) := by decide +kernel
theorem dOp_fixedTime_87 : decode ccOp_fixedTime 87 = .ok (.ireturn, 1) := by decide +kernel
def fOp_fixedTime_28  (s0 : Bool) (o : Int32) (d : Int32) : Int32 :=
  (fOp_shiftLength o d) + (bb (s0))
def fOp_fixedTime (o : Int32) (d : Int32) : Int32 :=
  (if (fOp_kindOf o) = (4 : Int32) then 2 else (if (fOp_kindOf o) = (2 : Int32) then (if o = (31 : Int32) then fOp_fixedTime_28 true o d else fOp_fixedTime_28 false o d) else (if o = 14 then 20 else (if o = 19 then 20 else (if o = 70 then 10 else (if o = 71 then 10 else 0))))))
set_option maxHeartbeats 4000000 in
set_option maxRecDepth 100000 in
theorem kOp_fixedTime (l : Launch) (o : Int32) (d : Int32)  : Met l yOp_fixedTime wsOp_fixedTime { frames := 2, cells := 0, slots := 0, locals := 40 } (va_Pc [.int (o), .int (d)] (fun _ => True)) (cQr (some (.int (fOp_fixedTime o d)))) 0 0 (fun _ => False) := by
  refine Met.ofW (cc := ccOp_fixedTime) (maxL := 4) (ret := (some .int)) (by decide +kernel) rfl ?_
  intro p e s m args below meth c s₁ B hml hv
  obtain ⟨rfl, -⟩ := hv
  have hx := B.exec
  have hb := B.bytes
  have hr := B.returns
  have hts := atoms_spec (ws := wsOp_fixedTime) B.pre
  have hown : s.vm.findClass ROp = some m.cls := findClass_of_methodNamed B.named
  have hlocks := B.notSynchronized
  have hl := lv_entry ([.int (o), .int (d)]) (n := 4) (Nat.le_of_ble_eq_true rfl)
  rw [lg_entry_eq]
  generalize (lg_sl ([.int (o), .int (d)]) ++ List.replicate (4 - (lg_sl ([.int (o), .int (d)])).length) Slot.unset).toArray = ls at hl ⊢
  have hl : lv_has ls 4 [(0, .int (o)), (1, .int (d))] := hl
  have hB28 : ∀ (ls : Array Slot) (s0 : Bool), fOp_fixedTime o d = fOp_fixedTime_28 s0 o d → lv_has ls 4 [(0, .int (o)), (1, .int (d))] → W p l e (headSpec wsOp_fixedTime { frames := 2, cells := 0, slots := 0, locals := 40 }).room s m ([.int (o), .int (d)] : List Value).toArray below meth c s.heap [] 0 0 (MQ below (cQr (some (.int (fOp_fixedTime o d)))) ([.int (o), .int (d)] : List Value).toArray s 0 0 (fun _ => False)) (F0 m 28 ls [.int (bb (s0))]) := by
    intro ls s0 hR hl
    rw [fOp_fixedTime_28.eq_1] at hR
    refine lv_istore_n (lv' := [(3, .int (bb (s0))), (0, .int (o)), (1, .int (d))]) hx hb dOp_fixedTime_28 rfl hl (by decide) rfl (fun ls hl => ?_)
    refine lv_iload_n hx hb dOp_fixedTime_29 rfl (lv_at hl 1 rfl) ?_
    refine lv_iload_n hx hb dOp_fixedTime_30 rfl (lv_at hl 2 rfl) ?_
    refine cl_rd (W.runS (As := [.int (o), .int (d)]) (rest := []) ⟨hx, hb, hml, hown, hts⟩ (kOp_shiftLength l o d) (va_cwS 2 hts (gS wm3_49 wm3_50 wm1_17 wm3_51) rfl rfl rfl (by decide +kernel) ⟨Nat.le_of_ble_eq_true rfl, Nat.le_of_ble_eq_true rfl⟩) (preT) rfl rfl hl.1 rfl (lv_room (Nat.le_of_ble_eq_true rfl)) dOp_fixedTime_31 ⟨Nat.le_refl _, Nat.le_refl _⟩) ?_
    refine lv_iload_n hx hb dOp_fixedTime_34 rfl (lv_at hl 0 rfl) ?_
    refine lv_iadd hx hb dOp_fixedTime_35 ?_
    exact W.iret hx hb hr (fun t ht _ => ⟨by rw [hR]; first | done | rfl, ht⟩) (fun _ h => absurd h List.not_mem_nil) dOp_fixedTime_36
  have hR := fOp_fixedTime.eq_1 o d
  refine lv_iload_n hx hb dOp_fixedTime_0 rfl (lv_at hl 0 rfl) ?_
  refine cl_rd (W.runS (As := [.int (o)]) (rest := []) ⟨hx, hb, hml, hown, hts⟩ (kOp_kindOf l o) (va_cwS 1 hts (gS wm2_180 wm2_181 wm1_17 wm2_182) rfl rfl rfl (by decide +kernel) ⟨Nat.le_of_ble_eq_true rfl, Nat.le_of_ble_eq_true rfl⟩) (preT) rfl rfl hl.1 rfl (lv_room (Nat.le_of_ble_eq_true rfl)) dOp_fixedTime_1 ⟨Nat.le_refl _, Nat.le_refl _⟩) ?_
  refine lv_istore_n (lv' := [(2, .int (fOp_kindOf o)), (0, .int (o)), (1, .int (d))]) hx hb dOp_fixedTime_4 rfl hl (by decide) rfl (fun ls hl => ?_)
  refine lv_iload_n hx hb dOp_fixedTime_5 rfl (lv_at hl 0 rfl) ?_
  refine lv_iconst (v := 4) hx hb dOp_fixedTime_6 (by decide) ?_
  refine lv_icmp_ne hx hb dOp_fixedTime_7 rfl (fun h7 => ?_) (fun h7 => ?_)
  · have hR := hR.trans (if_neg h7)
    refine lv_iload_n hx hb dOp_fixedTime_12 rfl (lv_at hl 0 rfl) ?_
    refine lv_iconst (v := 2) hx hb dOp_fixedTime_13 (by decide) ?_
    refine lv_icmp_ne hx hb dOp_fixedTime_14 rfl (fun h14 => ?_) (fun h14 => ?_)
    · have hR := hR.trans (if_neg h14)
      refine lv_iload_n hx hb dOp_fixedTime_37 rfl (lv_at hl 1 rfl) ?_
      by_cases h38_14 : o = 14
      · have hR := hR.trans (if_pos h38_14)
        refine lv_lookup (off := 42) (tgt := 80) hx hb dOp_fixedTime_38 (by decide) (by rw [h38_14]; decide) rfl ?_
        refine lv_bipush (v := 20) hx hb dOp_fixedTime_80 (by decide) ?_
        exact W.iret hx hb hr (fun t ht _ => ⟨by rw [hR]; first | done | rfl, ht⟩) (fun _ h => absurd h List.not_mem_nil) dOp_fixedTime_82
      · have hR := hR.trans (if_neg h38_14)
        by_cases h38_19 : o = 19
        · have hR := hR.trans (if_pos h38_19)
          refine lv_lookup (off := 42) (tgt := 80) hx hb dOp_fixedTime_38 (by decide) (by rw [h38_19]; decide) rfl ?_
          refine lv_bipush (v := 20) hx hb dOp_fixedTime_80 (by decide) ?_
          exact W.iret hx hb hr (fun t ht _ => ⟨by rw [hR]; first | done | rfl, ht⟩) (fun _ h => absurd h List.not_mem_nil) dOp_fixedTime_82
        · have hR := hR.trans (if_neg h38_19)
          by_cases h38_70 : o = 70
          · have hR := hR.trans (if_pos h38_70)
            refine lv_lookup (off := 45) (tgt := 83) hx hb dOp_fixedTime_38 (by decide) (by rw [h38_70]; decide) rfl ?_
            refine lv_bipush (v := 10) hx hb dOp_fixedTime_83 (by decide) ?_
            exact W.iret hx hb hr (fun t ht _ => ⟨by rw [hR]; first | done | rfl, ht⟩) (fun _ h => absurd h List.not_mem_nil) dOp_fixedTime_85
          · have hR := hR.trans (if_neg h38_70)
            by_cases h38_71 : o = 71
            · have hR := hR.trans (if_pos h38_71)
              refine lv_lookup (off := 45) (tgt := 83) hx hb dOp_fixedTime_38 (by decide) (by rw [h38_71]; decide) rfl ?_
              refine lv_bipush (v := 10) hx hb dOp_fixedTime_83 (by decide) ?_
              exact W.iret hx hb hr (fun t ht _ => ⟨by rw [hR]; first | done | rfl, ht⟩) (fun _ h => absurd h List.not_mem_nil) dOp_fixedTime_85
            · have hR := hR.trans (if_neg h38_71)
              refine lv_lookup (off := 48) (tgt := 86) hx hb dOp_fixedTime_38 (by decide) ((lv_osw (k := 14) h38_14 (by decide)).trans ((lv_osw (k := 19) h38_19 (by decide)).trans ((lv_osw (k := 70) h38_70 (by decide)).trans ((lv_osw (k := 71) h38_71 (by decide)).trans (rfl))))) rfl ?_
              refine lv_iconst (v := 0) hx hb dOp_fixedTime_86 (by decide) ?_
              exact W.iret hx hb hr (fun t ht _ => ⟨by rw [hR]; first | done | rfl, ht⟩) (fun _ h => absurd h List.not_mem_nil) dOp_fixedTime_87
    · have hR := hR.trans (if_pos h14)
      refine lv_iload_n hx hb dOp_fixedTime_17 rfl (lv_at hl 1 rfl) ?_
      refine lv_bipush (v := 31) hx hb dOp_fixedTime_18 (by decide) ?_
      refine lv_icmp_ne hx hb dOp_fixedTime_20 rfl (fun h20 => ?_) (fun h20 => ?_)
      · have hR := hR.trans (if_neg h20)
        refine lv_iconst (v := 0) hx hb dOp_fixedTime_27 (by decide) ?_
        exact hB28 ls false hR (lv_sub hl [1, 2] rfl)
      · have hR := hR.trans (if_pos h20)
        refine lv_iconst (v := 1) hx hb dOp_fixedTime_23 (by decide) ?_
        refine lv_goto hx hb dOp_fixedTime_24 rfl ?_
        exact hB28 ls true hR (lv_sub hl [1, 2] rfl)
  · have hR := hR.trans (if_pos h7)
    refine lv_iconst (v := 2) hx hb dOp_fixedTime_10 (by decide) ?_
    exact W.iret hx hb hr (fun t ht _ => ⟨by rw [hR]; first | done | rfl, ht⟩) (fun _ h => absurd h List.not_mem_nil) dOp_fixedTime_11
end
section
theorem dDr_codeOf_0 : decode ccDr_codeOf 0 = .ok (.iconst 1, 1) := by decide +kernel
theorem dDr_codeOf_1 : decode ccDr_codeOf 1 = .ok (.iload_n 0, 1) := by decide +kernel
theorem dDr_codeOf_2 : decode ccDr_codeOf 2 = .ok (.iconst 5, 1) := by decide +kernel
theorem dDr_codeOf_3 : decode ccDr_codeOf 3 = .ok (.irem, 1) := by decide +kernel
theorem dDr_codeOf_4 : decode ccDr_codeOf 4 = .ok (.ishl, 1) := by decide +kernel
theorem dDr_codeOf_5 : decode ccDr_codeOf 5 = .ok (.iload_n 0, 1) := by decide +kernel
theorem dDr_codeOf_6 : decode ccDr_codeOf 6 = .ok (.iconst 5, 1) := by decide +kernel
theorem dDr_codeOf_7 : decode ccDr_codeOf 7 = .ok (.if_icmp .ge 8, 3) := by decide +kernel
theorem dDr_codeOf_10 : decode ccDr_codeOf 10 = .ok (.bipush 32, 2) := by decide +kernel
theorem dDr_codeOf_12 : decode ccDr_codeOf 12 = .ok (.goto 5, 3) := by decide +kernel
theorem dDr_codeOf_15 : decode ccDr_codeOf 15 = .ok (.bipush 64, 2) := by decide +kernel
theorem dDr_codeOf_17 : decode ccDr_codeOf 17 = .ok (.ior, 1) := by decide +kernel
theorem dDr_codeOf_18 : decode ccDr_codeOf 18 = .ok (.ireturn, 1) := by decide +kernel
def fDr_codeOf (d : Int32) : Int32 :=
  (if (5 : Int32) ≤ d then ((1 : Int32) <<< ((d % 5) &&& 31)) ||| 64 else ((1 : Int32) <<< ((d % 5) &&& 31)) ||| 32)
set_option maxHeartbeats 4000000 in
set_option maxRecDepth 100000 in
theorem kDr_codeOf (l : Launch) (d : Int32)  : Met l yDr_codeOf wsDr_codeOf { frames := 0, cells := 0, slots := 0, locals := 0 } (va_Pc [.int (d)] (fun _ => True)) (cQr (some (.int (fDr_codeOf d)))) 0 0 (fun _ => False) := by
  refine Met.ofW (cc := ccDr_codeOf) (maxL := 1) (ret := (some .int)) (by decide +kernel) rfl ?_
  intro p e s m args below meth c s₁ B hml hv
  obtain ⟨rfl, -⟩ := hv
  have hx := B.exec
  have hb := B.bytes
  have hr := B.returns
  have hts := atoms_spec (ws := wsDr_codeOf) B.pre
  have hown : s.vm.findClass RDr = some m.cls := findClass_of_methodNamed B.named
  have hlocks := B.notSynchronized
  have hl := lv_entry ([.int (d)]) (n := 1) (Nat.le_of_ble_eq_true rfl)
  rw [lg_entry_eq]
  generalize (lg_sl ([.int (d)]) ++ List.replicate (1 - (lg_sl ([.int (d)])).length) Slot.unset).toArray = ls at hl ⊢
  have hl : lv_has ls 1 [(0, .int (d))] := hl
  have hR := fDr_codeOf.eq_1 d
  refine lv_iconst (v := 1) hx hb dDr_codeOf_0 (by decide) ?_
  refine lv_iload_n hx hb dDr_codeOf_1 rfl (lv_at hl 0 rfl) ?_
  refine lv_iconst (v := 5) hx hb dDr_codeOf_2 (by decide) ?_
  refine lm_irem hx hb dDr_codeOf_3 (by decide) ?_
  refine lv_ishl hx hb dDr_codeOf_4 ?_
  refine lv_iload_n hx hb dDr_codeOf_5 rfl (lv_at hl 0 rfl) ?_
  refine lv_iconst (v := 5) hx hb dDr_codeOf_6 (by decide) ?_
  refine lv_icmp_ge hx hb dDr_codeOf_7 rfl (fun h7 => ?_) (fun h7 => ?_)
  · have hR := hR.trans (if_pos h7)
    refine lv_bipush (v := 64) hx hb dDr_codeOf_15 (by decide) ?_
    refine lv_ior hx hb dDr_codeOf_17 ?_
    exact W.iret hx hb hr (fun t ht _ => ⟨by rw [hR]; first | done | rfl, ht⟩) (fun _ h => absurd h List.not_mem_nil) dDr_codeOf_18
  · have hR := hR.trans (if_neg h7)
    refine lv_bipush (v := 32) hx hb dDr_codeOf_10 (by decide) ?_
    refine lv_goto hx hb dDr_codeOf_12 rfl ?_
    refine lv_ior hx hb dDr_codeOf_17 ?_
    exact W.iret hx hb hr (fun t ht _ => ⟨by rw [hR]; first | done | rfl, ht⟩) (fun _ h => absurd h List.not_mem_nil) dDr_codeOf_18
theorem dDr_digitOf_0 : decode ccDr_digitOf 0 = .ok (.iconst 0, 1) := by decide +kernel
theorem dDr_digitOf_1 : decode ccDr_digitOf 1 = .ok (.istore_n 1, 1) := by decide +kernel
theorem dDr_digitOf_2 : decode ccDr_digitOf 2 = .ok (.iload_n 1, 1) := by decide +kernel
theorem dDr_digitOf_3 : decode ccDr_digitOf 3 = .ok (.bipush 10, 2) := by decide +kernel
theorem dDr_digitOf_5 : decode ccDr_digitOf 5 = .ok (.if_icmp .ge 19, 3) := by decide +kernel
theorem dDr_digitOf_8 : decode ccDr_digitOf 8 = .ok (.iload_n 1, 1) := by decide +kernel
theorem dDr_digitOf_9 : decode ccDr_digitOf 9 = .ok (.invokestatic 23, 3) := by decide +kernel
theorem dDr_digitOf_12 : decode ccDr_digitOf 12 = .ok (.iload_n 0, 1) := by decide +kernel
theorem dDr_digitOf_13 : decode ccDr_digitOf 13 = .ok (.if_icmp .ne 5, 3) := by decide +kernel
theorem dDr_digitOf_16 : decode ccDr_digitOf 16 = .ok (.iload_n 1, 1) := by decide +kernel
theorem dDr_digitOf_17 : decode ccDr_digitOf 17 = .ok (.ireturn, 1) := by decide +kernel
theorem dDr_digitOf_18 : decode ccDr_digitOf 18 = .ok (.iinc 1 1, 3) := by decide +kernel
theorem dDr_digitOf_21 : decode ccDr_digitOf 21 = .ok (.goto (-19), 3) := by decide +kernel
theorem dDr_digitOf_24 : decode ccDr_digitOf 24 = .ok (.iconst (-1), 1) := by decide +kernel
theorem dDr_digitOf_25 : decode ccDr_digitOf 25 = .ok (.ireturn, 1) := by decide +kernel
def fDr_digitOf_2  : Nat → Int32 → Nat → Int32
  | 0, w, v1 => 0
  | fu + 1, w, v1 => (if 10 ≤ v1 then (-1) else (if (fDr_codeOf (nI (v1))) = w then nI (v1) else fDr_digitOf_2 fu w (v1 + 1)))
def fDr_digitOf (w : Int32) : Int32 :=
  fDr_digitOf_2 11 w 0
set_option maxHeartbeats 4000000 in
set_option maxRecDepth 100000 in
theorem kDr_digitOf (l : Launch) (w : Int32)  : Met l yDr_digitOf wsDr_digitOf { frames := 1, cells := 0, slots := 0, locals := 20 } (va_Pc [.int (w)] (fun _ => True)) (cQr (some (.int (fDr_digitOf w)))) 0 0 (fun _ => False) := by
  refine Met.ofW (cc := ccDr_digitOf) (maxL := 2) (ret := (some .int)) (by decide +kernel) rfl ?_
  intro p e s m args below meth c s₁ B hml hv
  obtain ⟨rfl, -⟩ := hv
  have hx := B.exec
  have hb := B.bytes
  have hr := B.returns
  have hts := atoms_spec (ws := wsDr_digitOf) B.pre
  have hown : s.vm.findClass RDr = some m.cls := findClass_of_methodNamed B.named
  have hlocks := B.notSynchronized
  have hl := lv_entry ([.int (w)]) (n := 2) (Nat.le_of_ble_eq_true rfl)
  rw [lg_entry_eq]
  generalize (lg_sl ([.int (w)]) ++ List.replicate (2 - (lg_sl ([.int (w)])).length) Slot.unset).toArray = ls at hl ⊢
  have hl : lv_has ls 2 [(0, .int (w))] := hl
  have hB2 : ∀ (n2 : Nat) (ls : Array Slot) (v1 : Nat), 10 - v1 < n2 → fDr_digitOf w = fDr_digitOf_2 n2 w v1 → v1 ≤ 10 → lv_has ls 2 [(0, .int (w)), (1, .int (nI (v1)))] → W p l e (headSpec wsDr_digitOf { frames := 1, cells := 0, slots := 0, locals := 20 }).room s m ([.int (w)] : List Value).toArray below meth c s.heap [] 0 0 (MQ below (cQr (some (.int (fDr_digitOf w)))) ([.int (w)] : List Value).toArray s 0 0 (fun _ => False)) (F0 m 2 ls []) := by
    intro n2
    induction n2 with
    | zero => intro ls v1 hn2; exact absurd hn2 (Nat.not_lt_zero _)
    | succ n2 ih2 =>
      intro ls v1 hn2 hR h1 hl
      rw [fDr_digitOf_2.eq_2] at hR
      refine lv_iload_n hx hb dDr_digitOf_2 rfl (lv_at hl 1 rfl) ?_
      refine lv_bipush (v := 10) hx hb dDr_digitOf_3 (by decide) ?_
      refine wn_ge (x := v1) (y := 10) hx hb (by omega) (by omega) dDr_digitOf_5 rfl (fun h5 => ?_) (fun h5 => ?_)
      · have hR := hR.trans (if_pos h5)
        refine lv_iconst (v := (-1)) hx hb dDr_digitOf_24 (by decide) ?_
        exact W.iret hx hb hr (fun t ht _ => ⟨by rw [hR]; first | done | rfl, ht⟩) (fun _ h => absurd h List.not_mem_nil) dDr_digitOf_25
      · have hR := hR.trans (if_neg h5)
        refine lv_iload_n hx hb dDr_digitOf_8 rfl (lv_at hl 1 rfl) ?_
        refine cl_rd (W.runS (As := [.int ((nI (v1)))]) (rest := []) ⟨hx, hb, hml, hown, hts⟩ (kDr_codeOf l (nI (v1))) (va_cwS 1 hts (gS wm1_34 wm1_35 wm1_2 wm1_36) rfl rfl rfl (by decide +kernel) ⟨Nat.le_of_ble_eq_true rfl, Nat.le_of_ble_eq_true rfl⟩) (preT) rfl rfl hl.1 rfl (lv_room (Nat.le_of_ble_eq_true rfl)) dDr_digitOf_9 ⟨Nat.le_refl _, Nat.le_refl _⟩) ?_
        refine lv_iload_n hx hb dDr_digitOf_12 rfl (lv_at hl 0 rfl) ?_
        refine lv_icmp_ne hx hb dDr_digitOf_13 rfl (fun h13 => ?_) (fun h13 => ?_)
        · have hR := hR.trans (if_neg h13)
          refine lv_iinc (k := 1) (lv' := [(1, .int (nI (v1 + 1))), (0, .int (w))]) hx hb dDr_digitOf_18 hl rfl (nI_1 _) (by decide) rfl (fun ls hl => ?_)
          refine lv_goto hx hb dDr_digitOf_21 rfl ?_
          exact ih2 ls (v1 + 1) (by omega) hR (by first | assumption | omega) (lv_sub hl [1, 0] rfl)
        · have hR := hR.trans (if_pos h13)
          refine lv_iload_n hx hb dDr_digitOf_16 rfl (lv_at hl 1 rfl) ?_
          exact W.iret hx hb hr (fun t ht _ => ⟨by rw [hR]; first | done | rfl, ht⟩) (fun _ h => absurd h List.not_mem_nil) dDr_digitOf_17
  have hR := fDr_digitOf.eq_1 w
  refine lv_iconst (v := 0) hx hb dDr_digitOf_0 (by decide) ?_
  refine lv_istore_n (lv' := [(1, .int (nI (0))), (0, .int (w))]) hx hb dDr_digitOf_1 rfl hl (by decide) rfl (fun ls hl => ?_)
  exact hB2 11 ls 0 (by omega) hR (by first | assumption | omega) (lv_sub hl [1, 0] rfl)
theorem dDr_hasAddress_0 : decode ccDr_hasAddress 0 = .ok (.iload_n 0, 1) := by decide +kernel
theorem dDr_hasAddress_1 : decode ccDr_hasAddress 1 = .ok (.ifCond .lt 14, 3) := by decide +kernel
theorem dDr_hasAddress_4 : decode ccDr_hasAddress 4 = .ok (.iload_n 0, 1) := by decide +kernel
theorem dDr_hasAddress_5 : decode ccDr_hasAddress 5 = .ok (.sipush 200, 3) := by decide +kernel
theorem dDr_hasAddress_8 : decode ccDr_hasAddress 8 = .ok (.if_icmp .ge 7, 3) := by decide +kernel
theorem dDr_hasAddress_11 : decode ccDr_hasAddress 11 = .ok (.iconst 1, 1) := by decide +kernel
theorem dDr_hasAddress_12 : decode ccDr_hasAddress 12 = .ok (.goto 4, 3) := by decide +kernel
theorem dDr_hasAddress_15 : decode ccDr_hasAddress 15 = .ok (.iconst 0, 1) := by decide +kernel
theorem dDr_hasAddress_16 : decode ccDr_hasAddress 16 = .ok (.ireturn, 1) := by decide +kernel
def fDr_hasAddress (a : Int32) : Bool :=
  (if a < 0 then false else (if (200 : Int32) ≤ a then false else true))
set_option maxHeartbeats 4000000 in
set_option maxRecDepth 100000 in
theorem kDr_hasAddress (l : Launch) (a : Int32)  : Met l yDr_hasAddress wsDr_hasAddress { frames := 0, cells := 0, slots := 0, locals := 0 } (va_Pc [.int (a)] (fun _ => True)) (cQr (some (.int (bb (fDr_hasAddress a))))) 0 0 (fun _ => False) := by
  refine Met.ofW (cc := ccDr_hasAddress) (maxL := 1) (ret := (some .boolean)) (by decide +kernel) rfl ?_
  intro p e s m args below meth c s₁ B hml hv
  obtain ⟨rfl, -⟩ := hv
  have hx := B.exec
  have hb := B.bytes
  have hr := B.returns
  have hts := atoms_spec (ws := wsDr_hasAddress) B.pre
  have hown : s.vm.findClass RDr = some m.cls := findClass_of_methodNamed B.named
  have hlocks := B.notSynchronized
  have hl := lv_entry ([.int (a)]) (n := 1) (Nat.le_of_ble_eq_true rfl)
  rw [lg_entry_eq]
  generalize (lg_sl ([.int (a)]) ++ List.replicate (1 - (lg_sl ([.int (a)])).length) Slot.unset).toArray = ls at hl ⊢
  have hl : lv_has ls 1 [(0, .int (a))] := hl
  have hR := fDr_hasAddress.eq_1 a
  refine lv_iload_n hx hb dDr_hasAddress_0 rfl (lv_at hl 0 rfl) ?_
  refine lv_if_lt hx hb dDr_hasAddress_1 rfl (fun h1 => ?_) (fun h1 => ?_)
  · have hR := hR.trans (if_pos h1)
    refine lv_iconst (v := 0) hx hb dDr_hasAddress_15 (by decide) ?_
    exact W.zret hx hb hr rfl (fun t ht _ => ⟨by rw [hR]; first | done | rfl, ht⟩) (fun _ h => absurd h List.not_mem_nil) dDr_hasAddress_16
  · have hR := hR.trans (if_neg h1)
    refine lv_iload_n hx hb dDr_hasAddress_4 rfl (lv_at hl 0 rfl) ?_
    refine lv_sipush (v := 200) hx hb dDr_hasAddress_5 (by decide) ?_
    refine lv_icmp_ge hx hb dDr_hasAddress_8 rfl (fun h8 => ?_) (fun h8 => ?_)
    · have hR := hR.trans (if_pos h8)
      refine lv_iconst (v := 0) hx hb dDr_hasAddress_15 (by decide) ?_
      exact W.zret hx hb hr rfl (fun t ht _ => ⟨by rw [hR]; first | done | rfl, ht⟩) (fun _ h => absurd h List.not_mem_nil) dDr_hasAddress_16
    · have hR := hR.trans (if_neg h8)
      refine lv_iconst (v := 1) hx hb dDr_hasAddress_11 (by decide) ?_
      refine lv_goto hx hb dDr_hasAddress_12 rfl ?_
      exact W.zret hx hb hr rfl (fun t ht _ => ⟨by rw [hR]; first | done | rfl, ht⟩) (fun _ h => absurd h List.not_mem_nil) dDr_hasAddress_16
theorem has_in {a : Int32} (h : fDr_hasAddress a = true) : vp_in a 200 := by
  rw [fDr_hasAddress.eq_1] at h
  by_cases h1 : a < 0
  · rw [if_pos h1] at h; cases h
  · rw [if_neg h1] at h
    by_cases h2 : (200 : Int32) ≤ a
    · rw [if_pos h2] at h; cases h
    · rw [Int32.le_iff_toInt_le] at h2
      have e : (200 : Int32).toInt = 200 := by decide
      exact vp_in_iff.mpr ⟨i_nn h1, by omega⟩
theorem dDr_hasBit_0 : decode ccDr_hasBit 0 = .ok (.iload_n 0, 1) := by decide +kernel
theorem dDr_hasBit_1 : decode ccDr_hasBit 1 = .ok (.invokestatic 33, 3) := by decide +kernel
theorem dDr_hasBit_4 : decode ccDr_hasBit 4 = .ok (.ifCond .eq 27, 3) := by decide +kernel
theorem dDr_hasBit_7 : decode ccDr_hasBit 7 = .ok (.iload_n 1, 1) := by decide +kernel
theorem dDr_hasBit_8 : decode ccDr_hasBit 8 = .ok (.ifCond .lt 23, 3) := by decide +kernel
theorem dDr_hasBit_11 : decode ccDr_hasBit 11 = .ok (.iload_n 1, 1) := by decide +kernel
theorem dDr_hasBit_12 : decode ccDr_hasBit 12 = .ok (.bipush 10, 2) := by decide +kernel
theorem dDr_hasBit_14 : decode ccDr_hasBit 14 = .ok (.if_icmp .ge 17, 3) := by decide +kernel
theorem dDr_hasBit_17 : decode ccDr_hasBit 17 = .ok (.iload_n 2, 1) := by decide +kernel
theorem dDr_hasBit_18 : decode ccDr_hasBit 18 = .ok (.ifCond .lt 13, 3) := by decide +kernel
theorem dDr_hasBit_21 : decode ccDr_hasBit 21 = .ok (.iload_n 2, 1) := by decide +kernel
theorem dDr_hasBit_22 : decode ccDr_hasBit 22 = .ok (.bipush 7, 2) := by decide +kernel
theorem dDr_hasBit_24 : decode ccDr_hasBit 24 = .ok (.if_icmp .ge 7, 3) := by decide +kernel
theorem dDr_hasBit_27 : decode ccDr_hasBit 27 = .ok (.iconst 1, 1) := by decide +kernel
theorem dDr_hasBit_28 : decode ccDr_hasBit 28 = .ok (.goto 4, 3) := by decide +kernel
theorem dDr_hasBit_31 : decode ccDr_hasBit 31 = .ok (.iconst 0, 1) := by decide +kernel
theorem dDr_hasBit_32 : decode ccDr_hasBit 32 = .ok (.ireturn, 1) := by decide +kernel
def fDr_hasBit (a : Int32) (d : Int32) (b : Int32) : Bool :=
  (if (fDr_hasAddress a) = true then (if d < 0 then false else (if (10 : Int32) ≤ d then false else (if b < 0 then false else (if (7 : Int32) ≤ b then false else true)))) else false)
set_option maxHeartbeats 4000000 in
set_option maxRecDepth 100000 in
theorem kDr_hasBit (l : Launch) (a : Int32) (d : Int32) (b : Int32)  : Met l yDr_hasBit wsDr_hasBit { frames := 1, cells := 0, slots := 0, locals := 20 } (va_Pc [.int (a), .int (d), .int (b)] (fun _ => True)) (cQr (some (.int (bb (fDr_hasBit a d b))))) 0 0 (fun _ => False) := by
  refine Met.ofW (cc := ccDr_hasBit) (maxL := 3) (ret := (some .boolean)) (by decide +kernel) rfl ?_
  intro p e s m args below meth c s₁ B hml hv
  obtain ⟨rfl, -⟩ := hv
  have hx := B.exec
  have hb := B.bytes
  have hr := B.returns
  have hts := atoms_spec (ws := wsDr_hasBit) B.pre
  have hown : s.vm.findClass RDr = some m.cls := findClass_of_methodNamed B.named
  have hlocks := B.notSynchronized
  have hl := lv_entry ([.int (a), .int (d), .int (b)]) (n := 3) (Nat.le_of_ble_eq_true rfl)
  rw [lg_entry_eq]
  generalize (lg_sl ([.int (a), .int (d), .int (b)]) ++ List.replicate (3 - (lg_sl ([.int (a), .int (d), .int (b)])).length) Slot.unset).toArray = ls at hl ⊢
  have hl : lv_has ls 3 [(0, .int (a)), (1, .int (d)), (2, .int (b))] := hl
  have hR := fDr_hasBit.eq_1 a d b
  refine lv_iload_n hx hb dDr_hasBit_0 rfl (lv_at hl 0 rfl) ?_
  refine cl_rd (W.runS (As := [.int (a)]) (rest := []) ⟨hx, hb, hml, hown, hts⟩ (kDr_hasAddress l a) (va_cwS 1 hts (gS wm2_115 wm2_9 wm1_2 wm2_10) rfl rfl rfl (by decide +kernel) ⟨Nat.le_of_ble_eq_true rfl, Nat.le_of_ble_eq_true rfl⟩) (preT) rfl rfl hl.1 rfl (lv_room (Nat.le_of_ble_eq_true rfl)) dDr_hasBit_1 ⟨Nat.le_refl _, Nat.le_refl _⟩) ?_
  refine wz_ifeq hx hb dDr_hasBit_4 rfl (fun h4 => ?_) (fun h4 => ?_)
  · have hR := hR.trans (if_neg h4)
    refine lv_iconst (v := 0) hx hb dDr_hasBit_31 (by decide) ?_
    exact W.zret hx hb hr rfl (fun t ht _ => ⟨by rw [hR]; first | done | rfl, ht⟩) (fun _ h => absurd h List.not_mem_nil) dDr_hasBit_32
  · have hR := hR.trans (if_pos h4)
    refine lv_iload_n hx hb dDr_hasBit_7 rfl (lv_at hl 1 rfl) ?_
    refine lv_if_lt hx hb dDr_hasBit_8 rfl (fun h8 => ?_) (fun h8 => ?_)
    · have hR := hR.trans (if_pos h8)
      refine lv_iconst (v := 0) hx hb dDr_hasBit_31 (by decide) ?_
      exact W.zret hx hb hr rfl (fun t ht _ => ⟨by rw [hR]; first | done | rfl, ht⟩) (fun _ h => absurd h List.not_mem_nil) dDr_hasBit_32
    · have hR := hR.trans (if_neg h8)
      refine lv_iload_n hx hb dDr_hasBit_11 rfl (lv_at hl 1 rfl) ?_
      refine lv_bipush (v := 10) hx hb dDr_hasBit_12 (by decide) ?_
      refine lv_icmp_ge hx hb dDr_hasBit_14 rfl (fun h14 => ?_) (fun h14 => ?_)
      · have hR := hR.trans (if_pos h14)
        refine lv_iconst (v := 0) hx hb dDr_hasBit_31 (by decide) ?_
        exact W.zret hx hb hr rfl (fun t ht _ => ⟨by rw [hR]; first | done | rfl, ht⟩) (fun _ h => absurd h List.not_mem_nil) dDr_hasBit_32
      · have hR := hR.trans (if_neg h14)
        refine lv_iload_n hx hb dDr_hasBit_17 rfl (lv_at hl 2 rfl) ?_
        refine lv_if_lt hx hb dDr_hasBit_18 rfl (fun h18 => ?_) (fun h18 => ?_)
        · have hR := hR.trans (if_pos h18)
          refine lv_iconst (v := 0) hx hb dDr_hasBit_31 (by decide) ?_
          exact W.zret hx hb hr rfl (fun t ht _ => ⟨by rw [hR]; first | done | rfl, ht⟩) (fun _ h => absurd h List.not_mem_nil) dDr_hasBit_32
        · have hR := hR.trans (if_neg h18)
          refine lv_iload_n hx hb dDr_hasBit_21 rfl (lv_at hl 2 rfl) ?_
          refine lv_bipush (v := 7) hx hb dDr_hasBit_22 (by decide) ?_
          refine lv_icmp_ge hx hb dDr_hasBit_24 rfl (fun h24 => ?_) (fun h24 => ?_)
          · have hR := hR.trans (if_pos h24)
            refine lv_iconst (v := 0) hx hb dDr_hasBit_31 (by decide) ?_
            exact W.zret hx hb hr rfl (fun t ht _ => ⟨by rw [hR]; first | done | rfl, ht⟩) (fun _ h => absurd h List.not_mem_nil) dDr_hasBit_32
          · have hR := hR.trans (if_neg h24)
            refine lv_iconst (v := 1) hx hb dDr_hasBit_27 (by decide) ?_
            refine lv_goto hx hb dDr_hasBit_28 rfl ?_
            exact W.zret hx hb hr rfl (fun t ht _ => ⟨by rw [hR]; first | done | rfl, ht⟩) (fun _ h => absurd h List.not_mem_nil) dDr_hasBit_32
theorem dDr_angleOf_0 : decode ccDr_angleOf 0 = .ok (.iload_n 0, 1) := by decide +kernel
theorem dDr_angleOf_1 : decode ccDr_angleOf 1 = .ok (.bipush 50, 2) := by decide +kernel
theorem dDr_angleOf_3 : decode ccDr_angleOf 3 = .ok (.irem, 1) := by decide +kernel
theorem dDr_angleOf_4 : decode ccDr_angleOf 4 = .ok (.ireturn, 1) := by decide +kernel
def fDr_angleOf (a : Int32) : Int32 :=
  a % 50
set_option maxHeartbeats 4000000 in
set_option maxRecDepth 100000 in
theorem kDr_angleOf (l : Launch) (a : Int32)  : Met l yDr_angleOf wsDr_angleOf { frames := 0, cells := 0, slots := 0, locals := 0 } (va_Pc [.int (a)] (fun _ => True)) (cQr (some (.int (fDr_angleOf a)))) 0 0 (fun _ => False) := by
  refine Met.ofW (cc := ccDr_angleOf) (maxL := 1) (ret := (some .int)) (by decide +kernel) rfl ?_
  intro p e s m args below meth c s₁ B hml hv
  obtain ⟨rfl, -⟩ := hv
  have hx := B.exec
  have hb := B.bytes
  have hr := B.returns
  have hts := atoms_spec (ws := wsDr_angleOf) B.pre
  have hown : s.vm.findClass RDr = some m.cls := findClass_of_methodNamed B.named
  have hlocks := B.notSynchronized
  have hl := lv_entry ([.int (a)]) (n := 1) (Nat.le_of_ble_eq_true rfl)
  rw [lg_entry_eq]
  generalize (lg_sl ([.int (a)]) ++ List.replicate (1 - (lg_sl ([.int (a)])).length) Slot.unset).toArray = ls at hl ⊢
  have hl : lv_has ls 1 [(0, .int (a))] := hl
  have hR := fDr_angleOf.eq_1 a
  refine lv_iload_n hx hb dDr_angleOf_0 rfl (lv_at hl 0 rfl) ?_
  refine lv_bipush (v := 50) hx hb dDr_angleOf_1 (by decide) ?_
  refine lm_irem hx hb dDr_angleOf_3 (by decide) ?_
  exact W.iret hx hb hr (fun t ht _ => ⟨by rw [hR]; first | done | rfl, ht⟩) (fun _ h => absurd h List.not_mem_nil) dDr_angleOf_4
theorem dDr_store_0 : decode ccDr_store 0 = .ok (.lload_n 2, 1) := by decide +kernel
theorem dDr_store_1 : decode ccDr_store 1 = .ok (.lstore 5, 2) := by decide +kernel
theorem dDr_store_3 : decode ccDr_store 3 = .ok (.iconst 0, 1) := by decide +kernel
theorem dDr_store_4 : decode ccDr_store 4 = .ok (.istore 7, 2) := by decide +kernel
theorem dDr_store_6 : decode ccDr_store 6 = .ok (.iload 7, 2) := by decide +kernel
theorem dDr_store_8 : decode ccDr_store 8 = .ok (.bipush 10, 2) := by decide +kernel
theorem dDr_store_10 : decode ccDr_store 10 = .ok (.if_icmp .ge 39, 3) := by decide +kernel
theorem dDr_store_13 : decode ccDr_store 13 = .ok (.aload_n 0, 1) := by decide +kernel
theorem dDr_store_14 : decode ccDr_store 14 = .ok (.getfield 11, 3) := by decide +kernel
theorem dDr_store_17 : decode ccDr_store 17 = .ok (.iload_n 1, 1) := by decide +kernel
theorem dDr_store_18 : decode ccDr_store 18 = .ok (.bipush 10, 2) := by decide +kernel
theorem dDr_store_20 : decode ccDr_store 20 = .ok (.imul, 1) := by decide +kernel
theorem dDr_store_21 : decode ccDr_store 21 = .ok (.iload 7, 2) := by decide +kernel
theorem dDr_store_23 : decode ccDr_store 23 = .ok (.iadd, 1) := by decide +kernel
theorem dDr_store_24 : decode ccDr_store 24 = .ok (.lload 5, 2) := by decide +kernel
theorem dDr_store_26 : decode ccDr_store 26 = .ok (.ldc2_w 37, 3) := by decide +kernel
theorem dDr_store_29 : decode ccDr_store 29 = .ok (.lrem, 1) := by decide +kernel
theorem dDr_store_30 : decode ccDr_store 30 = .ok (.l2i, 1) := by decide +kernel
theorem dDr_store_31 : decode ccDr_store 31 = .ok (.invokestatic 23, 3) := by decide +kernel
theorem dDr_store_34 : decode ccDr_store 34 = .ok (.iastore, 1) := by decide +kernel
theorem dDr_store_35 : decode ccDr_store 35 = .ok (.lload 5, 2) := by decide +kernel
theorem dDr_store_37 : decode ccDr_store 37 = .ok (.ldc2_w 37, 3) := by decide +kernel
theorem dDr_store_40 : decode ccDr_store 40 = .ok (.ldiv, 1) := by decide +kernel
theorem dDr_store_41 : decode ccDr_store 41 = .ok (.lstore 5, 2) := by decide +kernel
theorem dDr_store_43 : decode ccDr_store 43 = .ok (.iinc 7 1, 3) := by decide +kernel
theorem dDr_store_46 : decode ccDr_store 46 = .ok (.goto (-40), 3) := by decide +kernel
theorem dDr_store_49 : decode ccDr_store 49 = .ok (.aload_n 0, 1) := by decide +kernel
theorem dDr_store_50 : decode ccDr_store 50 = .ok (.getfield 15, 3) := by decide +kernel
theorem dDr_store_53 : decode ccDr_store 53 = .ok (.iload_n 1, 1) := by decide +kernel
theorem dDr_store_54 : decode ccDr_store 54 = .ok (.lload_n 2, 1) := by decide +kernel
theorem dDr_store_55 : decode ccDr_store 55 = .ok (.lastore, 1) := by decide +kernel
theorem dDr_store_56 : decode ccDr_store 56 = .ok (.aload_n 0, 1) := by decide +kernel
theorem dDr_store_57 : decode ccDr_store 57 = .ok (.getfield 19, 3) := by decide +kernel
theorem dDr_store_60 : decode ccDr_store 60 = .ok (.iload_n 1, 1) := by decide +kernel
theorem dDr_store_61 : decode ccDr_store 61 = .ok (.iload 4, 2) := by decide +kernel
theorem dDr_store_63 : decode ccDr_store 63 = .ok (.bastore, 1) := by decide +kernel
theorem dDr_store_64 : decode ccDr_store 64 = .ok (.return_, 1) := by decide +kernel
def fDr_store_6  : Nat → SC → Int32 → Int64 → Bool → Int64 → Nat → SC
  | 0, z, a, v, b, v5, v7 => z
  | fu + 1, z, a, v, b, v5, v7 => (if 10 ≤ v7 then c_dmin_s (c_vals_s z (vp_updL (c_vals z) a.toNatClampNeg v)) (updB (c_dmin z) a.toNatClampNeg b) else fDr_store_6 fu (c_codes_s z (upd (c_codes z) (((a * 10) + (nI (v7))).toNatClampNeg) (fDr_codeOf ((v5 % 10).toInt32)))) a v b (v5 / 10) (v7 + 1))
def fDr_store (z0 : SC) (a : Int32) (v : Int64) (b : Bool) : SC :=
  fDr_store_6 11 z0 a v b v 0
set_option maxHeartbeats 4000000 in
set_option maxRecDepth 100000 in
theorem kDr_store (l : Launch) (D : va_G) (q : Nat → Nat) (cI cJ cZ : ClassId) (hq : c_inj q) (z0 : SC) (a : Int32) (v : Int64) (b : Bool) (ha : vp_in a 200) : Met l yDr_store wsDr_store { frames := 1, cells := 0, slots := 0, locals := 20 } (va_Pc [.ref (q 1), .int (a), .long (v), .int (bb (b))] (c_C D q cI cJ cZ z0)) (cQw none (c_W D q cI cJ cZ (fDr_store z0 a v b)) (c_qs q)) 0 0 (c_qs q) := by
  refine Met.ofW (cc := ccDr_store) (maxL := 8) (ret := none) (by decide +kernel) rfl ?_
  intro p e s m args below meth c s₁ B hml hv
  obtain ⟨rfl, hP, hK⟩ := hv
  have hx := B.exec
  have hb := B.bytes
  have hr := B.returns
  have hts := atoms_spec (ws := wsDr_store) B.pre
  have hown : s.vm.findClass RDr = some m.cls := findClass_of_methodNamed B.named
  have hlocks := B.notSynchronized
  have w0 := hts (.fieldLink RDr 15 "DrumMachine$Drum" "values" "[J") (List.mem_cons_of_mem _ wm1_41)
  have w1 := hts (.fieldLink RDr 19 "DrumMachine$Drum" "minus" "[Z") (List.mem_cons_of_mem _ wm1_42)
  have w2 := hts (.fieldLink RDr 11 "DrumMachine$Drum" "codes" "[I") (List.mem_cons_of_mem _ wm1_40)
  have w3 := hts (.constantLong RDr 37 (10)) (List.mem_cons_of_mem _ wm2_104)
  have i0 : ∀ w ∈ u_ws RDr TDr 3, w ∈ wsDr_store := fun w h => List.mem_cons_of_mem _ (inADr w h)
  have hS : va_S (c_qs q) s.heap s.heap [] := va_S.rf
  have hl := lv_entry ([.ref (q 1), .int (a), .long (v), .int (bb (b))]) (n := 8) (Nat.le_of_ble_eq_true rfl)
  rw [lg_entry_eq]
  generalize (lg_sl ([.ref (q 1), .int (a), .long (v), .int (bb (b))]) ++ List.replicate (8 - (lg_sl ([.ref (q 1), .int (a), .long (v), .int (bb (b))])).length) Slot.unset).toArray = ls at hl ⊢
  have hl : lv_has ls 8 [(0, .ref (q 1)), (1, .int (a)), (2, .long (v)), (4, .int (bb (b)))] := hl
  have hB6 : ∀ (n6 : Nat) (H : Heap) (locs : List Loc) (ls : Array Slot) (z : SC) (v5 : Int64) (v7 : Nat), 10 - v7 < n6 → fDr_store z0 a v b = fDr_store_6 n6 z a v b v5 v7 → v7 ≤ 10 → c_W D q cI cJ cZ z H → va_S (c_qs q) s.heap H locs → lv_has ls 8 [(0, .ref (q 1)), (1, .int (a)), (2, .long (v)), (4, .int (bb (b))), (5, .long (v5)), (7, .int (nI (v7)))] → W p l e (headSpec wsDr_store { frames := 1, cells := 0, slots := 0, locals := 20 }).room s m ([.ref (q 1), .int (a), .long (v), .int (bb (b))] : List Value).toArray below meth c H locs 0 0 (MQ below (cQw none (c_W D q cI cJ cZ (fDr_store z0 a v b)) (c_qs q)) ([.ref (q 1), .int (a), .long (v), .int (bb (b))] : List Value).toArray s 0 0 (c_qs q)) (F0 m 6 ls []) := by
    intro n6
    induction n6 with
    | zero => intro H locs ls z v5 v7 hn6; exact absurd hn6 (Nat.not_lt_zero _)
    | succ n6 ih6 =>
      intro H locs ls z v5 v7 hn6 hR h7 hP hS hl
      rw [fDr_store_6.eq_2] at hR
      refine lv_iload hx hb dDr_store_6 (lv_at hl 5 rfl) ?_
      refine lv_bipush (v := 10) hx hb dDr_store_8 (by decide) ?_
      refine wn_ge (x := v7) (y := 10) hx hb (by omega) (by omega) dDr_store_10 rfl (fun h10 => ?_) (fun h10 => ?_)
      · have hR := hR.trans (if_pos h10)
        refine lv_aload_n hx hb dDr_store_49 rfl (lv_at hl 0 rfl) ?_
        refine cg1_values hx hb hts i0 hown hK hP w0 dDr_store_50 ?_
        refine lv_iload_n hx hb dDr_store_53 rfl (lv_at hl 1 rfl) ?_
        refine lv_lload_n hx hb dDr_store_54 rfl (lv_at hl 2 rfl) ?_
        refine cs_vals v hq hS hx hb hK hP ha dDr_store_55 (fun H locs hP hS => ?_)
        refine lv_aload_n hx hb dDr_store_56 rfl (lv_at hl 0 rfl) ?_
        refine cg1_minus hx hb hts i0 hown hK hP w1 dDr_store_57 ?_
        refine lv_iload_n hx hb dDr_store_60 rfl (lv_at hl 1 rfl) ?_
        refine lv_iload hx hb dDr_store_61 (lv_at hl 3 rfl) ?_
        refine cs_dmin b hq hS hx hb hK hP ha dDr_store_63 (fun H locs hP hS => ?_)
        exact W.vret hx hb hr (fun t ht _ => ⟨rfl, by rw [hR, ht]; exact hP, hS.F ht⟩) hS.2.2 dDr_store_64
      · have hR := hR.trans (if_neg h10)
        refine lv_aload_n hx hb dDr_store_13 rfl (lv_at hl 0 rfl) ?_
        refine cg1_codes hx hb hts i0 hown hK hP w2 dDr_store_14 ?_
        refine lv_iload_n hx hb dDr_store_17 rfl (lv_at hl 1 rfl) ?_
        refine lv_bipush (v := 10) hx hb dDr_store_18 (by decide) ?_
        refine lv_imul hx hb dDr_store_20 ?_
        refine lv_iload hx hb dDr_store_21 (lv_at hl 5 rfl) ?_
        refine lv_iadd hx hb dDr_store_23 ?_
        refine lv_lload hx hb dDr_store_24 (lv_at hl 4 rfl) ?_
        refine lv_ldc2 (v := 10) hx hb hown w3 dDr_store_26 ?_
        refine lm_lrem hx hb dDr_store_29 (by decide) ?_
        refine lv_l2i hx hb dDr_store_30 rfl ?_
        refine cl_rd (W.runS (As := [.int (((v5 % 10).toInt32))]) (rest := [.int ((a * 10) + (nI (v7))), .ref (q 7)]) ⟨hx, hb, hml, hown, hts⟩ (kDr_codeOf l ((v5 % 10).toInt32)) (va_cwS 1 hts (gS wm1_34 wm1_35 wm1_2 wm1_36) rfl rfl rfl (by decide +kernel) ⟨Nat.le_of_ble_eq_true rfl, Nat.le_of_ble_eq_true rfl⟩) (preT) rfl rfl hl.1 rfl (lv_room (Nat.le_of_ble_eq_true rfl)) dDr_store_31 ⟨Nat.le_refl _, Nat.le_refl _⟩) ?_
        refine cs_codes (fDr_codeOf ((v5 % 10).toInt32)) hq hS hx hb hK hP (in10 ha (vp_in_nI (by omega) (by decide))) dDr_store_34 (fun H locs hP hS => ?_)
        refine lv_lload hx hb dDr_store_35 (lv_at hl 4 rfl) ?_
        refine lv_ldc2 (v := 10) hx hb hown w3 dDr_store_37 ?_
        refine lv_ldiv hx hb dDr_store_40 (by decide) ?_
        refine lv_lstore (lv' := [(5, .long (v5 / 10)), (0, .ref (q 1)), (1, .int (a)), (2, .long (v)), (4, .int (bb (b))), (7, .int (nI (v7)))]) hx hb dDr_store_41 hl (by decide) rfl (fun ls hl => ?_)
        refine lv_iinc (k := 5) (lv' := [(7, .int (nI (v7 + 1))), (5, .long (v5 / 10)), (0, .ref (q 1)), (1, .int (a)), (2, .long (v)), (4, .int (bb (b)))]) hx hb dDr_store_43 hl rfl (nI_1 _) (by decide) rfl (fun ls hl => ?_)
        refine lv_goto hx hb dDr_store_46 rfl ?_
        exact ih6 H locs ls (c_codes_s z (upd (c_codes z) (((a * 10) + (nI (v7))).toNatClampNeg) (fDr_codeOf ((v5 % 10).toInt32)))) (v5 / 10) (v7 + 1) (by omega) hR (by first | assumption | omega) hP hS (lv_sub hl [2, 3, 4, 5, 1, 0] rfl)
  have hR := fDr_store.eq_1 z0 a v b
  refine lv_lload_n hx hb dDr_store_0 rfl (lv_at hl 2 rfl) ?_
  refine lv_lstore (lv' := [(5, .long (v)), (0, .ref (q 1)), (1, .int (a)), (2, .long (v)), (4, .int (bb (b)))]) hx hb dDr_store_1 hl (by decide) rfl (fun ls hl => ?_)
  refine lv_iconst (v := 0) hx hb dDr_store_3 (by decide) ?_
  refine lv_istore (lv' := [(7, .int (nI (0))), (5, .long (v)), (0, .ref (q 1)), (1, .int (a)), (2, .long (v)), (4, .int (bb (b)))]) hx hb dDr_store_4 hl (by decide) rfl (fun ls hl => ?_)
  exact hB6 11 s.heap [] ls z0 v 0 (by omega) hR (by first | assumption | omega) hP hS (lv_sub hl [2, 3, 4, 5, 1, 0] rfl)
theorem dDr_valueOfCodes_0 : decode ccDr_valueOfCodes 0 = .ok (.lconst 0, 1) := by decide +kernel
theorem dDr_valueOfCodes_1 : decode ccDr_valueOfCodes 1 = .ok (.lstore_n 2, 1) := by decide +kernel
theorem dDr_valueOfCodes_2 : decode ccDr_valueOfCodes 2 = .ok (.bipush 9, 2) := by decide +kernel
theorem dDr_valueOfCodes_4 : decode ccDr_valueOfCodes 4 = .ok (.istore 4, 2) := by decide +kernel
theorem dDr_valueOfCodes_6 : decode ccDr_valueOfCodes 6 = .ok (.iload 4, 2) := by decide +kernel
theorem dDr_valueOfCodes_8 : decode ccDr_valueOfCodes 8 = .ok (.ifCond .lt 45, 3) := by decide +kernel
theorem dDr_valueOfCodes_11 : decode ccDr_valueOfCodes 11 = .ok (.aload_n 0, 1) := by decide +kernel
theorem dDr_valueOfCodes_12 : decode ccDr_valueOfCodes 12 = .ok (.getfield 11, 3) := by decide +kernel
theorem dDr_valueOfCodes_15 : decode ccDr_valueOfCodes 15 = .ok (.iload_n 1, 1) := by decide +kernel
theorem dDr_valueOfCodes_16 : decode ccDr_valueOfCodes 16 = .ok (.bipush 10, 2) := by decide +kernel
theorem dDr_valueOfCodes_18 : decode ccDr_valueOfCodes 18 = .ok (.imul, 1) := by decide +kernel
theorem dDr_valueOfCodes_19 : decode ccDr_valueOfCodes 19 = .ok (.iload 4, 2) := by decide +kernel
theorem dDr_valueOfCodes_21 : decode ccDr_valueOfCodes 21 = .ok (.iadd, 1) := by decide +kernel
theorem dDr_valueOfCodes_22 : decode ccDr_valueOfCodes 22 = .ok (.iaload, 1) := by decide +kernel
theorem dDr_valueOfCodes_23 : decode ccDr_valueOfCodes 23 = .ok (.invokestatic 45, 3) := by decide +kernel
theorem dDr_valueOfCodes_26 : decode ccDr_valueOfCodes 26 = .ok (.istore 5, 2) := by decide +kernel
theorem dDr_valueOfCodes_28 : decode ccDr_valueOfCodes 28 = .ok (.iload 5, 2) := by decide +kernel
theorem dDr_valueOfCodes_30 : decode ccDr_valueOfCodes 30 = .ok (.ifCond .ge 7, 3) := by decide +kernel
theorem dDr_valueOfCodes_33 : decode ccDr_valueOfCodes 33 = .ok (.ldc2_w 43, 3) := by decide +kernel
theorem dDr_valueOfCodes_36 : decode ccDr_valueOfCodes 36 = .ok (.lreturn, 1) := by decide +kernel
theorem dDr_valueOfCodes_37 : decode ccDr_valueOfCodes 37 = .ok (.lload_n 2, 1) := by decide +kernel
theorem dDr_valueOfCodes_38 : decode ccDr_valueOfCodes 38 = .ok (.ldc2_w 37, 3) := by decide +kernel
theorem dDr_valueOfCodes_41 : decode ccDr_valueOfCodes 41 = .ok (.lmul, 1) := by decide +kernel
theorem dDr_valueOfCodes_42 : decode ccDr_valueOfCodes 42 = .ok (.iload 5, 2) := by decide +kernel
theorem dDr_valueOfCodes_44 : decode ccDr_valueOfCodes 44 = .ok (.i2l, 1) := by decide +kernel
theorem dDr_valueOfCodes_45 : decode ccDr_valueOfCodes 45 = .ok (.ladd, 1) := by decide +kernel
theorem dDr_valueOfCodes_46 : decode ccDr_valueOfCodes 46 = .ok (.lstore_n 2, 1) := by decide +kernel
theorem dDr_valueOfCodes_47 : decode ccDr_valueOfCodes 47 = .ok (.iinc 4 (-1), 3) := by decide +kernel
theorem dDr_valueOfCodes_50 : decode ccDr_valueOfCodes 50 = .ok (.goto (-44), 3) := by decide +kernel
theorem dDr_valueOfCodes_53 : decode ccDr_valueOfCodes 53 = .ok (.lload_n 2, 1) := by decide +kernel
theorem dDr_valueOfCodes_54 : decode ccDr_valueOfCodes 54 = .ok (.lreturn, 1) := by decide +kernel
def fDr_valueOfCodes_6  : Nat → SC → Int32 → Int64 → Int32 → Int64
  | 0, z0, a, v2, v4 => 0
  | fu + 1, z0, a, v2, v4 => (if v4 < 0 then v2 else (if 0 ≤ (fDr_digitOf (c_codes z0 (((a * 10) + v4).toNatClampNeg))) then fDr_valueOfCodes_6 fu z0 a ((v2 * 10) + ((fDr_digitOf (c_codes z0 (((a * 10) + v4).toNatClampNeg))).toInt64)) (v4 + (-1)) else (-1)))
def fDr_valueOfCodes (z0 : SC) (a : Int32) : Int64 :=
  fDr_valueOfCodes_6 11 z0 a 0 9
set_option maxHeartbeats 4000000 in
set_option maxRecDepth 100000 in
theorem kDr_valueOfCodes (l : Launch) (D : va_G) (q : Nat → Nat) (cI cJ cZ : ClassId) (hq : c_inj q) (z0 : SC) (a : Int32) (ha : vp_in a 200) : Met l yDr_valueOfCodes wsDr_valueOfCodes { frames := 2, cells := 0, slots := 0, locals := 41 } (va_Pc [.ref (q 1), .int (a)] (c_C D q cI cJ cZ z0)) (cQr (some (.long (fDr_valueOfCodes z0 a)))) 0 0 (fun _ => False) := by
  refine Met.ofW (cc := ccDr_valueOfCodes) (maxL := 6) (ret := (some .long)) (by decide +kernel) rfl ?_
  intro p e s m args below meth c s₁ B hml hv
  obtain ⟨rfl, hP, hK⟩ := hv
  have hx := B.exec
  have hb := B.bytes
  have hr := B.returns
  have hts := atoms_spec (ws := wsDr_valueOfCodes) B.pre
  have hown : s.vm.findClass RDr = some m.cls := findClass_of_methodNamed B.named
  have hlocks := B.notSynchronized
  have w0 := hts (.fieldLink RDr 11 "DrumMachine$Drum" "codes" "[I") (List.mem_cons_of_mem _ wm1_40)
  have w1 := hts (.constantLong RDr 37 (10)) (List.mem_cons_of_mem _ wm2_104)
  have w2 := hts (.constantLong RDr 43 (-1)) (List.mem_cons_of_mem _ wm2_128)
  have i0 : ∀ w ∈ u_ws RDr TDr 3, w ∈ wsDr_valueOfCodes := fun w h => List.mem_cons_of_mem _ (inADr w h)
  have hl := lv_entry ([.ref (q 1), .int (a)]) (n := 6) (Nat.le_of_ble_eq_true rfl)
  rw [lg_entry_eq]
  generalize (lg_sl ([.ref (q 1), .int (a)]) ++ List.replicate (6 - (lg_sl ([.ref (q 1), .int (a)])).length) Slot.unset).toArray = ls at hl ⊢
  have hl : lv_has ls 6 [(0, .ref (q 1)), (1, .int (a))] := hl
  have hB6 : ∀ (n6 : Nat) (ls : Array Slot) (v2 : Int64) (v4 : Int32), (v4.toInt + 1).toNat < n6 → fDr_valueOfCodes z0 a = fDr_valueOfCodes_6 n6 z0 a v2 v4 → -1 ≤ v4.toInt ∧ v4.toInt ≤ 9 → lv_has ls 6 [(0, .ref (q 1)), (1, .int (a)), (2, .long (v2)), (4, .int (v4))] → W p l e (headSpec wsDr_valueOfCodes { frames := 2, cells := 0, slots := 0, locals := 41 }).room s m ([.ref (q 1), .int (a)] : List Value).toArray below meth c s.heap [] 0 0 (MQ below (cQr (some (.long (fDr_valueOfCodes z0 a)))) ([.ref (q 1), .int (a)] : List Value).toArray s 0 0 (fun _ => False)) (F0 m 6 ls []) := by
    intro n6
    induction n6 with
    | zero => intro ls v2 v4 hn6; exact absurd hn6 (Nat.not_lt_zero _)
    | succ n6 ih6 =>
      intro ls v2 v4 hn6 hR h4 hl
      rw [fDr_valueOfCodes_6.eq_2] at hR
      refine lv_iload hx hb dDr_valueOfCodes_6 (lv_at hl 3 rfl) ?_
      refine lv_if_lt hx hb dDr_valueOfCodes_8 rfl (fun h8 => ?_) (fun h8 => ?_)
      · have hR := hR.trans (if_pos h8)
        refine lv_lload_n hx hb dDr_valueOfCodes_53 rfl (lv_at hl 2 rfl) ?_
        exact W.lret hx hb hr (fun t ht _ => ⟨by rw [hR]; first | done | rfl, ht⟩) (fun _ h => absurd h List.not_mem_nil) dDr_valueOfCodes_54
      · have hR := hR.trans (if_neg h8)
        refine lv_aload_n hx hb dDr_valueOfCodes_11 rfl (lv_at hl 0 rfl) ?_
        refine cg1_codes hx hb hts i0 hown hK hP w0 dDr_valueOfCodes_12 ?_
        refine lv_iload_n hx hb dDr_valueOfCodes_15 rfl (lv_at hl 1 rfl) ?_
        refine lv_bipush (v := 10) hx hb dDr_valueOfCodes_16 (by decide) ?_
        refine lv_imul hx hb dDr_valueOfCodes_18 ?_
        refine lv_iload hx hb dDr_valueOfCodes_19 (lv_at hl 3 rfl) ?_
        refine lv_iadd hx hb dDr_valueOfCodes_21 ?_
        refine cl_codes hx hb hK hP (in10 ha (vp_in_iff.mpr ⟨i_nn h8, by omega⟩)) dDr_valueOfCodes_22 ?_
        refine cl_rd (W.runS (As := [.int ((c_codes z0 (((a * 10) + v4).toNatClampNeg)))]) (rest := []) ⟨hx, hb, hml, hown, hts⟩ (kDr_digitOf l (c_codes z0 (((a * 10) + v4).toNatClampNeg))) (va_cwS 1 hts (gS wm2_125 wm2_126 wm1_2 wm2_127) rfl rfl rfl (by decide +kernel) ⟨Nat.le_of_ble_eq_true rfl, Nat.le_of_ble_eq_true rfl⟩) (preT) rfl rfl hl.1 rfl (lv_room (Nat.le_of_ble_eq_true rfl)) dDr_valueOfCodes_23 ⟨Nat.le_refl _, Nat.le_refl _⟩) ?_
        refine lv_istore (lv' := [(5, .int (fDr_digitOf (c_codes z0 (((a * 10) + v4).toNatClampNeg)))), (0, .ref (q 1)), (1, .int (a)), (2, .long (v2)), (4, .int (v4))]) hx hb dDr_valueOfCodes_26 hl (by decide) rfl (fun ls hl => ?_)
        refine lv_iload hx hb dDr_valueOfCodes_28 (lv_at hl 0 rfl) ?_
        refine lv_if_ge hx hb dDr_valueOfCodes_30 rfl (fun h30 => ?_) (fun h30 => ?_)
        · have hR := hR.trans (if_pos h30)
          refine lv_lload_n hx hb dDr_valueOfCodes_37 rfl (lv_at hl 3 rfl) ?_
          refine lv_ldc2 (v := 10) hx hb hown w1 dDr_valueOfCodes_38 ?_
          refine lv_lmul hx hb dDr_valueOfCodes_41 ?_
          refine lv_iload hx hb dDr_valueOfCodes_42 (lv_at hl 0 rfl) ?_
          refine lv_i2l hx hb dDr_valueOfCodes_44 rfl ?_
          refine lv_ladd hx hb dDr_valueOfCodes_45 ?_
          refine lv_lstore_n (lv' := [(2, .long ((v2 * 10) + ((fDr_digitOf (c_codes z0 (((a * 10) + v4).toNatClampNeg))).toInt64))), (5, .int (fDr_digitOf (c_codes z0 (((a * 10) + v4).toNatClampNeg)))), (0, .ref (q 1)), (1, .int (a)), (4, .int (v4))]) hx hb dDr_valueOfCodes_46 rfl hl (by decide) rfl (fun ls hl => ?_)
          refine lv_iinc (k := 4) (lv' := [(4, .int (v4 + (-1))), (2, .long ((v2 * 10) + ((fDr_digitOf (c_codes z0 (((a * 10) + v4).toNatClampNeg))).toInt64))), (5, .int (fDr_digitOf (c_codes z0 (((a * 10) + v4).toNatClampNeg)))), (0, .ref (q 1)), (1, .int (a))]) hx hb dDr_valueOfCodes_47 hl rfl rfl (by decide) rfl (fun ls hl => ?_)
          refine lv_goto hx hb dDr_valueOfCodes_50 rfl ?_
          exact ih6 ls ((v2 * 10) + ((fDr_digitOf (c_codes z0 (((a * 10) + v4).toNatClampNeg))).toInt64)) (v4 + (-1)) (dec_m h8 h4 hn6) hR (dec_b h8 h4) (lv_sub hl [3, 4, 1, 0] rfl)
        · have hR := hR.trans (if_neg h30)
          refine lv_ldc2 (v := (-1)) hx hb hown w2 dDr_valueOfCodes_33 ?_
          exact W.lret hx hb hr (fun t ht _ => ⟨by rw [hR]; first | done | rfl, ht⟩) (fun _ h => absurd h List.not_mem_nil) dDr_valueOfCodes_36
  have hR := fDr_valueOfCodes.eq_1 z0 a
  refine lv_lconst (v := 0) hx hb dDr_valueOfCodes_0 (by decide) ?_
  refine lv_lstore_n (lv' := [(2, .long (0)), (0, .ref (q 1)), (1, .int (a))]) hx hb dDr_valueOfCodes_1 rfl hl (by decide) rfl (fun ls hl => ?_)
  refine lv_bipush (v := 9) hx hb dDr_valueOfCodes_2 (by decide) ?_
  refine lv_istore (lv' := [(4, .int (9)), (2, .long (0)), (0, .ref (q 1)), (1, .int (a))]) hx hb dDr_valueOfCodes_4 hl (by decide) rfl (fun ls hl => ?_)
  exact hB6 11 ls 0 9 (by decide) hR (by decide) (lv_sub hl [2, 3, 1, 0] rfl)
theorem dDr_turnBitOver_0 : decode ccDr_turnBitOver 0 = .ok (.aload_n 0, 1) := by decide +kernel
theorem dDr_turnBitOver_1 : decode ccDr_turnBitOver 1 = .ok (.getfield 11, 3) := by decide +kernel
theorem dDr_turnBitOver_4 : decode ccDr_turnBitOver 4 = .ok (.iload_n 1, 1) := by decide +kernel
theorem dDr_turnBitOver_5 : decode ccDr_turnBitOver 5 = .ok (.bipush 10, 2) := by decide +kernel
theorem dDr_turnBitOver_7 : decode ccDr_turnBitOver 7 = .ok (.imul, 1) := by decide +kernel
theorem dDr_turnBitOver_8 : decode ccDr_turnBitOver 8 = .ok (.iload_n 2, 1) := by decide +kernel
theorem dDr_turnBitOver_9 : decode ccDr_turnBitOver 9 = .ok (.iadd, 1) := by decide +kernel
theorem dDr_turnBitOver_10 : decode ccDr_turnBitOver 10 = .ok (.dup2, 1) := by decide +kernel
theorem dDr_turnBitOver_11 : decode ccDr_turnBitOver 11 = .ok (.iaload, 1) := by decide +kernel
theorem dDr_turnBitOver_12 : decode ccDr_turnBitOver 12 = .ok (.iconst 1, 1) := by decide +kernel
theorem dDr_turnBitOver_13 : decode ccDr_turnBitOver 13 = .ok (.iload_n 3, 1) := by decide +kernel
theorem dDr_turnBitOver_14 : decode ccDr_turnBitOver 14 = .ok (.ishl, 1) := by decide +kernel
theorem dDr_turnBitOver_15 : decode ccDr_turnBitOver 15 = .ok (.ixor, 1) := by decide +kernel
theorem dDr_turnBitOver_16 : decode ccDr_turnBitOver 16 = .ok (.iastore, 1) := by decide +kernel
theorem dDr_turnBitOver_17 : decode ccDr_turnBitOver 17 = .ok (.aload_n 0, 1) := by decide +kernel
theorem dDr_turnBitOver_18 : decode ccDr_turnBitOver 18 = .ok (.getfield 15, 3) := by decide +kernel
theorem dDr_turnBitOver_21 : decode ccDr_turnBitOver 21 = .ok (.iload_n 1, 1) := by decide +kernel
theorem dDr_turnBitOver_22 : decode ccDr_turnBitOver 22 = .ok (.aload_n 0, 1) := by decide +kernel
theorem dDr_turnBitOver_23 : decode ccDr_turnBitOver 23 = .ok (.iload_n 1, 1) := by decide +kernel
theorem dDr_turnBitOver_24 : decode ccDr_turnBitOver 24 = .ok (.invokevirtual 39, 3) := by decide +kernel
theorem dDr_turnBitOver_27 : decode ccDr_turnBitOver 27 = .ok (.lastore, 1) := by decide +kernel
theorem dDr_turnBitOver_28 : decode ccDr_turnBitOver 28 = .ok (.return_, 1) := by decide +kernel
def fDr_turnBitOver (z0 : SC) (a : Int32) (d : Int32) (b : Int32) : SC :=
  c_vals_s (c_codes_s z0 (upd (c_codes z0) (((a * 10) + d).toNatClampNeg) ((c_codes z0 (((a * 10) + d).toNatClampNeg)) ^^^ ((1 : Int32) <<< (b &&& 31))))) (vp_updL (c_vals z0) a.toNatClampNeg (fDr_valueOfCodes (c_codes_s z0 (upd (c_codes z0) (((a * 10) + d).toNatClampNeg) ((c_codes z0 (((a * 10) + d).toNatClampNeg)) ^^^ ((1 : Int32) <<< (b &&& 31))))) a))
set_option maxHeartbeats 4000000 in
set_option maxRecDepth 100000 in
theorem kDr_turnBitOver (l : Launch) (D : va_G) (q : Nat → Nat) (cI cJ cZ : ClassId) (hq : c_inj q) (z0 : SC) (a : Int32) (d : Int32) (b : Int32) (ha : vp_in a 200) (hd : vp_in d 10) : Met l yDr_turnBitOver wsDr_turnBitOver { frames := 3, cells := 0, slots := 0, locals := 66 } (va_Pc [.ref (q 1), .int (a), .int (d), .int (b)] (c_C D q cI cJ cZ z0)) (cQw none (c_W D q cI cJ cZ (fDr_turnBitOver z0 a d b)) (c_qs q)) 0 0 (c_qs q) := by
  refine Met.ofW (cc := ccDr_turnBitOver) (maxL := 4) (ret := none) (by decide +kernel) rfl ?_
  intro p e s m args below meth c s₁ B hml hv
  obtain ⟨rfl, hP, hK⟩ := hv
  have hx := B.exec
  have hb := B.bytes
  have hr := B.returns
  have hts := atoms_spec (ws := wsDr_turnBitOver) B.pre
  have hown : s.vm.findClass RDr = some m.cls := findClass_of_methodNamed B.named
  have hlocks := B.notSynchronized
  have w0 := hts (.fieldLink RDr 11 "DrumMachine$Drum" "codes" "[I") (List.mem_cons_of_mem _ wm1_40)
  have w1 := hts (.fieldLink RDr 15 "DrumMachine$Drum" "values" "[J") (List.mem_cons_of_mem _ wm1_41)
  have i0 : ∀ w ∈ u_ws RDr TDr 3, w ∈ wsDr_turnBitOver := fun w h => List.mem_cons_of_mem _ (inADr w h)
  have hS : va_S (c_qs q) s.heap s.heap [] := va_S.rf
  have hl := lv_entry ([.ref (q 1), .int (a), .int (d), .int (b)]) (n := 4) (Nat.le_of_ble_eq_true rfl)
  rw [lg_entry_eq]
  generalize (lg_sl ([.ref (q 1), .int (a), .int (d), .int (b)]) ++ List.replicate (4 - (lg_sl ([.ref (q 1), .int (a), .int (d), .int (b)])).length) Slot.unset).toArray = ls at hl ⊢
  have hl : lv_has ls 4 [(0, .ref (q 1)), (1, .int (a)), (2, .int (d)), (3, .int (b))] := hl
  have hR := fDr_turnBitOver.eq_1 z0 a d b
  refine lv_aload_n hx hb dDr_turnBitOver_0 rfl (lv_at hl 0 rfl) ?_
  refine cg1_codes hx hb hts i0 hown hK hP w0 dDr_turnBitOver_1 ?_
  refine lv_iload_n hx hb dDr_turnBitOver_4 rfl (lv_at hl 1 rfl) ?_
  refine lv_bipush (v := 10) hx hb dDr_turnBitOver_5 (by decide) ?_
  refine lv_imul hx hb dDr_turnBitOver_7 ?_
  refine lv_iload_n hx hb dDr_turnBitOver_8 rfl (lv_at hl 2 rfl) ?_
  refine lv_iadd hx hb dDr_turnBitOver_9 ?_
  refine lv_dup2_11 hx hb dDr_turnBitOver_10 rfl rfl ?_
  refine cl_codes hx hb hK hP (in10 ha hd) dDr_turnBitOver_11 ?_
  refine lv_iconst (v := 1) hx hb dDr_turnBitOver_12 (by decide) ?_
  refine lv_iload_n hx hb dDr_turnBitOver_13 rfl (lv_at hl 3 rfl) ?_
  refine lv_ishl hx hb dDr_turnBitOver_14 ?_
  refine lv_ixor hx hb dDr_turnBitOver_15 ?_
  refine cs_codes ((c_codes z0 (((a * 10) + d).toNatClampNeg)) ^^^ ((1 : Int32) <<< (b &&& 31))) hq hS hx hb hK hP (in10 ha hd) dDr_turnBitOver_16 (fun H locs hP hS => ?_)
  refine lv_aload_n hx hb dDr_turnBitOver_17 rfl (lv_at hl 0 rfl) ?_
  refine cg1_values hx hb hts i0 hown hK hP w1 dDr_turnBitOver_18 ?_
  refine lv_iload_n hx hb dDr_turnBitOver_21 rfl (lv_at hl 1 rfl) ?_
  refine lv_aload_n hx hb dDr_turnBitOver_22 rfl (lv_at hl 0 rfl) ?_
  refine lv_iload_n hx hb dDr_turnBitOver_23 rfl (lv_at hl 1 rfl) ?_
  refine cl_rd (W.runV (As := [.int (a)]) (rest := [.int (a), .ref (q 8)]) ⟨hx, hb, hml, hown, hts⟩ (kDr_valueOfCodes l D q cI cJ cZ hq (c_codes_s z0 (upd (c_codes z0) (((a * 10) + d).toNatClampNeg) ((c_codes z0 (((a * 10) + d).toNatClampNeg)) ^^^ ((1 : Int32) <<< (b &&& 31))))) a ha) (cwV 1 hts (gV wm2_121 wm2_123 ws1_2 wm1_2 wm2_124) rfl rfl rfl (by decide +kernel) ⟨Nat.le_of_ble_eq_true rfl, Nat.le_of_ble_eq_true rfl⟩) (c_preV1 hK hP) rfl rfl hl.1 rfl (lv_room (Nat.le_of_ble_eq_true rfl)) dDr_turnBitOver_24 ⟨Nat.le_refl _, Nat.le_refl _⟩) ?_
  refine cs_vals (fDr_valueOfCodes (c_codes_s z0 (upd (c_codes z0) (((a * 10) + d).toNatClampNeg) ((c_codes z0 (((a * 10) + d).toNatClampNeg)) ^^^ ((1 : Int32) <<< (b &&& 31))))) a) hq hS hx hb hK hP ha dDr_turnBitOver_27 (fun H locs hP hS => ?_)
  exact W.vret hx hb hr (fun t ht _ => ⟨rfl, by rw [hR, ht]; exact hP, hS.F ht⟩) hS.2.2 dDr_turnBitOver_28
theorem dDr_isValid_0 : decode ccDr_isValid 0 = .ok (.aload_n 0, 1) := by decide +kernel
theorem dDr_isValid_1 : decode ccDr_isValid 1 = .ok (.getfield 15, 3) := by decide +kernel
theorem dDr_isValid_4 : decode ccDr_isValid 4 = .ok (.iload_n 1, 1) := by decide +kernel
theorem dDr_isValid_5 : decode ccDr_isValid 5 = .ok (.laload, 1) := by decide +kernel
theorem dDr_isValid_6 : decode ccDr_isValid 6 = .ok (.ldc2_w 43, 3) := by decide +kernel
theorem dDr_isValid_9 : decode ccDr_isValid 9 = .ok (.lcmp, 1) := by decide +kernel
theorem dDr_isValid_10 : decode ccDr_isValid 10 = .ok (.ifCond .eq 7, 3) := by decide +kernel
theorem dDr_isValid_13 : decode ccDr_isValid 13 = .ok (.iconst 1, 1) := by decide +kernel
theorem dDr_isValid_14 : decode ccDr_isValid 14 = .ok (.goto 4, 3) := by decide +kernel
theorem dDr_isValid_17 : decode ccDr_isValid 17 = .ok (.iconst 0, 1) := by decide +kernel
theorem dDr_isValid_18 : decode ccDr_isValid 18 = .ok (.ireturn, 1) := by decide +kernel
def fDr_isValid (z0 : SC) (a : Int32) : Bool :=
  (if (c_vals z0 a.toNatClampNeg) = ((-1)) then false else true)
set_option maxHeartbeats 4000000 in
set_option maxRecDepth 100000 in
theorem kDr_isValid (l : Launch) (D : va_G) (q : Nat → Nat) (cI cJ cZ : ClassId) (hq : c_inj q) (z0 : SC) (a : Int32) (ha : vp_in a 200) : Met l yDr_isValid wsDr_isValid { frames := 0, cells := 0, slots := 0, locals := 0 } (va_Pc [.ref (q 1), .int (a)] (c_C D q cI cJ cZ z0)) (cQr (some (.int (bb (fDr_isValid z0 a))))) 0 0 (fun _ => False) := by
  refine Met.ofW (cc := ccDr_isValid) (maxL := 2) (ret := (some .boolean)) (by decide +kernel) rfl ?_
  intro p e s m args below meth c s₁ B hml hv
  obtain ⟨rfl, hP, hK⟩ := hv
  have hx := B.exec
  have hb := B.bytes
  have hr := B.returns
  have hts := atoms_spec (ws := wsDr_isValid) B.pre
  have hown : s.vm.findClass RDr = some m.cls := findClass_of_methodNamed B.named
  have hlocks := B.notSynchronized
  have w0 := hts (.fieldLink RDr 15 "DrumMachine$Drum" "values" "[J") (List.mem_cons_of_mem _ wm1_41)
  have w1 := hts (.constantLong RDr 43 (-1)) (List.mem_cons_of_mem _ wm2_128)
  have i0 : ∀ w ∈ u_ws RDr TDr 3, w ∈ wsDr_isValid := fun w h => List.mem_cons_of_mem _ (inADr w h)
  have hl := lv_entry ([.ref (q 1), .int (a)]) (n := 2) (Nat.le_of_ble_eq_true rfl)
  rw [lg_entry_eq]
  generalize (lg_sl ([.ref (q 1), .int (a)]) ++ List.replicate (2 - (lg_sl ([.ref (q 1), .int (a)])).length) Slot.unset).toArray = ls at hl ⊢
  have hl : lv_has ls 2 [(0, .ref (q 1)), (1, .int (a))] := hl
  have hR := fDr_isValid.eq_1 z0 a
  refine lv_aload_n hx hb dDr_isValid_0 rfl (lv_at hl 0 rfl) ?_
  refine cg1_values hx hb hts i0 hown hK hP w0 dDr_isValid_1 ?_
  refine lv_iload_n hx hb dDr_isValid_4 rfl (lv_at hl 1 rfl) ?_
  refine cl_vals hx hb hK hP ha dDr_isValid_5 ?_
  refine lv_ldc2 (v := (-1)) hx hb hown w1 dDr_isValid_6 ?_
  refine lc_eq hx hb dDr_isValid_9 dDr_isValid_10 rfl (fun h9 => ?_) (fun h9 => ?_)
  · have hR := hR.trans (if_pos h9)
    refine lv_iconst (v := 0) hx hb dDr_isValid_17 (by decide) ?_
    exact W.zret hx hb hr rfl (fun t ht _ => ⟨by rw [hR]; first | done | rfl, ht⟩) (fun _ h => absurd h List.not_mem_nil) dDr_isValid_18
  · have hR := hR.trans (if_neg h9)
    refine lv_iconst (v := 1) hx hb dDr_isValid_13 (by decide) ?_
    refine lv_goto hx hb dDr_isValid_14 rfl ?_
    exact W.zret hx hb hr rfl (fun t ht _ => ⟨by rw [hR]; first | done | rfl, ht⟩) (fun _ h => absurd h List.not_mem_nil) dDr_isValid_18
theorem dDr_valueAt_0 : decode ccDr_valueAt 0 = .ok (.aload_n 0, 1) := by decide +kernel
theorem dDr_valueAt_1 : decode ccDr_valueAt 1 = .ok (.getfield 15, 3) := by decide +kernel
theorem dDr_valueAt_4 : decode ccDr_valueAt 4 = .ok (.iload_n 1, 1) := by decide +kernel
theorem dDr_valueAt_5 : decode ccDr_valueAt 5 = .ok (.laload, 1) := by decide +kernel
theorem dDr_valueAt_6 : decode ccDr_valueAt 6 = .ok (.lreturn, 1) := by decide +kernel
def fDr_valueAt (z0 : SC) (a : Int32) : Int64 :=
  c_vals z0 a.toNatClampNeg
set_option maxHeartbeats 4000000 in
set_option maxRecDepth 100000 in
theorem kDr_valueAt (l : Launch) (D : va_G) (q : Nat → Nat) (cI cJ cZ : ClassId) (hq : c_inj q) (z0 : SC) (a : Int32) (ha : vp_in a 200) : Met l yDr_valueAt wsDr_valueAt { frames := 0, cells := 0, slots := 0, locals := 0 } (va_Pc [.ref (q 1), .int (a)] (c_C D q cI cJ cZ z0)) (cQr (some (.long (fDr_valueAt z0 a)))) 0 0 (fun _ => False) := by
  refine Met.ofW (cc := ccDr_valueAt) (maxL := 2) (ret := (some .long)) (by decide +kernel) rfl ?_
  intro p e s m args below meth c s₁ B hml hv
  obtain ⟨rfl, hP, hK⟩ := hv
  have hx := B.exec
  have hb := B.bytes
  have hr := B.returns
  have hts := atoms_spec (ws := wsDr_valueAt) B.pre
  have hown : s.vm.findClass RDr = some m.cls := findClass_of_methodNamed B.named
  have hlocks := B.notSynchronized
  have w0 := hts (.fieldLink RDr 15 "DrumMachine$Drum" "values" "[J") (List.mem_cons_of_mem _ wm1_41)
  have i0 : ∀ w ∈ u_ws RDr TDr 3, w ∈ wsDr_valueAt := fun w h => List.mem_cons_of_mem _ (inADr w h)
  have hl := lv_entry ([.ref (q 1), .int (a)]) (n := 2) (Nat.le_of_ble_eq_true rfl)
  rw [lg_entry_eq]
  generalize (lg_sl ([.ref (q 1), .int (a)]) ++ List.replicate (2 - (lg_sl ([.ref (q 1), .int (a)])).length) Slot.unset).toArray = ls at hl ⊢
  have hl : lv_has ls 2 [(0, .ref (q 1)), (1, .int (a))] := hl
  have hR := fDr_valueAt.eq_1 z0 a
  refine lv_aload_n hx hb dDr_valueAt_0 rfl (lv_at hl 0 rfl) ?_
  refine cg1_values hx hb hts i0 hown hK hP w0 dDr_valueAt_1 ?_
  refine lv_iload_n hx hb dDr_valueAt_4 rfl (lv_at hl 1 rfl) ?_
  refine cl_vals hx hb hK hP ha dDr_valueAt_5 ?_
  exact W.lret hx hb hr (fun t ht _ => ⟨by rw [hR]; first | done | rfl, ht⟩) (fun _ h => absurd h List.not_mem_nil) dDr_valueAt_6
theorem dDr_isMinus_0 : decode ccDr_isMinus 0 = .ok (.aload_n 0, 1) := by decide +kernel
theorem dDr_isMinus_1 : decode ccDr_isMinus 1 = .ok (.getfield 19, 3) := by decide +kernel
theorem dDr_isMinus_4 : decode ccDr_isMinus 4 = .ok (.iload_n 1, 1) := by decide +kernel
theorem dDr_isMinus_5 : decode ccDr_isMinus 5 = .ok (.baload, 1) := by decide +kernel
theorem dDr_isMinus_6 : decode ccDr_isMinus 6 = .ok (.ireturn, 1) := by decide +kernel
def fDr_isMinus (z0 : SC) (a : Int32) : Bool :=
  c_dmin z0 a.toNatClampNeg
set_option maxHeartbeats 4000000 in
set_option maxRecDepth 100000 in
theorem kDr_isMinus (l : Launch) (D : va_G) (q : Nat → Nat) (cI cJ cZ : ClassId) (hq : c_inj q) (z0 : SC) (a : Int32) (ha : vp_in a 200) : Met l yDr_isMinus wsDr_isMinus { frames := 0, cells := 0, slots := 0, locals := 0 } (va_Pc [.ref (q 1), .int (a)] (c_C D q cI cJ cZ z0)) (cQr (some (.int (bb (fDr_isMinus z0 a))))) 0 0 (fun _ => False) := by
  refine Met.ofW (cc := ccDr_isMinus) (maxL := 2) (ret := (some .boolean)) (by decide +kernel) rfl ?_
  intro p e s m args below meth c s₁ B hml hv
  obtain ⟨rfl, hP, hK⟩ := hv
  have hx := B.exec
  have hb := B.bytes
  have hr := B.returns
  have hts := atoms_spec (ws := wsDr_isMinus) B.pre
  have hown : s.vm.findClass RDr = some m.cls := findClass_of_methodNamed B.named
  have hlocks := B.notSynchronized
  have w0 := hts (.fieldLink RDr 19 "DrumMachine$Drum" "minus" "[Z") (List.mem_cons_of_mem _ wm1_42)
  have i0 : ∀ w ∈ u_ws RDr TDr 3, w ∈ wsDr_isMinus := fun w h => List.mem_cons_of_mem _ (inADr w h)
  have hl := lv_entry ([.ref (q 1), .int (a)]) (n := 2) (Nat.le_of_ble_eq_true rfl)
  rw [lg_entry_eq]
  generalize (lg_sl ([.ref (q 1), .int (a)]) ++ List.replicate (2 - (lg_sl ([.ref (q 1), .int (a)])).length) Slot.unset).toArray = ls at hl ⊢
  have hl : lv_has ls 2 [(0, .ref (q 1)), (1, .int (a))] := hl
  have hR := fDr_isMinus.eq_1 z0 a
  refine lv_aload_n hx hb dDr_isMinus_0 rfl (lv_at hl 0 rfl) ?_
  refine cg1_minus hx hb hts i0 hown hK hP w0 dDr_isMinus_1 ?_
  refine lv_iload_n hx hb dDr_isMinus_4 rfl (lv_at hl 1 rfl) ?_
  refine cl_dmin hx hb hK hP ha dDr_isMinus_5 ?_
  exact W.zret hx hb hr (nz_b _) (fun t ht _ => ⟨by rw [hR]; first | done | rfl, ht⟩) (fun _ h => absurd h List.not_mem_nil) dDr_isMinus_6
end
section
theorem dCd_size_0 : decode ccCd_size 0 = .ok (.aload_n 0, 1) := by decide +kernel
theorem dCd_size_1 : decode ccCd_size 1 = .ok (.getfield 17, 3) := by decide +kernel
theorem dCd_size_4 : decode ccCd_size 4 = .ok (.ireturn, 1) := by decide +kernel
def fCd_size (z0 : SC)  : Int32 :=
  c_ccount z0
set_option maxHeartbeats 4000000 in
set_option maxRecDepth 100000 in
theorem kCd_size (l : Launch) (D : va_G) (q : Nat → Nat) (cI cJ cZ : ClassId) (hq : c_inj q) (z0 : SC)   : Met l yCd_size wsCd_size { frames := 0, cells := 0, slots := 0, locals := 0 } (va_Pc [.ref (q 2)] (c_C D q cI cJ cZ z0)) (cQr (some (.int (fCd_size z0)))) 0 0 (fun _ => False) := by
  refine Met.ofW (cc := ccCd_size) (maxL := 1) (ret := (some .int)) (by decide +kernel) rfl ?_
  intro p e s m args below meth c s₁ B hml hv
  obtain ⟨rfl, hP, hK⟩ := hv
  have hx := B.exec
  have hb := B.bytes
  have hr := B.returns
  have hts := atoms_spec (ws := wsCd_size) B.pre
  have hown : s.vm.findClass RCd = some m.cls := findClass_of_methodNamed B.named
  have hlocks := B.notSynchronized
  have w0 := hts (.fieldLink RCd 17 "DrumMachine$CardDeck" "count" "I") (List.mem_cons_of_mem _ wm1_62)
  have i0 : ∀ w ∈ u_ws RCd TCd 4, w ∈ wsCd_size := fun w h => List.mem_cons_of_mem _ (inACd w h)
  have hl := lv_entry ([.ref (q 2)]) (n := 1) (Nat.le_of_ble_eq_true rfl)
  rw [lg_entry_eq]
  generalize (lg_sl ([.ref (q 2)]) ++ List.replicate (1 - (lg_sl ([.ref (q 2)])).length) Slot.unset).toArray = ls at hl ⊢
  have hl : lv_has ls 1 [(0, .ref (q 2))] := hl
  have hR := fCd_size.eq_1 z0
  refine lv_aload_n hx hb dCd_size_0 rfl (lv_at hl 0 rfl) ?_
  refine cg2_count hx hb hts i0 hown hK hP w0 dCd_size_1 ?_
  exact W.iret hx hb hr (fun t ht _ => ⟨by rw [hR]; first | done | rfl, ht⟩) (fun _ h => absurd h List.not_mem_nil) dCd_size_4
theorem dCd_isFull_0 : decode ccCd_isFull 0 = .ok (.aload_n 0, 1) := by decide +kernel
theorem dCd_isFull_1 : decode ccCd_isFull 1 = .ok (.getfield 17, 3) := by decide +kernel
theorem dCd_isFull_4 : decode ccCd_isFull 4 = .ok (.bipush 20, 2) := by decide +kernel
theorem dCd_isFull_6 : decode ccCd_isFull 6 = .ok (.if_icmp .lt 7, 3) := by decide +kernel
theorem dCd_isFull_9 : decode ccCd_isFull 9 = .ok (.iconst 1, 1) := by decide +kernel
theorem dCd_isFull_10 : decode ccCd_isFull 10 = .ok (.goto 4, 3) := by decide +kernel
theorem dCd_isFull_13 : decode ccCd_isFull 13 = .ok (.iconst 0, 1) := by decide +kernel
theorem dCd_isFull_14 : decode ccCd_isFull 14 = .ok (.ireturn, 1) := by decide +kernel
def fCd_isFull (z0 : SC)  : Bool :=
  (if (c_ccount z0) < (20 : Int32) then false else true)
set_option maxHeartbeats 4000000 in
set_option maxRecDepth 100000 in
theorem kCd_isFull (l : Launch) (D : va_G) (q : Nat → Nat) (cI cJ cZ : ClassId) (hq : c_inj q) (z0 : SC)   : Met l yCd_isFull wsCd_isFull { frames := 0, cells := 0, slots := 0, locals := 0 } (va_Pc [.ref (q 2)] (c_C D q cI cJ cZ z0)) (cQr (some (.int (bb (fCd_isFull z0))))) 0 0 (fun _ => False) := by
  refine Met.ofW (cc := ccCd_isFull) (maxL := 1) (ret := (some .boolean)) (by decide +kernel) rfl ?_
  intro p e s m args below meth c s₁ B hml hv
  obtain ⟨rfl, hP, hK⟩ := hv
  have hx := B.exec
  have hb := B.bytes
  have hr := B.returns
  have hts := atoms_spec (ws := wsCd_isFull) B.pre
  have hown : s.vm.findClass RCd = some m.cls := findClass_of_methodNamed B.named
  have hlocks := B.notSynchronized
  have w0 := hts (.fieldLink RCd 17 "DrumMachine$CardDeck" "count" "I") (List.mem_cons_of_mem _ wm1_62)
  have i0 : ∀ w ∈ u_ws RCd TCd 4, w ∈ wsCd_isFull := fun w h => List.mem_cons_of_mem _ (inACd w h)
  have hl := lv_entry ([.ref (q 2)]) (n := 1) (Nat.le_of_ble_eq_true rfl)
  rw [lg_entry_eq]
  generalize (lg_sl ([.ref (q 2)]) ++ List.replicate (1 - (lg_sl ([.ref (q 2)])).length) Slot.unset).toArray = ls at hl ⊢
  have hl : lv_has ls 1 [(0, .ref (q 2))] := hl
  have hR := fCd_isFull.eq_1 z0
  refine lv_aload_n hx hb dCd_isFull_0 rfl (lv_at hl 0 rfl) ?_
  refine cg2_count hx hb hts i0 hown hK hP w0 dCd_isFull_1 ?_
  refine lv_bipush (v := 20) hx hb dCd_isFull_4 (by decide) ?_
  refine lv_icmp_lt hx hb dCd_isFull_6 rfl (fun h6 => ?_) (fun h6 => ?_)
  · have hR := hR.trans (if_pos h6)
    refine lv_iconst (v := 0) hx hb dCd_isFull_13 (by decide) ?_
    exact W.zret hx hb hr rfl (fun t ht _ => ⟨by rw [hR]; first | done | rfl, ht⟩) (fun _ h => absurd h List.not_mem_nil) dCd_isFull_14
  · have hR := hR.trans (if_neg h6)
    refine lv_iconst (v := 1) hx hb dCd_isFull_9 (by decide) ?_
    refine lv_goto hx hb dCd_isFull_10 rfl ?_
    exact W.zret hx hb hr rfl (fun t ht _ => ⟨by rw [hR]; first | done | rfl, ht⟩) (fun _ h => absurd h List.not_mem_nil) dCd_isFull_14
theorem dCd_isEmpty_0 : decode ccCd_isEmpty 0 = .ok (.aload_n 0, 1) := by decide +kernel
theorem dCd_isEmpty_1 : decode ccCd_isEmpty 1 = .ok (.getfield 17, 3) := by decide +kernel
theorem dCd_isEmpty_4 : decode ccCd_isEmpty 4 = .ok (.ifCond .ne 7, 3) := by decide +kernel
theorem dCd_isEmpty_7 : decode ccCd_isEmpty 7 = .ok (.iconst 1, 1) := by decide +kernel
theorem dCd_isEmpty_8 : decode ccCd_isEmpty 8 = .ok (.goto 4, 3) := by decide +kernel
theorem dCd_isEmpty_11 : decode ccCd_isEmpty 11 = .ok (.iconst 0, 1) := by decide +kernel
theorem dCd_isEmpty_12 : decode ccCd_isEmpty 12 = .ok (.ireturn, 1) := by decide +kernel
def fCd_isEmpty (z0 : SC)  : Bool :=
  (if (c_ccount z0) = 0 then true else false)
set_option maxHeartbeats 4000000 in
set_option maxRecDepth 100000 in
theorem kCd_isEmpty (l : Launch) (D : va_G) (q : Nat → Nat) (cI cJ cZ : ClassId) (hq : c_inj q) (z0 : SC)   : Met l yCd_isEmpty wsCd_isEmpty { frames := 0, cells := 0, slots := 0, locals := 0 } (va_Pc [.ref (q 2)] (c_C D q cI cJ cZ z0)) (cQr (some (.int (bb (fCd_isEmpty z0))))) 0 0 (fun _ => False) := by
  refine Met.ofW (cc := ccCd_isEmpty) (maxL := 1) (ret := (some .boolean)) (by decide +kernel) rfl ?_
  intro p e s m args below meth c s₁ B hml hv
  obtain ⟨rfl, hP, hK⟩ := hv
  have hx := B.exec
  have hb := B.bytes
  have hr := B.returns
  have hts := atoms_spec (ws := wsCd_isEmpty) B.pre
  have hown : s.vm.findClass RCd = some m.cls := findClass_of_methodNamed B.named
  have hlocks := B.notSynchronized
  have w0 := hts (.fieldLink RCd 17 "DrumMachine$CardDeck" "count" "I") (List.mem_cons_of_mem _ wm1_62)
  have i0 : ∀ w ∈ u_ws RCd TCd 4, w ∈ wsCd_isEmpty := fun w h => List.mem_cons_of_mem _ (inACd w h)
  have hl := lv_entry ([.ref (q 2)]) (n := 1) (Nat.le_of_ble_eq_true rfl)
  rw [lg_entry_eq]
  generalize (lg_sl ([.ref (q 2)]) ++ List.replicate (1 - (lg_sl ([.ref (q 2)])).length) Slot.unset).toArray = ls at hl ⊢
  have hl : lv_has ls 1 [(0, .ref (q 2))] := hl
  have hR := fCd_isEmpty.eq_1 z0
  refine lv_aload_n hx hb dCd_isEmpty_0 rfl (lv_at hl 0 rfl) ?_
  refine cg2_count hx hb hts i0 hown hK hP w0 dCd_isEmpty_1 ?_
  refine lv_if_ne hx hb dCd_isEmpty_4 rfl (fun h4 => ?_) (fun h4 => ?_)
  · have hR := hR.trans (if_neg h4)
    refine lv_iconst (v := 0) hx hb dCd_isEmpty_11 (by decide) ?_
    exact W.zret hx hb hr rfl (fun t ht _ => ⟨by rw [hR]; first | done | rfl, ht⟩) (fun _ h => absurd h List.not_mem_nil) dCd_isEmpty_12
  · have hR := hR.trans (if_pos h4)
    refine lv_iconst (v := 1) hx hb dCd_isEmpty_7 (by decide) ?_
    refine lv_goto hx hb dCd_isEmpty_8 rfl ?_
    exact W.zret hx hb hr rfl (fun t ht _ => ⟨by rw [hR]; first | done | rfl, ht⟩) (fun _ h => absurd h List.not_mem_nil) dCd_isEmpty_12
theorem dCd_put_0 : decode ccCd_put 0 = .ok (.aload_n 0, 1) := by decide +kernel
theorem dCd_put_1 : decode ccCd_put 1 = .ok (.getfield 21, 3) := by decide +kernel
theorem dCd_put_4 : decode ccCd_put 4 = .ok (.aload_n 0, 1) := by decide +kernel
theorem dCd_put_5 : decode ccCd_put 5 = .ok (.getfield 17, 3) := by decide +kernel
theorem dCd_put_8 : decode ccCd_put 8 = .ok (.iadd, 1) := by decide +kernel
theorem dCd_put_9 : decode ccCd_put 9 = .ok (.bipush 20, 2) := by decide +kernel
theorem dCd_put_11 : decode ccCd_put 11 = .ok (.irem, 1) := by decide +kernel
theorem dCd_put_12 : decode ccCd_put 12 = .ok (.istore 4, 2) := by decide +kernel
theorem dCd_put_14 : decode ccCd_put 14 = .ok (.aload_n 0, 1) := by decide +kernel
theorem dCd_put_15 : decode ccCd_put 15 = .ok (.getfield 9, 3) := by decide +kernel
theorem dCd_put_18 : decode ccCd_put 18 = .ok (.iload 4, 2) := by decide +kernel
theorem dCd_put_20 : decode ccCd_put 20 = .ok (.lload_n 1, 1) := by decide +kernel
theorem dCd_put_21 : decode ccCd_put 21 = .ok (.lastore, 1) := by decide +kernel
theorem dCd_put_22 : decode ccCd_put 22 = .ok (.aload_n 0, 1) := by decide +kernel
theorem dCd_put_23 : decode ccCd_put 23 = .ok (.getfield 13, 3) := by decide +kernel
theorem dCd_put_26 : decode ccCd_put 26 = .ok (.iload 4, 2) := by decide +kernel
theorem dCd_put_28 : decode ccCd_put 28 = .ok (.iload_n 3, 1) := by decide +kernel
theorem dCd_put_29 : decode ccCd_put 29 = .ok (.bastore, 1) := by decide +kernel
theorem dCd_put_30 : decode ccCd_put 30 = .ok (.aload_n 0, 1) := by decide +kernel
theorem dCd_put_31 : decode ccCd_put 31 = .ok (.dup, 1) := by decide +kernel
theorem dCd_put_32 : decode ccCd_put 32 = .ok (.getfield 17, 3) := by decide +kernel
theorem dCd_put_35 : decode ccCd_put 35 = .ok (.iconst 1, 1) := by decide +kernel
theorem dCd_put_36 : decode ccCd_put 36 = .ok (.iadd, 1) := by decide +kernel
theorem dCd_put_37 : decode ccCd_put 37 = .ok (.putfield 17, 3) := by decide +kernel
theorem dCd_put_40 : decode ccCd_put 40 = .ok (.return_, 1) := by decide +kernel
def fCd_put (z0 : SC) (v : Int64) (b : Bool) : SC :=
  c_ccount_s (c_cmin_s (c_cvals_s z0 (vp_updL (c_cvals z0) ((((c_cfirst z0) + (c_ccount z0)) % 20).toNatClampNeg) v)) (updB (c_cmin z0) ((((c_cfirst z0) + (c_ccount z0)) % 20).toNatClampNeg) b)) ((c_ccount z0) + 1)
set_option maxHeartbeats 4000000 in
set_option maxRecDepth 100000 in
theorem kCd_put (l : Launch) (D : va_G) (q : Nat → Nat) (cI cJ cZ : ClassId) (hq : c_inj q) (z0 : SC) (v : Int64) (b : Bool) (hi : vp_in ((c_cfirst z0 + c_ccount z0) % 20) 20) : Met l yCd_put wsCd_put { frames := 0, cells := 0, slots := 0, locals := 0 } (va_Pc [.ref (q 2), .long (v), .int (bb (b))] (c_C D q cI cJ cZ z0)) (cQw none (c_W D q cI cJ cZ (fCd_put z0 v b)) (c_qs q)) 0 0 (c_qs q) := by
  refine Met.ofW (cc := ccCd_put) (maxL := 5) (ret := none) (by decide +kernel) rfl ?_
  intro p e s m args below meth c s₁ B hml hv
  obtain ⟨rfl, hP, hK⟩ := hv
  have hx := B.exec
  have hb := B.bytes
  have hr := B.returns
  have hts := atoms_spec (ws := wsCd_put) B.pre
  have hown : s.vm.findClass RCd = some m.cls := findClass_of_methodNamed B.named
  have hlocks := B.notSynchronized
  have w0 := hts (.fieldLink RCd 21 "DrumMachine$CardDeck" "first" "I") (List.mem_cons_of_mem _ wm1_61)
  have w1 := hts (.fieldLink RCd 17 "DrumMachine$CardDeck" "count" "I") (List.mem_cons_of_mem _ wm1_62)
  have w2 := hts (.fieldLink RCd 9 "DrumMachine$CardDeck" "values" "[J") (List.mem_cons_of_mem _ wm1_59)
  have w3 := hts (.fieldLink RCd 13 "DrumMachine$CardDeck" "minus" "[Z") (List.mem_cons_of_mem _ wm1_60)
  have i0 : ∀ w ∈ u_ws RCd TCd 4, w ∈ wsCd_put := fun w h => List.mem_cons_of_mem _ (inACd w h)
  have hS : va_S (c_qs q) s.heap s.heap [] := va_S.rf
  have hl := lv_entry ([.ref (q 2), .long (v), .int (bb (b))]) (n := 5) (Nat.le_of_ble_eq_true rfl)
  rw [lg_entry_eq]
  generalize (lg_sl ([.ref (q 2), .long (v), .int (bb (b))]) ++ List.replicate (5 - (lg_sl ([.ref (q 2), .long (v), .int (bb (b))])).length) Slot.unset).toArray = ls at hl ⊢
  have hl : lv_has ls 5 [(0, .ref (q 2)), (1, .long (v)), (3, .int (bb (b)))] := hl
  have hR := fCd_put.eq_1 z0 v b
  refine lv_aload_n hx hb dCd_put_0 rfl (lv_at hl 0 rfl) ?_
  refine cg2_first hx hb hts i0 hown hK hP w0 dCd_put_1 ?_
  refine lv_aload_n hx hb dCd_put_4 rfl (lv_at hl 0 rfl) ?_
  refine cg2_count hx hb hts i0 hown hK hP w1 dCd_put_5 ?_
  refine lv_iadd hx hb dCd_put_8 ?_
  refine lv_bipush (v := 20) hx hb dCd_put_9 (by decide) ?_
  refine lm_irem hx hb dCd_put_11 (by decide) ?_
  refine lv_istore (lv' := [(4, .int (((c_cfirst z0) + (c_ccount z0)) % 20)), (0, .ref (q 2)), (1, .long (v)), (3, .int (bb (b)))]) hx hb dCd_put_12 hl (by decide) rfl (fun ls hl => ?_)
  refine lv_aload_n hx hb dCd_put_14 rfl (lv_at hl 1 rfl) ?_
  refine cg2_values hx hb hts i0 hown hK hP w2 dCd_put_15 ?_
  refine lv_iload hx hb dCd_put_18 (lv_at hl 0 rfl) ?_
  refine lv_lload_n hx hb dCd_put_20 rfl (lv_at hl 2 rfl) ?_
  refine cs_cvals v hq hS hx hb hK hP hi dCd_put_21 (fun H locs hP hS => ?_)
  refine lv_aload_n hx hb dCd_put_22 rfl (lv_at hl 1 rfl) ?_
  refine cg2_minus hx hb hts i0 hown hK hP w3 dCd_put_23 ?_
  refine lv_iload hx hb dCd_put_26 (lv_at hl 0 rfl) ?_
  refine lv_iload_n hx hb dCd_put_28 rfl (lv_at hl 3 rfl) ?_
  refine cs_cmin b hq hS hx hb hK hP hi dCd_put_29 (fun H locs hP hS => ?_)
  refine lv_aload_n hx hb dCd_put_30 rfl (lv_at hl 1 rfl) ?_
  refine lv_dup hx hb dCd_put_31 rfl ?_
  refine cg2_count hx hb hts i0 hown hK hP w1 dCd_put_32 ?_
  refine lv_iconst (v := 1) hx hb dCd_put_35 (by decide) ?_
  refine lv_iadd hx hb dCd_put_36 ?_
  refine cp2_count ((c_ccount z0) + 1) hq hS hx hb hts i0 hown hK hP w1 dCd_put_37 (fun H locs hP hS => ?_)
  exact W.vret hx hb hr (fun t ht _ => ⟨rfl, by rw [hR, ht]; exact hP, hS.F ht⟩) hS.2.2 dCd_put_40
theorem dCd_firstValue_0 : decode ccCd_firstValue 0 = .ok (.aload_n 0, 1) := by decide +kernel
theorem dCd_firstValue_1 : decode ccCd_firstValue 1 = .ok (.getfield 9, 3) := by decide +kernel
theorem dCd_firstValue_4 : decode ccCd_firstValue 4 = .ok (.aload_n 0, 1) := by decide +kernel
theorem dCd_firstValue_5 : decode ccCd_firstValue 5 = .ok (.getfield 21, 3) := by decide +kernel
theorem dCd_firstValue_8 : decode ccCd_firstValue 8 = .ok (.laload, 1) := by decide +kernel
theorem dCd_firstValue_9 : decode ccCd_firstValue 9 = .ok (.lreturn, 1) := by decide +kernel
def fCd_firstValue (z0 : SC)  : Int64 :=
  c_cvals z0 ((c_cfirst z0).toNatClampNeg)
set_option maxHeartbeats 4000000 in
set_option maxRecDepth 100000 in
theorem kCd_firstValue (l : Launch) (D : va_G) (q : Nat → Nat) (cI cJ cZ : ClassId) (hq : c_inj q) (z0 : SC)  (hi : vp_in (c_cfirst z0) 20) : Met l yCd_firstValue wsCd_firstValue { frames := 0, cells := 0, slots := 0, locals := 0 } (va_Pc [.ref (q 2)] (c_C D q cI cJ cZ z0)) (cQr (some (.long (fCd_firstValue z0)))) 0 0 (fun _ => False) := by
  refine Met.ofW (cc := ccCd_firstValue) (maxL := 1) (ret := (some .long)) (by decide +kernel) rfl ?_
  intro p e s m args below meth c s₁ B hml hv
  obtain ⟨rfl, hP, hK⟩ := hv
  have hx := B.exec
  have hb := B.bytes
  have hr := B.returns
  have hts := atoms_spec (ws := wsCd_firstValue) B.pre
  have hown : s.vm.findClass RCd = some m.cls := findClass_of_methodNamed B.named
  have hlocks := B.notSynchronized
  have w0 := hts (.fieldLink RCd 9 "DrumMachine$CardDeck" "values" "[J") (List.mem_cons_of_mem _ wm1_59)
  have w1 := hts (.fieldLink RCd 21 "DrumMachine$CardDeck" "first" "I") (List.mem_cons_of_mem _ wm1_61)
  have i0 : ∀ w ∈ u_ws RCd TCd 4, w ∈ wsCd_firstValue := fun w h => List.mem_cons_of_mem _ (inACd w h)
  have hl := lv_entry ([.ref (q 2)]) (n := 1) (Nat.le_of_ble_eq_true rfl)
  rw [lg_entry_eq]
  generalize (lg_sl ([.ref (q 2)]) ++ List.replicate (1 - (lg_sl ([.ref (q 2)])).length) Slot.unset).toArray = ls at hl ⊢
  have hl : lv_has ls 1 [(0, .ref (q 2))] := hl
  have hR := fCd_firstValue.eq_1 z0
  refine lv_aload_n hx hb dCd_firstValue_0 rfl (lv_at hl 0 rfl) ?_
  refine cg2_values hx hb hts i0 hown hK hP w0 dCd_firstValue_1 ?_
  refine lv_aload_n hx hb dCd_firstValue_4 rfl (lv_at hl 0 rfl) ?_
  refine cg2_first hx hb hts i0 hown hK hP w1 dCd_firstValue_5 ?_
  refine cl_cvals hx hb hK hP hi dCd_firstValue_8 ?_
  exact W.lret hx hb hr (fun t ht _ => ⟨by rw [hR]; first | done | rfl, ht⟩) (fun _ h => absurd h List.not_mem_nil) dCd_firstValue_9
theorem dCd_firstIsMinus_0 : decode ccCd_firstIsMinus 0 = .ok (.aload_n 0, 1) := by decide +kernel
theorem dCd_firstIsMinus_1 : decode ccCd_firstIsMinus 1 = .ok (.getfield 13, 3) := by decide +kernel
theorem dCd_firstIsMinus_4 : decode ccCd_firstIsMinus 4 = .ok (.aload_n 0, 1) := by decide +kernel
theorem dCd_firstIsMinus_5 : decode ccCd_firstIsMinus 5 = .ok (.getfield 21, 3) := by decide +kernel
theorem dCd_firstIsMinus_8 : decode ccCd_firstIsMinus 8 = .ok (.baload, 1) := by decide +kernel
theorem dCd_firstIsMinus_9 : decode ccCd_firstIsMinus 9 = .ok (.ireturn, 1) := by decide +kernel
def fCd_firstIsMinus (z0 : SC)  : Bool :=
  c_cmin z0 ((c_cfirst z0).toNatClampNeg)
set_option maxHeartbeats 4000000 in
set_option maxRecDepth 100000 in
theorem kCd_firstIsMinus (l : Launch) (D : va_G) (q : Nat → Nat) (cI cJ cZ : ClassId) (hq : c_inj q) (z0 : SC)  (hi : vp_in (c_cfirst z0) 20) : Met l yCd_firstIsMinus wsCd_firstIsMinus { frames := 0, cells := 0, slots := 0, locals := 0 } (va_Pc [.ref (q 2)] (c_C D q cI cJ cZ z0)) (cQr (some (.int (bb (fCd_firstIsMinus z0))))) 0 0 (fun _ => False) := by
  refine Met.ofW (cc := ccCd_firstIsMinus) (maxL := 1) (ret := (some .boolean)) (by decide +kernel) rfl ?_
  intro p e s m args below meth c s₁ B hml hv
  obtain ⟨rfl, hP, hK⟩ := hv
  have hx := B.exec
  have hb := B.bytes
  have hr := B.returns
  have hts := atoms_spec (ws := wsCd_firstIsMinus) B.pre
  have hown : s.vm.findClass RCd = some m.cls := findClass_of_methodNamed B.named
  have hlocks := B.notSynchronized
  have w0 := hts (.fieldLink RCd 13 "DrumMachine$CardDeck" "minus" "[Z") (List.mem_cons_of_mem _ wm1_60)
  have w1 := hts (.fieldLink RCd 21 "DrumMachine$CardDeck" "first" "I") (List.mem_cons_of_mem _ wm1_61)
  have i0 : ∀ w ∈ u_ws RCd TCd 4, w ∈ wsCd_firstIsMinus := fun w h => List.mem_cons_of_mem _ (inACd w h)
  have hl := lv_entry ([.ref (q 2)]) (n := 1) (Nat.le_of_ble_eq_true rfl)
  rw [lg_entry_eq]
  generalize (lg_sl ([.ref (q 2)]) ++ List.replicate (1 - (lg_sl ([.ref (q 2)])).length) Slot.unset).toArray = ls at hl ⊢
  have hl : lv_has ls 1 [(0, .ref (q 2))] := hl
  have hR := fCd_firstIsMinus.eq_1 z0
  refine lv_aload_n hx hb dCd_firstIsMinus_0 rfl (lv_at hl 0 rfl) ?_
  refine cg2_minus hx hb hts i0 hown hK hP w0 dCd_firstIsMinus_1 ?_
  refine lv_aload_n hx hb dCd_firstIsMinus_4 rfl (lv_at hl 0 rfl) ?_
  refine cg2_first hx hb hts i0 hown hK hP w1 dCd_firstIsMinus_5 ?_
  refine cl_cmin hx hb hK hP hi dCd_firstIsMinus_8 ?_
  exact W.zret hx hb hr (nz_b _) (fun t ht _ => ⟨by rw [hR]; first | done | rfl, ht⟩) (fun _ h => absurd h List.not_mem_nil) dCd_firstIsMinus_9
theorem dCd_dropFirst_0 : decode ccCd_dropFirst 0 = .ok (.aload_n 0, 1) := by decide +kernel
theorem dCd_dropFirst_1 : decode ccCd_dropFirst 1 = .ok (.aload_n 0, 1) := by decide +kernel
theorem dCd_dropFirst_2 : decode ccCd_dropFirst 2 = .ok (.getfield 21, 3) := by decide +kernel
theorem dCd_dropFirst_5 : decode ccCd_dropFirst 5 = .ok (.iconst 1, 1) := by decide +kernel
theorem dCd_dropFirst_6 : decode ccCd_dropFirst 6 = .ok (.iadd, 1) := by decide +kernel
theorem dCd_dropFirst_7 : decode ccCd_dropFirst 7 = .ok (.bipush 20, 2) := by decide +kernel
theorem dCd_dropFirst_9 : decode ccCd_dropFirst 9 = .ok (.irem, 1) := by decide +kernel
theorem dCd_dropFirst_10 : decode ccCd_dropFirst 10 = .ok (.putfield 21, 3) := by decide +kernel
theorem dCd_dropFirst_13 : decode ccCd_dropFirst 13 = .ok (.aload_n 0, 1) := by decide +kernel
theorem dCd_dropFirst_14 : decode ccCd_dropFirst 14 = .ok (.dup, 1) := by decide +kernel
theorem dCd_dropFirst_15 : decode ccCd_dropFirst 15 = .ok (.getfield 17, 3) := by decide +kernel
theorem dCd_dropFirst_18 : decode ccCd_dropFirst 18 = .ok (.iconst 1, 1) := by decide +kernel
theorem dCd_dropFirst_19 : decode ccCd_dropFirst 19 = .ok (.isub, 1) := by decide +kernel
theorem dCd_dropFirst_20 : decode ccCd_dropFirst 20 = .ok (.putfield 17, 3) := by decide +kernel
theorem dCd_dropFirst_23 : decode ccCd_dropFirst 23 = .ok (.return_, 1) := by decide +kernel
def fCd_dropFirst (z0 : SC)  : SC :=
  c_ccount_s (c_cfirst_s z0 (((c_cfirst z0) + 1) % 20)) ((c_ccount z0) - 1)
set_option maxHeartbeats 4000000 in
set_option maxRecDepth 100000 in
theorem kCd_dropFirst (l : Launch) (D : va_G) (q : Nat → Nat) (cI cJ cZ : ClassId) (hq : c_inj q) (z0 : SC)   : Met l yCd_dropFirst wsCd_dropFirst { frames := 0, cells := 0, slots := 0, locals := 0 } (va_Pc [.ref (q 2)] (c_C D q cI cJ cZ z0)) (cQw none (c_W D q cI cJ cZ (fCd_dropFirst z0)) (c_qs q)) 0 0 (c_qs q) := by
  refine Met.ofW (cc := ccCd_dropFirst) (maxL := 1) (ret := none) (by decide +kernel) rfl ?_
  intro p e s m args below meth c s₁ B hml hv
  obtain ⟨rfl, hP, hK⟩ := hv
  have hx := B.exec
  have hb := B.bytes
  have hr := B.returns
  have hts := atoms_spec (ws := wsCd_dropFirst) B.pre
  have hown : s.vm.findClass RCd = some m.cls := findClass_of_methodNamed B.named
  have hlocks := B.notSynchronized
  have w0 := hts (.fieldLink RCd 21 "DrumMachine$CardDeck" "first" "I") (List.mem_cons_of_mem _ wm1_61)
  have w1 := hts (.fieldLink RCd 17 "DrumMachine$CardDeck" "count" "I") (List.mem_cons_of_mem _ wm1_62)
  have i0 : ∀ w ∈ u_ws RCd TCd 4, w ∈ wsCd_dropFirst := fun w h => List.mem_cons_of_mem _ (inACd w h)
  have hS : va_S (c_qs q) s.heap s.heap [] := va_S.rf
  have hl := lv_entry ([.ref (q 2)]) (n := 1) (Nat.le_of_ble_eq_true rfl)
  rw [lg_entry_eq]
  generalize (lg_sl ([.ref (q 2)]) ++ List.replicate (1 - (lg_sl ([.ref (q 2)])).length) Slot.unset).toArray = ls at hl ⊢
  have hl : lv_has ls 1 [(0, .ref (q 2))] := hl
  have hR := fCd_dropFirst.eq_1 z0
  refine lv_aload_n hx hb dCd_dropFirst_0 rfl (lv_at hl 0 rfl) ?_
  refine lv_aload_n hx hb dCd_dropFirst_1 rfl (lv_at hl 0 rfl) ?_
  refine cg2_first hx hb hts i0 hown hK hP w0 dCd_dropFirst_2 ?_
  refine lv_iconst (v := 1) hx hb dCd_dropFirst_5 (by decide) ?_
  refine lv_iadd hx hb dCd_dropFirst_6 ?_
  refine lv_bipush (v := 20) hx hb dCd_dropFirst_7 (by decide) ?_
  refine lm_irem hx hb dCd_dropFirst_9 (by decide) ?_
  refine cp2_first (((c_cfirst z0) + 1) % 20) hq hS hx hb hts i0 hown hK hP w0 dCd_dropFirst_10 (fun H locs hP hS => ?_)
  refine lv_aload_n hx hb dCd_dropFirst_13 rfl (lv_at hl 0 rfl) ?_
  refine lv_dup hx hb dCd_dropFirst_14 rfl ?_
  refine cg2_count hx hb hts i0 hown hK hP w1 dCd_dropFirst_15 ?_
  refine lv_iconst (v := 1) hx hb dCd_dropFirst_18 (by decide) ?_
  refine lv_isub hx hb dCd_dropFirst_19 ?_
  refine cp2_count ((c_ccount z0) - 1) hq hS hx hb hts i0 hown hK hP w1 dCd_dropFirst_20 (fun H locs hP hS => ?_)
  exact W.vret hx hb hr (fun t ht _ => ⟨rfl, by rw [hR, ht]; exact hP, hS.F ht⟩) hS.2.2 dCd_dropFirst_23
theorem dPu_size_0 : decode ccPu_size 0 = .ok (.aload_n 0, 1) := by decide +kernel
theorem dPu_size_1 : decode ccPu_size 1 = .ok (.getfield 13, 3) := by decide +kernel
theorem dPu_size_4 : decode ccPu_size 4 = .ok (.ireturn, 1) := by decide +kernel
def fPu_size (z0 : SC)  : Int32 :=
  c_pcount z0
set_option maxHeartbeats 4000000 in
set_option maxRecDepth 100000 in
theorem kPu_size (l : Launch) (D : va_G) (q : Nat → Nat) (cI cJ cZ : ClassId) (hq : c_inj q) (z0 : SC)   : Met l yPu_size wsPu_size { frames := 0, cells := 0, slots := 0, locals := 0 } (va_Pc [.ref (q 3)] (c_C D q cI cJ cZ z0)) (cQr (some (.int (fPu_size z0)))) 0 0 (fun _ => False) := by
  refine Met.ofW (cc := ccPu_size) (maxL := 1) (ret := (some .int)) (by decide +kernel) rfl ?_
  intro p e s m args below meth c s₁ B hml hv
  obtain ⟨rfl, hP, hK⟩ := hv
  have hx := B.exec
  have hb := B.bytes
  have hr := B.returns
  have hts := atoms_spec (ws := wsPu_size) B.pre
  have hown : s.vm.findClass RPu = some m.cls := findClass_of_methodNamed B.named
  have hlocks := B.notSynchronized
  have w0 := hts (.fieldLink RPu 13 "DrumMachine$Punch" "count" "I") (List.mem_cons_of_mem _ wm1_79)
  have i0 : ∀ w ∈ u_ws RPu TPu 2, w ∈ wsPu_size := fun w h => List.mem_cons_of_mem _ (inAPu w h)
  have hl := lv_entry ([.ref (q 3)]) (n := 1) (Nat.le_of_ble_eq_true rfl)
  rw [lg_entry_eq]
  generalize (lg_sl ([.ref (q 3)]) ++ List.replicate (1 - (lg_sl ([.ref (q 3)])).length) Slot.unset).toArray = ls at hl ⊢
  have hl : lv_has ls 1 [(0, .ref (q 3))] := hl
  have hR := fPu_size.eq_1 z0
  refine lv_aload_n hx hb dPu_size_0 rfl (lv_at hl 0 rfl) ?_
  refine cg3_count hx hb hts i0 hown hK hP w0 dPu_size_1 ?_
  exact W.iret hx hb hr (fun t ht _ => ⟨by rw [hR]; first | done | rfl, ht⟩) (fun _ h => absurd h List.not_mem_nil) dPu_size_4
theorem dPu_isFull_0 : decode ccPu_isFull 0 = .ok (.aload_n 0, 1) := by decide +kernel
theorem dPu_isFull_1 : decode ccPu_isFull 1 = .ok (.getfield 13, 3) := by decide +kernel
theorem dPu_isFull_4 : decode ccPu_isFull 4 = .ok (.bipush 40, 2) := by decide +kernel
theorem dPu_isFull_6 : decode ccPu_isFull 6 = .ok (.if_icmp .lt 7, 3) := by decide +kernel
theorem dPu_isFull_9 : decode ccPu_isFull 9 = .ok (.iconst 1, 1) := by decide +kernel
theorem dPu_isFull_10 : decode ccPu_isFull 10 = .ok (.goto 4, 3) := by decide +kernel
theorem dPu_isFull_13 : decode ccPu_isFull 13 = .ok (.iconst 0, 1) := by decide +kernel
theorem dPu_isFull_14 : decode ccPu_isFull 14 = .ok (.ireturn, 1) := by decide +kernel
def fPu_isFull (z0 : SC)  : Bool :=
  (if (c_pcount z0) < (40 : Int32) then false else true)
set_option maxHeartbeats 4000000 in
set_option maxRecDepth 100000 in
theorem kPu_isFull (l : Launch) (D : va_G) (q : Nat → Nat) (cI cJ cZ : ClassId) (hq : c_inj q) (z0 : SC)   : Met l yPu_isFull wsPu_isFull { frames := 0, cells := 0, slots := 0, locals := 0 } (va_Pc [.ref (q 3)] (c_C D q cI cJ cZ z0)) (cQr (some (.int (bb (fPu_isFull z0))))) 0 0 (fun _ => False) := by
  refine Met.ofW (cc := ccPu_isFull) (maxL := 1) (ret := (some .boolean)) (by decide +kernel) rfl ?_
  intro p e s m args below meth c s₁ B hml hv
  obtain ⟨rfl, hP, hK⟩ := hv
  have hx := B.exec
  have hb := B.bytes
  have hr := B.returns
  have hts := atoms_spec (ws := wsPu_isFull) B.pre
  have hown : s.vm.findClass RPu = some m.cls := findClass_of_methodNamed B.named
  have hlocks := B.notSynchronized
  have w0 := hts (.fieldLink RPu 13 "DrumMachine$Punch" "count" "I") (List.mem_cons_of_mem _ wm1_79)
  have i0 : ∀ w ∈ u_ws RPu TPu 2, w ∈ wsPu_isFull := fun w h => List.mem_cons_of_mem _ (inAPu w h)
  have hl := lv_entry ([.ref (q 3)]) (n := 1) (Nat.le_of_ble_eq_true rfl)
  rw [lg_entry_eq]
  generalize (lg_sl ([.ref (q 3)]) ++ List.replicate (1 - (lg_sl ([.ref (q 3)])).length) Slot.unset).toArray = ls at hl ⊢
  have hl : lv_has ls 1 [(0, .ref (q 3))] := hl
  have hR := fPu_isFull.eq_1 z0
  refine lv_aload_n hx hb dPu_isFull_0 rfl (lv_at hl 0 rfl) ?_
  refine cg3_count hx hb hts i0 hown hK hP w0 dPu_isFull_1 ?_
  refine lv_bipush (v := 40) hx hb dPu_isFull_4 (by decide) ?_
  refine lv_icmp_lt hx hb dPu_isFull_6 rfl (fun h6 => ?_) (fun h6 => ?_)
  · have hR := hR.trans (if_pos h6)
    refine lv_iconst (v := 0) hx hb dPu_isFull_13 (by decide) ?_
    exact W.zret hx hb hr rfl (fun t ht _ => ⟨by rw [hR]; first | done | rfl, ht⟩) (fun _ h => absurd h List.not_mem_nil) dPu_isFull_14
  · have hR := hR.trans (if_neg h6)
    refine lv_iconst (v := 1) hx hb dPu_isFull_9 (by decide) ?_
    refine lv_goto hx hb dPu_isFull_10 rfl ?_
    exact W.zret hx hb hr rfl (fun t ht _ => ⟨by rw [hR]; first | done | rfl, ht⟩) (fun _ h => absurd h List.not_mem_nil) dPu_isFull_14
theorem dPu_hasWord_0 : decode ccPu_hasWord 0 = .ok (.iload_n 1, 1) := by decide +kernel
theorem dPu_hasWord_1 : decode ccPu_hasWord 1 = .ok (.ifCond .lt 15, 3) := by decide +kernel
theorem dPu_hasWord_4 : decode ccPu_hasWord 4 = .ok (.iload_n 1, 1) := by decide +kernel
theorem dPu_hasWord_5 : decode ccPu_hasWord 5 = .ok (.aload_n 0, 1) := by decide +kernel
theorem dPu_hasWord_6 : decode ccPu_hasWord 6 = .ok (.getfield 13, 3) := by decide +kernel
theorem dPu_hasWord_9 : decode ccPu_hasWord 9 = .ok (.if_icmp .ge 7, 3) := by decide +kernel
theorem dPu_hasWord_12 : decode ccPu_hasWord 12 = .ok (.iconst 1, 1) := by decide +kernel
theorem dPu_hasWord_13 : decode ccPu_hasWord 13 = .ok (.goto 4, 3) := by decide +kernel
theorem dPu_hasWord_16 : decode ccPu_hasWord 16 = .ok (.iconst 0, 1) := by decide +kernel
theorem dPu_hasWord_17 : decode ccPu_hasWord 17 = .ok (.ireturn, 1) := by decide +kernel
def fPu_hasWord (z0 : SC) (i : Int32) : Bool :=
  (if i < 0 then false else (if (c_pcount z0) ≤ i then false else true))
set_option maxHeartbeats 4000000 in
set_option maxRecDepth 100000 in
theorem kPu_hasWord (l : Launch) (D : va_G) (q : Nat → Nat) (cI cJ cZ : ClassId) (hq : c_inj q) (z0 : SC) (i : Int32)  : Met l yPu_hasWord wsPu_hasWord { frames := 0, cells := 0, slots := 0, locals := 0 } (va_Pc [.ref (q 3), .int (i)] (c_C D q cI cJ cZ z0)) (cQr (some (.int (bb (fPu_hasWord z0 i))))) 0 0 (fun _ => False) := by
  refine Met.ofW (cc := ccPu_hasWord) (maxL := 2) (ret := (some .boolean)) (by decide +kernel) rfl ?_
  intro p e s m args below meth c s₁ B hml hv
  obtain ⟨rfl, hP, hK⟩ := hv
  have hx := B.exec
  have hb := B.bytes
  have hr := B.returns
  have hts := atoms_spec (ws := wsPu_hasWord) B.pre
  have hown : s.vm.findClass RPu = some m.cls := findClass_of_methodNamed B.named
  have hlocks := B.notSynchronized
  have w0 := hts (.fieldLink RPu 13 "DrumMachine$Punch" "count" "I") (List.mem_cons_of_mem _ wm1_79)
  have i0 : ∀ w ∈ u_ws RPu TPu 2, w ∈ wsPu_hasWord := fun w h => List.mem_cons_of_mem _ (inAPu w h)
  have hl := lv_entry ([.ref (q 3), .int (i)]) (n := 2) (Nat.le_of_ble_eq_true rfl)
  rw [lg_entry_eq]
  generalize (lg_sl ([.ref (q 3), .int (i)]) ++ List.replicate (2 - (lg_sl ([.ref (q 3), .int (i)])).length) Slot.unset).toArray = ls at hl ⊢
  have hl : lv_has ls 2 [(0, .ref (q 3)), (1, .int (i))] := hl
  have hR := fPu_hasWord.eq_1 z0 i
  refine lv_iload_n hx hb dPu_hasWord_0 rfl (lv_at hl 1 rfl) ?_
  refine lv_if_lt hx hb dPu_hasWord_1 rfl (fun h1 => ?_) (fun h1 => ?_)
  · have hR := hR.trans (if_pos h1)
    refine lv_iconst (v := 0) hx hb dPu_hasWord_16 (by decide) ?_
    exact W.zret hx hb hr rfl (fun t ht _ => ⟨by rw [hR]; first | done | rfl, ht⟩) (fun _ h => absurd h List.not_mem_nil) dPu_hasWord_17
  · have hR := hR.trans (if_neg h1)
    refine lv_iload_n hx hb dPu_hasWord_4 rfl (lv_at hl 1 rfl) ?_
    refine lv_aload_n hx hb dPu_hasWord_5 rfl (lv_at hl 0 rfl) ?_
    refine cg3_count hx hb hts i0 hown hK hP w0 dPu_hasWord_6 ?_
    refine lv_icmp_ge hx hb dPu_hasWord_9 rfl (fun h9 => ?_) (fun h9 => ?_)
    · have hR := hR.trans (if_pos h9)
      refine lv_iconst (v := 0) hx hb dPu_hasWord_16 (by decide) ?_
      exact W.zret hx hb hr rfl (fun t ht _ => ⟨by rw [hR]; first | done | rfl, ht⟩) (fun _ h => absurd h List.not_mem_nil) dPu_hasWord_17
    · have hR := hR.trans (if_neg h9)
      refine lv_iconst (v := 1) hx hb dPu_hasWord_12 (by decide) ?_
      refine lv_goto hx hb dPu_hasWord_13 rfl ?_
      exact W.zret hx hb hr rfl (fun t ht _ => ⟨by rw [hR]; first | done | rfl, ht⟩) (fun _ h => absurd h List.not_mem_nil) dPu_hasWord_17
theorem dPu_wordAt_0 : decode ccPu_wordAt 0 = .ok (.aload_n 0, 1) := by decide +kernel
theorem dPu_wordAt_1 : decode ccPu_wordAt 1 = .ok (.getfield 9, 3) := by decide +kernel
theorem dPu_wordAt_4 : decode ccPu_wordAt 4 = .ok (.iload_n 1, 1) := by decide +kernel
theorem dPu_wordAt_5 : decode ccPu_wordAt 5 = .ok (.laload, 1) := by decide +kernel
theorem dPu_wordAt_6 : decode ccPu_wordAt 6 = .ok (.lreturn, 1) := by decide +kernel
def fPu_wordAt (z0 : SC) (i : Int32) : Int64 :=
  c_words z0 i.toNatClampNeg
set_option maxHeartbeats 4000000 in
set_option maxRecDepth 100000 in
theorem kPu_wordAt (l : Launch) (D : va_G) (q : Nat → Nat) (cI cJ cZ : ClassId) (hq : c_inj q) (z0 : SC) (i : Int32) (hi : vp_in i 40) : Met l yPu_wordAt wsPu_wordAt { frames := 0, cells := 0, slots := 0, locals := 0 } (va_Pc [.ref (q 3), .int (i)] (c_C D q cI cJ cZ z0)) (cQr (some (.long (fPu_wordAt z0 i)))) 0 0 (fun _ => False) := by
  refine Met.ofW (cc := ccPu_wordAt) (maxL := 2) (ret := (some .long)) (by decide +kernel) rfl ?_
  intro p e s m args below meth c s₁ B hml hv
  obtain ⟨rfl, hP, hK⟩ := hv
  have hx := B.exec
  have hb := B.bytes
  have hr := B.returns
  have hts := atoms_spec (ws := wsPu_wordAt) B.pre
  have hown : s.vm.findClass RPu = some m.cls := findClass_of_methodNamed B.named
  have hlocks := B.notSynchronized
  have w0 := hts (.fieldLink RPu 9 "DrumMachine$Punch" "words" "[J") (List.mem_cons_of_mem _ wm1_78)
  have i0 : ∀ w ∈ u_ws RPu TPu 2, w ∈ wsPu_wordAt := fun w h => List.mem_cons_of_mem _ (inAPu w h)
  have hl := lv_entry ([.ref (q 3), .int (i)]) (n := 2) (Nat.le_of_ble_eq_true rfl)
  rw [lg_entry_eq]
  generalize (lg_sl ([.ref (q 3), .int (i)]) ++ List.replicate (2 - (lg_sl ([.ref (q 3), .int (i)])).length) Slot.unset).toArray = ls at hl ⊢
  have hl : lv_has ls 2 [(0, .ref (q 3)), (1, .int (i))] := hl
  have hR := fPu_wordAt.eq_1 z0 i
  refine lv_aload_n hx hb dPu_wordAt_0 rfl (lv_at hl 0 rfl) ?_
  refine cg3_words hx hb hts i0 hown hK hP w0 dPu_wordAt_1 ?_
  refine lv_iload_n hx hb dPu_wordAt_4 rfl (lv_at hl 1 rfl) ?_
  refine cl_words hx hb hK hP hi dPu_wordAt_5 ?_
  exact W.lret hx hb hr (fun t ht _ => ⟨by rw [hR]; first | done | rfl, ht⟩) (fun _ h => absurd h List.not_mem_nil) dPu_wordAt_6
theorem dPu_put_0 : decode ccPu_put 0 = .ok (.aload_n 0, 1) := by decide +kernel
theorem dPu_put_1 : decode ccPu_put 1 = .ok (.getfield 9, 3) := by decide +kernel
theorem dPu_put_4 : decode ccPu_put 4 = .ok (.aload_n 0, 1) := by decide +kernel
theorem dPu_put_5 : decode ccPu_put 5 = .ok (.getfield 13, 3) := by decide +kernel
theorem dPu_put_8 : decode ccPu_put 8 = .ok (.lload_n 1, 1) := by decide +kernel
theorem dPu_put_9 : decode ccPu_put 9 = .ok (.lastore, 1) := by decide +kernel
theorem dPu_put_10 : decode ccPu_put 10 = .ok (.aload_n 0, 1) := by decide +kernel
theorem dPu_put_11 : decode ccPu_put 11 = .ok (.dup, 1) := by decide +kernel
theorem dPu_put_12 : decode ccPu_put 12 = .ok (.getfield 13, 3) := by decide +kernel
theorem dPu_put_15 : decode ccPu_put 15 = .ok (.iconst 1, 1) := by decide +kernel
theorem dPu_put_16 : decode ccPu_put 16 = .ok (.iadd, 1) := by decide +kernel
theorem dPu_put_17 : decode ccPu_put 17 = .ok (.putfield 13, 3) := by decide +kernel
theorem dPu_put_20 : decode ccPu_put 20 = .ok (.return_, 1) := by decide +kernel
def fPu_put (z0 : SC) (v : Int64) : SC :=
  c_pcount_s (c_words_s z0 (vp_updL (c_words z0) ((c_pcount z0).toNatClampNeg) v)) ((c_pcount z0) + 1)
set_option maxHeartbeats 4000000 in
set_option maxRecDepth 100000 in
theorem kPu_put (l : Launch) (D : va_G) (q : Nat → Nat) (cI cJ cZ : ClassId) (hq : c_inj q) (z0 : SC) (v : Int64) (hi : vp_in (c_pcount z0) 40) : Met l yPu_put wsPu_put { frames := 0, cells := 0, slots := 0, locals := 0 } (va_Pc [.ref (q 3), .long (v)] (c_C D q cI cJ cZ z0)) (cQw none (c_W D q cI cJ cZ (fPu_put z0 v)) (c_qs q)) 0 0 (c_qs q) := by
  refine Met.ofW (cc := ccPu_put) (maxL := 3) (ret := none) (by decide +kernel) rfl ?_
  intro p e s m args below meth c s₁ B hml hv
  obtain ⟨rfl, hP, hK⟩ := hv
  have hx := B.exec
  have hb := B.bytes
  have hr := B.returns
  have hts := atoms_spec (ws := wsPu_put) B.pre
  have hown : s.vm.findClass RPu = some m.cls := findClass_of_methodNamed B.named
  have hlocks := B.notSynchronized
  have w0 := hts (.fieldLink RPu 9 "DrumMachine$Punch" "words" "[J") (List.mem_cons_of_mem _ wm1_78)
  have w1 := hts (.fieldLink RPu 13 "DrumMachine$Punch" "count" "I") (List.mem_cons_of_mem _ wm1_79)
  have i0 : ∀ w ∈ u_ws RPu TPu 2, w ∈ wsPu_put := fun w h => List.mem_cons_of_mem _ (inAPu w h)
  have hS : va_S (c_qs q) s.heap s.heap [] := va_S.rf
  have hl := lv_entry ([.ref (q 3), .long (v)]) (n := 3) (Nat.le_of_ble_eq_true rfl)
  rw [lg_entry_eq]
  generalize (lg_sl ([.ref (q 3), .long (v)]) ++ List.replicate (3 - (lg_sl ([.ref (q 3), .long (v)])).length) Slot.unset).toArray = ls at hl ⊢
  have hl : lv_has ls 3 [(0, .ref (q 3)), (1, .long (v))] := hl
  have hR := fPu_put.eq_1 z0 v
  refine lv_aload_n hx hb dPu_put_0 rfl (lv_at hl 0 rfl) ?_
  refine cg3_words hx hb hts i0 hown hK hP w0 dPu_put_1 ?_
  refine lv_aload_n hx hb dPu_put_4 rfl (lv_at hl 0 rfl) ?_
  refine cg3_count hx hb hts i0 hown hK hP w1 dPu_put_5 ?_
  refine lv_lload_n hx hb dPu_put_8 rfl (lv_at hl 1 rfl) ?_
  refine cs_words v hq hS hx hb hK hP hi dPu_put_9 (fun H locs hP hS => ?_)
  refine lv_aload_n hx hb dPu_put_10 rfl (lv_at hl 0 rfl) ?_
  refine lv_dup hx hb dPu_put_11 rfl ?_
  refine cg3_count hx hb hts i0 hown hK hP w1 dPu_put_12 ?_
  refine lv_iconst (v := 1) hx hb dPu_put_15 (by decide) ?_
  refine lv_iadd hx hb dPu_put_16 ?_
  refine cp3_count ((c_pcount z0) + 1) hq hS hx hb hts i0 hown hK hP w1 dPu_put_17 (fun H locs hP hS => ?_)
  exact W.vret hx hb hr (fun t ht _ => ⟨rfl, by rw [hR, ht]; exact hP, hS.F ht⟩) hS.2.2 dPu_put_20
end
section
theorem dAc_upperDigits_0 : decode ccAc_upperDigits 0 = .ok (.aload_n 0, 1) := by decide +kernel
theorem dAc_upperDigits_1 : decode ccAc_upperDigits 1 = .ok (.getfield 7, 3) := by decide +kernel
theorem dAc_upperDigits_4 : decode ccAc_upperDigits 4 = .ok (.lreturn, 1) := by decide +kernel
def fAc_upperDigits (z0 : SC)  : Int64 :=
  c_upper z0
set_option maxHeartbeats 4000000 in
set_option maxRecDepth 100000 in
theorem kAc_upperDigits (l : Launch) (D : va_G) (q : Nat → Nat) (cI cJ cZ : ClassId) (hq : c_inj q) (z0 : SC)   : Met l yAc_upperDigits wsAc_upperDigits { frames := 0, cells := 0, slots := 0, locals := 0 } (va_Pc [.ref (q 5)] (c_C D q cI cJ cZ z0)) (cQr (some (.long (fAc_upperDigits z0)))) 0 0 (fun _ => False) := by
  refine Met.ofW (cc := ccAc_upperDigits) (maxL := 1) (ret := (some .long)) (by decide +kernel) rfl ?_
  intro p e s m args below meth c s₁ B hml hv
  obtain ⟨rfl, hP, hK⟩ := hv
  have hx := B.exec
  have hb := B.bytes
  have hr := B.returns
  have hts := atoms_spec (ws := wsAc_upperDigits) B.pre
  have hown : s.vm.findClass RAc = some m.cls := findClass_of_methodNamed B.named
  have hlocks := B.notSynchronized
  have w0 := hts (.fieldLink RAc 7 "DrumMachine$Accumulator" "upper" "J") (List.mem_cons_of_mem _ wm1_97)
  have i0 : ∀ w ∈ u_ws RAc TAc 4, w ∈ wsAc_upperDigits := fun w h => List.mem_cons_of_mem _ (inAAc w h)
  have hl := lv_entry ([.ref (q 5)]) (n := 1) (Nat.le_of_ble_eq_true rfl)
  rw [lg_entry_eq]
  generalize (lg_sl ([.ref (q 5)]) ++ List.replicate (1 - (lg_sl ([.ref (q 5)])).length) Slot.unset).toArray = ls at hl ⊢
  have hl : lv_has ls 1 [(0, .ref (q 5))] := hl
  have hR := fAc_upperDigits.eq_1 z0
  refine lv_aload_n hx hb dAc_upperDigits_0 rfl (lv_at hl 0 rfl) ?_
  refine cg5_upper hx hb hts i0 hown hK hP w0 dAc_upperDigits_1 ?_
  exact W.lret hx hb hr (fun t ht _ => ⟨by rw [hR]; first | done | rfl, ht⟩) (fun _ h => absurd h List.not_mem_nil) dAc_upperDigits_4
theorem dAc_lowerDigits_0 : decode ccAc_lowerDigits 0 = .ok (.aload_n 0, 1) := by decide +kernel
theorem dAc_lowerDigits_1 : decode ccAc_lowerDigits 1 = .ok (.getfield 13, 3) := by decide +kernel
theorem dAc_lowerDigits_4 : decode ccAc_lowerDigits 4 = .ok (.lreturn, 1) := by decide +kernel
def fAc_lowerDigits (z0 : SC)  : Int64 :=
  c_lower z0
set_option maxHeartbeats 4000000 in
set_option maxRecDepth 100000 in
theorem kAc_lowerDigits (l : Launch) (D : va_G) (q : Nat → Nat) (cI cJ cZ : ClassId) (hq : c_inj q) (z0 : SC)   : Met l yAc_lowerDigits wsAc_lowerDigits { frames := 0, cells := 0, slots := 0, locals := 0 } (va_Pc [.ref (q 5)] (c_C D q cI cJ cZ z0)) (cQr (some (.long (fAc_lowerDigits z0)))) 0 0 (fun _ => False) := by
  refine Met.ofW (cc := ccAc_lowerDigits) (maxL := 1) (ret := (some .long)) (by decide +kernel) rfl ?_
  intro p e s m args below meth c s₁ B hml hv
  obtain ⟨rfl, hP, hK⟩ := hv
  have hx := B.exec
  have hb := B.bytes
  have hr := B.returns
  have hts := atoms_spec (ws := wsAc_lowerDigits) B.pre
  have hown : s.vm.findClass RAc = some m.cls := findClass_of_methodNamed B.named
  have hlocks := B.notSynchronized
  have w0 := hts (.fieldLink RAc 13 "DrumMachine$Accumulator" "lower" "J") (List.mem_cons_of_mem _ wm1_98)
  have i0 : ∀ w ∈ u_ws RAc TAc 4, w ∈ wsAc_lowerDigits := fun w h => List.mem_cons_of_mem _ (inAAc w h)
  have hl := lv_entry ([.ref (q 5)]) (n := 1) (Nat.le_of_ble_eq_true rfl)
  rw [lg_entry_eq]
  generalize (lg_sl ([.ref (q 5)]) ++ List.replicate (1 - (lg_sl ([.ref (q 5)])).length) Slot.unset).toArray = ls at hl ⊢
  have hl : lv_has ls 1 [(0, .ref (q 5))] := hl
  have hR := fAc_lowerDigits.eq_1 z0
  refine lv_aload_n hx hb dAc_lowerDigits_0 rfl (lv_at hl 0 rfl) ?_
  refine cg5_lower hx hb hts i0 hown hK hP w0 dAc_lowerDigits_1 ?_
  exact W.lret hx hb hr (fun t ht _ => ⟨by rw [hR]; first | done | rfl, ht⟩) (fun _ h => absurd h List.not_mem_nil) dAc_lowerDigits_4
theorem dAc_isMinus_0 : decode ccAc_isMinus 0 = .ok (.aload_n 0, 1) := by decide +kernel
theorem dAc_isMinus_1 : decode ccAc_isMinus 1 = .ok (.getfield 16, 3) := by decide +kernel
theorem dAc_isMinus_4 : decode ccAc_isMinus 4 = .ok (.ireturn, 1) := by decide +kernel
def fAc_isMinus (z0 : SC)  : Bool :=
  c_amin z0
set_option maxHeartbeats 4000000 in
set_option maxRecDepth 100000 in
theorem kAc_isMinus (l : Launch) (D : va_G) (q : Nat → Nat) (cI cJ cZ : ClassId) (hq : c_inj q) (z0 : SC)   : Met l yAc_isMinus wsAc_isMinus { frames := 0, cells := 0, slots := 0, locals := 0 } (va_Pc [.ref (q 5)] (c_C D q cI cJ cZ z0)) (cQr (some (.int (bb (fAc_isMinus z0))))) 0 0 (fun _ => False) := by
  refine Met.ofW (cc := ccAc_isMinus) (maxL := 1) (ret := (some .boolean)) (by decide +kernel) rfl ?_
  intro p e s m args below meth c s₁ B hml hv
  obtain ⟨rfl, hP, hK⟩ := hv
  have hx := B.exec
  have hb := B.bytes
  have hr := B.returns
  have hts := atoms_spec (ws := wsAc_isMinus) B.pre
  have hown : s.vm.findClass RAc = some m.cls := findClass_of_methodNamed B.named
  have hlocks := B.notSynchronized
  have w0 := hts (.fieldLink RAc 16 "DrumMachine$Accumulator" "minus" "Z") (List.mem_cons_of_mem _ wm1_99)
  have i0 : ∀ w ∈ u_ws RAc TAc 4, w ∈ wsAc_isMinus := fun w h => List.mem_cons_of_mem _ (inAAc w h)
  have hl := lv_entry ([.ref (q 5)]) (n := 1) (Nat.le_of_ble_eq_true rfl)
  rw [lg_entry_eq]
  generalize (lg_sl ([.ref (q 5)]) ++ List.replicate (1 - (lg_sl ([.ref (q 5)])).length) Slot.unset).toArray = ls at hl ⊢
  have hl : lv_has ls 1 [(0, .ref (q 5))] := hl
  have hR := fAc_isMinus.eq_1 z0
  refine lv_aload_n hx hb dAc_isMinus_0 rfl (lv_at hl 0 rfl) ?_
  refine cg5_minus hx hb hts i0 hown hK hP w0 dAc_isMinus_1 ?_
  exact W.zret hx hb hr (nz_b _) (fun t ht _ => ⟨by rw [hR]; first | done | rfl, ht⟩) (fun _ h => absurd h List.not_mem_nil) dAc_isMinus_4
theorem dAc_isZero_0 : decode ccAc_isZero 0 = .ok (.aload_n 0, 1) := by decide +kernel
theorem dAc_isZero_1 : decode ccAc_isZero 1 = .ok (.getfield 7, 3) := by decide +kernel
theorem dAc_isZero_4 : decode ccAc_isZero 4 = .ok (.lconst 0, 1) := by decide +kernel
theorem dAc_isZero_5 : decode ccAc_isZero 5 = .ok (.lcmp, 1) := by decide +kernel
theorem dAc_isZero_6 : decode ccAc_isZero 6 = .ok (.ifCond .ne 16, 3) := by decide +kernel
theorem dAc_isZero_9 : decode ccAc_isZero 9 = .ok (.aload_n 0, 1) := by decide +kernel
theorem dAc_isZero_10 : decode ccAc_isZero 10 = .ok (.getfield 13, 3) := by decide +kernel
theorem dAc_isZero_13 : decode ccAc_isZero 13 = .ok (.lconst 0, 1) := by decide +kernel
theorem dAc_isZero_14 : decode ccAc_isZero 14 = .ok (.lcmp, 1) := by decide +kernel
theorem dAc_isZero_15 : decode ccAc_isZero 15 = .ok (.ifCond .ne 7, 3) := by decide +kernel
theorem dAc_isZero_18 : decode ccAc_isZero 18 = .ok (.iconst 1, 1) := by decide +kernel
theorem dAc_isZero_19 : decode ccAc_isZero 19 = .ok (.goto 4, 3) := by decide +kernel
theorem dAc_isZero_22 : decode ccAc_isZero 22 = .ok (.iconst 0, 1) := by decide +kernel
theorem dAc_isZero_23 : decode ccAc_isZero 23 = .ok (.ireturn, 1) := by decide +kernel
def fAc_isZero (z0 : SC)  : Bool :=
  (if (c_upper z0) = 0 then (if (c_lower z0) = 0 then true else false) else false)
set_option maxHeartbeats 4000000 in
set_option maxRecDepth 100000 in
theorem kAc_isZero (l : Launch) (D : va_G) (q : Nat → Nat) (cI cJ cZ : ClassId) (hq : c_inj q) (z0 : SC)   : Met l yAc_isZero wsAc_isZero { frames := 0, cells := 0, slots := 0, locals := 0 } (va_Pc [.ref (q 5)] (c_C D q cI cJ cZ z0)) (cQr (some (.int (bb (fAc_isZero z0))))) 0 0 (fun _ => False) := by
  refine Met.ofW (cc := ccAc_isZero) (maxL := 1) (ret := (some .boolean)) (by decide +kernel) rfl ?_
  intro p e s m args below meth c s₁ B hml hv
  obtain ⟨rfl, hP, hK⟩ := hv
  have hx := B.exec
  have hb := B.bytes
  have hr := B.returns
  have hts := atoms_spec (ws := wsAc_isZero) B.pre
  have hown : s.vm.findClass RAc = some m.cls := findClass_of_methodNamed B.named
  have hlocks := B.notSynchronized
  have w0 := hts (.fieldLink RAc 7 "DrumMachine$Accumulator" "upper" "J") (List.mem_cons_of_mem _ wm1_97)
  have w1 := hts (.fieldLink RAc 13 "DrumMachine$Accumulator" "lower" "J") (List.mem_cons_of_mem _ wm1_98)
  have i0 : ∀ w ∈ u_ws RAc TAc 4, w ∈ wsAc_isZero := fun w h => List.mem_cons_of_mem _ (inAAc w h)
  have hl := lv_entry ([.ref (q 5)]) (n := 1) (Nat.le_of_ble_eq_true rfl)
  rw [lg_entry_eq]
  generalize (lg_sl ([.ref (q 5)]) ++ List.replicate (1 - (lg_sl ([.ref (q 5)])).length) Slot.unset).toArray = ls at hl ⊢
  have hl : lv_has ls 1 [(0, .ref (q 5))] := hl
  have hR := fAc_isZero.eq_1 z0
  refine lv_aload_n hx hb dAc_isZero_0 rfl (lv_at hl 0 rfl) ?_
  refine cg5_upper hx hb hts i0 hown hK hP w0 dAc_isZero_1 ?_
  refine lv_lconst (v := 0) hx hb dAc_isZero_4 (by decide) ?_
  refine lc_ne hx hb dAc_isZero_5 dAc_isZero_6 rfl (fun h5 => ?_) (fun h5 => ?_)
  · have hR := hR.trans (if_neg h5)
    refine lv_iconst (v := 0) hx hb dAc_isZero_22 (by decide) ?_
    exact W.zret hx hb hr rfl (fun t ht _ => ⟨by rw [hR]; first | done | rfl, ht⟩) (fun _ h => absurd h List.not_mem_nil) dAc_isZero_23
  · have hR := hR.trans (if_pos h5)
    refine lv_aload_n hx hb dAc_isZero_9 rfl (lv_at hl 0 rfl) ?_
    refine cg5_lower hx hb hts i0 hown hK hP w1 dAc_isZero_10 ?_
    refine lv_lconst (v := 0) hx hb dAc_isZero_13 (by decide) ?_
    refine lc_ne hx hb dAc_isZero_14 dAc_isZero_15 rfl (fun h14 => ?_) (fun h14 => ?_)
    · have hR := hR.trans (if_neg h14)
      refine lv_iconst (v := 0) hx hb dAc_isZero_22 (by decide) ?_
      exact W.zret hx hb hr rfl (fun t ht _ => ⟨by rw [hR]; first | done | rfl, ht⟩) (fun _ h => absurd h List.not_mem_nil) dAc_isZero_23
    · have hR := hR.trans (if_pos h14)
      refine lv_iconst (v := 1) hx hb dAc_isZero_18 (by decide) ?_
      refine lv_goto hx hb dAc_isZero_19 rfl ?_
      exact W.zret hx hb hr rfl (fun t ht _ => ⟨by rw [hR]; first | done | rfl, ht⟩) (fun _ h => absurd h List.not_mem_nil) dAc_isZero_23
theorem dAc_hasOverflow_0 : decode ccAc_hasOverflow 0 = .ok (.aload_n 0, 1) := by decide +kernel
theorem dAc_hasOverflow_1 : decode ccAc_hasOverflow 1 = .ok (.getfield 20, 3) := by decide +kernel
theorem dAc_hasOverflow_4 : decode ccAc_hasOverflow 4 = .ok (.ireturn, 1) := by decide +kernel
def fAc_hasOverflow (z0 : SC)  : Bool :=
  c_ovf z0
set_option maxHeartbeats 4000000 in
set_option maxRecDepth 100000 in
theorem kAc_hasOverflow (l : Launch) (D : va_G) (q : Nat → Nat) (cI cJ cZ : ClassId) (hq : c_inj q) (z0 : SC)   : Met l yAc_hasOverflow wsAc_hasOverflow { frames := 0, cells := 0, slots := 0, locals := 0 } (va_Pc [.ref (q 5)] (c_C D q cI cJ cZ z0)) (cQr (some (.int (bb (fAc_hasOverflow z0))))) 0 0 (fun _ => False) := by
  refine Met.ofW (cc := ccAc_hasOverflow) (maxL := 1) (ret := (some .boolean)) (by decide +kernel) rfl ?_
  intro p e s m args below meth c s₁ B hml hv
  obtain ⟨rfl, hP, hK⟩ := hv
  have hx := B.exec
  have hb := B.bytes
  have hr := B.returns
  have hts := atoms_spec (ws := wsAc_hasOverflow) B.pre
  have hown : s.vm.findClass RAc = some m.cls := findClass_of_methodNamed B.named
  have hlocks := B.notSynchronized
  have w0 := hts (.fieldLink RAc 20 "DrumMachine$Accumulator" "overflow" "Z") (List.mem_cons_of_mem _ wm1_100)
  have i0 : ∀ w ∈ u_ws RAc TAc 4, w ∈ wsAc_hasOverflow := fun w h => List.mem_cons_of_mem _ (inAAc w h)
  have hl := lv_entry ([.ref (q 5)]) (n := 1) (Nat.le_of_ble_eq_true rfl)
  rw [lg_entry_eq]
  generalize (lg_sl ([.ref (q 5)]) ++ List.replicate (1 - (lg_sl ([.ref (q 5)])).length) Slot.unset).toArray = ls at hl ⊢
  have hl : lv_has ls 1 [(0, .ref (q 5))] := hl
  have hR := fAc_hasOverflow.eq_1 z0
  refine lv_aload_n hx hb dAc_hasOverflow_0 rfl (lv_at hl 0 rfl) ?_
  refine cg5_overflow hx hb hts i0 hown hK hP w0 dAc_hasOverflow_1 ?_
  exact W.zret hx hb hr (nz_b _) (fun t ht _ => ⟨by rw [hR]; first | done | rfl, ht⟩) (fun _ h => absurd h List.not_mem_nil) dAc_hasOverflow_4
theorem dAc_takeOverflow_0 : decode ccAc_takeOverflow 0 = .ok (.aload_n 0, 1) := by decide +kernel
theorem dAc_takeOverflow_1 : decode ccAc_takeOverflow 1 = .ok (.getfield 20, 3) := by decide +kernel
theorem dAc_takeOverflow_4 : decode ccAc_takeOverflow 4 = .ok (.istore_n 1, 1) := by decide +kernel
theorem dAc_takeOverflow_5 : decode ccAc_takeOverflow 5 = .ok (.aload_n 0, 1) := by decide +kernel
theorem dAc_takeOverflow_6 : decode ccAc_takeOverflow 6 = .ok (.iconst 0, 1) := by decide +kernel
theorem dAc_takeOverflow_7 : decode ccAc_takeOverflow 7 = .ok (.putfield 20, 3) := by decide +kernel
theorem dAc_takeOverflow_10 : decode ccAc_takeOverflow 10 = .ok (.iload_n 1, 1) := by decide +kernel
theorem dAc_takeOverflow_11 : decode ccAc_takeOverflow 11 = .ok (.ireturn, 1) := by decide +kernel
def fAc_takeOverflow (z0 : SC)  : Bool × SC :=
  (c_ovf z0, c_ovf_s z0 false)
set_option maxHeartbeats 4000000 in
set_option maxRecDepth 100000 in
theorem kAc_takeOverflow (l : Launch) (D : va_G) (q : Nat → Nat) (cI cJ cZ : ClassId) (hq : c_inj q) (z0 : SC)   : Met l yAc_takeOverflow wsAc_takeOverflow { frames := 0, cells := 0, slots := 0, locals := 0 } (va_Pc [.ref (q 5)] (c_C D q cI cJ cZ z0)) (cQw (some (.int (bb ((fAc_takeOverflow z0).1)))) (c_W D q cI cJ cZ (fAc_takeOverflow z0).2) (c_qs q)) 0 0 (c_qs q) := by
  refine Met.ofW (cc := ccAc_takeOverflow) (maxL := 2) (ret := (some .boolean)) (by decide +kernel) rfl ?_
  intro p e s m args below meth c s₁ B hml hv
  obtain ⟨rfl, hP, hK⟩ := hv
  have hx := B.exec
  have hb := B.bytes
  have hr := B.returns
  have hts := atoms_spec (ws := wsAc_takeOverflow) B.pre
  have hown : s.vm.findClass RAc = some m.cls := findClass_of_methodNamed B.named
  have hlocks := B.notSynchronized
  have w0 := hts (.fieldLink RAc 20 "DrumMachine$Accumulator" "overflow" "Z") (List.mem_cons_of_mem _ wm1_100)
  have i0 : ∀ w ∈ u_ws RAc TAc 4, w ∈ wsAc_takeOverflow := fun w h => List.mem_cons_of_mem _ (inAAc w h)
  have hS : va_S (c_qs q) s.heap s.heap [] := va_S.rf
  have hl := lv_entry ([.ref (q 5)]) (n := 2) (Nat.le_of_ble_eq_true rfl)
  rw [lg_entry_eq]
  generalize (lg_sl ([.ref (q 5)]) ++ List.replicate (2 - (lg_sl ([.ref (q 5)])).length) Slot.unset).toArray = ls at hl ⊢
  have hl : lv_has ls 2 [(0, .ref (q 5))] := hl
  have hR := fAc_takeOverflow.eq_1 z0
  refine lv_aload_n hx hb dAc_takeOverflow_0 rfl (lv_at hl 0 rfl) ?_
  refine cg5_overflow hx hb hts i0 hown hK hP w0 dAc_takeOverflow_1 ?_
  refine lv_istore_n (lv' := [(1, .int (bb (c_ovf z0))), (0, .ref (q 5))]) hx hb dAc_takeOverflow_4 rfl hl (by decide) rfl (fun ls hl => ?_)
  refine lv_aload_n hx hb dAc_takeOverflow_5 rfl (lv_at hl 1 rfl) ?_
  refine lv_iconst (v := 0) hx hb dAc_takeOverflow_6 (by decide) ?_
  refine cp5_overflow false hq hS hx hb hts i0 hown hK hP w0 dAc_takeOverflow_7 (fun H locs hP hS => ?_)
  refine lv_iload_n hx hb dAc_takeOverflow_10 rfl (lv_at hl 0 rfl) ?_
  exact W.zret hx hb hr (nz_b _) (fun t ht _ => ⟨by rw [hR]; first | done | rfl, by rw [hR, ht]; exact hP, hS.F ht⟩) hS.2.2 dAc_takeOverflow_11
theorem dAc_reset_0 : decode ccAc_reset 0 = .ok (.aload_n 0, 1) := by decide +kernel
theorem dAc_reset_1 : decode ccAc_reset 1 = .ok (.lconst 0, 1) := by decide +kernel
theorem dAc_reset_2 : decode ccAc_reset 2 = .ok (.putfield 7, 3) := by decide +kernel
theorem dAc_reset_5 : decode ccAc_reset 5 = .ok (.aload_n 0, 1) := by decide +kernel
theorem dAc_reset_6 : decode ccAc_reset 6 = .ok (.lconst 0, 1) := by decide +kernel
theorem dAc_reset_7 : decode ccAc_reset 7 = .ok (.putfield 13, 3) := by decide +kernel
theorem dAc_reset_10 : decode ccAc_reset 10 = .ok (.aload_n 0, 1) := by decide +kernel
theorem dAc_reset_11 : decode ccAc_reset 11 = .ok (.iconst 0, 1) := by decide +kernel
theorem dAc_reset_12 : decode ccAc_reset 12 = .ok (.putfield 16, 3) := by decide +kernel
theorem dAc_reset_15 : decode ccAc_reset 15 = .ok (.return_, 1) := by decide +kernel
def fAc_reset (z0 : SC)  : SC :=
  c_amin_s (c_lower_s (c_upper_s z0 0) 0) false
set_option maxHeartbeats 4000000 in
set_option maxRecDepth 100000 in
theorem kAc_reset (l : Launch) (D : va_G) (q : Nat → Nat) (cI cJ cZ : ClassId) (hq : c_inj q) (z0 : SC)   : Met l yAc_reset wsAc_reset { frames := 0, cells := 0, slots := 0, locals := 0 } (va_Pc [.ref (q 5)] (c_C D q cI cJ cZ z0)) (cQw none (c_W D q cI cJ cZ (fAc_reset z0)) (c_qs q)) 0 0 (c_qs q) := by
  refine Met.ofW (cc := ccAc_reset) (maxL := 1) (ret := none) (by decide +kernel) rfl ?_
  intro p e s m args below meth c s₁ B hml hv
  obtain ⟨rfl, hP, hK⟩ := hv
  have hx := B.exec
  have hb := B.bytes
  have hr := B.returns
  have hts := atoms_spec (ws := wsAc_reset) B.pre
  have hown : s.vm.findClass RAc = some m.cls := findClass_of_methodNamed B.named
  have hlocks := B.notSynchronized
  have w0 := hts (.fieldLink RAc 7 "DrumMachine$Accumulator" "upper" "J") (List.mem_cons_of_mem _ wm1_97)
  have w1 := hts (.fieldLink RAc 13 "DrumMachine$Accumulator" "lower" "J") (List.mem_cons_of_mem _ wm1_98)
  have w2 := hts (.fieldLink RAc 16 "DrumMachine$Accumulator" "minus" "Z") (List.mem_cons_of_mem _ wm1_99)
  have i0 : ∀ w ∈ u_ws RAc TAc 4, w ∈ wsAc_reset := fun w h => List.mem_cons_of_mem _ (inAAc w h)
  have hS : va_S (c_qs q) s.heap s.heap [] := va_S.rf
  have hl := lv_entry ([.ref (q 5)]) (n := 1) (Nat.le_of_ble_eq_true rfl)
  rw [lg_entry_eq]
  generalize (lg_sl ([.ref (q 5)]) ++ List.replicate (1 - (lg_sl ([.ref (q 5)])).length) Slot.unset).toArray = ls at hl ⊢
  have hl : lv_has ls 1 [(0, .ref (q 5))] := hl
  have hR := fAc_reset.eq_1 z0
  refine lv_aload_n hx hb dAc_reset_0 rfl (lv_at hl 0 rfl) ?_
  refine lv_lconst (v := 0) hx hb dAc_reset_1 (by decide) ?_
  refine cp5_upper 0 hq hS hx hb hts i0 hown hK hP w0 dAc_reset_2 (fun H locs hP hS => ?_)
  refine lv_aload_n hx hb dAc_reset_5 rfl (lv_at hl 0 rfl) ?_
  refine lv_lconst (v := 0) hx hb dAc_reset_6 (by decide) ?_
  refine cp5_lower 0 hq hS hx hb hts i0 hown hK hP w1 dAc_reset_7 (fun H locs hP hS => ?_)
  refine lv_aload_n hx hb dAc_reset_10 rfl (lv_at hl 0 rfl) ?_
  refine lv_iconst (v := 0) hx hb dAc_reset_11 (by decide) ?_
  refine cp5_minus false hq hS hx hb hts i0 hown hK hP w2 dAc_reset_12 (fun H locs hP hS => ?_)
  exact W.vret hx hb hr (fun t ht _ => ⟨rfl, by rw [hR, ht]; exact hP, hS.F ht⟩) hS.2.2 dAc_reset_15
theorem dAc_putDataAddress_0 : decode ccAc_putDataAddress 0 = .ok (.aload_n 0, 1) := by decide +kernel
theorem dAc_putDataAddress_1 : decode ccAc_putDataAddress 1 = .ok (.aload_n 0, 1) := by decide +kernel
theorem dAc_putDataAddress_2 : decode ccAc_putDataAddress 2 = .ok (.getfield 13, 3) := by decide +kernel
theorem dAc_putDataAddress_5 : decode ccAc_putDataAddress 5 = .ok (.iload_n 1, 1) := by decide +kernel
theorem dAc_putDataAddress_6 : decode ccAc_putDataAddress 6 = .ok (.invokestatic 23, 3) := by decide +kernel
theorem dAc_putDataAddress_9 : decode ccAc_putDataAddress 9 = .ok (.putfield 13, 3) := by decide +kernel
theorem dAc_putDataAddress_12 : decode ccAc_putDataAddress 12 = .ok (.return_, 1) := by decide +kernel
def fAc_putDataAddress (z0 : SC) (a : Int32) : SC :=
  c_lower_s z0 (fDg_withDataAddress (c_lower z0) a)
set_option maxHeartbeats 4000000 in
set_option maxRecDepth 100000 in
theorem kAc_putDataAddress (l : Launch) (D : va_G) (q : Nat → Nat) (cI cJ cZ : ClassId) (hq : c_inj q) (z0 : SC) (a : Int32)  : Met l yAc_putDataAddress wsAc_putDataAddress { frames := 1, cells := 0, slots := 0, locals := 24 } (va_Pc [.ref (q 5), .int (a)] (c_C D q cI cJ cZ z0)) (cQw none (c_W D q cI cJ cZ (fAc_putDataAddress z0 a)) (c_qs q)) 0 0 (c_qs q) := by
  refine Met.ofW (cc := ccAc_putDataAddress) (maxL := 2) (ret := none) (by decide +kernel) rfl ?_
  intro p e s m args below meth c s₁ B hml hv
  obtain ⟨rfl, hP, hK⟩ := hv
  have hx := B.exec
  have hb := B.bytes
  have hr := B.returns
  have hts := atoms_spec (ws := wsAc_putDataAddress) B.pre
  have hown : s.vm.findClass RAc = some m.cls := findClass_of_methodNamed B.named
  have hlocks := B.notSynchronized
  have w0 := hts (.fieldLink RAc 13 "DrumMachine$Accumulator" "lower" "J") (List.mem_cons_of_mem _ wm1_98)
  have i0 : ∀ w ∈ u_ws RAc TAc 4, w ∈ wsAc_putDataAddress := fun w h => List.mem_cons_of_mem _ (inAAc w h)
  have hS : va_S (c_qs q) s.heap s.heap [] := va_S.rf
  have hl := lv_entry ([.ref (q 5), .int (a)]) (n := 2) (Nat.le_of_ble_eq_true rfl)
  rw [lg_entry_eq]
  generalize (lg_sl ([.ref (q 5), .int (a)]) ++ List.replicate (2 - (lg_sl ([.ref (q 5), .int (a)])).length) Slot.unset).toArray = ls at hl ⊢
  have hl : lv_has ls 2 [(0, .ref (q 5)), (1, .int (a))] := hl
  have hR := fAc_putDataAddress.eq_1 z0 a
  refine lv_aload_n hx hb dAc_putDataAddress_0 rfl (lv_at hl 0 rfl) ?_
  refine lv_aload_n hx hb dAc_putDataAddress_1 rfl (lv_at hl 0 rfl) ?_
  refine cg5_lower hx hb hts i0 hown hK hP w0 dAc_putDataAddress_2 ?_
  refine lv_iload_n hx hb dAc_putDataAddress_5 rfl (lv_at hl 1 rfl) ?_
  refine cl_rd (W.runS (As := [.long ((c_lower z0)), .int (a)]) (rest := [.ref (q 5)]) ⟨hx, hb, hml, hown, hts⟩ (kDg_withDataAddress l (c_lower z0) a) (va_cwS 2 hts (gS wm4_18 wm4_4 wm1_14 wm4_5) rfl rfl rfl (by decide +kernel) ⟨Nat.le_of_ble_eq_true rfl, Nat.le_of_ble_eq_true rfl⟩) (preT) rfl rfl hl.1 rfl (lv_room (Nat.le_of_ble_eq_true rfl)) dAc_putDataAddress_6 ⟨Nat.le_refl _, Nat.le_refl _⟩) ?_
  refine cp5_lower (fDg_withDataAddress (c_lower z0) a) hq hS hx hb hts i0 hown hK hP w0 dAc_putDataAddress_9 (fun H locs hP hS => ?_)
  exact W.vret hx hb hr (fun t ht _ => ⟨rfl, by rw [hR, ht]; exact hP, hS.F ht⟩) hS.2.2 dAc_putDataAddress_12
theorem dAc_add_0 : decode ccAc_add 0 = .ok (.aload_n 0, 1) := by decide +kernel
theorem dAc_add_1 : decode ccAc_add 1 = .ok (.getfield 16, 3) := by decide +kernel
theorem dAc_add_4 : decode ccAc_add 4 = .ok (.iload 5, 2) := by decide +kernel
theorem dAc_add_6 : decode ccAc_add 6 = .ok (.if_icmp .ne 7, 3) := by decide +kernel
theorem dAc_add_9 : decode ccAc_add 9 = .ok (.iconst 1, 1) := by decide +kernel
theorem dAc_add_10 : decode ccAc_add 10 = .ok (.goto 4, 3) := by decide +kernel
theorem dAc_add_13 : decode ccAc_add 13 = .ok (.iconst (-1), 1) := by decide +kernel
theorem dAc_add_14 : decode ccAc_add 14 = .ok (.istore 6, 2) := by decide +kernel
theorem dAc_add_16 : decode ccAc_add 16 = .ok (.aload_n 0, 1) := by decide +kernel
theorem dAc_add_17 : decode ccAc_add 17 = .ok (.getfield 7, 3) := by decide +kernel
theorem dAc_add_20 : decode ccAc_add 20 = .ok (.iload 6, 2) := by decide +kernel
theorem dAc_add_22 : decode ccAc_add 22 = .ok (.i2l, 1) := by decide +kernel
theorem dAc_add_23 : decode ccAc_add 23 = .ok (.lload_n 1, 1) := by decide +kernel
theorem dAc_add_24 : decode ccAc_add 24 = .ok (.lmul, 1) := by decide +kernel
theorem dAc_add_25 : decode ccAc_add 25 = .ok (.ladd, 1) := by decide +kernel
theorem dAc_add_26 : decode ccAc_add 26 = .ok (.lstore 7, 2) := by decide +kernel
theorem dAc_add_28 : decode ccAc_add 28 = .ok (.aload_n 0, 1) := by decide +kernel
theorem dAc_add_29 : decode ccAc_add 29 = .ok (.getfield 13, 3) := by decide +kernel
theorem dAc_add_32 : decode ccAc_add 32 = .ok (.iload 6, 2) := by decide +kernel
theorem dAc_add_34 : decode ccAc_add 34 = .ok (.i2l, 1) := by decide +kernel
theorem dAc_add_35 : decode ccAc_add 35 = .ok (.lload_n 3, 1) := by decide +kernel
theorem dAc_add_36 : decode ccAc_add 36 = .ok (.lmul, 1) := by decide +kernel
theorem dAc_add_37 : decode ccAc_add 37 = .ok (.ladd, 1) := by decide +kernel
theorem dAc_add_38 : decode ccAc_add 38 = .ok (.lstore 9, 2) := by decide +kernel
theorem dAc_add_40 : decode ccAc_add 40 = .ok (.lload 7, 2) := by decide +kernel
theorem dAc_add_42 : decode ccAc_add 42 = .ok (.lconst 0, 1) := by decide +kernel
theorem dAc_add_43 : decode ccAc_add 43 = .ok (.lcmp, 1) := by decide +kernel
theorem dAc_add_44 : decode ccAc_add 44 = .ok (.ifCond .lt 17, 3) := by decide +kernel
theorem dAc_add_47 : decode ccAc_add 47 = .ok (.lload 7, 2) := by decide +kernel
theorem dAc_add_49 : decode ccAc_add 49 = .ok (.lconst 0, 1) := by decide +kernel
theorem dAc_add_50 : decode ccAc_add 50 = .ok (.lcmp, 1) := by decide +kernel
theorem dAc_add_51 : decode ccAc_add 51 = .ok (.ifCond .ne 26, 3) := by decide +kernel
theorem dAc_add_54 : decode ccAc_add 54 = .ok (.lload 9, 2) := by decide +kernel
theorem dAc_add_56 : decode ccAc_add 56 = .ok (.lconst 0, 1) := by decide +kernel
theorem dAc_add_57 : decode ccAc_add 57 = .ok (.lcmp, 1) := by decide +kernel
theorem dAc_add_58 : decode ccAc_add 58 = .ok (.ifCond .ge 19, 3) := by decide +kernel
theorem dAc_add_61 : decode ccAc_add 61 = .ok (.lload 7, 2) := by decide +kernel
theorem dAc_add_63 : decode ccAc_add 63 = .ok (.lneg, 1) := by decide +kernel
theorem dAc_add_64 : decode ccAc_add 64 = .ok (.lstore 7, 2) := by decide +kernel
theorem dAc_add_66 : decode ccAc_add 66 = .ok (.lload 9, 2) := by decide +kernel
theorem dAc_add_68 : decode ccAc_add 68 = .ok (.lneg, 1) := by decide +kernel
theorem dAc_add_69 : decode ccAc_add 69 = .ok (.lstore 9, 2) := by decide +kernel
theorem dAc_add_71 : decode ccAc_add 71 = .ok (.aload_n 0, 1) := by decide +kernel
theorem dAc_add_72 : decode ccAc_add 72 = .ok (.iload 5, 2) := by decide +kernel
theorem dAc_add_74 : decode ccAc_add 74 = .ok (.putfield 16, 3) := by decide +kernel
theorem dAc_add_77 : decode ccAc_add 77 = .ok (.lload 7, 2) := by decide +kernel
theorem dAc_add_79 : decode ccAc_add 79 = .ok (.lload 9, 2) := by decide +kernel
theorem dAc_add_81 : decode ccAc_add 81 = .ok (.ldc2_w 29, 3) := by decide +kernel
theorem dAc_add_84 : decode ccAc_add 84 = .ok (.invokestatic 31, 3) := by decide +kernel
theorem dAc_add_87 : decode ccAc_add 87 = .ok (.ladd, 1) := by decide +kernel
theorem dAc_add_88 : decode ccAc_add 88 = .ok (.lstore 7, 2) := by decide +kernel
theorem dAc_add_90 : decode ccAc_add 90 = .ok (.aload_n 0, 1) := by decide +kernel
theorem dAc_add_91 : decode ccAc_add 91 = .ok (.lload 9, 2) := by decide +kernel
theorem dAc_add_93 : decode ccAc_add 93 = .ok (.ldc2_w 29, 3) := by decide +kernel
theorem dAc_add_96 : decode ccAc_add 96 = .ok (.invokestatic 37, 3) := by decide +kernel
theorem dAc_add_99 : decode ccAc_add 99 = .ok (.putfield 13, 3) := by decide +kernel
theorem dAc_add_102 : decode ccAc_add 102 = .ok (.aload_n 0, 1) := by decide +kernel
theorem dAc_add_103 : decode ccAc_add 103 = .ok (.lload 7, 2) := by decide +kernel
theorem dAc_add_105 : decode ccAc_add 105 = .ok (.ldc2_w 29, 3) := by decide +kernel
theorem dAc_add_108 : decode ccAc_add 108 = .ok (.lrem, 1) := by decide +kernel
theorem dAc_add_109 : decode ccAc_add 109 = .ok (.putfield 7, 3) := by decide +kernel
theorem dAc_add_112 : decode ccAc_add 112 = .ok (.lload 7, 2) := by decide +kernel
theorem dAc_add_114 : decode ccAc_add 114 = .ok (.ldc2_w 29, 3) := by decide +kernel
theorem dAc_add_117 : decode ccAc_add 117 = .ok (.lcmp, 1) := by decide +kernel
theorem dAc_add_118 : decode ccAc_add 118 = .ok (.ifCond .lt 8, 3) := by decide +kernel
theorem dAc_add_121 : decode ccAc_add 121 = .ok (.aload_n 0, 1) := by decide +kernel
theorem dAc_add_122 : decode ccAc_add 122 = .ok (.iconst 1, 1) := by decide +kernel
theorem dAc_add_123 : decode ccAc_add 123 = .ok (.putfield 20, 3) := by decide +kernel
theorem dAc_add_126 : decode ccAc_add 126 = .ok (.return_, 1) := by decide +kernel
def fAc_add_77  (z : SC) (v7 : Int64) (v9 : Int64) : SC :=
  (if (v7 + (fMa_floorDiv v9 10000000000)) < 10000000000 then c_upper_s (c_lower_s z (fMa_floorMod v9 10000000000)) ((v7 + (fMa_floorDiv v9 10000000000)) % 10000000000) else c_ovf_s (c_upper_s (c_lower_s z (fMa_floorMod v9 10000000000)) ((v7 + (fMa_floorDiv v9 10000000000)) % 10000000000)) true)
def fAc_add_61  (z : SC) (b : Bool) (v7 : Int64) (v9 : Int64) : SC :=
  fAc_add_77 (c_amin_s z b) (-v7) (-v9)
def fAc_add_14  (z : SC) (s0 : Int32) (u : Int64) (w : Int64) (b : Bool) : SC :=
  (if ((c_upper z) + (s0.toInt64 * u)) < 0 then fAc_add_61 z b ((c_upper z) + (s0.toInt64 * u)) ((c_lower z) + (s0.toInt64 * w)) else (if ((c_upper z) + (s0.toInt64 * u)) = 0 then (if 0 ≤ ((c_lower z) + (s0.toInt64 * w)) then fAc_add_77 z ((c_upper z) + (s0.toInt64 * u)) ((c_lower z) + (s0.toInt64 * w)) else fAc_add_61 z b ((c_upper z) + (s0.toInt64 * u)) ((c_lower z) + (s0.toInt64 * w))) else fAc_add_77 z ((c_upper z) + (s0.toInt64 * u)) ((c_lower z) + (s0.toInt64 * w))))
def fAc_add (z0 : SC) (u : Int64) (w : Int64) (b : Bool) : SC :=
  (if (c_amin z0) = b then fAc_add_14 z0 1 u w b else fAc_add_14 z0 ((-1)) u w b)
set_option maxHeartbeats 4000000 in
set_option maxRecDepth 100000 in
theorem kAc_add (l : Launch) (D : va_G) (q : Nat → Nat) (cI cJ cZ : ClassId) (hq : c_inj q) (z0 : SC) (u : Int64) (w : Int64) (b : Bool)  : Met l yAc_add wsAc_add { frames := 1, cells := 0, slots := 0, locals := 25 } (va_Pc [.ref (q 5), .long (u), .long (w), .int (bb (b))] (c_C D q cI cJ cZ z0)) (cQw none (c_W D q cI cJ cZ (fAc_add z0 u w b)) (c_qs q)) 0 0 (c_qs q) := by
  refine Met.ofW (cc := ccAc_add) (maxL := 11) (ret := none) (by decide +kernel) rfl ?_
  intro p e s m args below meth c s₁ B hml hv
  obtain ⟨rfl, hP, hK⟩ := hv
  have hx := B.exec
  have hb := B.bytes
  have hr := B.returns
  have hts := atoms_spec (ws := wsAc_add) B.pre
  have hown : s.vm.findClass RAc = some m.cls := findClass_of_methodNamed B.named
  have hlocks := B.notSynchronized
  have w0 := hts (.constantLong RAc 29 (10000000000)) (List.mem_cons_of_mem _ wm3_191)
  have w1 := hts (.fieldLink RAc 13 "DrumMachine$Accumulator" "lower" "J") (List.mem_cons_of_mem _ wm1_98)
  have w2 := hts (.fieldLink RAc 7 "DrumMachine$Accumulator" "upper" "J") (List.mem_cons_of_mem _ wm1_97)
  have w3 := hts (.fieldLink RAc 20 "DrumMachine$Accumulator" "overflow" "Z") (List.mem_cons_of_mem _ wm1_100)
  have w4 := hts (.fieldLink RAc 16 "DrumMachine$Accumulator" "minus" "Z") (List.mem_cons_of_mem _ wm1_99)
  have i0 : ∀ w ∈ u_ws RAc TAc 4, w ∈ wsAc_add := fun w h => List.mem_cons_of_mem _ (inAAc w h)
  have hS : va_S (c_qs q) s.heap s.heap [] := va_S.rf
  have hl := lv_entry ([.ref (q 5), .long (u), .long (w), .int (bb (b))]) (n := 11) (Nat.le_of_ble_eq_true rfl)
  rw [lg_entry_eq]
  generalize (lg_sl ([.ref (q 5), .long (u), .long (w), .int (bb (b))]) ++ List.replicate (11 - (lg_sl ([.ref (q 5), .long (u), .long (w), .int (bb (b))])).length) Slot.unset).toArray = ls at hl ⊢
  have hl : lv_has ls 11 [(0, .ref (q 5)), (1, .long (u)), (3, .long (w)), (5, .int (bb (b)))] := hl
  have hB77 : ∀ (H : Heap) (locs : List Loc) (ls : Array Slot) (z : SC) (v7 : Int64) (v9 : Int64), fAc_add z0 u w b = fAc_add_77 z v7 v9 → c_W D q cI cJ cZ z H → va_S (c_qs q) s.heap H locs → lv_has ls 11 [(0, .ref (q 5)), (7, .long (v7)), (9, .long (v9))] → W p l e (headSpec wsAc_add { frames := 1, cells := 0, slots := 0, locals := 25 }).room s m ([.ref (q 5), .long (u), .long (w), .int (bb (b))] : List Value).toArray below meth c H locs 0 0 (MQ below (cQw none (c_W D q cI cJ cZ (fAc_add z0 u w b)) (c_qs q)) ([.ref (q 5), .long (u), .long (w), .int (bb (b))] : List Value).toArray s 0 0 (c_qs q)) (F0 m 77 ls []) := by
    intro H locs ls z v7 v9 hR hP hS hl
    rw [fAc_add_77.eq_1] at hR
    refine lv_lload hx hb dAc_add_77 (lv_at hl 1 rfl) ?_
    refine lv_lload hx hb dAc_add_79 (lv_at hl 2 rfl) ?_
    refine lv_ldc2 (v := 10000000000) hx hb hown w0 dAc_add_81 ?_
    refine cl_rd (W.runS (As := [.long (v9), .long (10000000000)]) (rest := [.long (v7)]) ⟨hx, hb, hml, hown, hts⟩ (kMa_floorDiv l v9 10000000000 (by decide)) (va_cwS 2 hts (gS wm3_192 wm3_193 wm1_19 wm3_194) rfl rfl rfl (by decide +kernel) ⟨Nat.le_of_ble_eq_true rfl, Nat.le_of_ble_eq_true rfl⟩) (preT) rfl rfl hl.1 rfl (lv_room (Nat.le_of_ble_eq_true rfl)) dAc_add_84 ⟨Nat.le_refl _, Nat.le_refl _⟩) ?_
    refine lv_ladd hx hb dAc_add_87 ?_
    refine lv_lstore (lv' := [(7, .long (v7 + (fMa_floorDiv v9 10000000000))), (0, .ref (q 5)), (9, .long (v9))]) hx hb dAc_add_88 hl (by decide) rfl (fun ls hl => ?_)
    refine lv_aload_n hx hb dAc_add_90 rfl (lv_at hl 1 rfl) ?_
    refine lv_lload hx hb dAc_add_91 (lv_at hl 2 rfl) ?_
    refine lv_ldc2 (v := 10000000000) hx hb hown w0 dAc_add_93 ?_
    refine cl_rd (W.runS (As := [.long (v9), .long (10000000000)]) (rest := [.ref (q 5)]) ⟨hx, hb, hml, hown, hts⟩ (kMa_floorMod l v9 10000000000 (by decide)) (va_cwS 2 hts (gS wm3_195 wm3_196 wm1_19 wm3_197) rfl rfl rfl (by decide +kernel) ⟨Nat.le_of_ble_eq_true rfl, Nat.le_of_ble_eq_true rfl⟩) (preT) rfl rfl hl.1 rfl (lv_room (Nat.le_of_ble_eq_true rfl)) dAc_add_96 ⟨Nat.le_refl _, Nat.le_refl _⟩) ?_
    refine cp5_lower (fMa_floorMod v9 10000000000) hq hS hx hb hts i0 hown hK hP w1 dAc_add_99 (fun H locs hP hS => ?_)
    refine lv_aload_n hx hb dAc_add_102 rfl (lv_at hl 1 rfl) ?_
    refine lv_lload hx hb dAc_add_103 (lv_at hl 0 rfl) ?_
    refine lv_ldc2 (v := 10000000000) hx hb hown w0 dAc_add_105 ?_
    refine lm_lrem hx hb dAc_add_108 (by decide) ?_
    refine cp5_upper ((v7 + (fMa_floorDiv v9 10000000000)) % 10000000000) hq hS hx hb hts i0 hown hK hP w2 dAc_add_109 (fun H locs hP hS => ?_)
    refine lv_lload hx hb dAc_add_112 (lv_at hl 0 rfl) ?_
    refine lv_ldc2 (v := 10000000000) hx hb hown w0 dAc_add_114 ?_
    refine lc_lt hx hb dAc_add_117 dAc_add_118 rfl (fun h117 => ?_) (fun h117 => ?_)
    · have hR := hR.trans (if_pos h117)
      exact W.vret hx hb hr (fun t ht _ => ⟨rfl, by rw [hR, ht]; exact hP, hS.F ht⟩) hS.2.2 dAc_add_126
    · have hR := hR.trans (if_neg h117)
      refine lv_aload_n hx hb dAc_add_121 rfl (lv_at hl 1 rfl) ?_
      refine lv_iconst (v := 1) hx hb dAc_add_122 (by decide) ?_
      refine cp5_overflow (true) hq hS hx hb hts i0 hown hK hP w3 dAc_add_123 (fun H locs hP hS => ?_)
      exact W.vret hx hb hr (fun t ht _ => ⟨rfl, by rw [hR, ht]; exact hP, hS.F ht⟩) hS.2.2 dAc_add_126
  have hB61 : ∀ (H : Heap) (locs : List Loc) (ls : Array Slot) (z : SC) (v7 : Int64) (v9 : Int64), fAc_add z0 u w b = fAc_add_61 z b v7 v9 → c_W D q cI cJ cZ z H → va_S (c_qs q) s.heap H locs → lv_has ls 11 [(0, .ref (q 5)), (5, .int (bb (b))), (7, .long (v7)), (9, .long (v9))] → W p l e (headSpec wsAc_add { frames := 1, cells := 0, slots := 0, locals := 25 }).room s m ([.ref (q 5), .long (u), .long (w), .int (bb (b))] : List Value).toArray below meth c H locs 0 0 (MQ below (cQw none (c_W D q cI cJ cZ (fAc_add z0 u w b)) (c_qs q)) ([.ref (q 5), .long (u), .long (w), .int (bb (b))] : List Value).toArray s 0 0 (c_qs q)) (F0 m 61 ls []) := by
    intro H locs ls z v7 v9 hR hP hS hl
    rw [fAc_add_61.eq_1] at hR
    refine lv_lload hx hb dAc_add_61 (lv_at hl 2 rfl) ?_
    refine lv_lneg hx hb dAc_add_63 ?_
    refine lv_lstore (lv' := [(7, .long (-v7)), (0, .ref (q 5)), (5, .int (bb (b))), (9, .long (v9))]) hx hb dAc_add_64 hl (by decide) rfl (fun ls hl => ?_)
    refine lv_lload hx hb dAc_add_66 (lv_at hl 3 rfl) ?_
    refine lv_lneg hx hb dAc_add_68 ?_
    refine lv_lstore (lv' := [(9, .long (-v9)), (7, .long (-v7)), (0, .ref (q 5)), (5, .int (bb (b)))]) hx hb dAc_add_69 hl (by decide) rfl (fun ls hl => ?_)
    refine lv_aload_n hx hb dAc_add_71 rfl (lv_at hl 2 rfl) ?_
    refine lv_iload hx hb dAc_add_72 (lv_at hl 3 rfl) ?_
    refine cp5_minus b hq hS hx hb hts i0 hown hK hP w4 dAc_add_74 (fun H locs hP hS => ?_)
    exact hB77 H locs ls (c_amin_s z b) (-v7) (-v9) hR hP hS (lv_sub hl [2, 1, 0] rfl)
  have hB14 : ∀ (H : Heap) (locs : List Loc) (ls : Array Slot) (z : SC) (s0 : Int32), fAc_add z0 u w b = fAc_add_14 z s0 u w b → c_W D q cI cJ cZ z H → va_S (c_qs q) s.heap H locs → lv_has ls 11 [(0, .ref (q 5)), (1, .long (u)), (3, .long (w)), (5, .int (bb (b)))] → W p l e (headSpec wsAc_add { frames := 1, cells := 0, slots := 0, locals := 25 }).room s m ([.ref (q 5), .long (u), .long (w), .int (bb (b))] : List Value).toArray below meth c H locs 0 0 (MQ below (cQw none (c_W D q cI cJ cZ (fAc_add z0 u w b)) (c_qs q)) ([.ref (q 5), .long (u), .long (w), .int (bb (b))] : List Value).toArray s 0 0 (c_qs q)) (F0 m 14 ls [.int (s0)]) := by
    intro H locs ls z s0 hR hP hS hl
    rw [fAc_add_14.eq_1] at hR
    refine lv_istore (lv' := [(6, .int (s0)), (0, .ref (q 5)), (1, .long (u)), (3, .long (w)), (5, .int (bb (b)))]) hx hb dAc_add_14 hl (by decide) rfl (fun ls hl => ?_)
    refine lv_aload_n hx hb dAc_add_16 rfl (lv_at hl 1 rfl) ?_
    refine cg5_upper hx hb hts i0 hown hK hP w2 dAc_add_17 ?_
    refine lv_iload hx hb dAc_add_20 (lv_at hl 0 rfl) ?_
    refine lv_i2l hx hb dAc_add_22 rfl ?_
    refine lv_lload_n hx hb dAc_add_23 rfl (lv_at hl 2 rfl) ?_
    refine lv_lmul hx hb dAc_add_24 ?_
    refine lv_ladd hx hb dAc_add_25 ?_
    refine lv_lstore (lv' := [(7, .long ((c_upper z) + (s0.toInt64 * u))), (6, .int (s0)), (0, .ref (q 5)), (1, .long (u)), (3, .long (w)), (5, .int (bb (b)))]) hx hb dAc_add_26 hl (by decide) rfl (fun ls hl => ?_)
    refine lv_aload_n hx hb dAc_add_28 rfl (lv_at hl 2 rfl) ?_
    refine cg5_lower hx hb hts i0 hown hK hP w1 dAc_add_29 ?_
    refine lv_iload hx hb dAc_add_32 (lv_at hl 1 rfl) ?_
    refine lv_i2l hx hb dAc_add_34 rfl ?_
    refine lv_lload_n hx hb dAc_add_35 rfl (lv_at hl 4 rfl) ?_
    refine lv_lmul hx hb dAc_add_36 ?_
    refine lv_ladd hx hb dAc_add_37 ?_
    refine lv_lstore (lv' := [(9, .long ((c_lower z) + (s0.toInt64 * w))), (7, .long ((c_upper z) + (s0.toInt64 * u))), (6, .int (s0)), (0, .ref (q 5)), (1, .long (u)), (3, .long (w)), (5, .int (bb (b)))]) hx hb dAc_add_38 hl (by decide) rfl (fun ls hl => ?_)
    refine lv_lload hx hb dAc_add_40 (lv_at hl 1 rfl) ?_
    refine lv_lconst (v := 0) hx hb dAc_add_42 (by decide) ?_
    refine lc_lt hx hb dAc_add_43 dAc_add_44 rfl (fun h43 => ?_) (fun h43 => ?_)
    · have hR := hR.trans (if_pos h43)
      exact hB61 H locs ls z ((c_upper z) + (s0.toInt64 * u)) ((c_lower z) + (s0.toInt64 * w)) hR hP hS (lv_sub hl [3, 6, 1, 0] rfl)
    · have hR := hR.trans (if_neg h43)
      refine lv_lload hx hb dAc_add_47 (lv_at hl 1 rfl) ?_
      refine lv_lconst (v := 0) hx hb dAc_add_49 (by decide) ?_
      refine lc_ne hx hb dAc_add_50 dAc_add_51 rfl (fun h50 => ?_) (fun h50 => ?_)
      · have hR := hR.trans (if_neg h50)
        exact hB77 H locs ls z ((c_upper z) + (s0.toInt64 * u)) ((c_lower z) + (s0.toInt64 * w)) hR hP hS (lv_sub hl [3, 1, 0] rfl)
      · have hR := hR.trans (if_pos h50)
        refine lv_lload hx hb dAc_add_54 (lv_at hl 0 rfl) ?_
        refine lv_lconst (v := 0) hx hb dAc_add_56 (by decide) ?_
        refine lc_ge hx hb dAc_add_57 dAc_add_58 rfl (fun h57 => ?_) (fun h57 => ?_)
        · have hR := hR.trans (if_pos h57)
          exact hB77 H locs ls z ((c_upper z) + (s0.toInt64 * u)) ((c_lower z) + (s0.toInt64 * w)) hR hP hS (lv_sub hl [3, 1, 0] rfl)
        · have hR := hR.trans (if_neg h57)
          exact hB61 H locs ls z ((c_upper z) + (s0.toInt64 * u)) ((c_lower z) + (s0.toInt64 * w)) hR hP hS (lv_sub hl [3, 6, 1, 0] rfl)
  have hR := fAc_add.eq_1 z0 u w b
  refine lv_aload_n hx hb dAc_add_0 rfl (lv_at hl 0 rfl) ?_
  refine cg5_minus hx hb hts i0 hown hK hP w4 dAc_add_1 ?_
  refine lv_iload hx hb dAc_add_4 (lv_at hl 3 rfl) ?_
  refine wz_cmpne hx hb dAc_add_6 rfl (fun h6 => ?_) (fun h6 => ?_)
  · have hR := hR.trans (if_neg h6)
    refine lv_iconst (v := (-1)) hx hb dAc_add_13 (by decide) ?_
    exact hB14 s.heap [] ls z0 ((-1)) hR hP hS (lv_sub hl [0, 1, 2, 3] rfl)
  · have hR := hR.trans (if_pos h6)
    refine lv_iconst (v := 1) hx hb dAc_add_9 (by decide) ?_
    refine lv_goto hx hb dAc_add_10 rfl ?_
    exact hB14 s.heap [] ls z0 1 hR hP hS (lv_sub hl [0, 1, 2, 3] rfl)
theorem dAc_multiply_0 : decode ccAc_multiply 0 = .ok (.aload_n 0, 1) := by decide +kernel
theorem dAc_multiply_1 : decode ccAc_multiply 1 = .ok (.getfield 7, 3) := by decide +kernel
theorem dAc_multiply_4 : decode ccAc_multiply 4 = .ok (.ldc2_w 40, 3) := by decide +kernel
theorem dAc_multiply_7 : decode ccAc_multiply 7 = .ok (.ldiv, 1) := by decide +kernel
theorem dAc_multiply_8 : decode ccAc_multiply 8 = .ok (.lload_n 1, 1) := by decide +kernel
theorem dAc_multiply_9 : decode ccAc_multiply 9 = .ok (.lmul, 1) := by decide +kernel
theorem dAc_multiply_10 : decode ccAc_multiply 10 = .ok (.lstore 4, 2) := by decide +kernel
theorem dAc_multiply_12 : decode ccAc_multiply 12 = .ok (.aload_n 0, 1) := by decide +kernel
theorem dAc_multiply_13 : decode ccAc_multiply 13 = .ok (.getfield 7, 3) := by decide +kernel
theorem dAc_multiply_16 : decode ccAc_multiply 16 = .ok (.ldc2_w 40, 3) := by decide +kernel
theorem dAc_multiply_19 : decode ccAc_multiply 19 = .ok (.lrem, 1) := by decide +kernel
theorem dAc_multiply_20 : decode ccAc_multiply 20 = .ok (.lload_n 1, 1) := by decide +kernel
theorem dAc_multiply_21 : decode ccAc_multiply 21 = .ok (.lmul, 1) := by decide +kernel
theorem dAc_multiply_22 : decode ccAc_multiply 22 = .ok (.lstore 6, 2) := by decide +kernel
theorem dAc_multiply_24 : decode ccAc_multiply 24 = .ok (.lload 4, 2) := by decide +kernel
theorem dAc_multiply_26 : decode ccAc_multiply 26 = .ok (.ldc2_w 40, 3) := by decide +kernel
theorem dAc_multiply_29 : decode ccAc_multiply 29 = .ok (.lrem, 1) := by decide +kernel
theorem dAc_multiply_30 : decode ccAc_multiply 30 = .ok (.ldc2_w 40, 3) := by decide +kernel
theorem dAc_multiply_33 : decode ccAc_multiply 33 = .ok (.lmul, 1) := by decide +kernel
theorem dAc_multiply_34 : decode ccAc_multiply 34 = .ok (.lload 6, 2) := by decide +kernel
theorem dAc_multiply_36 : decode ccAc_multiply 36 = .ok (.ladd, 1) := by decide +kernel
theorem dAc_multiply_37 : decode ccAc_multiply 37 = .ok (.aload_n 0, 1) := by decide +kernel
theorem dAc_multiply_38 : decode ccAc_multiply 38 = .ok (.getfield 13, 3) := by decide +kernel
theorem dAc_multiply_41 : decode ccAc_multiply 41 = .ok (.ladd, 1) := by decide +kernel
theorem dAc_multiply_42 : decode ccAc_multiply 42 = .ok (.lstore 8, 2) := by decide +kernel
theorem dAc_multiply_44 : decode ccAc_multiply 44 = .ok (.aload_n 0, 1) := by decide +kernel
theorem dAc_multiply_45 : decode ccAc_multiply 45 = .ok (.lload 4, 2) := by decide +kernel
theorem dAc_multiply_47 : decode ccAc_multiply 47 = .ok (.ldc2_w 40, 3) := by decide +kernel
theorem dAc_multiply_50 : decode ccAc_multiply 50 = .ok (.ldiv, 1) := by decide +kernel
theorem dAc_multiply_51 : decode ccAc_multiply 51 = .ok (.lload 8, 2) := by decide +kernel
theorem dAc_multiply_53 : decode ccAc_multiply 53 = .ok (.ldc2_w 29, 3) := by decide +kernel
theorem dAc_multiply_56 : decode ccAc_multiply 56 = .ok (.ldiv, 1) := by decide +kernel
theorem dAc_multiply_57 : decode ccAc_multiply 57 = .ok (.ladd, 1) := by decide +kernel
theorem dAc_multiply_58 : decode ccAc_multiply 58 = .ok (.putfield 7, 3) := by decide +kernel
theorem dAc_multiply_61 : decode ccAc_multiply 61 = .ok (.aload_n 0, 1) := by decide +kernel
theorem dAc_multiply_62 : decode ccAc_multiply 62 = .ok (.lload 8, 2) := by decide +kernel
theorem dAc_multiply_64 : decode ccAc_multiply 64 = .ok (.ldc2_w 29, 3) := by decide +kernel
theorem dAc_multiply_67 : decode ccAc_multiply 67 = .ok (.lrem, 1) := by decide +kernel
theorem dAc_multiply_68 : decode ccAc_multiply 68 = .ok (.putfield 13, 3) := by decide +kernel
theorem dAc_multiply_71 : decode ccAc_multiply 71 = .ok (.aload_n 0, 1) := by decide +kernel
theorem dAc_multiply_72 : decode ccAc_multiply 72 = .ok (.aload_n 0, 1) := by decide +kernel
theorem dAc_multiply_73 : decode ccAc_multiply 73 = .ok (.getfield 16, 3) := by decide +kernel
theorem dAc_multiply_76 : decode ccAc_multiply 76 = .ok (.iload_n 3, 1) := by decide +kernel
theorem dAc_multiply_77 : decode ccAc_multiply 77 = .ok (.if_icmp .eq 7, 3) := by decide +kernel
theorem dAc_multiply_80 : decode ccAc_multiply 80 = .ok (.iconst 1, 1) := by decide +kernel
theorem dAc_multiply_81 : decode ccAc_multiply 81 = .ok (.goto 4, 3) := by decide +kernel
theorem dAc_multiply_84 : decode ccAc_multiply 84 = .ok (.iconst 0, 1) := by decide +kernel
theorem dAc_multiply_85 : decode ccAc_multiply 85 = .ok (.putfield 16, 3) := by decide +kernel
theorem dAc_multiply_88 : decode ccAc_multiply 88 = .ok (.return_, 1) := by decide +kernel
def fAc_multiply_44  (z : SC) (b : Bool) (v4 : Int64) (v8 : Int64) : SC :=
  (if (c_amin z) = b then c_amin_s (c_lower_s (c_upper_s z ((v4 / 100000) + (v8 / 10000000000))) (v8 % 10000000000)) false else c_amin_s (c_lower_s (c_upper_s z ((v4 / 100000) + (v8 / 10000000000))) (v8 % 10000000000)) true)
def fAc_multiply (z0 : SC) (v : Int64) (b : Bool) : SC :=
  fAc_multiply_44 z0 b (((c_upper z0) / 100000) * v) (((((((c_upper z0) / 100000) * v) % 100000) * 100000) + (((c_upper z0) % 100000) * v)) + (c_lower z0))
set_option maxHeartbeats 4000000 in
set_option maxRecDepth 100000 in
theorem kAc_multiply (l : Launch) (D : va_G) (q : Nat → Nat) (cI cJ cZ : ClassId) (hq : c_inj q) (z0 : SC) (v : Int64) (b : Bool)  : Met l yAc_multiply wsAc_multiply { frames := 0, cells := 0, slots := 0, locals := 0 } (va_Pc [.ref (q 5), .long (v), .int (bb (b))] (c_C D q cI cJ cZ z0)) (cQw none (c_W D q cI cJ cZ (fAc_multiply z0 v b)) (c_qs q)) 0 0 (c_qs q) := by
  refine Met.ofW (cc := ccAc_multiply) (maxL := 10) (ret := none) (by decide +kernel) rfl ?_
  intro p e s m args below meth c s₁ B hml hv
  obtain ⟨rfl, hP, hK⟩ := hv
  have hx := B.exec
  have hb := B.bytes
  have hr := B.returns
  have hts := atoms_spec (ws := wsAc_multiply) B.pre
  have hown : s.vm.findClass RAc = some m.cls := findClass_of_methodNamed B.named
  have hlocks := B.notSynchronized
  have w0 := hts (.constantLong RAc 40 (100000)) (List.mem_cons_of_mem _ wm4_59)
  have w1 := hts (.constantLong RAc 29 (10000000000)) (List.mem_cons_of_mem _ wm3_191)
  have w2 := hts (.fieldLink RAc 7 "DrumMachine$Accumulator" "upper" "J") (List.mem_cons_of_mem _ wm1_97)
  have w3 := hts (.fieldLink RAc 13 "DrumMachine$Accumulator" "lower" "J") (List.mem_cons_of_mem _ wm1_98)
  have w4 := hts (.fieldLink RAc 16 "DrumMachine$Accumulator" "minus" "Z") (List.mem_cons_of_mem _ wm1_99)
  have i0 : ∀ w ∈ u_ws RAc TAc 4, w ∈ wsAc_multiply := fun w h => List.mem_cons_of_mem _ (inAAc w h)
  have hS : va_S (c_qs q) s.heap s.heap [] := va_S.rf
  have hl := lv_entry ([.ref (q 5), .long (v), .int (bb (b))]) (n := 10) (Nat.le_of_ble_eq_true rfl)
  rw [lg_entry_eq]
  generalize (lg_sl ([.ref (q 5), .long (v), .int (bb (b))]) ++ List.replicate (10 - (lg_sl ([.ref (q 5), .long (v), .int (bb (b))])).length) Slot.unset).toArray = ls at hl ⊢
  have hl : lv_has ls 10 [(0, .ref (q 5)), (1, .long (v)), (3, .int (bb (b)))] := hl
  have hB44 : ∀ (H : Heap) (locs : List Loc) (ls : Array Slot) (z : SC) (v4 : Int64) (v8 : Int64), fAc_multiply z0 v b = fAc_multiply_44 z b v4 v8 → c_W D q cI cJ cZ z H → va_S (c_qs q) s.heap H locs → lv_has ls 10 [(0, .ref (q 5)), (3, .int (bb (b))), (4, .long (v4)), (8, .long (v8))] → W p l e (headSpec wsAc_multiply { frames := 0, cells := 0, slots := 0, locals := 0 }).room s m ([.ref (q 5), .long (v), .int (bb (b))] : List Value).toArray below meth c H locs 0 0 (MQ below (cQw none (c_W D q cI cJ cZ (fAc_multiply z0 v b)) (c_qs q)) ([.ref (q 5), .long (v), .int (bb (b))] : List Value).toArray s 0 0 (c_qs q)) (F0 m 44 ls []) := by
    intro H locs ls z v4 v8 hR hP hS hl
    rw [fAc_multiply_44.eq_1] at hR
    refine lv_aload_n hx hb dAc_multiply_44 rfl (lv_at hl 0 rfl) ?_
    refine lv_lload hx hb dAc_multiply_45 (lv_at hl 2 rfl) ?_
    refine lv_ldc2 (v := 100000) hx hb hown w0 dAc_multiply_47 ?_
    refine lv_ldiv hx hb dAc_multiply_50 (by decide) ?_
    refine lv_lload hx hb dAc_multiply_51 (lv_at hl 3 rfl) ?_
    refine lv_ldc2 (v := 10000000000) hx hb hown w1 dAc_multiply_53 ?_
    refine lv_ldiv hx hb dAc_multiply_56 (by decide) ?_
    refine lv_ladd hx hb dAc_multiply_57 ?_
    refine cp5_upper ((v4 / 100000) + (v8 / 10000000000)) hq hS hx hb hts i0 hown hK hP w2 dAc_multiply_58 (fun H locs hP hS => ?_)
    refine lv_aload_n hx hb dAc_multiply_61 rfl (lv_at hl 0 rfl) ?_
    refine lv_lload hx hb dAc_multiply_62 (lv_at hl 3 rfl) ?_
    refine lv_ldc2 (v := 10000000000) hx hb hown w1 dAc_multiply_64 ?_
    refine lm_lrem hx hb dAc_multiply_67 (by decide) ?_
    refine cp5_lower (v8 % 10000000000) hq hS hx hb hts i0 hown hK hP w3 dAc_multiply_68 (fun H locs hP hS => ?_)
    refine lv_aload_n hx hb dAc_multiply_71 rfl (lv_at hl 0 rfl) ?_
    refine lv_aload_n hx hb dAc_multiply_72 rfl (lv_at hl 0 rfl) ?_
    refine cg5_minus hx hb hts i0 hown hK hP w4 dAc_multiply_73 ?_
    refine lv_iload_n hx hb dAc_multiply_76 rfl (lv_at hl 1 rfl) ?_
    refine wz_cmpeq hx hb dAc_multiply_77 rfl (fun h77 => ?_) (fun h77 => ?_)
    · have hR := hR.trans (if_pos h77)
      refine lv_iconst (v := 0) hx hb dAc_multiply_84 (by decide) ?_
      refine cp5_minus false hq hS hx hb hts i0 hown hK hP w4 dAc_multiply_85 (fun H locs hP hS => ?_)
      exact W.vret hx hb hr (fun t ht _ => ⟨rfl, by rw [hR, ht]; exact hP, hS.F ht⟩) hS.2.2 dAc_multiply_88
    · have hR := hR.trans (if_neg h77)
      refine lv_iconst (v := 1) hx hb dAc_multiply_80 (by decide) ?_
      refine lv_goto hx hb dAc_multiply_81 rfl ?_
      refine cp5_minus (true) hq hS hx hb hts i0 hown hK hP w4 dAc_multiply_85 (fun H locs hP hS => ?_)
      exact W.vret hx hb hr (fun t ht _ => ⟨rfl, by rw [hR, ht]; exact hP, hS.F ht⟩) hS.2.2 dAc_multiply_88
  have hR := fAc_multiply.eq_1 z0 v b
  refine lv_aload_n hx hb dAc_multiply_0 rfl (lv_at hl 0 rfl) ?_
  refine cg5_upper hx hb hts i0 hown hK hP w2 dAc_multiply_1 ?_
  refine lv_ldc2 (v := 100000) hx hb hown w0 dAc_multiply_4 ?_
  refine lv_ldiv hx hb dAc_multiply_7 (by decide) ?_
  refine lv_lload_n hx hb dAc_multiply_8 rfl (lv_at hl 1 rfl) ?_
  refine lv_lmul hx hb dAc_multiply_9 ?_
  refine lv_lstore (lv' := [(4, .long (((c_upper z0) / 100000) * v)), (0, .ref (q 5)), (1, .long (v)), (3, .int (bb (b)))]) hx hb dAc_multiply_10 hl (by decide) rfl (fun ls hl => ?_)
  refine lv_aload_n hx hb dAc_multiply_12 rfl (lv_at hl 1 rfl) ?_
  refine cg5_upper hx hb hts i0 hown hK hP w2 dAc_multiply_13 ?_
  refine lv_ldc2 (v := 100000) hx hb hown w0 dAc_multiply_16 ?_
  refine lm_lrem hx hb dAc_multiply_19 (by decide) ?_
  refine lv_lload_n hx hb dAc_multiply_20 rfl (lv_at hl 2 rfl) ?_
  refine lv_lmul hx hb dAc_multiply_21 ?_
  refine lv_lstore (lv' := [(6, .long (((c_upper z0) % 100000) * v)), (4, .long (((c_upper z0) / 100000) * v)), (0, .ref (q 5)), (1, .long (v)), (3, .int (bb (b)))]) hx hb dAc_multiply_22 hl (by decide) rfl (fun ls hl => ?_)
  refine lv_lload hx hb dAc_multiply_24 (lv_at hl 1 rfl) ?_
  refine lv_ldc2 (v := 100000) hx hb hown w0 dAc_multiply_26 ?_
  refine lm_lrem hx hb dAc_multiply_29 (by decide) ?_
  refine lv_ldc2 (v := 100000) hx hb hown w0 dAc_multiply_30 ?_
  refine lv_lmul hx hb dAc_multiply_33 ?_
  refine lv_lload hx hb dAc_multiply_34 (lv_at hl 0 rfl) ?_
  refine lv_ladd hx hb dAc_multiply_36 ?_
  refine lv_aload_n hx hb dAc_multiply_37 rfl (lv_at hl 2 rfl) ?_
  refine cg5_lower hx hb hts i0 hown hK hP w3 dAc_multiply_38 ?_
  refine lv_ladd hx hb dAc_multiply_41 ?_
  refine lv_lstore (lv' := [(8, .long (((((((c_upper z0) / 100000) * v) % 100000) * 100000) + (((c_upper z0) % 100000) * v)) + (c_lower z0))), (6, .long (((c_upper z0) % 100000) * v)), (4, .long (((c_upper z0) / 100000) * v)), (0, .ref (q 5)), (1, .long (v)), (3, .int (bb (b)))]) hx hb dAc_multiply_42 hl (by decide) rfl (fun ls hl => ?_)
  exact hB44 s.heap [] ls z0 (((c_upper z0) / 100000) * v) (((((((c_upper z0) / 100000) * v) % 100000) * 100000) + (((c_upper z0) % 100000) * v)) + (c_lower z0)) hR hP hS (lv_sub hl [3, 5, 2, 0] rfl)
theorem nle_ne {v : Int64} (h : ¬ v ≤ 0) : ¬ v = 0 := fun e => h (by rw [e]; decide)
theorem dAc_divide_0 : decode ccAc_divide 0 = .ok (.lload_n 1, 1) := by decide +kernel
theorem dAc_divide_1 : decode ccAc_divide 1 = .ok (.lconst 0, 1) := by decide +kernel
theorem dAc_divide_2 : decode ccAc_divide 2 = .ok (.lcmp, 1) := by decide +kernel
theorem dAc_divide_3 : decode ccAc_divide 3 = .ok (.ifCond .le 12, 3) := by decide +kernel
theorem dAc_divide_6 : decode ccAc_divide 6 = .ok (.aload_n 0, 1) := by decide +kernel
theorem dAc_divide_7 : decode ccAc_divide 7 = .ok (.getfield 7, 3) := by decide +kernel
theorem dAc_divide_10 : decode ccAc_divide 10 = .ok (.lload_n 1, 1) := by decide +kernel
theorem dAc_divide_11 : decode ccAc_divide 11 = .ok (.lcmp, 1) := by decide +kernel
theorem dAc_divide_12 : decode ccAc_divide 12 = .ok (.ifCond .lt 10, 3) := by decide +kernel
theorem dAc_divide_15 : decode ccAc_divide 15 = .ok (.aload_n 0, 1) := by decide +kernel
theorem dAc_divide_16 : decode ccAc_divide 16 = .ok (.iconst 1, 1) := by decide +kernel
theorem dAc_divide_17 : decode ccAc_divide 17 = .ok (.putfield 20, 3) := by decide +kernel
theorem dAc_divide_20 : decode ccAc_divide 20 = .ok (.iconst 0, 1) := by decide +kernel
theorem dAc_divide_21 : decode ccAc_divide 21 = .ok (.ireturn, 1) := by decide +kernel
theorem dAc_divide_22 : decode ccAc_divide 22 = .ok (.aload_n 0, 1) := by decide +kernel
theorem dAc_divide_23 : decode ccAc_divide 23 = .ok (.getfield 7, 3) := by decide +kernel
theorem dAc_divide_26 : decode ccAc_divide 26 = .ok (.lstore 4, 2) := by decide +kernel
theorem dAc_divide_28 : decode ccAc_divide 28 = .ok (.aload_n 0, 1) := by decide +kernel
theorem dAc_divide_29 : decode ccAc_divide 29 = .ok (.getfield 13, 3) := by decide +kernel
theorem dAc_divide_32 : decode ccAc_divide 32 = .ok (.lstore 6, 2) := by decide +kernel
theorem dAc_divide_34 : decode ccAc_divide 34 = .ok (.lconst 0, 1) := by decide +kernel
theorem dAc_divide_35 : decode ccAc_divide 35 = .ok (.lstore 8, 2) := by decide +kernel
theorem dAc_divide_37 : decode ccAc_divide 37 = .ok (.iconst 0, 1) := by decide +kernel
theorem dAc_divide_38 : decode ccAc_divide 38 = .ok (.istore 10, 2) := by decide +kernel
theorem dAc_divide_40 : decode ccAc_divide 40 = .ok (.iload 10, 2) := by decide +kernel
theorem dAc_divide_42 : decode ccAc_divide 42 = .ok (.bipush 10, 2) := by decide +kernel
theorem dAc_divide_44 : decode ccAc_divide 44 = .ok (.if_icmp .ge 55, 3) := by decide +kernel
theorem dAc_divide_47 : decode ccAc_divide 47 = .ok (.lload 4, 2) := by decide +kernel
theorem dAc_divide_49 : decode ccAc_divide 49 = .ok (.ldc2_w 42, 3) := by decide +kernel
theorem dAc_divide_52 : decode ccAc_divide 52 = .ok (.lmul, 1) := by decide +kernel
theorem dAc_divide_53 : decode ccAc_divide 53 = .ok (.lload 6, 2) := by decide +kernel
theorem dAc_divide_55 : decode ccAc_divide 55 = .ok (.ldc2_w 44, 3) := by decide +kernel
theorem dAc_divide_58 : decode ccAc_divide 58 = .ok (.ldiv, 1) := by decide +kernel
theorem dAc_divide_59 : decode ccAc_divide 59 = .ok (.ladd, 1) := by decide +kernel
theorem dAc_divide_60 : decode ccAc_divide 60 = .ok (.lstore 4, 2) := by decide +kernel
theorem dAc_divide_62 : decode ccAc_divide 62 = .ok (.lload 6, 2) := by decide +kernel
theorem dAc_divide_64 : decode ccAc_divide 64 = .ok (.ldc2_w 44, 3) := by decide +kernel
theorem dAc_divide_67 : decode ccAc_divide 67 = .ok (.lrem, 1) := by decide +kernel
theorem dAc_divide_68 : decode ccAc_divide 68 = .ok (.ldc2_w 42, 3) := by decide +kernel
theorem dAc_divide_71 : decode ccAc_divide 71 = .ok (.lmul, 1) := by decide +kernel
theorem dAc_divide_72 : decode ccAc_divide 72 = .ok (.lstore 6, 2) := by decide +kernel
theorem dAc_divide_74 : decode ccAc_divide 74 = .ok (.lload 8, 2) := by decide +kernel
theorem dAc_divide_76 : decode ccAc_divide 76 = .ok (.ldc2_w 42, 3) := by decide +kernel
theorem dAc_divide_79 : decode ccAc_divide 79 = .ok (.lmul, 1) := by decide +kernel
theorem dAc_divide_80 : decode ccAc_divide 80 = .ok (.lload 4, 2) := by decide +kernel
theorem dAc_divide_82 : decode ccAc_divide 82 = .ok (.lload_n 1, 1) := by decide +kernel
theorem dAc_divide_83 : decode ccAc_divide 83 = .ok (.ldiv, 1) := by decide +kernel
theorem dAc_divide_84 : decode ccAc_divide 84 = .ok (.ladd, 1) := by decide +kernel
theorem dAc_divide_85 : decode ccAc_divide 85 = .ok (.lstore 8, 2) := by decide +kernel
theorem dAc_divide_87 : decode ccAc_divide 87 = .ok (.lload 4, 2) := by decide +kernel
theorem dAc_divide_89 : decode ccAc_divide 89 = .ok (.lload_n 1, 1) := by decide +kernel
theorem dAc_divide_90 : decode ccAc_divide 90 = .ok (.lrem, 1) := by decide +kernel
theorem dAc_divide_91 : decode ccAc_divide 91 = .ok (.lstore 4, 2) := by decide +kernel
theorem dAc_divide_93 : decode ccAc_divide 93 = .ok (.iinc 10 1, 3) := by decide +kernel
theorem dAc_divide_96 : decode ccAc_divide 96 = .ok (.goto (-56), 3) := by decide +kernel
theorem dAc_divide_99 : decode ccAc_divide 99 = .ok (.aload_n 0, 1) := by decide +kernel
theorem dAc_divide_100 : decode ccAc_divide 100 = .ok (.lload 4, 2) := by decide +kernel
theorem dAc_divide_102 : decode ccAc_divide 102 = .ok (.putfield 7, 3) := by decide +kernel
theorem dAc_divide_105 : decode ccAc_divide 105 = .ok (.aload_n 0, 1) := by decide +kernel
theorem dAc_divide_106 : decode ccAc_divide 106 = .ok (.lload 8, 2) := by decide +kernel
theorem dAc_divide_108 : decode ccAc_divide 108 = .ok (.putfield 13, 3) := by decide +kernel
theorem dAc_divide_111 : decode ccAc_divide 111 = .ok (.aload_n 0, 1) := by decide +kernel
theorem dAc_divide_112 : decode ccAc_divide 112 = .ok (.aload_n 0, 1) := by decide +kernel
theorem dAc_divide_113 : decode ccAc_divide 113 = .ok (.getfield 16, 3) := by decide +kernel
theorem dAc_divide_116 : decode ccAc_divide 116 = .ok (.iload_n 3, 1) := by decide +kernel
theorem dAc_divide_117 : decode ccAc_divide 117 = .ok (.if_icmp .eq 7, 3) := by decide +kernel
theorem dAc_divide_120 : decode ccAc_divide 120 = .ok (.iconst 1, 1) := by decide +kernel
theorem dAc_divide_121 : decode ccAc_divide 121 = .ok (.goto 4, 3) := by decide +kernel
theorem dAc_divide_124 : decode ccAc_divide 124 = .ok (.iconst 0, 1) := by decide +kernel
theorem dAc_divide_125 : decode ccAc_divide 125 = .ok (.putfield 16, 3) := by decide +kernel
theorem dAc_divide_128 : decode ccAc_divide 128 = .ok (.iconst 1, 1) := by decide +kernel
theorem dAc_divide_129 : decode ccAc_divide 129 = .ok (.ireturn, 1) := by decide +kernel
def fAc_divide_40  : Nat → SC → Int64 → Bool → Int64 → Int64 → Int64 → Nat → Bool × SC
  | 0, z, v, b, v4, v6, v8, v10 => (false, z)
  | fu + 1, z, v, b, v4, v6, v8, v10 => (if 10 ≤ v10 then (if (c_amin z) = b then (true, c_amin_s (c_lower_s (c_upper_s z v4) v8) false) else (true, c_amin_s (c_lower_s (c_upper_s z v4) v8) true)) else fAc_divide_40 fu z v b (((v4 * 10) + (v6 / 1000000000)) % v) ((v6 % 1000000000) * 10) ((v8 * 10) + (((v4 * 10) + (v6 / 1000000000)) / v)) (v10 + 1))
def fAc_divide (z0 : SC) (v : Int64) (b : Bool) : Bool × SC :=
  (if v ≤ 0 then (false, c_ovf_s z0 true) else (if (c_upper z0) < v then fAc_divide_40 11 z0 v b (c_upper z0) (c_lower z0) 0 0 else (false, c_ovf_s z0 true)))
set_option maxHeartbeats 4000000 in
set_option maxRecDepth 100000 in
theorem kAc_divide (l : Launch) (D : va_G) (q : Nat → Nat) (cI cJ cZ : ClassId) (hq : c_inj q) (z0 : SC) (v : Int64) (b : Bool)  : Met l yAc_divide wsAc_divide { frames := 0, cells := 0, slots := 0, locals := 0 } (va_Pc [.ref (q 5), .long (v), .int (bb (b))] (c_C D q cI cJ cZ z0)) (cQw (some (.int (bb ((fAc_divide z0 v b).1)))) (c_W D q cI cJ cZ (fAc_divide z0 v b).2) (c_qs q)) 0 0 (c_qs q) := by
  refine Met.ofW (cc := ccAc_divide) (maxL := 11) (ret := (some .boolean)) (by decide +kernel) rfl ?_
  intro p e s m args below meth c s₁ B hml hv
  obtain ⟨rfl, hP, hK⟩ := hv
  have hx := B.exec
  have hb := B.bytes
  have hr := B.returns
  have hts := atoms_spec (ws := wsAc_divide) B.pre
  have hown : s.vm.findClass RAc = some m.cls := findClass_of_methodNamed B.named
  have hlocks := B.notSynchronized
  have w0 := hts (.fieldLink RAc 7 "DrumMachine$Accumulator" "upper" "J") (List.mem_cons_of_mem _ wm1_97)
  have w1 := hts (.fieldLink RAc 13 "DrumMachine$Accumulator" "lower" "J") (List.mem_cons_of_mem _ wm1_98)
  have w2 := hts (.fieldLink RAc 16 "DrumMachine$Accumulator" "minus" "Z") (List.mem_cons_of_mem _ wm1_99)
  have w3 := hts (.constantLong RAc 42 (10)) (List.mem_cons_of_mem _ wm4_31)
  have w4 := hts (.constantLong RAc 44 (1000000000)) (List.mem_cons_of_mem _ wm4_32)
  have w5 := hts (.fieldLink RAc 20 "DrumMachine$Accumulator" "overflow" "Z") (List.mem_cons_of_mem _ wm1_100)
  have i0 : ∀ w ∈ u_ws RAc TAc 4, w ∈ wsAc_divide := fun w h => List.mem_cons_of_mem _ (inAAc w h)
  have hS : va_S (c_qs q) s.heap s.heap [] := va_S.rf
  have hl := lv_entry ([.ref (q 5), .long (v), .int (bb (b))]) (n := 11) (Nat.le_of_ble_eq_true rfl)
  rw [lg_entry_eq]
  generalize (lg_sl ([.ref (q 5), .long (v), .int (bb (b))]) ++ List.replicate (11 - (lg_sl ([.ref (q 5), .long (v), .int (bb (b))])).length) Slot.unset).toArray = ls at hl ⊢
  have hl : lv_has ls 11 [(0, .ref (q 5)), (1, .long (v)), (3, .int (bb (b)))] := hl
  have hB40 : ∀ (n40 : Nat) (H : Heap) (locs : List Loc) (ls : Array Slot) (z : SC) (v4 : Int64) (v6 : Int64) (v8 : Int64) (v10 : Nat), 10 - v10 < n40 → fAc_divide z0 v b = fAc_divide_40 n40 z v b v4 v6 v8 v10 → v10 ≤ 10 → ¬ v = 0 → c_W D q cI cJ cZ z H → va_S (c_qs q) s.heap H locs → lv_has ls 11 [(0, .ref (q 5)), (1, .long (v)), (3, .int (bb (b))), (4, .long (v4)), (6, .long (v6)), (8, .long (v8)), (10, .int (nI (v10)))] → W p l e (headSpec wsAc_divide { frames := 0, cells := 0, slots := 0, locals := 0 }).room s m ([.ref (q 5), .long (v), .int (bb (b))] : List Value).toArray below meth c H locs 0 0 (MQ below (cQw (some (.int (bb ((fAc_divide z0 v b).1)))) (c_W D q cI cJ cZ (fAc_divide z0 v b).2) (c_qs q)) ([.ref (q 5), .long (v), .int (bb (b))] : List Value).toArray s 0 0 (c_qs q)) (F0 m 40 ls []) := by
    intro n40
    induction n40 with
    | zero => intro H locs ls z v4 v6 v8 v10 hn40; exact absurd hn40 (Nat.not_lt_zero _)
    | succ n40 ih40 =>
      intro H locs ls z v4 v6 v8 v10 hn40 hR h10 hw hP hS hl
      rw [fAc_divide_40.eq_2] at hR
      refine lv_iload hx hb dAc_divide_40 (lv_at hl 6 rfl) ?_
      refine lv_bipush (v := 10) hx hb dAc_divide_42 (by decide) ?_
      refine wn_ge (x := v10) (y := 10) hx hb (by omega) (by omega) dAc_divide_44 rfl (fun h44 => ?_) (fun h44 => ?_)
      · have hR := hR.trans (if_pos h44)
        refine lv_aload_n hx hb dAc_divide_99 rfl (lv_at hl 0 rfl) ?_
        refine lv_lload hx hb dAc_divide_100 (lv_at hl 3 rfl) ?_
        refine cp5_upper v4 hq hS hx hb hts i0 hown hK hP w0 dAc_divide_102 (fun H locs hP hS => ?_)
        refine lv_aload_n hx hb dAc_divide_105 rfl (lv_at hl 0 rfl) ?_
        refine lv_lload hx hb dAc_divide_106 (lv_at hl 5 rfl) ?_
        refine cp5_lower v8 hq hS hx hb hts i0 hown hK hP w1 dAc_divide_108 (fun H locs hP hS => ?_)
        refine lv_aload_n hx hb dAc_divide_111 rfl (lv_at hl 0 rfl) ?_
        refine lv_aload_n hx hb dAc_divide_112 rfl (lv_at hl 0 rfl) ?_
        refine cg5_minus hx hb hts i0 hown hK hP w2 dAc_divide_113 ?_
        refine lv_iload_n hx hb dAc_divide_116 rfl (lv_at hl 2 rfl) ?_
        refine wz_cmpeq hx hb dAc_divide_117 rfl (fun h117 => ?_) (fun h117 => ?_)
        · have hR := hR.trans (if_pos h117)
          refine lv_iconst (v := 0) hx hb dAc_divide_124 (by decide) ?_
          refine cp5_minus false hq hS hx hb hts i0 hown hK hP w2 dAc_divide_125 (fun H locs hP hS => ?_)
          refine lv_iconst (v := 1) hx hb dAc_divide_128 (by decide) ?_
          exact W.zret hx hb hr rfl (fun t ht _ => ⟨by rw [hR]; first | done | rfl, by rw [hR, ht]; exact hP, hS.F ht⟩) hS.2.2 dAc_divide_129
        · have hR := hR.trans (if_neg h117)
          refine lv_iconst (v := 1) hx hb dAc_divide_120 (by decide) ?_
          refine lv_goto hx hb dAc_divide_121 rfl ?_
          refine cp5_minus (true) hq hS hx hb hts i0 hown hK hP w2 dAc_divide_125 (fun H locs hP hS => ?_)
          refine lv_iconst (v := 1) hx hb dAc_divide_128 (by decide) ?_
          exact W.zret hx hb hr rfl (fun t ht _ => ⟨by rw [hR]; first | done | rfl, by rw [hR, ht]; exact hP, hS.F ht⟩) hS.2.2 dAc_divide_129
      · have hR := hR.trans (if_neg h44)
        refine lv_lload hx hb dAc_divide_47 (lv_at hl 3 rfl) ?_
        refine lv_ldc2 (v := 10) hx hb hown w3 dAc_divide_49 ?_
        refine lv_lmul hx hb dAc_divide_52 ?_
        refine lv_lload hx hb dAc_divide_53 (lv_at hl 4 rfl) ?_
        refine lv_ldc2 (v := 1000000000) hx hb hown w4 dAc_divide_55 ?_
        refine lv_ldiv hx hb dAc_divide_58 (by decide) ?_
        refine lv_ladd hx hb dAc_divide_59 ?_
        refine lv_lstore (lv' := [(4, .long ((v4 * 10) + (v6 / 1000000000))), (0, .ref (q 5)), (1, .long (v)), (3, .int (bb (b))), (6, .long (v6)), (8, .long (v8)), (10, .int (nI (v10)))]) hx hb dAc_divide_60 hl (by decide) rfl (fun ls hl => ?_)
        refine lv_lload hx hb dAc_divide_62 (lv_at hl 4 rfl) ?_
        refine lv_ldc2 (v := 1000000000) hx hb hown w4 dAc_divide_64 ?_
        refine lm_lrem hx hb dAc_divide_67 (by decide) ?_
        refine lv_ldc2 (v := 10) hx hb hown w3 dAc_divide_68 ?_
        refine lv_lmul hx hb dAc_divide_71 ?_
        refine lv_lstore (lv' := [(6, .long ((v6 % 1000000000) * 10)), (4, .long ((v4 * 10) + (v6 / 1000000000))), (0, .ref (q 5)), (1, .long (v)), (3, .int (bb (b))), (8, .long (v8)), (10, .int (nI (v10)))]) hx hb dAc_divide_72 hl (by decide) rfl (fun ls hl => ?_)
        refine lv_lload hx hb dAc_divide_74 (lv_at hl 5 rfl) ?_
        refine lv_ldc2 (v := 10) hx hb hown w3 dAc_divide_76 ?_
        refine lv_lmul hx hb dAc_divide_79 ?_
        refine lv_lload hx hb dAc_divide_80 (lv_at hl 1 rfl) ?_
        refine lv_lload_n hx hb dAc_divide_82 rfl (lv_at hl 3 rfl) ?_
        refine lv_ldiv hx hb dAc_divide_83 hw ?_
        refine lv_ladd hx hb dAc_divide_84 ?_
        refine lv_lstore (lv' := [(8, .long ((v8 * 10) + (((v4 * 10) + (v6 / 1000000000)) / v))), (6, .long ((v6 % 1000000000) * 10)), (4, .long ((v4 * 10) + (v6 / 1000000000))), (0, .ref (q 5)), (1, .long (v)), (3, .int (bb (b))), (10, .int (nI (v10)))]) hx hb dAc_divide_85 hl (by decide) rfl (fun ls hl => ?_)
        refine lv_lload hx hb dAc_divide_87 (lv_at hl 2 rfl) ?_
        refine lv_lload_n hx hb dAc_divide_89 rfl (lv_at hl 4 rfl) ?_
        refine lm_lrem hx hb dAc_divide_90 hw ?_
        refine lv_lstore (lv' := [(4, .long (((v4 * 10) + (v6 / 1000000000)) % v)), (8, .long ((v8 * 10) + (((v4 * 10) + (v6 / 1000000000)) / v))), (6, .long ((v6 % 1000000000) * 10)), (0, .ref (q 5)), (1, .long (v)), (3, .int (bb (b))), (10, .int (nI (v10)))]) hx hb dAc_divide_91 hl (by decide) rfl (fun ls hl => ?_)
        refine lv_iinc (k := 6) (lv' := [(10, .int (nI (v10 + 1))), (4, .long (((v4 * 10) + (v6 / 1000000000)) % v)), (8, .long ((v8 * 10) + (((v4 * 10) + (v6 / 1000000000)) / v))), (6, .long ((v6 % 1000000000) * 10)), (0, .ref (q 5)), (1, .long (v)), (3, .int (bb (b)))]) hx hb dAc_divide_93 hl rfl (nI_1 _) (by decide) rfl (fun ls hl => ?_)
        refine lv_goto hx hb dAc_divide_96 rfl ?_
        exact ih40 H locs ls z (((v4 * 10) + (v6 / 1000000000)) % v) ((v6 % 1000000000) * 10) ((v8 * 10) + (((v4 * 10) + (v6 / 1000000000)) / v)) (v10 + 1) (by omega) hR (by first | assumption | omega) (by first | assumption | omega) hP hS (lv_sub hl [4, 5, 6, 1, 3, 2, 0] rfl)
  have hR := fAc_divide.eq_1 z0 v b
  refine lv_lload_n hx hb dAc_divide_0 rfl (lv_at hl 1 rfl) ?_
  refine lv_lconst (v := 0) hx hb dAc_divide_1 (by decide) ?_
  refine lc_le hx hb dAc_divide_2 dAc_divide_3 rfl (fun h2 => ?_) (fun h2 => ?_)
  · have hR := hR.trans (if_pos h2)
    refine lv_aload_n hx hb dAc_divide_15 rfl (lv_at hl 0 rfl) ?_
    refine lv_iconst (v := 1) hx hb dAc_divide_16 (by decide) ?_
    refine cp5_overflow (true) hq hS hx hb hts i0 hown hK hP w5 dAc_divide_17 (fun H locs hP hS => ?_)
    refine lv_iconst (v := 0) hx hb dAc_divide_20 (by decide) ?_
    exact W.zret hx hb hr rfl (fun t ht _ => ⟨by rw [hR]; first | done | rfl, by rw [hR, ht]; exact hP, hS.F ht⟩) hS.2.2 dAc_divide_21
  · have hR := hR.trans (if_neg h2)
    refine lv_aload_n hx hb dAc_divide_6 rfl (lv_at hl 0 rfl) ?_
    refine cg5_upper hx hb hts i0 hown hK hP w0 dAc_divide_7 ?_
    refine lv_lload_n hx hb dAc_divide_10 rfl (lv_at hl 1 rfl) ?_
    refine lc_lt hx hb dAc_divide_11 dAc_divide_12 rfl (fun h11 => ?_) (fun h11 => ?_)
    · have hR := hR.trans (if_pos h11)
      refine lv_aload_n hx hb dAc_divide_22 rfl (lv_at hl 0 rfl) ?_
      refine cg5_upper hx hb hts i0 hown hK hP w0 dAc_divide_23 ?_
      refine lv_lstore (lv' := [(4, .long (c_upper z0)), (0, .ref (q 5)), (1, .long (v)), (3, .int (bb (b)))]) hx hb dAc_divide_26 hl (by decide) rfl (fun ls hl => ?_)
      refine lv_aload_n hx hb dAc_divide_28 rfl (lv_at hl 1 rfl) ?_
      refine cg5_lower hx hb hts i0 hown hK hP w1 dAc_divide_29 ?_
      refine lv_lstore (lv' := [(6, .long (c_lower z0)), (4, .long (c_upper z0)), (0, .ref (q 5)), (1, .long (v)), (3, .int (bb (b)))]) hx hb dAc_divide_32 hl (by decide) rfl (fun ls hl => ?_)
      refine lv_lconst (v := 0) hx hb dAc_divide_34 (by decide) ?_
      refine lv_lstore (lv' := [(8, .long (0)), (6, .long (c_lower z0)), (4, .long (c_upper z0)), (0, .ref (q 5)), (1, .long (v)), (3, .int (bb (b)))]) hx hb dAc_divide_35 hl (by decide) rfl (fun ls hl => ?_)
      refine lv_iconst (v := 0) hx hb dAc_divide_37 (by decide) ?_
      refine lv_istore (lv' := [(10, .int (nI (0))), (8, .long (0)), (6, .long (c_lower z0)), (4, .long (c_upper z0)), (0, .ref (q 5)), (1, .long (v)), (3, .int (bb (b)))]) hx hb dAc_divide_38 hl (by decide) rfl (fun ls hl => ?_)
      exact hB40 11 s.heap [] ls z0 (c_upper z0) (c_lower z0) 0 0 (by omega) hR (by first | assumption | omega) (nle_ne h2) hP hS (lv_sub hl [4, 5, 6, 3, 2, 1, 0] rfl)
    · have hR := hR.trans (if_neg h11)
      refine lv_aload_n hx hb dAc_divide_15 rfl (lv_at hl 0 rfl) ?_
      refine lv_iconst (v := 1) hx hb dAc_divide_16 (by decide) ?_
      refine cp5_overflow (true) hq hS hx hb hts i0 hown hK hP w5 dAc_divide_17 (fun H locs hP hS => ?_)
      refine lv_iconst (v := 0) hx hb dAc_divide_20 (by decide) ?_
      exact W.zret hx hb hr rfl (fun t ht _ => ⟨by rw [hR]; first | done | rfl, by rw [hR, ht]; exact hP, hS.F ht⟩) hS.2.2 dAc_divide_21
theorem dAc_shiftRight_0 : decode ccAc_shiftRight 0 = .ok (.iload_n 1, 1) := by decide +kernel
theorem dAc_shiftRight_1 : decode ccAc_shiftRight 1 = .ok (.invokestatic 46, 3) := by decide +kernel
theorem dAc_shiftRight_4 : decode ccAc_shiftRight 4 = .ok (.lstore_n 2, 1) := by decide +kernel
theorem dAc_shiftRight_5 : decode ccAc_shiftRight 5 = .ok (.aload_n 0, 1) := by decide +kernel
theorem dAc_shiftRight_6 : decode ccAc_shiftRight 6 = .ok (.getfield 7, 3) := by decide +kernel
theorem dAc_shiftRight_9 : decode ccAc_shiftRight 9 = .ok (.lload_n 2, 1) := by decide +kernel
theorem dAc_shiftRight_10 : decode ccAc_shiftRight 10 = .ok (.lrem, 1) := by decide +kernel
theorem dAc_shiftRight_11 : decode ccAc_shiftRight 11 = .ok (.lstore 4, 2) := by decide +kernel
theorem dAc_shiftRight_13 : decode ccAc_shiftRight 13 = .ok (.aload_n 0, 1) := by decide +kernel
theorem dAc_shiftRight_14 : decode ccAc_shiftRight 14 = .ok (.dup, 1) := by decide +kernel
theorem dAc_shiftRight_15 : decode ccAc_shiftRight 15 = .ok (.getfield 7, 3) := by decide +kernel
theorem dAc_shiftRight_18 : decode ccAc_shiftRight 18 = .ok (.lload_n 2, 1) := by decide +kernel
theorem dAc_shiftRight_19 : decode ccAc_shiftRight 19 = .ok (.ldiv, 1) := by decide +kernel
theorem dAc_shiftRight_20 : decode ccAc_shiftRight 20 = .ok (.putfield 7, 3) := by decide +kernel
theorem dAc_shiftRight_23 : decode ccAc_shiftRight 23 = .ok (.aload_n 0, 1) := by decide +kernel
theorem dAc_shiftRight_24 : decode ccAc_shiftRight 24 = .ok (.aload_n 0, 1) := by decide +kernel
theorem dAc_shiftRight_25 : decode ccAc_shiftRight 25 = .ok (.getfield 13, 3) := by decide +kernel
theorem dAc_shiftRight_28 : decode ccAc_shiftRight 28 = .ok (.lload_n 2, 1) := by decide +kernel
theorem dAc_shiftRight_29 : decode ccAc_shiftRight 29 = .ok (.ldiv, 1) := by decide +kernel
theorem dAc_shiftRight_30 : decode ccAc_shiftRight 30 = .ok (.lload 4, 2) := by decide +kernel
theorem dAc_shiftRight_32 : decode ccAc_shiftRight 32 = .ok (.bipush 10, 2) := by decide +kernel
theorem dAc_shiftRight_34 : decode ccAc_shiftRight 34 = .ok (.iload_n 1, 1) := by decide +kernel
theorem dAc_shiftRight_35 : decode ccAc_shiftRight 35 = .ok (.isub, 1) := by decide +kernel
theorem dAc_shiftRight_36 : decode ccAc_shiftRight 36 = .ok (.invokestatic 46, 3) := by decide +kernel
theorem dAc_shiftRight_39 : decode ccAc_shiftRight 39 = .ok (.lmul, 1) := by decide +kernel
theorem dAc_shiftRight_40 : decode ccAc_shiftRight 40 = .ok (.ladd, 1) := by decide +kernel
theorem dAc_shiftRight_41 : decode ccAc_shiftRight 41 = .ok (.putfield 13, 3) := by decide +kernel
theorem dAc_shiftRight_44 : decode ccAc_shiftRight 44 = .ok (.return_, 1) := by decide +kernel
def fAc_shiftRight_5  (z : SC) (x : Int32) (v2 : Int64) : SC :=
  c_lower_s (c_upper_s z ((c_upper z) / v2)) (((c_lower z) / v2) + (((c_upper z) % v2) * (fDg_powerOfTen (10 - x))))
def fAc_shiftRight (z0 : SC) (x : Int32) : SC :=
  fAc_shiftRight_5 z0 x (fDg_powerOfTen x)
set_option maxHeartbeats 4000000 in
set_option maxRecDepth 100000 in
theorem kAc_shiftRight (l : Launch) (D : va_G) (q : Nat → Nat) (cI cJ cZ : ClassId) (hq : c_inj q) (z0 : SC) (x : Int32)  : Met l yAc_shiftRight wsAc_shiftRight { frames := 1, cells := 0, slots := 0, locals := 23 } (va_Pc [.ref (q 5), .int (x)] (c_C D q cI cJ cZ z0)) (cQw none (c_W D q cI cJ cZ (fAc_shiftRight z0 x)) (c_qs q)) 0 0 (c_qs q) := by
  refine Met.ofW (cc := ccAc_shiftRight) (maxL := 6) (ret := none) (by decide +kernel) rfl ?_
  intro p e s m args below meth c s₁ B hml hv
  obtain ⟨rfl, hP, hK⟩ := hv
  have hx := B.exec
  have hb := B.bytes
  have hr := B.returns
  have hts := atoms_spec (ws := wsAc_shiftRight) B.pre
  have hown : s.vm.findClass RAc = some m.cls := findClass_of_methodNamed B.named
  have hlocks := B.notSynchronized
  have w0 := hts (.fieldLink RAc 7 "DrumMachine$Accumulator" "upper" "J") (List.mem_cons_of_mem _ wm1_97)
  have w1 := hts (.fieldLink RAc 13 "DrumMachine$Accumulator" "lower" "J") (List.mem_cons_of_mem _ wm1_98)
  have i0 : ∀ w ∈ u_ws RAc TAc 4, w ∈ wsAc_shiftRight := fun w h => List.mem_cons_of_mem _ (inAAc w h)
  have hS : va_S (c_qs q) s.heap s.heap [] := va_S.rf
  have hl := lv_entry ([.ref (q 5), .int (x)]) (n := 6) (Nat.le_of_ble_eq_true rfl)
  rw [lg_entry_eq]
  generalize (lg_sl ([.ref (q 5), .int (x)]) ++ List.replicate (6 - (lg_sl ([.ref (q 5), .int (x)])).length) Slot.unset).toArray = ls at hl ⊢
  have hl : lv_has ls 6 [(0, .ref (q 5)), (1, .int (x))] := hl
  have hB5 : ∀ (H : Heap) (locs : List Loc) (ls : Array Slot) (z : SC) (v2 : Int64), fAc_shiftRight z0 x = fAc_shiftRight_5 z x v2 → ¬ v2 = 0 → c_W D q cI cJ cZ z H → va_S (c_qs q) s.heap H locs → lv_has ls 6 [(0, .ref (q 5)), (1, .int (x)), (2, .long (v2))] → W p l e (headSpec wsAc_shiftRight { frames := 1, cells := 0, slots := 0, locals := 23 }).room s m ([.ref (q 5), .int (x)] : List Value).toArray below meth c H locs 0 0 (MQ below (cQw none (c_W D q cI cJ cZ (fAc_shiftRight z0 x)) (c_qs q)) ([.ref (q 5), .int (x)] : List Value).toArray s 0 0 (c_qs q)) (F0 m 5 ls []) := by
    intro H locs ls z v2 hR hv hP hS hl
    rw [fAc_shiftRight_5.eq_1] at hR
    refine lv_aload_n hx hb dAc_shiftRight_5 rfl (lv_at hl 0 rfl) ?_
    refine cg5_upper hx hb hts i0 hown hK hP w0 dAc_shiftRight_6 ?_
    refine lv_lload_n hx hb dAc_shiftRight_9 rfl (lv_at hl 2 rfl) ?_
    refine lm_lrem hx hb dAc_shiftRight_10 hv ?_
    refine lv_lstore (lv' := [(4, .long ((c_upper z) % v2)), (0, .ref (q 5)), (1, .int (x)), (2, .long (v2))]) hx hb dAc_shiftRight_11 hl (by decide) rfl (fun ls hl => ?_)
    refine lv_aload_n hx hb dAc_shiftRight_13 rfl (lv_at hl 1 rfl) ?_
    refine lv_dup hx hb dAc_shiftRight_14 rfl ?_
    refine cg5_upper hx hb hts i0 hown hK hP w0 dAc_shiftRight_15 ?_
    refine lv_lload_n hx hb dAc_shiftRight_18 rfl (lv_at hl 3 rfl) ?_
    refine lv_ldiv hx hb dAc_shiftRight_19 hv ?_
    refine cp5_upper ((c_upper z) / v2) hq hS hx hb hts i0 hown hK hP w0 dAc_shiftRight_20 (fun H locs hP hS => ?_)
    refine lv_aload_n hx hb dAc_shiftRight_23 rfl (lv_at hl 1 rfl) ?_
    refine lv_aload_n hx hb dAc_shiftRight_24 rfl (lv_at hl 1 rfl) ?_
    refine cg5_lower hx hb hts i0 hown hK hP w1 dAc_shiftRight_25 ?_
    refine lv_lload_n hx hb dAc_shiftRight_28 rfl (lv_at hl 3 rfl) ?_
    refine lv_ldiv hx hb dAc_shiftRight_29 hv ?_
    refine lv_lload hx hb dAc_shiftRight_30 (lv_at hl 0 rfl) ?_
    refine lv_bipush (v := 10) hx hb dAc_shiftRight_32 (by decide) ?_
    refine lv_iload_n hx hb dAc_shiftRight_34 rfl (lv_at hl 2 rfl) ?_
    refine lv_isub hx hb dAc_shiftRight_35 ?_
    refine cl_rd (W.runS (As := [.int ((10 - x))]) (rest := [.long ((c_upper z) % v2), .long ((c_lower z) / v2), .ref (q 5)]) ⟨hx, hb, hml, hown, hts⟩ (kDg_powerOfTen l (10 - x)) (va_cwS 1 hts (gS wm3_170 wm3_171 wm1_14 wm3_172) rfl rfl rfl (by decide +kernel) ⟨Nat.le_of_ble_eq_true rfl, Nat.le_of_ble_eq_true rfl⟩) (preT) rfl rfl hl.1 rfl (lv_room (Nat.le_of_ble_eq_true rfl)) dAc_shiftRight_36 ⟨Nat.le_refl _, Nat.le_refl _⟩) ?_
    refine lv_lmul hx hb dAc_shiftRight_39 ?_
    refine lv_ladd hx hb dAc_shiftRight_40 ?_
    refine cp5_lower (((c_lower z) / v2) + (((c_upper z) % v2) * (fDg_powerOfTen (10 - x)))) hq hS hx hb hts i0 hown hK hP w1 dAc_shiftRight_41 (fun H locs hP hS => ?_)
    exact W.vret hx hb hr (fun t ht _ => ⟨rfl, by rw [hR, ht]; exact hP, hS.F ht⟩) hS.2.2 dAc_shiftRight_44
  have hR := fAc_shiftRight.eq_1 z0 x
  refine lv_iload_n hx hb dAc_shiftRight_0 rfl (lv_at hl 1 rfl) ?_
  refine cl_rd (W.runS (As := [.int (x)]) (rest := []) ⟨hx, hb, hml, hown, hts⟩ (kDg_powerOfTen l x) (va_cwS 1 hts (gS wm3_170 wm3_171 wm1_14 wm3_172) rfl rfl rfl (by decide +kernel) ⟨Nat.le_of_ble_eq_true rfl, Nat.le_of_ble_eq_true rfl⟩) (preT) rfl rfl hl.1 rfl (lv_room (Nat.le_of_ble_eq_true rfl)) dAc_shiftRight_1 ⟨Nat.le_refl _, Nat.le_refl _⟩) ?_
  refine lv_lstore_n (lv' := [(2, .long (fDg_powerOfTen x)), (0, .ref (q 5)), (1, .int (x))]) hx hb dAc_shiftRight_4 rfl hl (by decide) rfl (fun ls hl => ?_)
  exact hB5 s.heap [] ls z0 (fDg_powerOfTen x) hR (f_pow_ne _) hP hS (lv_sub hl [1, 2, 0] rfl)
theorem dAc_shiftLeft_0 : decode ccAc_shiftLeft 0 = .ok (.iload_n 1, 1) := by decide +kernel
theorem dAc_shiftLeft_1 : decode ccAc_shiftLeft 1 = .ok (.invokestatic 46, 3) := by decide +kernel
theorem dAc_shiftLeft_4 : decode ccAc_shiftLeft 4 = .ok (.lstore_n 2, 1) := by decide +kernel
theorem dAc_shiftLeft_5 : decode ccAc_shiftLeft 5 = .ok (.bipush 10, 2) := by decide +kernel
theorem dAc_shiftLeft_7 : decode ccAc_shiftLeft 7 = .ok (.iload_n 1, 1) := by decide +kernel
theorem dAc_shiftLeft_8 : decode ccAc_shiftLeft 8 = .ok (.isub, 1) := by decide +kernel
theorem dAc_shiftLeft_9 : decode ccAc_shiftLeft 9 = .ok (.invokestatic 46, 3) := by decide +kernel
theorem dAc_shiftLeft_12 : decode ccAc_shiftLeft 12 = .ok (.lstore 4, 2) := by decide +kernel
theorem dAc_shiftLeft_14 : decode ccAc_shiftLeft 14 = .ok (.aload_n 0, 1) := by decide +kernel
theorem dAc_shiftLeft_15 : decode ccAc_shiftLeft 15 = .ok (.aload_n 0, 1) := by decide +kernel
theorem dAc_shiftLeft_16 : decode ccAc_shiftLeft 16 = .ok (.getfield 7, 3) := by decide +kernel
theorem dAc_shiftLeft_19 : decode ccAc_shiftLeft 19 = .ok (.lload 4, 2) := by decide +kernel
theorem dAc_shiftLeft_21 : decode ccAc_shiftLeft 21 = .ok (.lrem, 1) := by decide +kernel
theorem dAc_shiftLeft_22 : decode ccAc_shiftLeft 22 = .ok (.lload_n 2, 1) := by decide +kernel
theorem dAc_shiftLeft_23 : decode ccAc_shiftLeft 23 = .ok (.lmul, 1) := by decide +kernel
theorem dAc_shiftLeft_24 : decode ccAc_shiftLeft 24 = .ok (.aload_n 0, 1) := by decide +kernel
theorem dAc_shiftLeft_25 : decode ccAc_shiftLeft 25 = .ok (.getfield 13, 3) := by decide +kernel
theorem dAc_shiftLeft_28 : decode ccAc_shiftLeft 28 = .ok (.lload 4, 2) := by decide +kernel
theorem dAc_shiftLeft_30 : decode ccAc_shiftLeft 30 = .ok (.ldiv, 1) := by decide +kernel
theorem dAc_shiftLeft_31 : decode ccAc_shiftLeft 31 = .ok (.ladd, 1) := by decide +kernel
theorem dAc_shiftLeft_32 : decode ccAc_shiftLeft 32 = .ok (.putfield 7, 3) := by decide +kernel
theorem dAc_shiftLeft_35 : decode ccAc_shiftLeft 35 = .ok (.aload_n 0, 1) := by decide +kernel
theorem dAc_shiftLeft_36 : decode ccAc_shiftLeft 36 = .ok (.aload_n 0, 1) := by decide +kernel
theorem dAc_shiftLeft_37 : decode ccAc_shiftLeft 37 = .ok (.getfield 13, 3) := by decide +kernel
theorem dAc_shiftLeft_40 : decode ccAc_shiftLeft 40 = .ok (.lload 4, 2) := by decide +kernel
theorem dAc_shiftLeft_42 : decode ccAc_shiftLeft 42 = .ok (.lrem, 1) := by decide +kernel
theorem dAc_shiftLeft_43 : decode ccAc_shiftLeft 43 = .ok (.lload_n 2, 1) := by decide +kernel
theorem dAc_shiftLeft_44 : decode ccAc_shiftLeft 44 = .ok (.lmul, 1) := by decide +kernel
theorem dAc_shiftLeft_45 : decode ccAc_shiftLeft 45 = .ok (.putfield 13, 3) := by decide +kernel
theorem dAc_shiftLeft_48 : decode ccAc_shiftLeft 48 = .ok (.return_, 1) := by decide +kernel
def fAc_shiftLeft_14  (z : SC) (v2 : Int64) (v4 : Int64) : SC :=
  c_lower_s (c_upper_s z ((((c_upper z) % v4) * v2) + ((c_lower z) / v4))) (((c_lower z) % v4) * v2)
def fAc_shiftLeft (z0 : SC) (x : Int32) : SC :=
  fAc_shiftLeft_14 z0 (fDg_powerOfTen x) (fDg_powerOfTen (10 - x))
set_option maxHeartbeats 4000000 in
set_option maxRecDepth 100000 in
theorem kAc_shiftLeft (l : Launch) (D : va_G) (q : Nat → Nat) (cI cJ cZ : ClassId) (hq : c_inj q) (z0 : SC) (x : Int32)  : Met l yAc_shiftLeft wsAc_shiftLeft { frames := 1, cells := 0, slots := 0, locals := 23 } (va_Pc [.ref (q 5), .int (x)] (c_C D q cI cJ cZ z0)) (cQw none (c_W D q cI cJ cZ (fAc_shiftLeft z0 x)) (c_qs q)) 0 0 (c_qs q) := by
  refine Met.ofW (cc := ccAc_shiftLeft) (maxL := 6) (ret := none) (by decide +kernel) rfl ?_
  intro p e s m args below meth c s₁ B hml hv
  obtain ⟨rfl, hP, hK⟩ := hv
  have hx := B.exec
  have hb := B.bytes
  have hr := B.returns
  have hts := atoms_spec (ws := wsAc_shiftLeft) B.pre
  have hown : s.vm.findClass RAc = some m.cls := findClass_of_methodNamed B.named
  have hlocks := B.notSynchronized
  have w0 := hts (.fieldLink RAc 7 "DrumMachine$Accumulator" "upper" "J") (List.mem_cons_of_mem _ wm1_97)
  have w1 := hts (.fieldLink RAc 13 "DrumMachine$Accumulator" "lower" "J") (List.mem_cons_of_mem _ wm1_98)
  have i0 : ∀ w ∈ u_ws RAc TAc 4, w ∈ wsAc_shiftLeft := fun w h => List.mem_cons_of_mem _ (inAAc w h)
  have hS : va_S (c_qs q) s.heap s.heap [] := va_S.rf
  have hl := lv_entry ([.ref (q 5), .int (x)]) (n := 6) (Nat.le_of_ble_eq_true rfl)
  rw [lg_entry_eq]
  generalize (lg_sl ([.ref (q 5), .int (x)]) ++ List.replicate (6 - (lg_sl ([.ref (q 5), .int (x)])).length) Slot.unset).toArray = ls at hl ⊢
  have hl : lv_has ls 6 [(0, .ref (q 5)), (1, .int (x))] := hl
  have hB14 : ∀ (H : Heap) (locs : List Loc) (ls : Array Slot) (z : SC) (v2 : Int64) (v4 : Int64), fAc_shiftLeft z0 x = fAc_shiftLeft_14 z v2 v4 → ¬ v4 = 0 → c_W D q cI cJ cZ z H → va_S (c_qs q) s.heap H locs → lv_has ls 6 [(0, .ref (q 5)), (2, .long (v2)), (4, .long (v4))] → W p l e (headSpec wsAc_shiftLeft { frames := 1, cells := 0, slots := 0, locals := 23 }).room s m ([.ref (q 5), .int (x)] : List Value).toArray below meth c H locs 0 0 (MQ below (cQw none (c_W D q cI cJ cZ (fAc_shiftLeft z0 x)) (c_qs q)) ([.ref (q 5), .int (x)] : List Value).toArray s 0 0 (c_qs q)) (F0 m 14 ls []) := by
    intro H locs ls z v2 v4 hR hv hP hS hl
    rw [fAc_shiftLeft_14.eq_1] at hR
    refine lv_aload_n hx hb dAc_shiftLeft_14 rfl (lv_at hl 0 rfl) ?_
    refine lv_aload_n hx hb dAc_shiftLeft_15 rfl (lv_at hl 0 rfl) ?_
    refine cg5_upper hx hb hts i0 hown hK hP w0 dAc_shiftLeft_16 ?_
    refine lv_lload hx hb dAc_shiftLeft_19 (lv_at hl 2 rfl) ?_
    refine lm_lrem hx hb dAc_shiftLeft_21 hv ?_
    refine lv_lload_n hx hb dAc_shiftLeft_22 rfl (lv_at hl 1 rfl) ?_
    refine lv_lmul hx hb dAc_shiftLeft_23 ?_
    refine lv_aload_n hx hb dAc_shiftLeft_24 rfl (lv_at hl 0 rfl) ?_
    refine cg5_lower hx hb hts i0 hown hK hP w1 dAc_shiftLeft_25 ?_
    refine lv_lload hx hb dAc_shiftLeft_28 (lv_at hl 2 rfl) ?_
    refine lv_ldiv hx hb dAc_shiftLeft_30 hv ?_
    refine lv_ladd hx hb dAc_shiftLeft_31 ?_
    refine cp5_upper ((((c_upper z) % v4) * v2) + ((c_lower z) / v4)) hq hS hx hb hts i0 hown hK hP w0 dAc_shiftLeft_32 (fun H locs hP hS => ?_)
    refine lv_aload_n hx hb dAc_shiftLeft_35 rfl (lv_at hl 0 rfl) ?_
    refine lv_aload_n hx hb dAc_shiftLeft_36 rfl (lv_at hl 0 rfl) ?_
    refine cg5_lower hx hb hts i0 hown hK hP w1 dAc_shiftLeft_37 ?_
    refine lv_lload hx hb dAc_shiftLeft_40 (lv_at hl 2 rfl) ?_
    refine lm_lrem hx hb dAc_shiftLeft_42 hv ?_
    refine lv_lload_n hx hb dAc_shiftLeft_43 rfl (lv_at hl 1 rfl) ?_
    refine lv_lmul hx hb dAc_shiftLeft_44 ?_
    refine cp5_lower (((c_lower z) % v4) * v2) hq hS hx hb hts i0 hown hK hP w1 dAc_shiftLeft_45 (fun H locs hP hS => ?_)
    exact W.vret hx hb hr (fun t ht _ => ⟨rfl, by rw [hR, ht]; exact hP, hS.F ht⟩) hS.2.2 dAc_shiftLeft_48
  have hR := fAc_shiftLeft.eq_1 z0 x
  refine lv_iload_n hx hb dAc_shiftLeft_0 rfl (lv_at hl 1 rfl) ?_
  refine cl_rd (W.runS (As := [.int (x)]) (rest := []) ⟨hx, hb, hml, hown, hts⟩ (kDg_powerOfTen l x) (va_cwS 1 hts (gS wm3_170 wm3_171 wm1_14 wm3_172) rfl rfl rfl (by decide +kernel) ⟨Nat.le_of_ble_eq_true rfl, Nat.le_of_ble_eq_true rfl⟩) (preT) rfl rfl hl.1 rfl (lv_room (Nat.le_of_ble_eq_true rfl)) dAc_shiftLeft_1 ⟨Nat.le_refl _, Nat.le_refl _⟩) ?_
  refine lv_lstore_n (lv' := [(2, .long (fDg_powerOfTen x)), (0, .ref (q 5)), (1, .int (x))]) hx hb dAc_shiftLeft_4 rfl hl (by decide) rfl (fun ls hl => ?_)
  refine lv_bipush (v := 10) hx hb dAc_shiftLeft_5 (by decide) ?_
  refine lv_iload_n hx hb dAc_shiftLeft_7 rfl (lv_at hl 2 rfl) ?_
  refine lv_isub hx hb dAc_shiftLeft_8 ?_
  refine cl_rd (W.runS (As := [.int ((10 - x))]) (rest := []) ⟨hx, hb, hml, hown, hts⟩ (kDg_powerOfTen l (10 - x)) (va_cwS 1 hts (gS wm3_170 wm3_171 wm1_14 wm3_172) rfl rfl rfl (by decide +kernel) ⟨Nat.le_of_ble_eq_true rfl, Nat.le_of_ble_eq_true rfl⟩) (preT) rfl rfl hl.1 rfl (lv_room (Nat.le_of_ble_eq_true rfl)) dAc_shiftLeft_9 ⟨Nat.le_refl _, Nat.le_refl _⟩) ?_
  refine lv_lstore (lv' := [(4, .long (fDg_powerOfTen (10 - x))), (2, .long (fDg_powerOfTen x)), (0, .ref (q 5)), (1, .int (x))]) hx hb dAc_shiftLeft_12 hl (by decide) rfl (fun ls hl => ?_)
  exact hB14 s.heap [] ls z0 (fDg_powerOfTen x) (fDg_powerOfTen (10 - x)) hR (f_pow_ne _) hP hS (lv_sub hl [2, 1, 0] rfl)
theorem dAc_shiftAndRound_0 : decode ccAc_shiftAndRound 0 = .ok (.aload_n 0, 1) := by decide +kernel
theorem dAc_shiftAndRound_1 : decode ccAc_shiftAndRound 1 = .ok (.getfield 13, 3) := by decide +kernel
theorem dAc_shiftAndRound_4 : decode ccAc_shiftAndRound 4 = .ok (.iload_n 1, 1) := by decide +kernel
theorem dAc_shiftAndRound_5 : decode ccAc_shiftAndRound 5 = .ok (.iconst 1, 1) := by decide +kernel
theorem dAc_shiftAndRound_6 : decode ccAc_shiftAndRound 6 = .ok (.isub, 1) := by decide +kernel
theorem dAc_shiftAndRound_7 : decode ccAc_shiftAndRound 7 = .ok (.invokestatic 50, 3) := by decide +kernel
theorem dAc_shiftAndRound_10 : decode ccAc_shiftAndRound 10 = .ok (.istore_n 2, 1) := by decide +kernel
theorem dAc_shiftAndRound_11 : decode ccAc_shiftAndRound 11 = .ok (.aload_n 0, 1) := by decide +kernel
theorem dAc_shiftAndRound_12 : decode ccAc_shiftAndRound 12 = .ok (.iload_n 1, 1) := by decide +kernel
theorem dAc_shiftAndRound_13 : decode ccAc_shiftAndRound 13 = .ok (.invokevirtual 54, 3) := by decide +kernel
theorem dAc_shiftAndRound_16 : decode ccAc_shiftAndRound 16 = .ok (.iload_n 2, 1) := by decide +kernel
theorem dAc_shiftAndRound_17 : decode ccAc_shiftAndRound 17 = .ok (.iconst 5, 1) := by decide +kernel
theorem dAc_shiftAndRound_18 : decode ccAc_shiftAndRound 18 = .ok (.if_icmp .lt 13, 3) := by decide +kernel
theorem dAc_shiftAndRound_21 : decode ccAc_shiftAndRound 21 = .ok (.aload_n 0, 1) := by decide +kernel
theorem dAc_shiftAndRound_22 : decode ccAc_shiftAndRound 22 = .ok (.lconst 0, 1) := by decide +kernel
theorem dAc_shiftAndRound_23 : decode ccAc_shiftAndRound 23 = .ok (.lconst 1, 1) := by decide +kernel
theorem dAc_shiftAndRound_24 : decode ccAc_shiftAndRound 24 = .ok (.aload_n 0, 1) := by decide +kernel
theorem dAc_shiftAndRound_25 : decode ccAc_shiftAndRound 25 = .ok (.getfield 16, 3) := by decide +kernel
theorem dAc_shiftAndRound_28 : decode ccAc_shiftAndRound 28 = .ok (.invokevirtual 58, 3) := by decide +kernel
theorem dAc_shiftAndRound_31 : decode ccAc_shiftAndRound 31 = .ok (.return_, 1) := by decide +kernel
def fAc_shiftAndRound_11  (z : SC) (x : Int32) (v2 : Int32) : SC :=
  (if v2 < (5 : Int32) then fAc_shiftRight z x else fAc_add (fAc_shiftRight z x) 0 1 (c_amin (fAc_shiftRight z x)))
def fAc_shiftAndRound (z0 : SC) (x : Int32) : SC :=
  fAc_shiftAndRound_11 z0 x (fDg_digitAt (c_lower z0) (x - 1))
set_option maxHeartbeats 4000000 in
set_option maxRecDepth 100000 in
theorem kAc_shiftAndRound (l : Launch) (D : va_G) (q : Nat → Nat) (cI cJ cZ : ClassId) (hq : c_inj q) (z0 : SC) (x : Int32)  : Met l yAc_shiftAndRound wsAc_shiftAndRound { frames := 2, cells := 0, slots := 0, locals := 55 } (va_Pc [.ref (q 5), .int (x)] (c_C D q cI cJ cZ z0)) (cQw none (c_W D q cI cJ cZ (fAc_shiftAndRound z0 x)) (c_qs q)) 0 0 (c_qs q) := by
  refine Met.ofW (cc := ccAc_shiftAndRound) (maxL := 3) (ret := none) (by decide +kernel) rfl ?_
  intro p e s m args below meth c s₁ B hml hv
  obtain ⟨rfl, hP, hK⟩ := hv
  have hx := B.exec
  have hb := B.bytes
  have hr := B.returns
  have hts := atoms_spec (ws := wsAc_shiftAndRound) B.pre
  have hown : s.vm.findClass RAc = some m.cls := findClass_of_methodNamed B.named
  have hlocks := B.notSynchronized
  have w0 := hts (.fieldLink RAc 16 "DrumMachine$Accumulator" "minus" "Z") (List.mem_cons_of_mem _ wm1_99)
  have w1 := hts (.fieldLink RAc 13 "DrumMachine$Accumulator" "lower" "J") (List.mem_cons_of_mem _ wm1_98)
  have i0 : ∀ w ∈ u_ws RAc TAc 4, w ∈ wsAc_shiftAndRound := fun w h => List.mem_cons_of_mem _ (inAAc w h)
  have hS : va_S (c_qs q) s.heap s.heap [] := va_S.rf
  have hl := lv_entry ([.ref (q 5), .int (x)]) (n := 3) (Nat.le_of_ble_eq_true rfl)
  rw [lg_entry_eq]
  generalize (lg_sl ([.ref (q 5), .int (x)]) ++ List.replicate (3 - (lg_sl ([.ref (q 5), .int (x)])).length) Slot.unset).toArray = ls at hl ⊢
  have hl : lv_has ls 3 [(0, .ref (q 5)), (1, .int (x))] := hl
  have hB11 : ∀ (H : Heap) (locs : List Loc) (ls : Array Slot) (z : SC) (v2 : Int32), fAc_shiftAndRound z0 x = fAc_shiftAndRound_11 z x v2 → c_W D q cI cJ cZ z H → va_S (c_qs q) s.heap H locs → lv_has ls 3 [(0, .ref (q 5)), (1, .int (x)), (2, .int (v2))] → W p l e (headSpec wsAc_shiftAndRound { frames := 2, cells := 0, slots := 0, locals := 55 }).room s m ([.ref (q 5), .int (x)] : List Value).toArray below meth c H locs 0 0 (MQ below (cQw none (c_W D q cI cJ cZ (fAc_shiftAndRound z0 x)) (c_qs q)) ([.ref (q 5), .int (x)] : List Value).toArray s 0 0 (c_qs q)) (F0 m 11 ls []) := by
    intro H locs ls z v2 hR hP hS hl
    rw [fAc_shiftAndRound_11.eq_1] at hR
    refine lv_aload_n hx hb dAc_shiftAndRound_11 rfl (lv_at hl 0 rfl) ?_
    refine lv_iload_n hx hb dAc_shiftAndRound_12 rfl (lv_at hl 1 rfl) ?_
    refine cl_wr (W.runV (As := [.int (x)]) (rest := []) ⟨hx, hb, hml, hown, hts⟩ (kAc_shiftRight l D q cI cJ cZ hq z x) (cwV 1 hts (gV wm3_186 wm3_175 wm3_176 wm1_7 wm3_177) rfl rfl rfl (by decide +kernel) ⟨Nat.le_of_ble_eq_true rfl, Nat.le_of_ble_eq_true rfl⟩) (c_preV5 hK hP) rfl rfl hl.1 rfl (lv_room (Nat.le_of_ble_eq_true rfl)) dAc_shiftAndRound_13 ⟨Nat.le_refl _, Nat.le_refl _⟩) hS (fun _ h => h) (fun _ h => h) (fun H locs hP hS => ?_)
    refine lv_iload_n hx hb dAc_shiftAndRound_16 rfl (lv_at hl 2 rfl) ?_
    refine lv_iconst (v := 5) hx hb dAc_shiftAndRound_17 (by decide) ?_
    refine lv_icmp_lt hx hb dAc_shiftAndRound_18 rfl (fun h18 => ?_) (fun h18 => ?_)
    · have hR := hR.trans (if_pos h18)
      exact W.vret hx hb hr (fun t ht _ => ⟨rfl, by rw [hR, ht]; exact hP, hS.F ht⟩) hS.2.2 dAc_shiftAndRound_31
    · have hR := hR.trans (if_neg h18)
      refine lv_aload_n hx hb dAc_shiftAndRound_21 rfl (lv_at hl 0 rfl) ?_
      refine lv_lconst (v := 0) hx hb dAc_shiftAndRound_22 (by decide) ?_
      refine lv_lconst (v := 1) hx hb dAc_shiftAndRound_23 (by decide) ?_
      refine lv_aload_n hx hb dAc_shiftAndRound_24 rfl (lv_at hl 0 rfl) ?_
      refine cg5_minus hx hb hts i0 hown hK hP w0 dAc_shiftAndRound_25 ?_
      refine cl_wr (W.runV (As := [.long (0), .long (1), .int (bb ((c_amin (fAc_shiftRight z x))))]) (rest := []) ⟨hx, hb, hml, hown, hts⟩ (kAc_add l D q cI cJ cZ hq (fAc_shiftRight z x) 0 1 (c_amin (fAc_shiftRight z x))) (cwV 3 hts (gV wm3_187 wm3_188 wm3_189 wm1_7 wm3_190) rfl rfl rfl (by decide +kernel) ⟨Nat.le_of_ble_eq_true rfl, Nat.le_of_ble_eq_true rfl⟩) (c_preV5 hK hP) rfl rfl hl.1 rfl (lv_room (Nat.le_of_ble_eq_true rfl)) dAc_shiftAndRound_28 ⟨Nat.le_refl _, Nat.le_refl _⟩) hS (fun _ h => h) (fun _ h => h) (fun H locs hP hS => ?_)
      exact W.vret hx hb hr (fun t ht _ => ⟨rfl, by rw [hR, ht]; exact hP, hS.F ht⟩) hS.2.2 dAc_shiftAndRound_31
  have hR := fAc_shiftAndRound.eq_1 z0 x
  refine lv_aload_n hx hb dAc_shiftAndRound_0 rfl (lv_at hl 0 rfl) ?_
  refine cg5_lower hx hb hts i0 hown hK hP w1 dAc_shiftAndRound_1 ?_
  refine lv_iload_n hx hb dAc_shiftAndRound_4 rfl (lv_at hl 1 rfl) ?_
  refine lv_iconst (v := 1) hx hb dAc_shiftAndRound_5 (by decide) ?_
  refine lv_isub hx hb dAc_shiftAndRound_6 ?_
  refine cl_rd (W.runS (As := [.long ((c_lower z0)), .int ((x - 1))]) (rest := []) ⟨hx, hb, hml, hown, hts⟩ (kDg_digitAt l (c_lower z0) (x - 1)) (va_cwS 2 hts (gS wm3_182 wm3_183 wm1_14 wm3_184) rfl rfl rfl (by decide +kernel) ⟨Nat.le_of_ble_eq_true rfl, Nat.le_of_ble_eq_true rfl⟩) (preT) rfl rfl hl.1 rfl (lv_room (Nat.le_of_ble_eq_true rfl)) dAc_shiftAndRound_7 ⟨Nat.le_refl _, Nat.le_refl _⟩) ?_
  refine lv_istore_n (lv' := [(2, .int (fDg_digitAt (c_lower z0) (x - 1))), (0, .ref (q 5)), (1, .int (x))]) hx hb dAc_shiftAndRound_10 rfl hl (by decide) rfl (fun ls hl => ?_)
  exact hB11 s.heap [] ls z0 (fDg_digitAt (c_lower z0) (x - 1)) hR hP hS (lv_sub hl [1, 2, 0] rfl)
end
section
theorem dPr_stopCause_0 : decode ccPr_stopCause 0 = .ok (.aload_n 0, 1) := by decide +kernel
theorem dPr_stopCause_1 : decode ccPr_stopCause 1 = .ok (.getfield 28, 3) := by decide +kernel
theorem dPr_stopCause_4 : decode ccPr_stopCause 4 = .ok (.ireturn, 1) := by decide +kernel
def fPr_stopCause (z0 : SC)  : Int32 :=
  c_cause z0
set_option maxHeartbeats 4000000 in
set_option maxRecDepth 100000 in
theorem kPr_stopCause (l : Launch) (D : va_G) (q : Nat → Nat) (cI cJ cZ : ClassId) (hq : c_inj q) (z0 : SC)   : Met l yPr_stopCause wsPr_stopCause { frames := 0, cells := 0, slots := 0, locals := 0 } (va_Pc [.ref (q 4)] (c_C D q cI cJ cZ z0)) (cQr (some (.int (fPr_stopCause z0)))) 0 0 (fun _ => False) := by
  refine Met.ofW (cc := ccPr_stopCause) (maxL := 1) (ret := (some .int)) (by decide +kernel) rfl ?_
  intro p e s m args below meth c s₁ B hml hv
  obtain ⟨rfl, hP, hK⟩ := hv
  have hx := B.exec
  have hb := B.bytes
  have hr := B.returns
  have hts := atoms_spec (ws := wsPr_stopCause) B.pre
  have hown : s.vm.findClass RPr = some m.cls := findClass_of_methodNamed B.named
  have hlocks := B.notSynchronized
  have w0 := hts (.fieldLink RPr 28 "DrumMachine$Processor" "cause" "I") (List.mem_cons_of_mem _ wm1_117)
  have i0 : ∀ w ∈ u_ws RPr TPr 9, w ∈ wsPr_stopCause := fun w h => List.mem_cons_of_mem _ (inAPr w h)
  have hl := lv_entry ([.ref (q 4)]) (n := 1) (Nat.le_of_ble_eq_true rfl)
  rw [lg_entry_eq]
  generalize (lg_sl ([.ref (q 4)]) ++ List.replicate (1 - (lg_sl ([.ref (q 4)])).length) Slot.unset).toArray = ls at hl ⊢
  have hl : lv_has ls 1 [(0, .ref (q 4))] := hl
  have hR := fPr_stopCause.eq_1 z0
  refine lv_aload_n hx hb dPr_stopCause_0 rfl (lv_at hl 0 rfl) ?_
  refine cg4_cause hx hb hts i0 hown hK hP w0 dPr_stopCause_1 ?_
  exact W.iret hx hb hr (fun t ht _ => ⟨by rw [hR]; first | done | rfl, ht⟩) (fun _ h => absurd h List.not_mem_nil) dPr_stopCause_4
theorem dPr_isStopped_0 : decode ccPr_isStopped 0 = .ok (.aload_n 0, 1) := by decide +kernel
theorem dPr_isStopped_1 : decode ccPr_isStopped 1 = .ok (.getfield 28, 3) := by decide +kernel
theorem dPr_isStopped_4 : decode ccPr_isStopped 4 = .ok (.iconst (-1), 1) := by decide +kernel
theorem dPr_isStopped_5 : decode ccPr_isStopped 5 = .ok (.if_icmp .eq 7, 3) := by decide +kernel
theorem dPr_isStopped_8 : decode ccPr_isStopped 8 = .ok (.iconst 1, 1) := by decide +kernel
theorem dPr_isStopped_9 : decode ccPr_isStopped 9 = .ok (.goto 4, 3) := by decide +kernel
theorem dPr_isStopped_12 : decode ccPr_isStopped 12 = .ok (.iconst 0, 1) := by decide +kernel
theorem dPr_isStopped_13 : decode ccPr_isStopped 13 = .ok (.ireturn, 1) := by decide +kernel
def fPr_isStopped (z0 : SC)  : Bool :=
  (if (c_cause z0) = ((-1) : Int32) then false else true)
set_option maxHeartbeats 4000000 in
set_option maxRecDepth 100000 in
theorem kPr_isStopped (l : Launch) (D : va_G) (q : Nat → Nat) (cI cJ cZ : ClassId) (hq : c_inj q) (z0 : SC)   : Met l yPr_isStopped wsPr_isStopped { frames := 0, cells := 0, slots := 0, locals := 0 } (va_Pc [.ref (q 4)] (c_C D q cI cJ cZ z0)) (cQr (some (.int (bb (fPr_isStopped z0))))) 0 0 (fun _ => False) := by
  refine Met.ofW (cc := ccPr_isStopped) (maxL := 1) (ret := (some .boolean)) (by decide +kernel) rfl ?_
  intro p e s m args below meth c s₁ B hml hv
  obtain ⟨rfl, hP, hK⟩ := hv
  have hx := B.exec
  have hb := B.bytes
  have hr := B.returns
  have hts := atoms_spec (ws := wsPr_isStopped) B.pre
  have hown : s.vm.findClass RPr = some m.cls := findClass_of_methodNamed B.named
  have hlocks := B.notSynchronized
  have w0 := hts (.fieldLink RPr 28 "DrumMachine$Processor" "cause" "I") (List.mem_cons_of_mem _ wm1_117)
  have i0 : ∀ w ∈ u_ws RPr TPr 9, w ∈ wsPr_isStopped := fun w h => List.mem_cons_of_mem _ (inAPr w h)
  have hl := lv_entry ([.ref (q 4)]) (n := 1) (Nat.le_of_ble_eq_true rfl)
  rw [lg_entry_eq]
  generalize (lg_sl ([.ref (q 4)]) ++ List.replicate (1 - (lg_sl ([.ref (q 4)])).length) Slot.unset).toArray = ls at hl ⊢
  have hl : lv_has ls 1 [(0, .ref (q 4))] := hl
  have hR := fPr_isStopped.eq_1 z0
  refine lv_aload_n hx hb dPr_isStopped_0 rfl (lv_at hl 0 rfl) ?_
  refine cg4_cause hx hb hts i0 hown hK hP w0 dPr_isStopped_1 ?_
  refine lv_iconst (v := (-1)) hx hb dPr_isStopped_4 (by decide) ?_
  refine lv_icmp_eq hx hb dPr_isStopped_5 rfl (fun h5 => ?_) (fun h5 => ?_)
  · have hR := hR.trans (if_pos h5)
    refine lv_iconst (v := 0) hx hb dPr_isStopped_12 (by decide) ?_
    exact W.zret hx hb hr rfl (fun t ht _ => ⟨by rw [hR]; first | done | rfl, ht⟩) (fun _ h => absurd h List.not_mem_nil) dPr_isStopped_13
  · have hR := hR.trans (if_neg h5)
    refine lv_iconst (v := 1) hx hb dPr_isStopped_8 (by decide) ?_
    refine lv_goto hx hb dPr_isStopped_9 rfl ?_
    exact W.zret hx hb hr rfl (fun t ht _ => ⟨by rw [hR]; first | done | rfl, ht⟩) (fun _ h => absurd h List.not_mem_nil) dPr_isStopped_13
theorem dPr_wordTimes_0 : decode ccPr_wordTimes 0 = .ok (.aload_n 0, 1) := by decide +kernel
theorem dPr_wordTimes_1 : decode ccPr_wordTimes 1 = .ok (.getfield 32, 3) := by decide +kernel
theorem dPr_wordTimes_4 : decode ccPr_wordTimes 4 = .ok (.lreturn, 1) := by decide +kernel
def fPr_wordTimes (z0 : SC)  : Int64 :=
  c_time z0
set_option maxHeartbeats 4000000 in
set_option maxRecDepth 100000 in
theorem kPr_wordTimes (l : Launch) (D : va_G) (q : Nat → Nat) (cI cJ cZ : ClassId) (hq : c_inj q) (z0 : SC)   : Met l yPr_wordTimes wsPr_wordTimes { frames := 0, cells := 0, slots := 0, locals := 0 } (va_Pc [.ref (q 4)] (c_C D q cI cJ cZ z0)) (cQr (some (.long (fPr_wordTimes z0)))) 0 0 (fun _ => False) := by
  refine Met.ofW (cc := ccPr_wordTimes) (maxL := 1) (ret := (some .long)) (by decide +kernel) rfl ?_
  intro p e s m args below meth c s₁ B hml hv
  obtain ⟨rfl, hP, hK⟩ := hv
  have hx := B.exec
  have hb := B.bytes
  have hr := B.returns
  have hts := atoms_spec (ws := wsPr_wordTimes) B.pre
  have hown : s.vm.findClass RPr = some m.cls := findClass_of_methodNamed B.named
  have hlocks := B.notSynchronized
  have w0 := hts (.fieldLink RPr 32 "DrumMachine$Processor" "time" "J") (List.mem_cons_of_mem _ wm1_118)
  have i0 : ∀ w ∈ u_ws RPr TPr 9, w ∈ wsPr_wordTimes := fun w h => List.mem_cons_of_mem _ (inAPr w h)
  have hl := lv_entry ([.ref (q 4)]) (n := 1) (Nat.le_of_ble_eq_true rfl)
  rw [lg_entry_eq]
  generalize (lg_sl ([.ref (q 4)]) ++ List.replicate (1 - (lg_sl ([.ref (q 4)])).length) Slot.unset).toArray = ls at hl ⊢
  have hl : lv_has ls 1 [(0, .ref (q 4))] := hl
  have hR := fPr_wordTimes.eq_1 z0
  refine lv_aload_n hx hb dPr_wordTimes_0 rfl (lv_at hl 0 rfl) ?_
  refine cg4_time hx hb hts i0 hown hK hP w0 dPr_wordTimes_1 ?_
  exact W.lret hx hb hr (fun t ht _ => ⟨by rw [hR]; first | done | rfl, ht⟩) (fun _ h => absurd h List.not_mem_nil) dPr_wordTimes_4
theorem dPr_nextAddress_0 : decode ccPr_nextAddress 0 = .ok (.aload_n 0, 1) := by decide +kernel
theorem dPr_nextAddress_1 : decode ccPr_nextAddress 1 = .ok (.getfield 36, 3) := by decide +kernel
theorem dPr_nextAddress_4 : decode ccPr_nextAddress 4 = .ok (.ireturn, 1) := by decide +kernel
def fPr_nextAddress (z0 : SC)  : Int32 :=
  c_nxt z0
set_option maxHeartbeats 4000000 in
set_option maxRecDepth 100000 in
theorem kPr_nextAddress (l : Launch) (D : va_G) (q : Nat → Nat) (cI cJ cZ : ClassId) (hq : c_inj q) (z0 : SC)   : Met l yPr_nextAddress wsPr_nextAddress { frames := 0, cells := 0, slots := 0, locals := 0 } (va_Pc [.ref (q 4)] (c_C D q cI cJ cZ z0)) (cQr (some (.int (fPr_nextAddress z0)))) 0 0 (fun _ => False) := by
  refine Met.ofW (cc := ccPr_nextAddress) (maxL := 1) (ret := (some .int)) (by decide +kernel) rfl ?_
  intro p e s m args below meth c s₁ B hml hv
  obtain ⟨rfl, hP, hK⟩ := hv
  have hx := B.exec
  have hb := B.bytes
  have hr := B.returns
  have hts := atoms_spec (ws := wsPr_nextAddress) B.pre
  have hown : s.vm.findClass RPr = some m.cls := findClass_of_methodNamed B.named
  have hlocks := B.notSynchronized
  have w0 := hts (.fieldLink RPr 36 "DrumMachine$Processor" "next" "I") (List.mem_cons_of_mem _ wm1_116)
  have i0 : ∀ w ∈ u_ws RPr TPr 9, w ∈ wsPr_nextAddress := fun w h => List.mem_cons_of_mem _ (inAPr w h)
  have hl := lv_entry ([.ref (q 4)]) (n := 1) (Nat.le_of_ble_eq_true rfl)
  rw [lg_entry_eq]
  generalize (lg_sl ([.ref (q 4)]) ++ List.replicate (1 - (lg_sl ([.ref (q 4)])).length) Slot.unset).toArray = ls at hl ⊢
  have hl : lv_has ls 1 [(0, .ref (q 4))] := hl
  have hR := fPr_nextAddress.eq_1 z0
  refine lv_aload_n hx hb dPr_nextAddress_0 rfl (lv_at hl 0 rfl) ?_
  refine cg4_next hx hb hts i0 hown hK hP w0 dPr_nextAddress_1 ?_
  exact W.iret hx hb hr (fun t ht _ => ⟨by rw [hR]; first | done | rfl, ht⟩) (fun _ h => absurd h List.not_mem_nil) dPr_nextAddress_4
theorem dPr_upperDigits_0 : decode ccPr_upperDigits 0 = .ok (.aload_n 0, 1) := by decide +kernel
theorem dPr_upperDigits_1 : decode ccPr_upperDigits 1 = .ok (.getfield 24, 3) := by decide +kernel
theorem dPr_upperDigits_4 : decode ccPr_upperDigits 4 = .ok (.invokevirtual 39, 3) := by decide +kernel
theorem dPr_upperDigits_7 : decode ccPr_upperDigits 7 = .ok (.lreturn, 1) := by decide +kernel
def fPr_upperDigits (z0 : SC)  : Int64 :=
  fAc_upperDigits z0
set_option maxHeartbeats 4000000 in
set_option maxRecDepth 100000 in
theorem kPr_upperDigits (l : Launch) (D : va_G) (q : Nat → Nat) (cI cJ cZ : ClassId) (hq : c_inj q) (z0 : SC)   : Met l yPr_upperDigits wsPr_upperDigits { frames := 1, cells := 0, slots := 0, locals := 20 } (va_Pc [.ref (q 4)] (c_C D q cI cJ cZ z0)) (cQr (some (.long (fPr_upperDigits z0)))) 0 0 (fun _ => False) := by
  refine Met.ofW (cc := ccPr_upperDigits) (maxL := 1) (ret := (some .long)) (by decide +kernel) rfl ?_
  intro p e s m args below meth c s₁ B hml hv
  obtain ⟨rfl, hP, hK⟩ := hv
  have hx := B.exec
  have hb := B.bytes
  have hr := B.returns
  have hts := atoms_spec (ws := wsPr_upperDigits) B.pre
  have hown : s.vm.findClass RPr = some m.cls := findClass_of_methodNamed B.named
  have hlocks := B.notSynchronized
  have w0 := hts (.fieldLink RPr 24 "DrumMachine$Processor" "accumulator" "LDrumMachine$Accumulator;") (List.mem_cons_of_mem _ wm1_113)
  have i0 : ∀ w ∈ u_ws RPr TPr 9, w ∈ wsPr_upperDigits := fun w h => List.mem_cons_of_mem _ (inAPr w h)
  have hl := lv_entry ([.ref (q 4)]) (n := 1) (Nat.le_of_ble_eq_true rfl)
  rw [lg_entry_eq]
  generalize (lg_sl ([.ref (q 4)]) ++ List.replicate (1 - (lg_sl ([.ref (q 4)])).length) Slot.unset).toArray = ls at hl ⊢
  have hl : lv_has ls 1 [(0, .ref (q 4))] := hl
  have hR := fPr_upperDigits.eq_1 z0
  refine lv_aload_n hx hb dPr_upperDigits_0 rfl (lv_at hl 0 rfl) ?_
  refine cg4_accumulator hx hb hts i0 hown hK hP w0 dPr_upperDigits_1 ?_
  refine cl_rd (W.runV (As := []) (rest := []) ⟨hx, hb, hml, hown, hts⟩ (kAc_upperDigits l D q cI cJ cZ hq z0) (cwV 0 hts (gV wm3_239 wm4_0 wm4_1 wm1_7 wm4_2) rfl rfl rfl (by decide +kernel) ⟨Nat.le_of_ble_eq_true rfl, Nat.le_of_ble_eq_true rfl⟩) (c_preV5 hK hP) rfl rfl hl.1 rfl (lv_room (Nat.le_of_ble_eq_true rfl)) dPr_upperDigits_4 ⟨Nat.le_refl _, Nat.le_refl _⟩) ?_
  exact W.lret hx hb hr (fun t ht _ => ⟨by rw [hR]; first | done | rfl, ht⟩) (fun _ h => absurd h List.not_mem_nil) dPr_upperDigits_7
theorem dPr_lowerDigits_0 : decode ccPr_lowerDigits 0 = .ok (.aload_n 0, 1) := by decide +kernel
theorem dPr_lowerDigits_1 : decode ccPr_lowerDigits 1 = .ok (.getfield 24, 3) := by decide +kernel
theorem dPr_lowerDigits_4 : decode ccPr_lowerDigits 4 = .ok (.invokevirtual 43, 3) := by decide +kernel
theorem dPr_lowerDigits_7 : decode ccPr_lowerDigits 7 = .ok (.lreturn, 1) := by decide +kernel
def fPr_lowerDigits (z0 : SC)  : Int64 :=
  fAc_lowerDigits z0
set_option maxHeartbeats 4000000 in
set_option maxRecDepth 100000 in
theorem kPr_lowerDigits (l : Launch) (D : va_G) (q : Nat → Nat) (cI cJ cZ : ClassId) (hq : c_inj q) (z0 : SC)   : Met l yPr_lowerDigits wsPr_lowerDigits { frames := 1, cells := 0, slots := 0, locals := 20 } (va_Pc [.ref (q 4)] (c_C D q cI cJ cZ z0)) (cQr (some (.long (fPr_lowerDigits z0)))) 0 0 (fun _ => False) := by
  refine Met.ofW (cc := ccPr_lowerDigits) (maxL := 1) (ret := (some .long)) (by decide +kernel) rfl ?_
  intro p e s m args below meth c s₁ B hml hv
  obtain ⟨rfl, hP, hK⟩ := hv
  have hx := B.exec
  have hb := B.bytes
  have hr := B.returns
  have hts := atoms_spec (ws := wsPr_lowerDigits) B.pre
  have hown : s.vm.findClass RPr = some m.cls := findClass_of_methodNamed B.named
  have hlocks := B.notSynchronized
  have w0 := hts (.fieldLink RPr 24 "DrumMachine$Processor" "accumulator" "LDrumMachine$Accumulator;") (List.mem_cons_of_mem _ wm1_113)
  have i0 : ∀ w ∈ u_ws RPr TPr 9, w ∈ wsPr_lowerDigits := fun w h => List.mem_cons_of_mem _ (inAPr w h)
  have hl := lv_entry ([.ref (q 4)]) (n := 1) (Nat.le_of_ble_eq_true rfl)
  rw [lg_entry_eq]
  generalize (lg_sl ([.ref (q 4)]) ++ List.replicate (1 - (lg_sl ([.ref (q 4)])).length) Slot.unset).toArray = ls at hl ⊢
  have hl : lv_has ls 1 [(0, .ref (q 4))] := hl
  have hR := fPr_lowerDigits.eq_1 z0
  refine lv_aload_n hx hb dPr_lowerDigits_0 rfl (lv_at hl 0 rfl) ?_
  refine cg4_accumulator hx hb hts i0 hown hK hP w0 dPr_lowerDigits_1 ?_
  refine cl_rd (W.runV (As := []) (rest := []) ⟨hx, hb, hml, hown, hts⟩ (kAc_lowerDigits l D q cI cJ cZ hq z0) (cwV 0 hts (gV wm3_227 wm3_228 wm3_229 wm1_7 wm3_230) rfl rfl rfl (by decide +kernel) ⟨Nat.le_of_ble_eq_true rfl, Nat.le_of_ble_eq_true rfl⟩) (c_preV5 hK hP) rfl rfl hl.1 rfl (lv_room (Nat.le_of_ble_eq_true rfl)) dPr_lowerDigits_4 ⟨Nat.le_refl _, Nat.le_refl _⟩) ?_
  exact W.lret hx hb hr (fun t ht _ => ⟨by rw [hR]; first | done | rfl, ht⟩) (fun _ h => absurd h List.not_mem_nil) dPr_lowerDigits_7
theorem dPr_distributorDigits_0 : decode ccPr_distributorDigits 0 = .ok (.aload_n 0, 1) := by decide +kernel
theorem dPr_distributorDigits_1 : decode ccPr_distributorDigits 1 = .ok (.getfield 46, 3) := by decide +kernel
theorem dPr_distributorDigits_4 : decode ccPr_distributorDigits 4 = .ok (.lreturn, 1) := by decide +kernel
def fPr_distributorDigits (z0 : SC)  : Int64 :=
  c_dist z0
set_option maxHeartbeats 4000000 in
set_option maxRecDepth 100000 in
theorem kPr_distributorDigits (l : Launch) (D : va_G) (q : Nat → Nat) (cI cJ cZ : ClassId) (hq : c_inj q) (z0 : SC)   : Met l yPr_distributorDigits wsPr_distributorDigits { frames := 0, cells := 0, slots := 0, locals := 0 } (va_Pc [.ref (q 4)] (c_C D q cI cJ cZ z0)) (cQr (some (.long (fPr_distributorDigits z0)))) 0 0 (fun _ => False) := by
  refine Met.ofW (cc := ccPr_distributorDigits) (maxL := 1) (ret := (some .long)) (by decide +kernel) rfl ?_
  intro p e s m args below meth c s₁ B hml hv
  obtain ⟨rfl, hP, hK⟩ := hv
  have hx := B.exec
  have hb := B.bytes
  have hr := B.returns
  have hts := atoms_spec (ws := wsPr_distributorDigits) B.pre
  have hown : s.vm.findClass RPr = some m.cls := findClass_of_methodNamed B.named
  have hlocks := B.notSynchronized
  have w0 := hts (.fieldLink RPr 46 "DrumMachine$Processor" "distributor" "J") (List.mem_cons_of_mem _ wm1_114)
  have i0 : ∀ w ∈ u_ws RPr TPr 9, w ∈ wsPr_distributorDigits := fun w h => List.mem_cons_of_mem _ (inAPr w h)
  have hl := lv_entry ([.ref (q 4)]) (n := 1) (Nat.le_of_ble_eq_true rfl)
  rw [lg_entry_eq]
  generalize (lg_sl ([.ref (q 4)]) ++ List.replicate (1 - (lg_sl ([.ref (q 4)])).length) Slot.unset).toArray = ls at hl ⊢
  have hl : lv_has ls 1 [(0, .ref (q 4))] := hl
  have hR := fPr_distributorDigits.eq_1 z0
  refine lv_aload_n hx hb dPr_distributorDigits_0 rfl (lv_at hl 0 rfl) ?_
  refine cg4_distributor hx hb hts i0 hown hK hP w0 dPr_distributorDigits_1 ?_
  exact W.lret hx hb hr (fun t ht _ => ⟨by rw [hR]; first | done | rfl, ht⟩) (fun _ h => absurd h List.not_mem_nil) dPr_distributorDigits_4
theorem dPr_accumulatorIsMinus_0 : decode ccPr_accumulatorIsMinus 0 = .ok (.aload_n 0, 1) := by decide +kernel
theorem dPr_accumulatorIsMinus_1 : decode ccPr_accumulatorIsMinus 1 = .ok (.getfield 24, 3) := by decide +kernel
theorem dPr_accumulatorIsMinus_4 : decode ccPr_accumulatorIsMinus 4 = .ok (.invokevirtual 49, 3) := by decide +kernel
theorem dPr_accumulatorIsMinus_7 : decode ccPr_accumulatorIsMinus 7 = .ok (.ireturn, 1) := by decide +kernel
def fPr_accumulatorIsMinus (z0 : SC)  : Bool :=
  fAc_isMinus z0
set_option maxHeartbeats 4000000 in
set_option maxRecDepth 100000 in
theorem kPr_accumulatorIsMinus (l : Launch) (D : va_G) (q : Nat → Nat) (cI cJ cZ : ClassId) (hq : c_inj q) (z0 : SC)   : Met l yPr_accumulatorIsMinus wsPr_accumulatorIsMinus { frames := 1, cells := 0, slots := 0, locals := 20 } (va_Pc [.ref (q 4)] (c_C D q cI cJ cZ z0)) (cQr (some (.int (bb (fPr_accumulatorIsMinus z0))))) 0 0 (fun _ => False) := by
  refine Met.ofW (cc := ccPr_accumulatorIsMinus) (maxL := 1) (ret := (some .boolean)) (by decide +kernel) rfl ?_
  intro p e s m args below meth c s₁ B hml hv
  obtain ⟨rfl, hP, hK⟩ := hv
  have hx := B.exec
  have hb := B.bytes
  have hr := B.returns
  have hts := atoms_spec (ws := wsPr_accumulatorIsMinus) B.pre
  have hown : s.vm.findClass RPr = some m.cls := findClass_of_methodNamed B.named
  have hlocks := B.notSynchronized
  have w0 := hts (.fieldLink RPr 24 "DrumMachine$Processor" "accumulator" "LDrumMachine$Accumulator;") (List.mem_cons_of_mem _ wm1_113)
  have i0 : ∀ w ∈ u_ws RPr TPr 9, w ∈ wsPr_accumulatorIsMinus := fun w h => List.mem_cons_of_mem _ (inAPr w h)
  have hl := lv_entry ([.ref (q 4)]) (n := 1) (Nat.le_of_ble_eq_true rfl)
  rw [lg_entry_eq]
  generalize (lg_sl ([.ref (q 4)]) ++ List.replicate (1 - (lg_sl ([.ref (q 4)])).length) Slot.unset).toArray = ls at hl ⊢
  have hl : lv_has ls 1 [(0, .ref (q 4))] := hl
  have hR := fPr_accumulatorIsMinus.eq_1 z0
  refine lv_aload_n hx hb dPr_accumulatorIsMinus_0 rfl (lv_at hl 0 rfl) ?_
  refine cg4_accumulator hx hb hts i0 hown hK hP w0 dPr_accumulatorIsMinus_1 ?_
  refine cl_rd (W.runV (As := []) (rest := []) ⟨hx, hb, hml, hown, hts⟩ (kAc_isMinus l D q cI cJ cZ hq z0) (cwV 0 hts (gV wm3_231 wm3_232 wm3_233 wm1_7 wm3_234) rfl rfl rfl (by decide +kernel) ⟨Nat.le_of_ble_eq_true rfl, Nat.le_of_ble_eq_true rfl⟩) (c_preV5 hK hP) rfl rfl hl.1 rfl (lv_room (Nat.le_of_ble_eq_true rfl)) dPr_accumulatorIsMinus_4 ⟨Nat.le_refl _, Nat.le_refl _⟩) ?_
  exact W.zret hx hb hr (nz_b _) (fun t ht _ => ⟨by rw [hR]; first | done | rfl, ht⟩) (fun _ h => absurd h List.not_mem_nil) dPr_accumulatorIsMinus_7
theorem dPr_distributorIsMinus_0 : decode ccPr_distributorIsMinus 0 = .ok (.aload_n 0, 1) := by decide +kernel
theorem dPr_distributorIsMinus_1 : decode ccPr_distributorIsMinus 1 = .ok (.getfield 53, 3) := by decide +kernel
theorem dPr_distributorIsMinus_4 : decode ccPr_distributorIsMinus 4 = .ok (.ireturn, 1) := by decide +kernel
def fPr_distributorIsMinus (z0 : SC)  : Bool :=
  c_distm z0
set_option maxHeartbeats 4000000 in
set_option maxRecDepth 100000 in
theorem kPr_distributorIsMinus (l : Launch) (D : va_G) (q : Nat → Nat) (cI cJ cZ : ClassId) (hq : c_inj q) (z0 : SC)   : Met l yPr_distributorIsMinus wsPr_distributorIsMinus { frames := 0, cells := 0, slots := 0, locals := 0 } (va_Pc [.ref (q 4)] (c_C D q cI cJ cZ z0)) (cQr (some (.int (bb (fPr_distributorIsMinus z0))))) 0 0 (fun _ => False) := by
  refine Met.ofW (cc := ccPr_distributorIsMinus) (maxL := 1) (ret := (some .boolean)) (by decide +kernel) rfl ?_
  intro p e s m args below meth c s₁ B hml hv
  obtain ⟨rfl, hP, hK⟩ := hv
  have hx := B.exec
  have hb := B.bytes
  have hr := B.returns
  have hts := atoms_spec (ws := wsPr_distributorIsMinus) B.pre
  have hown : s.vm.findClass RPr = some m.cls := findClass_of_methodNamed B.named
  have hlocks := B.notSynchronized
  have w0 := hts (.fieldLink RPr 53 "DrumMachine$Processor" "distributorMinus" "Z") (List.mem_cons_of_mem _ wm1_115)
  have i0 : ∀ w ∈ u_ws RPr TPr 9, w ∈ wsPr_distributorIsMinus := fun w h => List.mem_cons_of_mem _ (inAPr w h)
  have hl := lv_entry ([.ref (q 4)]) (n := 1) (Nat.le_of_ble_eq_true rfl)
  rw [lg_entry_eq]
  generalize (lg_sl ([.ref (q 4)]) ++ List.replicate (1 - (lg_sl ([.ref (q 4)])).length) Slot.unset).toArray = ls at hl ⊢
  have hl : lv_has ls 1 [(0, .ref (q 4))] := hl
  have hR := fPr_distributorIsMinus.eq_1 z0
  refine lv_aload_n hx hb dPr_distributorIsMinus_0 rfl (lv_at hl 0 rfl) ?_
  refine cg4_distributorMinus hx hb hts i0 hown hK hP w0 dPr_distributorIsMinus_1 ?_
  exact W.zret hx hb hr (nz_b _) (fun t ht _ => ⟨by rw [hR]; first | done | rfl, ht⟩) (fun _ h => absurd h List.not_mem_nil) dPr_distributorIsMinus_4
theorem dPr_overflowIsOn_0 : decode ccPr_overflowIsOn 0 = .ok (.aload_n 0, 1) := by decide +kernel
theorem dPr_overflowIsOn_1 : decode ccPr_overflowIsOn 1 = .ok (.getfield 24, 3) := by decide +kernel
theorem dPr_overflowIsOn_4 : decode ccPr_overflowIsOn 4 = .ok (.invokevirtual 57, 3) := by decide +kernel
theorem dPr_overflowIsOn_7 : decode ccPr_overflowIsOn 7 = .ok (.ireturn, 1) := by decide +kernel
def fPr_overflowIsOn (z0 : SC)  : Bool :=
  fAc_hasOverflow z0
set_option maxHeartbeats 4000000 in
set_option maxRecDepth 100000 in
theorem kPr_overflowIsOn (l : Launch) (D : va_G) (q : Nat → Nat) (cI cJ cZ : ClassId) (hq : c_inj q) (z0 : SC)   : Met l yPr_overflowIsOn wsPr_overflowIsOn { frames := 1, cells := 0, slots := 0, locals := 20 } (va_Pc [.ref (q 4)] (c_C D q cI cJ cZ z0)) (cQr (some (.int (bb (fPr_overflowIsOn z0))))) 0 0 (fun _ => False) := by
  refine Met.ofW (cc := ccPr_overflowIsOn) (maxL := 1) (ret := (some .boolean)) (by decide +kernel) rfl ?_
  intro p e s m args below meth c s₁ B hml hv
  obtain ⟨rfl, hP, hK⟩ := hv
  have hx := B.exec
  have hb := B.bytes
  have hr := B.returns
  have hts := atoms_spec (ws := wsPr_overflowIsOn) B.pre
  have hown : s.vm.findClass RPr = some m.cls := findClass_of_methodNamed B.named
  have hlocks := B.notSynchronized
  have w0 := hts (.fieldLink RPr 24 "DrumMachine$Processor" "accumulator" "LDrumMachine$Accumulator;") (List.mem_cons_of_mem _ wm1_113)
  have i0 : ∀ w ∈ u_ws RPr TPr 9, w ∈ wsPr_overflowIsOn := fun w h => List.mem_cons_of_mem _ (inAPr w h)
  have hl := lv_entry ([.ref (q 4)]) (n := 1) (Nat.le_of_ble_eq_true rfl)
  rw [lg_entry_eq]
  generalize (lg_sl ([.ref (q 4)]) ++ List.replicate (1 - (lg_sl ([.ref (q 4)])).length) Slot.unset).toArray = ls at hl ⊢
  have hl : lv_has ls 1 [(0, .ref (q 4))] := hl
  have hR := fPr_overflowIsOn.eq_1 z0
  refine lv_aload_n hx hb dPr_overflowIsOn_0 rfl (lv_at hl 0 rfl) ?_
  refine cg4_accumulator hx hb hts i0 hown hK hP w0 dPr_overflowIsOn_1 ?_
  refine cl_rd (W.runV (As := []) (rest := []) ⟨hx, hb, hml, hown, hts⟩ (kAc_hasOverflow l D q cI cJ cZ hq z0) (cwV 0 hts (gV wm4_141 wm4_142 wm4_143 wm1_7 wm4_144) rfl rfl rfl (by decide +kernel) ⟨Nat.le_of_ble_eq_true rfl, Nat.le_of_ble_eq_true rfl⟩) (c_preV5 hK hP) rfl rfl hl.1 rfl (lv_room (Nat.le_of_ble_eq_true rfl)) dPr_overflowIsOn_4 ⟨Nat.le_refl _, Nat.le_refl _⟩) ?_
  exact W.zret hx hb hr (nz_b _) (fun t ht _ => ⟨by rw [hR]; first | done | rfl, ht⟩) (fun _ h => absurd h List.not_mem_nil) dPr_overflowIsOn_7
theorem dPr_goOnFrom_0 : decode ccPr_goOnFrom 0 = .ok (.aload_n 0, 1) := by decide +kernel
theorem dPr_goOnFrom_1 : decode ccPr_goOnFrom 1 = .ok (.iload_n 1, 1) := by decide +kernel
theorem dPr_goOnFrom_2 : decode ccPr_goOnFrom 2 = .ok (.putfield 36, 3) := by decide +kernel
theorem dPr_goOnFrom_5 : decode ccPr_goOnFrom 5 = .ok (.aload_n 0, 1) := by decide +kernel
theorem dPr_goOnFrom_6 : decode ccPr_goOnFrom 6 = .ok (.iconst (-1), 1) := by decide +kernel
theorem dPr_goOnFrom_7 : decode ccPr_goOnFrom 7 = .ok (.putfield 28, 3) := by decide +kernel
theorem dPr_goOnFrom_10 : decode ccPr_goOnFrom 10 = .ok (.return_, 1) := by decide +kernel
def fPr_goOnFrom (z0 : SC) (a : Int32) : SC :=
  c_cause_s (c_nxt_s z0 a) ((-1))
set_option maxHeartbeats 4000000 in
set_option maxRecDepth 100000 in
theorem kPr_goOnFrom (l : Launch) (D : va_G) (q : Nat → Nat) (cI cJ cZ : ClassId) (hq : c_inj q) (z0 : SC) (a : Int32)  : Met l yPr_goOnFrom wsPr_goOnFrom { frames := 0, cells := 0, slots := 0, locals := 0 } (va_Pc [.ref (q 4), .int (a)] (c_C D q cI cJ cZ z0)) (cQw none (c_W D q cI cJ cZ (fPr_goOnFrom z0 a)) (c_qs q)) 0 0 (c_qs q) := by
  refine Met.ofW (cc := ccPr_goOnFrom) (maxL := 2) (ret := none) (by decide +kernel) rfl ?_
  intro p e s m args below meth c s₁ B hml hv
  obtain ⟨rfl, hP, hK⟩ := hv
  have hx := B.exec
  have hb := B.bytes
  have hr := B.returns
  have hts := atoms_spec (ws := wsPr_goOnFrom) B.pre
  have hown : s.vm.findClass RPr = some m.cls := findClass_of_methodNamed B.named
  have hlocks := B.notSynchronized
  have w0 := hts (.fieldLink RPr 36 "DrumMachine$Processor" "next" "I") (List.mem_cons_of_mem _ wm1_116)
  have w1 := hts (.fieldLink RPr 28 "DrumMachine$Processor" "cause" "I") (List.mem_cons_of_mem _ wm1_117)
  have i0 : ∀ w ∈ u_ws RPr TPr 9, w ∈ wsPr_goOnFrom := fun w h => List.mem_cons_of_mem _ (inAPr w h)
  have hS : va_S (c_qs q) s.heap s.heap [] := va_S.rf
  have hl := lv_entry ([.ref (q 4), .int (a)]) (n := 2) (Nat.le_of_ble_eq_true rfl)
  rw [lg_entry_eq]
  generalize (lg_sl ([.ref (q 4), .int (a)]) ++ List.replicate (2 - (lg_sl ([.ref (q 4), .int (a)])).length) Slot.unset).toArray = ls at hl ⊢
  have hl : lv_has ls 2 [(0, .ref (q 4)), (1, .int (a))] := hl
  have hR := fPr_goOnFrom.eq_1 z0 a
  refine lv_aload_n hx hb dPr_goOnFrom_0 rfl (lv_at hl 0 rfl) ?_
  refine lv_iload_n hx hb dPr_goOnFrom_1 rfl (lv_at hl 1 rfl) ?_
  refine cp4_next a hq hS hx hb hts i0 hown hK hP w0 dPr_goOnFrom_2 (fun H locs hP hS => ?_)
  refine lv_aload_n hx hb dPr_goOnFrom_5 rfl (lv_at hl 0 rfl) ?_
  refine lv_iconst (v := (-1)) hx hb dPr_goOnFrom_6 (by decide) ?_
  refine cp4_cause ((-1)) hq hS hx hb hts i0 hown hK hP w1 dPr_goOnFrom_7 (fun H locs hP hS => ?_)
  exact W.vret hx hb hr (fun t ht _ => ⟨rfl, by rw [hR, ht]; exact hP, hS.F ht⟩) hS.2.2 dPr_goOnFrom_10
theorem dPr_isFault_0 : decode ccPr_isFault 0 = .ok (.iload_n 0, 1) := by decide +kernel
theorem dPr_isFault_1 : decode ccPr_isFault 1 = .ok (.iconst (-1), 1) := by decide +kernel
theorem dPr_isFault_2 : decode ccPr_isFault 2 = .ok (.if_icmp .eq 11, 3) := by decide +kernel
theorem dPr_isFault_5 : decode ccPr_isFault 5 = .ok (.iload_n 0, 1) := by decide +kernel
theorem dPr_isFault_6 : decode ccPr_isFault 6 = .ok (.ifCond .eq 7, 3) := by decide +kernel
theorem dPr_isFault_9 : decode ccPr_isFault 9 = .ok (.iconst 1, 1) := by decide +kernel
theorem dPr_isFault_10 : decode ccPr_isFault 10 = .ok (.goto 4, 3) := by decide +kernel
theorem dPr_isFault_13 : decode ccPr_isFault 13 = .ok (.iconst 0, 1) := by decide +kernel
theorem dPr_isFault_14 : decode ccPr_isFault 14 = .ok (.ireturn, 1) := by decide +kernel
def fPr_isFault (a : Int32) : Bool :=
  (if a = ((-1) : Int32) then false else (if a = 0 then false else true))
set_option maxHeartbeats 4000000 in
set_option maxRecDepth 100000 in
theorem kPr_isFault (l : Launch) (a : Int32)  : Met l yPr_isFault wsPr_isFault { frames := 0, cells := 0, slots := 0, locals := 0 } (va_Pc [.int (a)] (fun _ => True)) (cQr (some (.int (bb (fPr_isFault a))))) 0 0 (fun _ => False) := by
  refine Met.ofW (cc := ccPr_isFault) (maxL := 1) (ret := (some .boolean)) (by decide +kernel) rfl ?_
  intro p e s m args below meth c s₁ B hml hv
  obtain ⟨rfl, -⟩ := hv
  have hx := B.exec
  have hb := B.bytes
  have hr := B.returns
  have hts := atoms_spec (ws := wsPr_isFault) B.pre
  have hown : s.vm.findClass RPr = some m.cls := findClass_of_methodNamed B.named
  have hlocks := B.notSynchronized
  have hl := lv_entry ([.int (a)]) (n := 1) (Nat.le_of_ble_eq_true rfl)
  rw [lg_entry_eq]
  generalize (lg_sl ([.int (a)]) ++ List.replicate (1 - (lg_sl ([.int (a)])).length) Slot.unset).toArray = ls at hl ⊢
  have hl : lv_has ls 1 [(0, .int (a))] := hl
  have hR := fPr_isFault.eq_1 a
  refine lv_iload_n hx hb dPr_isFault_0 rfl (lv_at hl 0 rfl) ?_
  refine lv_iconst (v := (-1)) hx hb dPr_isFault_1 (by decide) ?_
  refine lv_icmp_eq hx hb dPr_isFault_2 rfl (fun h2 => ?_) (fun h2 => ?_)
  · have hR := hR.trans (if_pos h2)
    refine lv_iconst (v := 0) hx hb dPr_isFault_13 (by decide) ?_
    exact W.zret hx hb hr rfl (fun t ht _ => ⟨by rw [hR]; first | done | rfl, ht⟩) (fun _ h => absurd h List.not_mem_nil) dPr_isFault_14
  · have hR := hR.trans (if_neg h2)
    refine lv_iload_n hx hb dPr_isFault_5 rfl (lv_at hl 0 rfl) ?_
    refine lv_if_eq hx hb dPr_isFault_6 rfl (fun h6 => ?_) (fun h6 => ?_)
    · have hR := hR.trans (if_pos h6)
      refine lv_iconst (v := 0) hx hb dPr_isFault_13 (by decide) ?_
      exact W.zret hx hb hr rfl (fun t ht _ => ⟨by rw [hR]; first | done | rfl, ht⟩) (fun _ h => absurd h List.not_mem_nil) dPr_isFault_14
    · have hR := hR.trans (if_neg h6)
      refine lv_iconst (v := 1) hx hb dPr_isFault_9 (by decide) ?_
      refine lv_goto hx hb dPr_isFault_10 rfl ?_
      exact W.zret hx hb hr rfl (fun t ht _ => ⟨by rw [hR]; first | done | rfl, ht⟩) (fun _ h => absurd h List.not_mem_nil) dPr_isFault_14
theorem dPr_setDistributor_0 : decode ccPr_setDistributor 0 = .ok (.aload_n 0, 1) := by decide +kernel
theorem dPr_setDistributor_1 : decode ccPr_setDistributor 1 = .ok (.lload_n 1, 1) := by decide +kernel
theorem dPr_setDistributor_2 : decode ccPr_setDistributor 2 = .ok (.putfield 46, 3) := by decide +kernel
theorem dPr_setDistributor_5 : decode ccPr_setDistributor 5 = .ok (.aload_n 0, 1) := by decide +kernel
theorem dPr_setDistributor_6 : decode ccPr_setDistributor 6 = .ok (.iload_n 3, 1) := by decide +kernel
theorem dPr_setDistributor_7 : decode ccPr_setDistributor 7 = .ok (.putfield 53, 3) := by decide +kernel
theorem dPr_setDistributor_10 : decode ccPr_setDistributor 10 = .ok (.return_, 1) := by decide +kernel
def fPr_setDistributor (z0 : SC) (v : Int64) (b : Bool) : SC :=
  c_distm_s (c_dist_s z0 v) b
set_option maxHeartbeats 4000000 in
set_option maxRecDepth 100000 in
theorem kPr_setDistributor (l : Launch) (D : va_G) (q : Nat → Nat) (cI cJ cZ : ClassId) (hq : c_inj q) (z0 : SC) (v : Int64) (b : Bool)  : Met l yPr_setDistributor wsPr_setDistributor { frames := 0, cells := 0, slots := 0, locals := 0 } (va_Pc [.ref (q 4), .long (v), .int (bb (b))] (c_C D q cI cJ cZ z0)) (cQw none (c_W D q cI cJ cZ (fPr_setDistributor z0 v b)) (c_qs q)) 0 0 (c_qs q) := by
  refine Met.ofW (cc := ccPr_setDistributor) (maxL := 4) (ret := none) (by decide +kernel) rfl ?_
  intro p e s m args below meth c s₁ B hml hv
  obtain ⟨rfl, hP, hK⟩ := hv
  have hx := B.exec
  have hb := B.bytes
  have hr := B.returns
  have hts := atoms_spec (ws := wsPr_setDistributor) B.pre
  have hown : s.vm.findClass RPr = some m.cls := findClass_of_methodNamed B.named
  have hlocks := B.notSynchronized
  have w0 := hts (.fieldLink RPr 46 "DrumMachine$Processor" "distributor" "J") (List.mem_cons_of_mem _ wm1_114)
  have w1 := hts (.fieldLink RPr 53 "DrumMachine$Processor" "distributorMinus" "Z") (List.mem_cons_of_mem _ wm1_115)
  have i0 : ∀ w ∈ u_ws RPr TPr 9, w ∈ wsPr_setDistributor := fun w h => List.mem_cons_of_mem _ (inAPr w h)
  have hS : va_S (c_qs q) s.heap s.heap [] := va_S.rf
  have hl := lv_entry ([.ref (q 4), .long (v), .int (bb (b))]) (n := 4) (Nat.le_of_ble_eq_true rfl)
  rw [lg_entry_eq]
  generalize (lg_sl ([.ref (q 4), .long (v), .int (bb (b))]) ++ List.replicate (4 - (lg_sl ([.ref (q 4), .long (v), .int (bb (b))])).length) Slot.unset).toArray = ls at hl ⊢
  have hl : lv_has ls 4 [(0, .ref (q 4)), (1, .long (v)), (3, .int (bb (b)))] := hl
  have hR := fPr_setDistributor.eq_1 z0 v b
  refine lv_aload_n hx hb dPr_setDistributor_0 rfl (lv_at hl 0 rfl) ?_
  refine lv_lload_n hx hb dPr_setDistributor_1 rfl (lv_at hl 1 rfl) ?_
  refine cp4_distributor v hq hS hx hb hts i0 hown hK hP w0 dPr_setDistributor_2 (fun H locs hP hS => ?_)
  refine lv_aload_n hx hb dPr_setDistributor_5 rfl (lv_at hl 0 rfl) ?_
  refine lv_iload_n hx hb dPr_setDistributor_6 rfl (lv_at hl 2 rfl) ?_
  refine cp4_distributorMinus b hq hS hx hb hts i0 hown hK hP w1 dPr_setDistributor_7 (fun H locs hP hS => ?_)
  exact W.vret hx hb hr (fun t ht _ => ⟨rfl, by rw [hR, ht]; exact hP, hS.F ht⟩) hS.2.2 dPr_setDistributor_10
theorem dPr_waitAndAccess_0 : decode ccPr_waitAndAccess 0 = .ok (.aload_n 0, 1) := by decide +kernel
theorem dPr_waitAndAccess_1 : decode ccPr_waitAndAccess 1 = .ok (.getfield 32, 3) := by decide +kernel
theorem dPr_waitAndAccess_4 : decode ccPr_waitAndAccess 4 = .ok (.ldc2_w 111, 3) := by decide +kernel
theorem dPr_waitAndAccess_7 : decode ccPr_waitAndAccess 7 = .ok (.lrem, 1) := by decide +kernel
theorem dPr_waitAndAccess_8 : decode ccPr_waitAndAccess 8 = .ok (.l2i, 1) := by decide +kernel
theorem dPr_waitAndAccess_9 : decode ccPr_waitAndAccess 9 = .ok (.istore_n 2, 1) := by decide +kernel
theorem dPr_waitAndAccess_10 : decode ccPr_waitAndAccess 10 = .ok (.iload_n 1, 1) := by decide +kernel
theorem dPr_waitAndAccess_11 : decode ccPr_waitAndAccess 11 = .ok (.invokestatic 113, 3) := by decide +kernel
theorem dPr_waitAndAccess_14 : decode ccPr_waitAndAccess 14 = .ok (.iload_n 2, 1) := by decide +kernel
theorem dPr_waitAndAccess_15 : decode ccPr_waitAndAccess 15 = .ok (.isub, 1) := by decide +kernel
theorem dPr_waitAndAccess_16 : decode ccPr_waitAndAccess 16 = .ok (.bipush 50, 2) := by decide +kernel
theorem dPr_waitAndAccess_18 : decode ccPr_waitAndAccess 18 = .ok (.iadd, 1) := by decide +kernel
theorem dPr_waitAndAccess_19 : decode ccPr_waitAndAccess 19 = .ok (.bipush 50, 2) := by decide +kernel
theorem dPr_waitAndAccess_21 : decode ccPr_waitAndAccess 21 = .ok (.irem, 1) := by decide +kernel
theorem dPr_waitAndAccess_22 : decode ccPr_waitAndAccess 22 = .ok (.istore_n 3, 1) := by decide +kernel
theorem dPr_waitAndAccess_23 : decode ccPr_waitAndAccess 23 = .ok (.aload_n 0, 1) := by decide +kernel
theorem dPr_waitAndAccess_24 : decode ccPr_waitAndAccess 24 = .ok (.dup, 1) := by decide +kernel
theorem dPr_waitAndAccess_25 : decode ccPr_waitAndAccess 25 = .ok (.getfield 32, 3) := by decide +kernel
theorem dPr_waitAndAccess_28 : decode ccPr_waitAndAccess 28 = .ok (.iload_n 3, 1) := by decide +kernel
theorem dPr_waitAndAccess_29 : decode ccPr_waitAndAccess 29 = .ok (.iconst 1, 1) := by decide +kernel
theorem dPr_waitAndAccess_30 : decode ccPr_waitAndAccess 30 = .ok (.iadd, 1) := by decide +kernel
theorem dPr_waitAndAccess_31 : decode ccPr_waitAndAccess 31 = .ok (.i2l, 1) := by decide +kernel
theorem dPr_waitAndAccess_32 : decode ccPr_waitAndAccess 32 = .ok (.ladd, 1) := by decide +kernel
theorem dPr_waitAndAccess_33 : decode ccPr_waitAndAccess 33 = .ok (.putfield 32, 3) := by decide +kernel
theorem dPr_waitAndAccess_36 : decode ccPr_waitAndAccess 36 = .ok (.return_, 1) := by decide +kernel
def fPr_waitAndAccess (z0 : SC) (a : Int32) : SC :=
  c_time_s z0 ((c_time z0) + ((((((fDr_angleOf a) - (((c_time z0) % 50).toInt32)) + 50) % 50) + 1).toInt64))
set_option maxHeartbeats 4000000 in
set_option maxRecDepth 100000 in
theorem kPr_waitAndAccess (l : Launch) (D : va_G) (q : Nat → Nat) (cI cJ cZ : ClassId) (hq : c_inj q) (z0 : SC) (a : Int32)  : Met l yPr_waitAndAccess wsPr_waitAndAccess { frames := 1, cells := 0, slots := 0, locals := 20 } (va_Pc [.ref (q 4), .int (a)] (c_C D q cI cJ cZ z0)) (cQw none (c_W D q cI cJ cZ (fPr_waitAndAccess z0 a)) (c_qs q)) 0 0 (c_qs q) := by
  refine Met.ofW (cc := ccPr_waitAndAccess) (maxL := 4) (ret := none) (by decide +kernel) rfl ?_
  intro p e s m args below meth c s₁ B hml hv
  obtain ⟨rfl, hP, hK⟩ := hv
  have hx := B.exec
  have hb := B.bytes
  have hr := B.returns
  have hts := atoms_spec (ws := wsPr_waitAndAccess) B.pre
  have hown : s.vm.findClass RPr = some m.cls := findClass_of_methodNamed B.named
  have hlocks := B.notSynchronized
  have w0 := hts (.fieldLink RPr 32 "DrumMachine$Processor" "time" "J") (List.mem_cons_of_mem _ wm1_118)
  have w1 := hts (.constantLong RPr 111 (50)) (List.mem_cons_of_mem _ wm3_140)
  have i0 : ∀ w ∈ u_ws RPr TPr 9, w ∈ wsPr_waitAndAccess := fun w h => List.mem_cons_of_mem _ (inAPr w h)
  have hS : va_S (c_qs q) s.heap s.heap [] := va_S.rf
  have hl := lv_entry ([.ref (q 4), .int (a)]) (n := 4) (Nat.le_of_ble_eq_true rfl)
  rw [lg_entry_eq]
  generalize (lg_sl ([.ref (q 4), .int (a)]) ++ List.replicate (4 - (lg_sl ([.ref (q 4), .int (a)])).length) Slot.unset).toArray = ls at hl ⊢
  have hl : lv_has ls 4 [(0, .ref (q 4)), (1, .int (a))] := hl
  have hR := fPr_waitAndAccess.eq_1 z0 a
  refine lv_aload_n hx hb dPr_waitAndAccess_0 rfl (lv_at hl 0 rfl) ?_
  refine cg4_time hx hb hts i0 hown hK hP w0 dPr_waitAndAccess_1 ?_
  refine lv_ldc2 (v := 50) hx hb hown w1 dPr_waitAndAccess_4 ?_
  refine lm_lrem hx hb dPr_waitAndAccess_7 (by decide) ?_
  refine lv_l2i hx hb dPr_waitAndAccess_8 rfl ?_
  refine lv_istore_n (lv' := [(2, .int (((c_time z0) % 50).toInt32)), (0, .ref (q 4)), (1, .int (a))]) hx hb dPr_waitAndAccess_9 rfl hl (by decide) rfl (fun ls hl => ?_)
  refine lv_iload_n hx hb dPr_waitAndAccess_10 rfl (lv_at hl 2 rfl) ?_
  refine cl_rd (W.runS (As := [.int (a)]) (rest := []) ⟨hx, hb, hml, hown, hts⟩ (kDr_angleOf l a) (va_cwS 1 hts (gS wm3_141 wm3_142 wm1_2 wm3_143) rfl rfl rfl (by decide +kernel) ⟨Nat.le_of_ble_eq_true rfl, Nat.le_of_ble_eq_true rfl⟩) (preT) rfl rfl hl.1 rfl (lv_room (Nat.le_of_ble_eq_true rfl)) dPr_waitAndAccess_11 ⟨Nat.le_refl _, Nat.le_refl _⟩) ?_
  refine lv_iload_n hx hb dPr_waitAndAccess_14 rfl (lv_at hl 0 rfl) ?_
  refine lv_isub hx hb dPr_waitAndAccess_15 ?_
  refine lv_bipush (v := 50) hx hb dPr_waitAndAccess_16 (by decide) ?_
  refine lv_iadd hx hb dPr_waitAndAccess_18 ?_
  refine lv_bipush (v := 50) hx hb dPr_waitAndAccess_19 (by decide) ?_
  refine lm_irem hx hb dPr_waitAndAccess_21 (by decide) ?_
  refine lv_istore_n (lv' := [(3, .int ((((fDr_angleOf a) - (((c_time z0) % 50).toInt32)) + 50) % 50)), (2, .int (((c_time z0) % 50).toInt32)), (0, .ref (q 4)), (1, .int (a))]) hx hb dPr_waitAndAccess_22 rfl hl (by decide) rfl (fun ls hl => ?_)
  refine lv_aload_n hx hb dPr_waitAndAccess_23 rfl (lv_at hl 2 rfl) ?_
  refine lv_dup hx hb dPr_waitAndAccess_24 rfl ?_
  refine cg4_time hx hb hts i0 hown hK hP w0 dPr_waitAndAccess_25 ?_
  refine lv_iload_n hx hb dPr_waitAndAccess_28 rfl (lv_at hl 0 rfl) ?_
  refine lv_iconst (v := 1) hx hb dPr_waitAndAccess_29 (by decide) ?_
  refine lv_iadd hx hb dPr_waitAndAccess_30 ?_
  refine lv_i2l hx hb dPr_waitAndAccess_31 rfl ?_
  refine lv_ladd hx hb dPr_waitAndAccess_32 ?_
  refine cp4_time ((c_time z0) + ((((((fDr_angleOf a) - (((c_time z0) % 50).toInt32)) + 50) % 50) + 1).toInt64)) hq hS hx hb hts i0 hown hK hP w0 dPr_waitAndAccess_33 (fun H locs hP hS => ?_)
  exact W.vret hx hb hr (fun t ht _ => ⟨rfl, by rw [hR, ht]; exact hP, hS.F ht⟩) hS.2.2 dPr_waitAndAccess_36
theorem dPr_shift_0 : decode ccPr_shift 0 = .ok (.iload_n 1, 1) := by decide +kernel
theorem dPr_shift_1 : decode ccPr_shift 1 = .ok (.bipush 35, 2) := by decide +kernel
theorem dPr_shift_3 : decode ccPr_shift 3 = .ok (.if_icmp .ne 14, 3) := by decide +kernel
theorem dPr_shift_6 : decode ccPr_shift 6 = .ok (.aload_n 0, 1) := by decide +kernel
theorem dPr_shift_7 : decode ccPr_shift 7 = .ok (.getfield 24, 3) := by decide +kernel
theorem dPr_shift_10 : decode ccPr_shift 10 = .ok (.iload_n 2, 1) := by decide +kernel
theorem dPr_shift_11 : decode ccPr_shift 11 = .ok (.invokevirtual 142, 3) := by decide +kernel
theorem dPr_shift_14 : decode ccPr_shift 14 = .ok (.goto 28, 3) := by decide +kernel
theorem dPr_shift_17 : decode ccPr_shift 17 = .ok (.iload_n 1, 1) := by decide +kernel
theorem dPr_shift_18 : decode ccPr_shift 18 = .ok (.bipush 30, 2) := by decide +kernel
theorem dPr_shift_20 : decode ccPr_shift 20 = .ok (.if_icmp .ne 14, 3) := by decide +kernel
theorem dPr_shift_23 : decode ccPr_shift 23 = .ok (.aload_n 0, 1) := by decide +kernel
theorem dPr_shift_24 : decode ccPr_shift 24 = .ok (.getfield 24, 3) := by decide +kernel
theorem dPr_shift_27 : decode ccPr_shift 27 = .ok (.iload_n 2, 1) := by decide +kernel
theorem dPr_shift_28 : decode ccPr_shift 28 = .ok (.invokevirtual 145, 3) := by decide +kernel
theorem dPr_shift_31 : decode ccPr_shift 31 = .ok (.goto 11, 3) := by decide +kernel
theorem dPr_shift_34 : decode ccPr_shift 34 = .ok (.aload_n 0, 1) := by decide +kernel
theorem dPr_shift_35 : decode ccPr_shift 35 = .ok (.getfield 24, 3) := by decide +kernel
theorem dPr_shift_38 : decode ccPr_shift 38 = .ok (.iload_n 2, 1) := by decide +kernel
theorem dPr_shift_39 : decode ccPr_shift 39 = .ok (.invokevirtual 148, 3) := by decide +kernel
theorem dPr_shift_42 : decode ccPr_shift 42 = .ok (.return_, 1) := by decide +kernel
def fPr_shift (z0 : SC) (o : Int32) (x : Int32) : SC :=
  (if o = (35 : Int32) then fAc_shiftLeft z0 x else (if o = (30 : Int32) then fAc_shiftRight z0 x else fAc_shiftAndRound z0 x))
set_option maxHeartbeats 4000000 in
set_option maxRecDepth 100000 in
theorem kPr_shift (l : Launch) (D : va_G) (q : Nat → Nat) (cI cJ cZ : ClassId) (hq : c_inj q) (z0 : SC) (o : Int32) (x : Int32)  : Met l yPr_shift wsPr_shift { frames := 3, cells := 0, slots := 0, locals := 77 } (va_Pc [.ref (q 4), .int (o), .int (x)] (c_C D q cI cJ cZ z0)) (cQw none (c_W D q cI cJ cZ (fPr_shift z0 o x)) (c_qs q)) 0 0 (c_qs q) := by
  refine Met.ofW (cc := ccPr_shift) (maxL := 3) (ret := none) (by decide +kernel) rfl ?_
  intro p e s m args below meth c s₁ B hml hv
  obtain ⟨rfl, hP, hK⟩ := hv
  have hx := B.exec
  have hb := B.bytes
  have hr := B.returns
  have hts := atoms_spec (ws := wsPr_shift) B.pre
  have hown : s.vm.findClass RPr = some m.cls := findClass_of_methodNamed B.named
  have hlocks := B.notSynchronized
  have w0 := hts (.fieldLink RPr 24 "DrumMachine$Processor" "accumulator" "LDrumMachine$Accumulator;") (List.mem_cons_of_mem _ wm1_113)
  have i0 : ∀ w ∈ u_ws RPr TPr 9, w ∈ wsPr_shift := fun w h => List.mem_cons_of_mem _ (inAPr w h)
  have hS : va_S (c_qs q) s.heap s.heap [] := va_S.rf
  have hl := lv_entry ([.ref (q 4), .int (o), .int (x)]) (n := 3) (Nat.le_of_ble_eq_true rfl)
  rw [lg_entry_eq]
  generalize (lg_sl ([.ref (q 4), .int (o), .int (x)]) ++ List.replicate (3 - (lg_sl ([.ref (q 4), .int (o), .int (x)])).length) Slot.unset).toArray = ls at hl ⊢
  have hl : lv_has ls 3 [(0, .ref (q 4)), (1, .int (o)), (2, .int (x))] := hl
  have hR := fPr_shift.eq_1 z0 o x
  refine lv_iload_n hx hb dPr_shift_0 rfl (lv_at hl 1 rfl) ?_
  refine lv_bipush (v := 35) hx hb dPr_shift_1 (by decide) ?_
  refine lv_icmp_ne hx hb dPr_shift_3 rfl (fun h3 => ?_) (fun h3 => ?_)
  · have hR := hR.trans (if_neg h3)
    refine lv_iload_n hx hb dPr_shift_17 rfl (lv_at hl 1 rfl) ?_
    refine lv_bipush (v := 30) hx hb dPr_shift_18 (by decide) ?_
    refine lv_icmp_ne hx hb dPr_shift_20 rfl (fun h20 => ?_) (fun h20 => ?_)
    · have hR := hR.trans (if_neg h20)
      refine lv_aload_n hx hb dPr_shift_34 rfl (lv_at hl 0 rfl) ?_
      refine cg4_accumulator hx hb hts i0 hown hK hP w0 dPr_shift_35 ?_
      refine lv_iload_n hx hb dPr_shift_38 rfl (lv_at hl 2 rfl) ?_
      refine cl_wr (W.runV (As := [.int (x)]) (rest := []) ⟨hx, hb, hml, hown, hts⟩ (kAc_shiftAndRound l D q cI cJ cZ hq z0 x) (cwV 1 hts (gV wm3_178 wm3_179 wm3_180 wm1_7 wm3_181) rfl rfl rfl (by decide +kernel) ⟨Nat.le_of_ble_eq_true rfl, Nat.le_of_ble_eq_true rfl⟩) (c_preV5 hK hP) rfl rfl hl.1 rfl (lv_room (Nat.le_of_ble_eq_true rfl)) dPr_shift_39 ⟨Nat.le_refl _, Nat.le_refl _⟩) hS (fun _ h => h) (fun _ h => h) (fun H locs hP hS => ?_)
      exact W.vret hx hb hr (fun t ht _ => ⟨rfl, by rw [hR, ht]; exact hP, hS.F ht⟩) hS.2.2 dPr_shift_42
    · have hR := hR.trans (if_pos h20)
      refine lv_aload_n hx hb dPr_shift_23 rfl (lv_at hl 0 rfl) ?_
      refine cg4_accumulator hx hb hts i0 hown hK hP w0 dPr_shift_24 ?_
      refine lv_iload_n hx hb dPr_shift_27 rfl (lv_at hl 2 rfl) ?_
      refine cl_wr (W.runV (As := [.int (x)]) (rest := []) ⟨hx, hb, hml, hown, hts⟩ (kAc_shiftRight l D q cI cJ cZ hq z0 x) (cwV 1 hts (gV wm3_174 wm3_175 wm3_176 wm1_7 wm3_177) rfl rfl rfl (by decide +kernel) ⟨Nat.le_of_ble_eq_true rfl, Nat.le_of_ble_eq_true rfl⟩) (c_preV5 hK hP) rfl rfl hl.1 rfl (lv_room (Nat.le_of_ble_eq_true rfl)) dPr_shift_28 ⟨Nat.le_refl _, Nat.le_refl _⟩) hS (fun _ h => h) (fun _ h => h) (fun H locs hP hS => ?_)
      refine lv_goto hx hb dPr_shift_31 rfl ?_
      exact W.vret hx hb hr (fun t ht _ => ⟨rfl, by rw [hR, ht]; exact hP, hS.F ht⟩) hS.2.2 dPr_shift_42
  · have hR := hR.trans (if_pos h3)
    refine lv_aload_n hx hb dPr_shift_6 rfl (lv_at hl 0 rfl) ?_
    refine cg4_accumulator hx hb hts i0 hown hK hP w0 dPr_shift_7 ?_
    refine lv_iload_n hx hb dPr_shift_10 rfl (lv_at hl 2 rfl) ?_
    refine cl_wr (W.runV (As := [.int (x)]) (rest := []) ⟨hx, hb, hml, hown, hts⟩ (kAc_shiftLeft l D q cI cJ cZ hq z0 x) (cwV 1 hts (gV wm3_166 wm3_167 wm3_168 wm1_7 wm3_169) rfl rfl rfl (by decide +kernel) ⟨Nat.le_of_ble_eq_true rfl, Nat.le_of_ble_eq_true rfl⟩) (c_preV5 hK hP) rfl rfl hl.1 rfl (lv_room (Nat.le_of_ble_eq_true rfl)) dPr_shift_11 ⟨Nat.le_refl _, Nat.le_refl _⟩) hS (fun _ h => h) (fun _ h => h) (fun H locs hP hS => ?_)
    refine lv_goto hx hb dPr_shift_14 rfl ?_
    exact W.vret hx hb hr (fun t ht _ => ⟨rfl, by rw [hR, ht]; exact hP, hS.F ht⟩) hS.2.2 dPr_shift_42
theorem dPr_takesBranch_0 : decode ccPr_takesBranch 0 = .ok (.iload_n 1, 1) := by decide +kernel
theorem dPr_takesBranch_1 : decode ccPr_takesBranch 1 = .ok (.invokestatic 151, 3) := by decide +kernel
theorem dPr_takesBranch_4 : decode ccPr_takesBranch 4 = .ok (.ifCond .eq 25, 3) := by decide +kernel
theorem dPr_takesBranch_7 : decode ccPr_takesBranch 7 = .ok (.aload_n 0, 1) := by decide +kernel
theorem dPr_takesBranch_8 : decode ccPr_takesBranch 8 = .ok (.getfield 46, 3) := by decide +kernel
theorem dPr_takesBranch_11 : decode ccPr_takesBranch 11 = .ok (.iload_n 1, 1) := by decide +kernel
theorem dPr_takesBranch_12 : decode ccPr_takesBranch 12 = .ok (.bipush 90, 2) := by decide +kernel
theorem dPr_takesBranch_14 : decode ccPr_takesBranch 14 = .ok (.isub, 1) := by decide +kernel
theorem dPr_takesBranch_15 : decode ccPr_takesBranch 15 = .ok (.invokestatic 154, 3) := by decide +kernel
theorem dPr_takesBranch_18 : decode ccPr_takesBranch 18 = .ok (.bipush 8, 2) := by decide +kernel
theorem dPr_takesBranch_20 : decode ccPr_takesBranch 20 = .ok (.if_icmp .ne 7, 3) := by decide +kernel
theorem dPr_takesBranch_23 : decode ccPr_takesBranch 23 = .ok (.iconst 1, 1) := by decide +kernel
theorem dPr_takesBranch_24 : decode ccPr_takesBranch 24 = .ok (.goto 4, 3) := by decide +kernel
theorem dPr_takesBranch_27 : decode ccPr_takesBranch 27 = .ok (.iconst 0, 1) := by decide +kernel
theorem dPr_takesBranch_28 : decode ccPr_takesBranch 28 = .ok (.ireturn, 1) := by decide +kernel
theorem dPr_takesBranch_29 : decode ccPr_takesBranch 29 = .ok (.iload_n 1, 1) := by decide +kernel
theorem dPr_takesBranch_30 : decode ccPr_takesBranch 30 = .ok (.tableswitch 80 44 47 #[30, 48, 64, 72], 30) := by decide +kernel
theorem dPr_takesBranch_60 : decode ccPr_takesBranch 60 = .ok (.aload_n 0, 1) := by decide +kernel
theorem dPr_takesBranch_61 : decode ccPr_takesBranch 61 = .ok (.getfield 24, 3) := by decide +kernel
theorem dPr_takesBranch_64 : decode ccPr_takesBranch 64 = .ok (.invokevirtual 39, 3) := by decide +kernel
theorem dPr_takesBranch_67 : decode ccPr_takesBranch 67 = .ok (.lconst 0, 1) := by decide +kernel
theorem dPr_takesBranch_68 : decode ccPr_takesBranch 68 = .ok (.lcmp, 1) := by decide +kernel
theorem dPr_takesBranch_69 : decode ccPr_takesBranch 69 = .ok (.ifCond .eq 7, 3) := by decide +kernel
theorem dPr_takesBranch_72 : decode ccPr_takesBranch 72 = .ok (.iconst 1, 1) := by decide +kernel
theorem dPr_takesBranch_73 : decode ccPr_takesBranch 73 = .ok (.goto 4, 3) := by decide +kernel
theorem dPr_takesBranch_76 : decode ccPr_takesBranch 76 = .ok (.iconst 0, 1) := by decide +kernel
theorem dPr_takesBranch_77 : decode ccPr_takesBranch 77 = .ok (.ireturn, 1) := by decide +kernel
theorem dPr_takesBranch_78 : decode ccPr_takesBranch 78 = .ok (.aload_n 0, 1) := by decide +kernel
theorem dPr_takesBranch_79 : decode ccPr_takesBranch 79 = .ok (.getfield 24, 3) := by decide +kernel
theorem dPr_takesBranch_82 : decode ccPr_takesBranch 82 = .ok (.invokevirtual 158, 3) := by decide +kernel
theorem dPr_takesBranch_85 : decode ccPr_takesBranch 85 = .ok (.ifCond .ne 7, 3) := by decide +kernel
theorem dPr_takesBranch_88 : decode ccPr_takesBranch 88 = .ok (.iconst 1, 1) := by decide +kernel
theorem dPr_takesBranch_89 : decode ccPr_takesBranch 89 = .ok (.goto 4, 3) := by decide +kernel
theorem dPr_takesBranch_92 : decode ccPr_takesBranch 92 = .ok (.iconst 0, 1) := by decide +kernel
theorem dPr_takesBranch_93 : decode ccPr_takesBranch 93 = .ok (.ireturn, 1) := by decide +kernel
theorem dPr_takesBranch_94 : decode ccPr_takesBranch 94 = .ok (.aload_n 0, 1) := by decide +kernel
theorem dPr_takesBranch_95 : decode ccPr_takesBranch 95 = .ok (.getfield 24, 3) := by decide +kernel
theorem dPr_takesBranch_98 : decode ccPr_takesBranch 98 = .ok (.invokevirtual 49, 3) := by decide +kernel
theorem dPr_takesBranch_101 : decode ccPr_takesBranch 101 = .ok (.ireturn, 1) := by decide +kernel
theorem dPr_takesBranch_102 : decode ccPr_takesBranch 102 = .ok (.aload_n 0, 1) := by decide +kernel
theorem dPr_takesBranch_103 : decode ccPr_takesBranch 103 = .ok (.getfield 24, 3) := by decide +kernel
theorem dPr_takesBranch_106 : decode ccPr_takesBranch 106 = .ok (.invokevirtual 161, 3) := by decide +kernel
theorem dPr_takesBranch_109 : decode ccPr_takesBranch 109 = .ok (.ireturn, 1) := by decide +kernel
theorem dPr_takesBranch_110 : decode ccPr_takesBranch 110 = .ok (.iconst 0, 1) := by decide +kernel
theorem dPr_takesBranch_111 : decode ccPr_takesBranch 111 = .ok (.ireturn, 1) := by decide +kernel
def fPr_takesBranch (z0 : SC) (o : Int32) : Bool × SC :=
  (if (fOp_branchesOnEight o) = true then (if (fDg_digitAt (c_dist z0) (o - 90)) = (8 : Int32) then (true, z0) else (false, z0)) else (if o = 44 then (if (fAc_upperDigits z0) = 0 then (false, z0) else (true, z0)) else (if o = 45 then (if (fAc_isZero z0) = true then (false, z0) else (true, z0)) else (if o = 46 then (fAc_isMinus z0, z0) else (if o = 47 then ((fAc_takeOverflow z0).1, (fAc_takeOverflow z0).2) else (false, z0))))))
set_option maxHeartbeats 4000000 in
set_option maxRecDepth 100000 in
theorem kPr_takesBranch (l : Launch) (D : va_G) (q : Nat → Nat) (cI cJ cZ : ClassId) (hq : c_inj q) (z0 : SC) (o : Int32)  : Met l yPr_takesBranch wsPr_takesBranch { frames := 2, cells := 0, slots := 0, locals := 45 } (va_Pc [.ref (q 4), .int (o)] (c_C D q cI cJ cZ z0)) (cQw (some (.int (bb ((fPr_takesBranch z0 o).1)))) (c_W D q cI cJ cZ (fPr_takesBranch z0 o).2) (c_qs q)) 0 0 (c_qs q) := by
  refine Met.ofW (cc := ccPr_takesBranch) (maxL := 2) (ret := (some .boolean)) (by decide +kernel) rfl ?_
  intro p e s m args below meth c s₁ B hml hv
  obtain ⟨rfl, hP, hK⟩ := hv
  have hx := B.exec
  have hb := B.bytes
  have hr := B.returns
  have hts := atoms_spec (ws := wsPr_takesBranch) B.pre
  have hown : s.vm.findClass RPr = some m.cls := findClass_of_methodNamed B.named
  have hlocks := B.notSynchronized
  have w0 := hts (.fieldLink RPr 24 "DrumMachine$Processor" "accumulator" "LDrumMachine$Accumulator;") (List.mem_cons_of_mem _ wm1_113)
  have w1 := hts (.fieldLink RPr 46 "DrumMachine$Processor" "distributor" "J") (List.mem_cons_of_mem _ wm1_114)
  have i0 : ∀ w ∈ u_ws RPr TPr 9, w ∈ wsPr_takesBranch := fun w h => List.mem_cons_of_mem _ (inAPr w h)
  have hS : va_S (c_qs q) s.heap s.heap [] := va_S.rf
  have hl := lv_entry ([.ref (q 4), .int (o)]) (n := 2) (Nat.le_of_ble_eq_true rfl)
  rw [lg_entry_eq]
  generalize (lg_sl ([.ref (q 4), .int (o)]) ++ List.replicate (2 - (lg_sl ([.ref (q 4), .int (o)])).length) Slot.unset).toArray = ls at hl ⊢
  have hl : lv_has ls 2 [(0, .ref (q 4)), (1, .int (o))] := hl
  have hR := fPr_takesBranch.eq_1 z0 o
  refine lv_iload_n hx hb dPr_takesBranch_0 rfl (lv_at hl 1 rfl) ?_
  refine cl_rd (W.runS (As := [.int (o)]) (rest := []) ⟨hx, hb, hml, hown, hts⟩ (kOp_branchesOnEight l o) (va_cwS 1 hts (gS wm4_89 wm2_184 wm1_17 wm2_185) rfl rfl rfl (by decide +kernel) ⟨Nat.le_of_ble_eq_true rfl, Nat.le_of_ble_eq_true rfl⟩) (preT) rfl rfl hl.1 rfl (lv_room (Nat.le_of_ble_eq_true rfl)) dPr_takesBranch_1 ⟨Nat.le_refl _, Nat.le_refl _⟩) ?_
  refine wz_ifeq hx hb dPr_takesBranch_4 rfl (fun h4 => ?_) (fun h4 => ?_)
  · have hR := hR.trans (if_neg h4)
    refine lv_iload_n hx hb dPr_takesBranch_29 rfl (lv_at hl 1 rfl) ?_
    by_cases h30_44 : o = 44
    · have hR := hR.trans (if_pos h30_44)
      refine lv_tableIn (off := 30) (tgt := 60) hx hb dPr_takesBranch_30 (by rw [h30_44]; decide) (by rw [h30_44]; decide) (by rw [h30_44]; decide) rfl ?_
      refine lv_aload_n hx hb dPr_takesBranch_60 rfl (lv_at hl 0 rfl) ?_
      refine cg4_accumulator hx hb hts i0 hown hK hP w0 dPr_takesBranch_61 ?_
      refine cl_rd (W.runV (As := []) (rest := []) ⟨hx, hb, hml, hown, hts⟩ (kAc_upperDigits l D q cI cJ cZ hq z0) (cwV 0 hts (gV wm3_239 wm4_0 wm4_1 wm1_7 wm4_2) rfl rfl rfl (by decide +kernel) ⟨Nat.le_of_ble_eq_true rfl, Nat.le_of_ble_eq_true rfl⟩) (c_preV5 hK hP) rfl rfl hl.1 rfl (lv_room (Nat.le_of_ble_eq_true rfl)) dPr_takesBranch_64 ⟨Nat.le_refl _, Nat.le_refl _⟩) ?_
      refine lv_lconst (v := 0) hx hb dPr_takesBranch_67 (by decide) ?_
      refine lc_eq hx hb dPr_takesBranch_68 dPr_takesBranch_69 rfl (fun h68 => ?_) (fun h68 => ?_)
      · have hR := hR.trans (if_pos h68)
        refine lv_iconst (v := 0) hx hb dPr_takesBranch_76 (by decide) ?_
        exact W.zret hx hb hr rfl (fun t ht _ => ⟨by rw [hR]; first | done | rfl, by rw [hR, ht]; exact hP, hS.F ht⟩) hS.2.2 dPr_takesBranch_77
      · have hR := hR.trans (if_neg h68)
        refine lv_iconst (v := 1) hx hb dPr_takesBranch_72 (by decide) ?_
        refine lv_goto hx hb dPr_takesBranch_73 rfl ?_
        exact W.zret hx hb hr rfl (fun t ht _ => ⟨by rw [hR]; first | done | rfl, by rw [hR, ht]; exact hP, hS.F ht⟩) hS.2.2 dPr_takesBranch_77
    · have hR := hR.trans (if_neg h30_44)
      by_cases h30_45 : o = 45
      · have hR := hR.trans (if_pos h30_45)
        refine lv_tableIn (off := 48) (tgt := 78) hx hb dPr_takesBranch_30 (by rw [h30_45]; decide) (by rw [h30_45]; decide) (by rw [h30_45]; decide) rfl ?_
        refine lv_aload_n hx hb dPr_takesBranch_78 rfl (lv_at hl 0 rfl) ?_
        refine cg4_accumulator hx hb hts i0 hown hK hP w0 dPr_takesBranch_79 ?_
        refine cl_rd (W.runV (As := []) (rest := []) ⟨hx, hb, hml, hown, hts⟩ (kAc_isZero l D q cI cJ cZ hq z0) (cwV 0 hts (gV wm4_91 wm4_92 wm4_93 wm1_7 wm4_94) rfl rfl rfl (by decide +kernel) ⟨Nat.le_of_ble_eq_true rfl, Nat.le_of_ble_eq_true rfl⟩) (c_preV5 hK hP) rfl rfl hl.1 rfl (lv_room (Nat.le_of_ble_eq_true rfl)) dPr_takesBranch_82 ⟨Nat.le_refl _, Nat.le_refl _⟩) ?_
        refine wz_ifne hx hb dPr_takesBranch_85 rfl (fun h85 => ?_) (fun h85 => ?_)
        · have hR := hR.trans (if_pos h85)
          refine lv_iconst (v := 0) hx hb dPr_takesBranch_92 (by decide) ?_
          exact W.zret hx hb hr rfl (fun t ht _ => ⟨by rw [hR]; first | done | rfl, by rw [hR, ht]; exact hP, hS.F ht⟩) hS.2.2 dPr_takesBranch_93
        · have hR := hR.trans (if_neg h85)
          refine lv_iconst (v := 1) hx hb dPr_takesBranch_88 (by decide) ?_
          refine lv_goto hx hb dPr_takesBranch_89 rfl ?_
          exact W.zret hx hb hr rfl (fun t ht _ => ⟨by rw [hR]; first | done | rfl, by rw [hR, ht]; exact hP, hS.F ht⟩) hS.2.2 dPr_takesBranch_93
      · have hR := hR.trans (if_neg h30_45)
        by_cases h30_46 : o = 46
        · have hR := hR.trans (if_pos h30_46)
          refine lv_tableIn (off := 64) (tgt := 94) hx hb dPr_takesBranch_30 (by rw [h30_46]; decide) (by rw [h30_46]; decide) (by rw [h30_46]; decide) rfl ?_
          refine lv_aload_n hx hb dPr_takesBranch_94 rfl (lv_at hl 0 rfl) ?_
          refine cg4_accumulator hx hb hts i0 hown hK hP w0 dPr_takesBranch_95 ?_
          refine cl_rd (W.runV (As := []) (rest := []) ⟨hx, hb, hml, hown, hts⟩ (kAc_isMinus l D q cI cJ cZ hq z0) (cwV 0 hts (gV wm3_231 wm3_232 wm3_233 wm1_7 wm3_234) rfl rfl rfl (by decide +kernel) ⟨Nat.le_of_ble_eq_true rfl, Nat.le_of_ble_eq_true rfl⟩) (c_preV5 hK hP) rfl rfl hl.1 rfl (lv_room (Nat.le_of_ble_eq_true rfl)) dPr_takesBranch_98 ⟨Nat.le_refl _, Nat.le_refl _⟩) ?_
          exact W.zret hx hb hr (nz_b _) (fun t ht _ => ⟨by rw [hR]; first | done | rfl, by rw [hR, ht]; exact hP, hS.F ht⟩) hS.2.2 dPr_takesBranch_101
        · have hR := hR.trans (if_neg h30_46)
          by_cases h30_47 : o = 47
          · have hR := hR.trans (if_pos h30_47)
            refine lv_tableIn (off := 72) (tgt := 102) hx hb dPr_takesBranch_30 (by rw [h30_47]; decide) (by rw [h30_47]; decide) (by rw [h30_47]; decide) rfl ?_
            refine lv_aload_n hx hb dPr_takesBranch_102 rfl (lv_at hl 0 rfl) ?_
            refine cg4_accumulator hx hb hts i0 hown hK hP w0 dPr_takesBranch_103 ?_
            refine cl_wr (W.runV (As := []) (rest := []) ⟨hx, hb, hml, hown, hts⟩ (kAc_takeOverflow l D q cI cJ cZ hq z0) (cwV 0 hts (gV wm4_95 wm4_96 wm4_97 wm1_7 wm4_98) rfl rfl rfl (by decide +kernel) ⟨Nat.le_of_ble_eq_true rfl, Nat.le_of_ble_eq_true rfl⟩) (c_preV5 hK hP) rfl rfl hl.1 rfl (lv_room (Nat.le_of_ble_eq_true rfl)) dPr_takesBranch_106 ⟨Nat.le_refl _, Nat.le_refl _⟩) hS (fun _ h => h) (fun _ h => h) (fun H locs hP hS => ?_)
            exact W.zret hx hb hr (nz_b _) (fun t ht _ => ⟨by rw [hR]; first | done | rfl, by rw [hR, ht]; exact hP, hS.F ht⟩) hS.2.2 dPr_takesBranch_109
          · have hR := hR.trans (if_neg h30_47)
            have nh30_44 := lv_neT (k := 44) (a := 44) h30_44 (by decide)
            have nh30_45 := lv_neT (k := 45) (a := 45) h30_45 (by decide)
            have nh30_46 := lv_neT (k := 46) (a := 46) h30_46 (by decide)
            have nh30_47 := lv_neT (k := 47) (a := 47) h30_47 (by decide)
            refine lv_tableOut (tgt := 110) hx hb dPr_takesBranch_30 (by omega) rfl ?_
            refine lv_iconst (v := 0) hx hb dPr_takesBranch_110 (by decide) ?_
            exact W.zret hx hb hr rfl (fun t ht _ => ⟨by rw [hR]; first | done | rfl, by rw [hR, ht]; exact hP, hS.F ht⟩) hS.2.2 dPr_takesBranch_111
  · have hR := hR.trans (if_pos h4)
    refine lv_aload_n hx hb dPr_takesBranch_7 rfl (lv_at hl 0 rfl) ?_
    refine cg4_distributor hx hb hts i0 hown hK hP w1 dPr_takesBranch_8 ?_
    refine lv_iload_n hx hb dPr_takesBranch_11 rfl (lv_at hl 1 rfl) ?_
    refine lv_bipush (v := 90) hx hb dPr_takesBranch_12 (by decide) ?_
    refine lv_isub hx hb dPr_takesBranch_14 ?_
    refine cl_rd (W.runS (As := [.long ((c_dist z0)), .int ((o - 90))]) (rest := []) ⟨hx, hb, hml, hown, hts⟩ (kDg_digitAt l (c_dist z0) (o - 90)) (va_cwS 2 hts (gS wm4_90 wm3_183 wm1_14 wm3_184) rfl rfl rfl (by decide +kernel) ⟨Nat.le_of_ble_eq_true rfl, Nat.le_of_ble_eq_true rfl⟩) (preT) rfl rfl hl.1 rfl (lv_room (Nat.le_of_ble_eq_true rfl)) dPr_takesBranch_15 ⟨Nat.le_refl _, Nat.le_refl _⟩) ?_
    refine lv_bipush (v := 8) hx hb dPr_takesBranch_18 (by decide) ?_
    refine lv_icmp_ne hx hb dPr_takesBranch_20 rfl (fun h20 => ?_) (fun h20 => ?_)
    · have hR := hR.trans (if_neg h20)
      refine lv_iconst (v := 0) hx hb dPr_takesBranch_27 (by decide) ?_
      exact W.zret hx hb hr rfl (fun t ht _ => ⟨by rw [hR]; first | done | rfl, by rw [hR, ht]; exact hP, hS.F ht⟩) hS.2.2 dPr_takesBranch_28
    · have hR := hR.trans (if_pos h20)
      refine lv_iconst (v := 1) hx hb dPr_takesBranch_23 (by decide) ?_
      refine lv_goto hx hb dPr_takesBranch_24 rfl ?_
      exact W.zret hx hb hr rfl (fun t ht _ => ⟨by rw [hR]; first | done | rfl, by rw [hR, ht]; exact hP, hS.F ht⟩) hS.2.2 dPr_takesBranch_28
theorem dPr_addWord_0 : decode ccPr_addWord 0 = .ok (.iload_n 1, 1) := by decide +kernel
theorem dPr_addWord_1 : decode ccPr_addWord 1 = .ok (.invokestatic 190, 3) := by decide +kernel
theorem dPr_addWord_4 : decode ccPr_addWord 4 = .ok (.ifCond .eq 10, 3) := by decide +kernel
theorem dPr_addWord_7 : decode ccPr_addWord 7 = .ok (.aload_n 0, 1) := by decide +kernel
theorem dPr_addWord_8 : decode ccPr_addWord 8 = .ok (.getfield 24, 3) := by decide +kernel
theorem dPr_addWord_11 : decode ccPr_addWord 11 = .ok (.invokevirtual 193, 3) := by decide +kernel
theorem dPr_addWord_14 : decode ccPr_addWord 14 = .ok (.iload 4, 2) := by decide +kernel
theorem dPr_addWord_16 : decode ccPr_addWord 16 = .ok (.ifCond .eq 13, 3) := by decide +kernel
theorem dPr_addWord_19 : decode ccPr_addWord 19 = .ok (.iload_n 1, 1) := by decide +kernel
theorem dPr_addWord_20 : decode ccPr_addWord 20 = .ok (.bipush 67, 2) := by decide +kernel
theorem dPr_addWord_22 : decode ccPr_addWord 22 = .ok (.if_icmp .eq 7, 3) := by decide +kernel
theorem dPr_addWord_25 : decode ccPr_addWord 25 = .ok (.iconst 1, 1) := by decide +kernel
theorem dPr_addWord_26 : decode ccPr_addWord 26 = .ok (.goto 4, 3) := by decide +kernel
theorem dPr_addWord_29 : decode ccPr_addWord 29 = .ok (.iconst 0, 1) := by decide +kernel
theorem dPr_addWord_30 : decode ccPr_addWord 30 = .ok (.istore 5, 2) := by decide +kernel
theorem dPr_addWord_32 : decode ccPr_addWord 32 = .ok (.iload 5, 2) := by decide +kernel
theorem dPr_addWord_34 : decode ccPr_addWord 34 = .ok (.iload_n 1, 1) := by decide +kernel
theorem dPr_addWord_35 : decode ccPr_addWord 35 = .ok (.invokestatic 196, 3) := by decide +kernel
theorem dPr_addWord_38 : decode ccPr_addWord 38 = .ok (.if_icmp .eq 7, 3) := by decide +kernel
theorem dPr_addWord_41 : decode ccPr_addWord 41 = .ok (.iconst 1, 1) := by decide +kernel
theorem dPr_addWord_42 : decode ccPr_addWord 42 = .ok (.goto 4, 3) := by decide +kernel
theorem dPr_addWord_45 : decode ccPr_addWord 45 = .ok (.iconst 0, 1) := by decide +kernel
theorem dPr_addWord_46 : decode ccPr_addWord 46 = .ok (.istore 6, 2) := by decide +kernel
theorem dPr_addWord_48 : decode ccPr_addWord 48 = .ok (.iload_n 1, 1) := by decide +kernel
theorem dPr_addWord_49 : decode ccPr_addWord 49 = .ok (.invokestatic 199, 3) := by decide +kernel
theorem dPr_addWord_52 : decode ccPr_addWord 52 = .ok (.ifCond .eq 17, 3) := by decide +kernel
theorem dPr_addWord_55 : decode ccPr_addWord 55 = .ok (.aload_n 0, 1) := by decide +kernel
theorem dPr_addWord_56 : decode ccPr_addWord 56 = .ok (.getfield 24, 3) := by decide +kernel
theorem dPr_addWord_59 : decode ccPr_addWord 59 = .ok (.lload_n 2, 1) := by decide +kernel
theorem dPr_addWord_60 : decode ccPr_addWord 60 = .ok (.lconst 0, 1) := by decide +kernel
theorem dPr_addWord_61 : decode ccPr_addWord 61 = .ok (.iload 6, 2) := by decide +kernel
theorem dPr_addWord_63 : decode ccPr_addWord 63 = .ok (.invokevirtual 202, 3) := by decide +kernel
theorem dPr_addWord_66 : decode ccPr_addWord 66 = .ok (.goto 14, 3) := by decide +kernel
theorem dPr_addWord_69 : decode ccPr_addWord 69 = .ok (.aload_n 0, 1) := by decide +kernel
theorem dPr_addWord_70 : decode ccPr_addWord 70 = .ok (.getfield 24, 3) := by decide +kernel
theorem dPr_addWord_73 : decode ccPr_addWord 73 = .ok (.lconst 0, 1) := by decide +kernel
theorem dPr_addWord_74 : decode ccPr_addWord 74 = .ok (.lload_n 2, 1) := by decide +kernel
theorem dPr_addWord_75 : decode ccPr_addWord 75 = .ok (.iload 6, 2) := by decide +kernel
theorem dPr_addWord_77 : decode ccPr_addWord 77 = .ok (.invokevirtual 202, 3) := by decide +kernel
theorem dPr_addWord_80 : decode ccPr_addWord 80 = .ok (.return_, 1) := by decide +kernel
def fPr_addWord_48  (z : SC) (o : Int32) (v : Int64) (v6 : Bool) : SC :=
  (if (fOp_addsToUpper o) = true then fAc_add z v 0 v6 else fAc_add z 0 v v6)
def fPr_addWord_46  (z : SC) (s0 : Bool) (o : Int32) (v : Int64) : SC :=
  fPr_addWord_48 z o v s0
def fPr_addWord_30  (z : SC) (s0 : Bool) (o : Int32) (v : Int64) : SC :=
  (if s0 = (fOp_subtracts o) then fPr_addWord_46 z false o v else fPr_addWord_46 z true o v)
def fPr_addWord_29  (z : SC) (o : Int32) (v : Int64) : SC :=
  fPr_addWord_30 z false o v
def fPr_addWord_14  (z : SC) (o : Int32) (v : Int64) (b : Bool) : SC :=
  (if b = true then (if o = (67 : Int32) then fPr_addWord_29 z o v else fPr_addWord_30 z true o v) else fPr_addWord_29 z o v)
def fPr_addWord (z0 : SC) (o : Int32) (v : Int64) (b : Bool) : SC :=
  (if (fOp_resetsFirst o) = true then fPr_addWord_14 (fAc_reset z0) o v b else fPr_addWord_14 z0 o v b)
set_option maxHeartbeats 4000000 in
set_option maxRecDepth 100000 in
theorem kPr_addWord (l : Launch) (D : va_G) (q : Nat → Nat) (cI cJ cZ : ClassId) (hq : c_inj q) (z0 : SC) (o : Int32) (v : Int64) (b : Bool)  : Met l yPr_addWord wsPr_addWord { frames := 2, cells := 0, slots := 0, locals := 55 } (va_Pc [.ref (q 4), .int (o), .long (v), .int (bb (b))] (c_C D q cI cJ cZ z0)) (cQw none (c_W D q cI cJ cZ (fPr_addWord z0 o v b)) (c_qs q)) 0 0 (c_qs q) := by
  refine Met.ofW (cc := ccPr_addWord) (maxL := 7) (ret := none) (by decide +kernel) rfl ?_
  intro p e s m args below meth c s₁ B hml hv
  obtain ⟨rfl, hP, hK⟩ := hv
  have hx := B.exec
  have hb := B.bytes
  have hr := B.returns
  have hts := atoms_spec (ws := wsPr_addWord) B.pre
  have hown : s.vm.findClass RPr = some m.cls := findClass_of_methodNamed B.named
  have hlocks := B.notSynchronized
  have w0 := hts (.fieldLink RPr 24 "DrumMachine$Processor" "accumulator" "LDrumMachine$Accumulator;") (List.mem_cons_of_mem _ wm1_113)
  have i0 : ∀ w ∈ u_ws RPr TPr 9, w ∈ wsPr_addWord := fun w h => List.mem_cons_of_mem _ (inAPr w h)
  have hS : va_S (c_qs q) s.heap s.heap [] := va_S.rf
  have hl := lv_entry ([.ref (q 4), .int (o), .long (v), .int (bb (b))]) (n := 7) (Nat.le_of_ble_eq_true rfl)
  rw [lg_entry_eq]
  generalize (lg_sl ([.ref (q 4), .int (o), .long (v), .int (bb (b))]) ++ List.replicate (7 - (lg_sl ([.ref (q 4), .int (o), .long (v), .int (bb (b))])).length) Slot.unset).toArray = ls at hl ⊢
  have hl : lv_has ls 7 [(0, .ref (q 4)), (1, .int (o)), (2, .long (v)), (4, .int (bb (b)))] := hl
  have hB48 : ∀ (H : Heap) (locs : List Loc) (ls : Array Slot) (z : SC) (v6 : Bool), fPr_addWord z0 o v b = fPr_addWord_48 z o v v6 → c_W D q cI cJ cZ z H → va_S (c_qs q) s.heap H locs → lv_has ls 7 [(0, .ref (q 4)), (1, .int (o)), (2, .long (v)), (6, .int (bb (v6)))] → W p l e (headSpec wsPr_addWord { frames := 2, cells := 0, slots := 0, locals := 55 }).room s m ([.ref (q 4), .int (o), .long (v), .int (bb (b))] : List Value).toArray below meth c H locs 0 0 (MQ below (cQw none (c_W D q cI cJ cZ (fPr_addWord z0 o v b)) (c_qs q)) ([.ref (q 4), .int (o), .long (v), .int (bb (b))] : List Value).toArray s 0 0 (c_qs q)) (F0 m 48 ls []) := by
    intro H locs ls z v6 hR hP hS hl
    rw [fPr_addWord_48.eq_1] at hR
    refine lv_iload_n hx hb dPr_addWord_48 rfl (lv_at hl 1 rfl) ?_
    refine cl_rd (W.runS (As := [.int (o)]) (rest := []) ⟨hx, hb, hml, hown, hts⟩ (kOp_addsToUpper l o) (va_cwS 1 hts (gS wm4_77 wm4_78 wm1_17 wm4_79) rfl rfl rfl (by decide +kernel) ⟨Nat.le_of_ble_eq_true rfl, Nat.le_of_ble_eq_true rfl⟩) (preT) rfl rfl hl.1 rfl (lv_room (Nat.le_of_ble_eq_true rfl)) dPr_addWord_49 ⟨Nat.le_refl _, Nat.le_refl _⟩) ?_
    refine wz_ifeq hx hb dPr_addWord_52 rfl (fun h52 => ?_) (fun h52 => ?_)
    · have hR := hR.trans (if_neg h52)
      refine lv_aload_n hx hb dPr_addWord_69 rfl (lv_at hl 0 rfl) ?_
      refine cg4_accumulator hx hb hts i0 hown hK hP w0 dPr_addWord_70 ?_
      refine lv_lconst (v := 0) hx hb dPr_addWord_73 (by decide) ?_
      refine lv_lload_n hx hb dPr_addWord_74 rfl (lv_at hl 2 rfl) ?_
      refine lv_iload hx hb dPr_addWord_75 (lv_at hl 3 rfl) ?_
      refine cl_wr (W.runV (As := [.long (0), .long (v), .int (bb (v6))]) (rest := []) ⟨hx, hb, hml, hown, hts⟩ (kAc_add l D q cI cJ cZ hq z 0 v v6) (cwV 3 hts (gV wm4_80 wm3_188 wm3_189 wm1_7 wm3_190) rfl rfl rfl (by decide +kernel) ⟨Nat.le_of_ble_eq_true rfl, Nat.le_of_ble_eq_true rfl⟩) (c_preV5 hK hP) rfl rfl hl.1 rfl (lv_room (Nat.le_of_ble_eq_true rfl)) dPr_addWord_77 ⟨Nat.le_refl _, Nat.le_refl _⟩) hS (fun _ h => h) (fun _ h => h) (fun H locs hP hS => ?_)
      exact W.vret hx hb hr (fun t ht _ => ⟨rfl, by rw [hR, ht]; exact hP, hS.F ht⟩) hS.2.2 dPr_addWord_80
    · have hR := hR.trans (if_pos h52)
      refine lv_aload_n hx hb dPr_addWord_55 rfl (lv_at hl 0 rfl) ?_
      refine cg4_accumulator hx hb hts i0 hown hK hP w0 dPr_addWord_56 ?_
      refine lv_lload_n hx hb dPr_addWord_59 rfl (lv_at hl 2 rfl) ?_
      refine lv_lconst (v := 0) hx hb dPr_addWord_60 (by decide) ?_
      refine lv_iload hx hb dPr_addWord_61 (lv_at hl 3 rfl) ?_
      refine cl_wr (W.runV (As := [.long (v), .long (0), .int (bb (v6))]) (rest := []) ⟨hx, hb, hml, hown, hts⟩ (kAc_add l D q cI cJ cZ hq z v 0 v6) (cwV 3 hts (gV wm4_80 wm3_188 wm3_189 wm1_7 wm3_190) rfl rfl rfl (by decide +kernel) ⟨Nat.le_of_ble_eq_true rfl, Nat.le_of_ble_eq_true rfl⟩) (c_preV5 hK hP) rfl rfl hl.1 rfl (lv_room (Nat.le_of_ble_eq_true rfl)) dPr_addWord_63 ⟨Nat.le_refl _, Nat.le_refl _⟩) hS (fun _ h => h) (fun _ h => h) (fun H locs hP hS => ?_)
      refine lv_goto hx hb dPr_addWord_66 rfl ?_
      exact W.vret hx hb hr (fun t ht _ => ⟨rfl, by rw [hR, ht]; exact hP, hS.F ht⟩) hS.2.2 dPr_addWord_80
  have hB46 : ∀ (H : Heap) (locs : List Loc) (ls : Array Slot) (z : SC) (s0 : Bool), fPr_addWord z0 o v b = fPr_addWord_46 z s0 o v → c_W D q cI cJ cZ z H → va_S (c_qs q) s.heap H locs → lv_has ls 7 [(0, .ref (q 4)), (1, .int (o)), (2, .long (v))] → W p l e (headSpec wsPr_addWord { frames := 2, cells := 0, slots := 0, locals := 55 }).room s m ([.ref (q 4), .int (o), .long (v), .int (bb (b))] : List Value).toArray below meth c H locs 0 0 (MQ below (cQw none (c_W D q cI cJ cZ (fPr_addWord z0 o v b)) (c_qs q)) ([.ref (q 4), .int (o), .long (v), .int (bb (b))] : List Value).toArray s 0 0 (c_qs q)) (F0 m 46 ls [.int (bb (s0))]) := by
    intro H locs ls z s0 hR hP hS hl
    rw [fPr_addWord_46.eq_1] at hR
    refine lv_istore (lv' := [(6, .int (bb (s0))), (0, .ref (q 4)), (1, .int (o)), (2, .long (v))]) hx hb dPr_addWord_46 hl (by decide) rfl (fun ls hl => ?_)
    exact hB48 H locs ls z s0 hR hP hS (lv_sub hl [1, 2, 3, 0] rfl)
  have hB30 : ∀ (H : Heap) (locs : List Loc) (ls : Array Slot) (z : SC) (s0 : Bool), fPr_addWord z0 o v b = fPr_addWord_30 z s0 o v → c_W D q cI cJ cZ z H → va_S (c_qs q) s.heap H locs → lv_has ls 7 [(0, .ref (q 4)), (1, .int (o)), (2, .long (v))] → W p l e (headSpec wsPr_addWord { frames := 2, cells := 0, slots := 0, locals := 55 }).room s m ([.ref (q 4), .int (o), .long (v), .int (bb (b))] : List Value).toArray below meth c H locs 0 0 (MQ below (cQw none (c_W D q cI cJ cZ (fPr_addWord z0 o v b)) (c_qs q)) ([.ref (q 4), .int (o), .long (v), .int (bb (b))] : List Value).toArray s 0 0 (c_qs q)) (F0 m 30 ls [.int (bb (s0))]) := by
    intro H locs ls z s0 hR hP hS hl
    rw [fPr_addWord_30.eq_1] at hR
    refine lv_istore (lv' := [(5, .int (bb (s0))), (0, .ref (q 4)), (1, .int (o)), (2, .long (v))]) hx hb dPr_addWord_30 hl (by decide) rfl (fun ls hl => ?_)
    refine lv_iload hx hb dPr_addWord_32 (lv_at hl 0 rfl) ?_
    refine lv_iload_n hx hb dPr_addWord_34 rfl (lv_at hl 2 rfl) ?_
    refine cl_rd (W.runS (As := [.int (o)]) (rest := [.int (bb (s0))]) ⟨hx, hb, hml, hown, hts⟩ (kOp_subtracts l o) (va_cwS 1 hts (gS wm4_74 wm4_75 wm1_17 wm4_76) rfl rfl rfl (by decide +kernel) ⟨Nat.le_of_ble_eq_true rfl, Nat.le_of_ble_eq_true rfl⟩) (preT) rfl rfl hl.1 rfl (lv_room (Nat.le_of_ble_eq_true rfl)) dPr_addWord_35 ⟨Nat.le_refl _, Nat.le_refl _⟩) ?_
    refine wz_cmpeq hx hb dPr_addWord_38 rfl (fun h38 => ?_) (fun h38 => ?_)
    · have hR := hR.trans (if_pos h38)
      refine lv_iconst (v := 0) hx hb dPr_addWord_45 (by decide) ?_
      exact hB46 H locs ls z false hR hP hS (lv_sub hl [1, 2, 3] rfl)
    · have hR := hR.trans (if_neg h38)
      refine lv_iconst (v := 1) hx hb dPr_addWord_41 (by decide) ?_
      refine lv_goto hx hb dPr_addWord_42 rfl ?_
      exact hB46 H locs ls z true hR hP hS (lv_sub hl [1, 2, 3] rfl)
  have hB29 : ∀ (H : Heap) (locs : List Loc) (ls : Array Slot) (z : SC), fPr_addWord z0 o v b = fPr_addWord_29 z o v → c_W D q cI cJ cZ z H → va_S (c_qs q) s.heap H locs → lv_has ls 7 [(0, .ref (q 4)), (1, .int (o)), (2, .long (v))] → W p l e (headSpec wsPr_addWord { frames := 2, cells := 0, slots := 0, locals := 55 }).room s m ([.ref (q 4), .int (o), .long (v), .int (bb (b))] : List Value).toArray below meth c H locs 0 0 (MQ below (cQw none (c_W D q cI cJ cZ (fPr_addWord z0 o v b)) (c_qs q)) ([.ref (q 4), .int (o), .long (v), .int (bb (b))] : List Value).toArray s 0 0 (c_qs q)) (F0 m 29 ls []) := by
    intro H locs ls z hR hP hS hl
    rw [fPr_addWord_29.eq_1] at hR
    refine lv_iconst (v := 0) hx hb dPr_addWord_29 (by decide) ?_
    exact hB30 H locs ls z false hR hP hS (lv_sub hl [0, 1, 2] rfl)
  have hB14 : ∀ (H : Heap) (locs : List Loc) (ls : Array Slot) (z : SC), fPr_addWord z0 o v b = fPr_addWord_14 z o v b → c_W D q cI cJ cZ z H → va_S (c_qs q) s.heap H locs → lv_has ls 7 [(0, .ref (q 4)), (1, .int (o)), (2, .long (v)), (4, .int (bb (b)))] → W p l e (headSpec wsPr_addWord { frames := 2, cells := 0, slots := 0, locals := 55 }).room s m ([.ref (q 4), .int (o), .long (v), .int (bb (b))] : List Value).toArray below meth c H locs 0 0 (MQ below (cQw none (c_W D q cI cJ cZ (fPr_addWord z0 o v b)) (c_qs q)) ([.ref (q 4), .int (o), .long (v), .int (bb (b))] : List Value).toArray s 0 0 (c_qs q)) (F0 m 14 ls []) := by
    intro H locs ls z hR hP hS hl
    rw [fPr_addWord_14.eq_1] at hR
    refine lv_iload hx hb dPr_addWord_14 (lv_at hl 3 rfl) ?_
    refine wz_ifeq hx hb dPr_addWord_16 rfl (fun h16 => ?_) (fun h16 => ?_)
    · have hR := hR.trans (if_neg h16)
      exact hB29 H locs ls z hR hP hS (lv_sub hl [0, 1, 2] rfl)
    · have hR := hR.trans (if_pos h16)
      refine lv_iload_n hx hb dPr_addWord_19 rfl (lv_at hl 1 rfl) ?_
      refine lv_bipush (v := 67) hx hb dPr_addWord_20 (by decide) ?_
      refine lv_icmp_eq hx hb dPr_addWord_22 rfl (fun h22 => ?_) (fun h22 => ?_)
      · have hR := hR.trans (if_pos h22)
        exact hB29 H locs ls z hR hP hS (lv_sub hl [0, 1, 2] rfl)
      · have hR := hR.trans (if_neg h22)
        refine lv_iconst (v := 1) hx hb dPr_addWord_25 (by decide) ?_
        refine lv_goto hx hb dPr_addWord_26 rfl ?_
        exact hB30 H locs ls z true hR hP hS (lv_sub hl [0, 1, 2] rfl)
  have hR := fPr_addWord.eq_1 z0 o v b
  refine lv_iload_n hx hb dPr_addWord_0 rfl (lv_at hl 1 rfl) ?_
  refine cl_rd (W.runS (As := [.int (o)]) (rest := []) ⟨hx, hb, hml, hown, hts⟩ (kOp_resetsFirst l o) (va_cwS 1 hts (gS wm4_67 wm4_68 wm1_17 wm4_69) rfl rfl rfl (by decide +kernel) ⟨Nat.le_of_ble_eq_true rfl, Nat.le_of_ble_eq_true rfl⟩) (preT) rfl rfl hl.1 rfl (lv_room (Nat.le_of_ble_eq_true rfl)) dPr_addWord_1 ⟨Nat.le_refl _, Nat.le_refl _⟩) ?_
  refine wz_ifeq hx hb dPr_addWord_4 rfl (fun h4 => ?_) (fun h4 => ?_)
  · have hR := hR.trans (if_neg h4)
    exact hB14 s.heap [] ls z0 hR hP hS (lv_sub hl [0, 1, 2, 3] rfl)
  · have hR := hR.trans (if_pos h4)
    refine lv_aload_n hx hb dPr_addWord_7 rfl (lv_at hl 0 rfl) ?_
    refine cg4_accumulator hx hb hts i0 hown hK hP w0 dPr_addWord_8 ?_
    refine cl_wr (W.runV (As := []) (rest := []) ⟨hx, hb, hml, hown, hts⟩ (kAc_reset l D q cI cJ cZ hq z0) (cwV 0 hts (gV wm4_70 wm4_71 wm4_72 wm1_7 wm4_73) rfl rfl rfl (by decide +kernel) ⟨Nat.le_of_ble_eq_true rfl, Nat.le_of_ble_eq_true rfl⟩) (c_preV5 hK hP) rfl rfl hl.1 rfl (lv_room (Nat.le_of_ble_eq_true rfl)) dPr_addWord_11 ⟨Nat.le_refl _, Nat.le_refl _⟩) hS (fun _ h => h) (fun _ h => h) (fun H locs hP hS => ?_)
    exact hB14 H locs ls (fAc_reset z0) hR hP hS (lv_sub hl [0, 1, 2, 3] rfl)
theorem dPr_multiply_0 : decode ccPr_multiply 0 = .ok (.aload_n 0, 1) := by decide +kernel
theorem dPr_multiply_1 : decode ccPr_multiply 1 = .ok (.dup, 1) := by decide +kernel
theorem dPr_multiply_2 : decode ccPr_multiply 2 = .ok (.getfield 32, 3) := by decide +kernel
theorem dPr_multiply_5 : decode ccPr_multiply 5 = .ok (.iconst 2, 1) := by decide +kernel
theorem dPr_multiply_6 : decode ccPr_multiply 6 = .ok (.aload_n 0, 1) := by decide +kernel
theorem dPr_multiply_7 : decode ccPr_multiply 7 = .ok (.getfield 24, 3) := by decide +kernel
theorem dPr_multiply_10 : decode ccPr_multiply 10 = .ok (.invokevirtual 39, 3) := by decide +kernel
theorem dPr_multiply_13 : decode ccPr_multiply 13 = .ok (.invokestatic 206, 3) := by decide +kernel
theorem dPr_multiply_16 : decode ccPr_multiply 16 = .ok (.imul, 1) := by decide +kernel
theorem dPr_multiply_17 : decode ccPr_multiply 17 = .ok (.i2l, 1) := by decide +kernel
theorem dPr_multiply_18 : decode ccPr_multiply 18 = .ok (.ladd, 1) := by decide +kernel
theorem dPr_multiply_19 : decode ccPr_multiply 19 = .ok (.putfield 32, 3) := by decide +kernel
theorem dPr_multiply_22 : decode ccPr_multiply 22 = .ok (.aload_n 0, 1) := by decide +kernel
theorem dPr_multiply_23 : decode ccPr_multiply 23 = .ok (.getfield 24, 3) := by decide +kernel
theorem dPr_multiply_26 : decode ccPr_multiply 26 = .ok (.lload_n 1, 1) := by decide +kernel
theorem dPr_multiply_27 : decode ccPr_multiply 27 = .ok (.iload_n 3, 1) := by decide +kernel
theorem dPr_multiply_28 : decode ccPr_multiply 28 = .ok (.invokevirtual 209, 3) := by decide +kernel
theorem dPr_multiply_31 : decode ccPr_multiply 31 = .ok (.return_, 1) := by decide +kernel
def fPr_multiply (z0 : SC) (v : Int64) (b : Bool) : SC :=
  fAc_multiply (c_time_s z0 ((c_time z0) + ((2 * (fDg_sum (fAc_upperDigits z0))).toInt64))) v b
set_option maxHeartbeats 4000000 in
set_option maxRecDepth 100000 in
theorem kPr_multiply (l : Launch) (D : va_G) (q : Nat → Nat) (cI cJ cZ : ClassId) (hq : c_inj q) (z0 : SC) (v : Int64) (b : Bool)  : Met l yPr_multiply wsPr_multiply { frames := 1, cells := 0, slots := 0, locals := 29 } (va_Pc [.ref (q 4), .long (v), .int (bb (b))] (c_C D q cI cJ cZ z0)) (cQw none (c_W D q cI cJ cZ (fPr_multiply z0 v b)) (c_qs q)) 0 0 (c_qs q) := by
  refine Met.ofW (cc := ccPr_multiply) (maxL := 4) (ret := none) (by decide +kernel) rfl ?_
  intro p e s m args below meth c s₁ B hml hv
  obtain ⟨rfl, hP, hK⟩ := hv
  have hx := B.exec
  have hb := B.bytes
  have hr := B.returns
  have hts := atoms_spec (ws := wsPr_multiply) B.pre
  have hown : s.vm.findClass RPr = some m.cls := findClass_of_methodNamed B.named
  have hlocks := B.notSynchronized
  have w0 := hts (.fieldLink RPr 32 "DrumMachine$Processor" "time" "J") (List.mem_cons_of_mem _ wm1_118)
  have w1 := hts (.fieldLink RPr 24 "DrumMachine$Processor" "accumulator" "LDrumMachine$Accumulator;") (List.mem_cons_of_mem _ wm1_113)
  have i0 : ∀ w ∈ u_ws RPr TPr 9, w ∈ wsPr_multiply := fun w h => List.mem_cons_of_mem _ (inAPr w h)
  have hS : va_S (c_qs q) s.heap s.heap [] := va_S.rf
  have hl := lv_entry ([.ref (q 4), .long (v), .int (bb (b))]) (n := 4) (Nat.le_of_ble_eq_true rfl)
  rw [lg_entry_eq]
  generalize (lg_sl ([.ref (q 4), .long (v), .int (bb (b))]) ++ List.replicate (4 - (lg_sl ([.ref (q 4), .long (v), .int (bb (b))])).length) Slot.unset).toArray = ls at hl ⊢
  have hl : lv_has ls 4 [(0, .ref (q 4)), (1, .long (v)), (3, .int (bb (b)))] := hl
  have hR := fPr_multiply.eq_1 z0 v b
  refine lv_aload_n hx hb dPr_multiply_0 rfl (lv_at hl 0 rfl) ?_
  refine lv_dup hx hb dPr_multiply_1 rfl ?_
  refine cg4_time hx hb hts i0 hown hK hP w0 dPr_multiply_2 ?_
  refine lv_iconst (v := 2) hx hb dPr_multiply_5 (by decide) ?_
  refine lv_aload_n hx hb dPr_multiply_6 rfl (lv_at hl 0 rfl) ?_
  refine cg4_accumulator hx hb hts i0 hown hK hP w1 dPr_multiply_7 ?_
  refine cl_rd (W.runV (As := []) (rest := [.int (2), .long (c_time z0), .ref (q 4)]) ⟨hx, hb, hml, hown, hts⟩ (kAc_upperDigits l D q cI cJ cZ hq z0) (cwV 0 hts (gV wm3_239 wm4_0 wm4_1 wm1_7 wm4_2) rfl rfl rfl (by decide +kernel) ⟨Nat.le_of_ble_eq_true rfl, Nat.le_of_ble_eq_true rfl⟩) (c_preV5 hK hP) rfl rfl hl.1 rfl (lv_room (Nat.le_of_ble_eq_true rfl)) dPr_multiply_10 ⟨Nat.le_refl _, Nat.le_refl _⟩) ?_
  refine cl_rd (W.runS (As := [.long ((fAc_upperDigits z0))]) (rest := [.int (2), .long (c_time z0), .ref (q 4)]) ⟨hx, hb, hml, hown, hts⟩ (kDg_sum l (fAc_upperDigits z0)) (va_cwS 1 hts (gS wm4_33 wm4_34 wm1_14 wm4_35) rfl rfl rfl (by decide +kernel) ⟨Nat.le_of_ble_eq_true rfl, Nat.le_of_ble_eq_true rfl⟩) (preT) rfl rfl hl.1 rfl (lv_room (Nat.le_of_ble_eq_true rfl)) dPr_multiply_13 ⟨Nat.le_refl _, Nat.le_refl _⟩) ?_
  refine lv_imul hx hb dPr_multiply_16 ?_
  refine lv_i2l hx hb dPr_multiply_17 rfl ?_
  refine lv_ladd hx hb dPr_multiply_18 ?_
  refine cp4_time ((c_time z0) + ((2 * (fDg_sum (fAc_upperDigits z0))).toInt64)) hq hS hx hb hts i0 hown hK hP w0 dPr_multiply_19 (fun H locs hP hS => ?_)
  refine lv_aload_n hx hb dPr_multiply_22 rfl (lv_at hl 0 rfl) ?_
  refine cg4_accumulator hx hb hts i0 hown hK hP w1 dPr_multiply_23 ?_
  refine lv_lload_n hx hb dPr_multiply_26 rfl (lv_at hl 1 rfl) ?_
  refine lv_iload_n hx hb dPr_multiply_27 rfl (lv_at hl 2 rfl) ?_
  refine cl_wr (W.runV (As := [.long (v), .int (bb (b))]) (rest := []) ⟨hx, hb, hml, hown, hts⟩ (kAc_multiply l D q cI cJ cZ hq (c_time_s z0 ((c_time z0) + ((2 * (fDg_sum (fAc_upperDigits z0))).toInt64))) v b) (cwV 2 hts (gV wm4_55 wm4_56 wm4_57 wm1_7 wm4_58) rfl rfl rfl (by decide +kernel) ⟨Nat.le_of_ble_eq_true rfl, Nat.le_of_ble_eq_true rfl⟩) (c_preV5 hK hP) rfl rfl hl.1 rfl (lv_room (Nat.le_of_ble_eq_true rfl)) dPr_multiply_28 ⟨Nat.le_refl _, Nat.le_refl _⟩) hS (fun _ h => h) (fun _ h => h) (fun H locs hP hS => ?_)
  exact W.vret hx hb hr (fun t ht _ => ⟨rfl, by rw [hR, ht]; exact hP, hS.F ht⟩) hS.2.2 dPr_multiply_31
theorem dPr_divide_0 : decode ccPr_divide 0 = .ok (.aload_n 0, 1) := by decide +kernel
theorem dPr_divide_1 : decode ccPr_divide 1 = .ok (.getfield 24, 3) := by decide +kernel
theorem dPr_divide_4 : decode ccPr_divide 4 = .ok (.lload_n 1, 1) := by decide +kernel
theorem dPr_divide_5 : decode ccPr_divide 5 = .ok (.iload_n 3, 1) := by decide +kernel
theorem dPr_divide_6 : decode ccPr_divide 6 = .ok (.invokevirtual 210, 3) := by decide +kernel
theorem dPr_divide_9 : decode ccPr_divide 9 = .ok (.ifCond .ne 5, 3) := by decide +kernel
theorem dPr_divide_12 : decode ccPr_divide 12 = .ok (.iconst 3, 1) := by decide +kernel
theorem dPr_divide_13 : decode ccPr_divide 13 = .ok (.ireturn, 1) := by decide +kernel
theorem dPr_divide_14 : decode ccPr_divide 14 = .ok (.aload_n 0, 1) := by decide +kernel
theorem dPr_divide_15 : decode ccPr_divide 15 = .ok (.dup, 1) := by decide +kernel
theorem dPr_divide_16 : decode ccPr_divide 16 = .ok (.getfield 32, 3) := by decide +kernel
theorem dPr_divide_19 : decode ccPr_divide 19 = .ok (.iconst 2, 1) := by decide +kernel
theorem dPr_divide_20 : decode ccPr_divide 20 = .ok (.aload_n 0, 1) := by decide +kernel
theorem dPr_divide_21 : decode ccPr_divide 21 = .ok (.getfield 24, 3) := by decide +kernel
theorem dPr_divide_24 : decode ccPr_divide 24 = .ok (.invokevirtual 43, 3) := by decide +kernel
theorem dPr_divide_27 : decode ccPr_divide 27 = .ok (.invokestatic 206, 3) := by decide +kernel
theorem dPr_divide_30 : decode ccPr_divide 30 = .ok (.imul, 1) := by decide +kernel
theorem dPr_divide_31 : decode ccPr_divide 31 = .ok (.i2l, 1) := by decide +kernel
theorem dPr_divide_32 : decode ccPr_divide 32 = .ok (.ladd, 1) := by decide +kernel
theorem dPr_divide_33 : decode ccPr_divide 33 = .ok (.putfield 32, 3) := by decide +kernel
theorem dPr_divide_36 : decode ccPr_divide 36 = .ok (.iconst (-1), 1) := by decide +kernel
theorem dPr_divide_37 : decode ccPr_divide 37 = .ok (.ireturn, 1) := by decide +kernel
def fPr_divide_14  (z : SC) : Int32 × SC :=
  ((-1), c_time_s z ((c_time z) + ((2 * (fDg_sum (fAc_lowerDigits z))).toInt64)))
def fPr_divide (z0 : SC) (v : Int64) (b : Bool) : Int32 × SC :=
  (if ((fAc_divide z0 v b).1) = true then fPr_divide_14 ((fAc_divide z0 v b).2) else (3, (fAc_divide z0 v b).2))
set_option maxHeartbeats 4000000 in
set_option maxRecDepth 100000 in
theorem kPr_divide (l : Launch) (D : va_G) (q : Nat → Nat) (cI cJ cZ : ClassId) (hq : c_inj q) (z0 : SC) (v : Int64) (b : Bool)  : Met l yPr_divide wsPr_divide { frames := 1, cells := 0, slots := 0, locals := 30 } (va_Pc [.ref (q 4), .long (v), .int (bb (b))] (c_C D q cI cJ cZ z0)) (cQw (some (.int ((fPr_divide z0 v b).1))) (c_W D q cI cJ cZ (fPr_divide z0 v b).2) (c_qs q)) 0 0 (c_qs q) := by
  refine Met.ofW (cc := ccPr_divide) (maxL := 4) (ret := (some .int)) (by decide +kernel) rfl ?_
  intro p e s m args below meth c s₁ B hml hv
  obtain ⟨rfl, hP, hK⟩ := hv
  have hx := B.exec
  have hb := B.bytes
  have hr := B.returns
  have hts := atoms_spec (ws := wsPr_divide) B.pre
  have hown : s.vm.findClass RPr = some m.cls := findClass_of_methodNamed B.named
  have hlocks := B.notSynchronized
  have w0 := hts (.fieldLink RPr 32 "DrumMachine$Processor" "time" "J") (List.mem_cons_of_mem _ wm1_118)
  have w1 := hts (.fieldLink RPr 24 "DrumMachine$Processor" "accumulator" "LDrumMachine$Accumulator;") (List.mem_cons_of_mem _ wm1_113)
  have i0 : ∀ w ∈ u_ws RPr TPr 9, w ∈ wsPr_divide := fun w h => List.mem_cons_of_mem _ (inAPr w h)
  have hS : va_S (c_qs q) s.heap s.heap [] := va_S.rf
  have hl := lv_entry ([.ref (q 4), .long (v), .int (bb (b))]) (n := 4) (Nat.le_of_ble_eq_true rfl)
  rw [lg_entry_eq]
  generalize (lg_sl ([.ref (q 4), .long (v), .int (bb (b))]) ++ List.replicate (4 - (lg_sl ([.ref (q 4), .long (v), .int (bb (b))])).length) Slot.unset).toArray = ls at hl ⊢
  have hl : lv_has ls 4 [(0, .ref (q 4)), (1, .long (v)), (3, .int (bb (b)))] := hl
  have hB14 : ∀ (H : Heap) (locs : List Loc) (ls : Array Slot) (z : SC), fPr_divide z0 v b = fPr_divide_14 z → c_W D q cI cJ cZ z H → va_S (c_qs q) s.heap H locs → lv_has ls 4 [(0, .ref (q 4))] → W p l e (headSpec wsPr_divide { frames := 1, cells := 0, slots := 0, locals := 30 }).room s m ([.ref (q 4), .long (v), .int (bb (b))] : List Value).toArray below meth c H locs 0 0 (MQ below (cQw (some (.int ((fPr_divide z0 v b).1))) (c_W D q cI cJ cZ (fPr_divide z0 v b).2) (c_qs q)) ([.ref (q 4), .long (v), .int (bb (b))] : List Value).toArray s 0 0 (c_qs q)) (F0 m 14 ls []) := by
    intro H locs ls z hR hP hS hl
    rw [fPr_divide_14.eq_1] at hR
    refine lv_aload_n hx hb dPr_divide_14 rfl (lv_at hl 0 rfl) ?_
    refine lv_dup hx hb dPr_divide_15 rfl ?_
    refine cg4_time hx hb hts i0 hown hK hP w0 dPr_divide_16 ?_
    refine lv_iconst (v := 2) hx hb dPr_divide_19 (by decide) ?_
    refine lv_aload_n hx hb dPr_divide_20 rfl (lv_at hl 0 rfl) ?_
    refine cg4_accumulator hx hb hts i0 hown hK hP w1 dPr_divide_21 ?_
    refine cl_rd (W.runV (As := []) (rest := [.int (2), .long (c_time z), .ref (q 4)]) ⟨hx, hb, hml, hown, hts⟩ (kAc_lowerDigits l D q cI cJ cZ hq z) (cwV 0 hts (gV wm3_227 wm3_228 wm3_229 wm1_7 wm3_230) rfl rfl rfl (by decide +kernel) ⟨Nat.le_of_ble_eq_true rfl, Nat.le_of_ble_eq_true rfl⟩) (c_preV5 hK hP) rfl rfl hl.1 rfl (lv_room (Nat.le_of_ble_eq_true rfl)) dPr_divide_24 ⟨Nat.le_refl _, Nat.le_refl _⟩) ?_
    refine cl_rd (W.runS (As := [.long ((fAc_lowerDigits z))]) (rest := [.int (2), .long (c_time z), .ref (q 4)]) ⟨hx, hb, hml, hown, hts⟩ (kDg_sum l (fAc_lowerDigits z)) (va_cwS 1 hts (gS wm4_33 wm4_34 wm1_14 wm4_35) rfl rfl rfl (by decide +kernel) ⟨Nat.le_of_ble_eq_true rfl, Nat.le_of_ble_eq_true rfl⟩) (preT) rfl rfl hl.1 rfl (lv_room (Nat.le_of_ble_eq_true rfl)) dPr_divide_27 ⟨Nat.le_refl _, Nat.le_refl _⟩) ?_
    refine lv_imul hx hb dPr_divide_30 ?_
    refine lv_i2l hx hb dPr_divide_31 rfl ?_
    refine lv_ladd hx hb dPr_divide_32 ?_
    refine cp4_time ((c_time z) + ((2 * (fDg_sum (fAc_lowerDigits z))).toInt64)) hq hS hx hb hts i0 hown hK hP w0 dPr_divide_33 (fun H locs hP hS => ?_)
    refine lv_iconst (v := (-1)) hx hb dPr_divide_36 (by decide) ?_
    exact W.iret hx hb hr (fun t ht _ => ⟨by rw [hR]; first | done | rfl, by rw [hR, ht]; exact hP, hS.F ht⟩) hS.2.2 dPr_divide_37
  have hR := fPr_divide.eq_1 z0 v b
  refine lv_aload_n hx hb dPr_divide_0 rfl (lv_at hl 0 rfl) ?_
  refine cg4_accumulator hx hb hts i0 hown hK hP w1 dPr_divide_1 ?_
  refine lv_lload_n hx hb dPr_divide_4 rfl (lv_at hl 1 rfl) ?_
  refine lv_iload_n hx hb dPr_divide_5 rfl (lv_at hl 2 rfl) ?_
  refine cl_wr (W.runV (As := [.long (v), .int (bb (b))]) (rest := []) ⟨hx, hb, hml, hown, hts⟩ (kAc_divide l D q cI cJ cZ hq z0 v b) (cwV 2 hts (gV wm4_27 wm4_28 wm4_29 wm1_7 wm4_30) rfl rfl rfl (by decide +kernel) ⟨Nat.le_of_ble_eq_true rfl, Nat.le_of_ble_eq_true rfl⟩) (c_preV5 hK hP) rfl rfl hl.1 rfl (lv_room (Nat.le_of_ble_eq_true rfl)) dPr_divide_6 ⟨Nat.le_refl _, Nat.le_refl _⟩) hS (fun _ h => h) (fun _ h => h) (fun H locs hP hS => ?_)
  refine wz_ifne hx hb dPr_divide_9 rfl (fun h9 => ?_) (fun h9 => ?_)
  · have hR := hR.trans (if_pos h9)
    exact hB14 H locs ls ((fAc_divide z0 v b).2) hR hP hS (lv_sub hl [0] rfl)
  · have hR := hR.trans (if_neg h9)
    refine lv_iconst (v := 3) hx hb dPr_divide_12 (by decide) ?_
    exact W.iret hx hb hr (fun t ht _ => ⟨by rw [hR]; first | done | rfl, by rw [hR, ht]; exact hP, hS.F ht⟩) hS.2.2 dPr_divide_13
theorem pu_in {z : SC} (hc : 0 ≤ (c_pcount z).toInt) (h : ¬ fPu_isFull z = true) : vp_in (c_pcount z) 40 := by
  rw [fPu_isFull.eq_1] at h
  by_cases h1 : c_pcount z < (40 : Int32)
  · rw [Int32.lt_iff_toInt_lt] at h1
    have e : (40 : Int32).toInt = 40 := by decide
    exact vp_in_iff.mpr ⟨hc, by omega⟩
  · rw [if_neg h1] at h; exact absurd rfl h
theorem end_v {a : Int32} (ha : vp_in a 200) : ((a - fDr_angleOf a) + 50).toInt = a.toInt - a.toInt % 50 + 50 := by
  obtain ⟨a1, a2⟩ := vp_in_iff.mp ha
  have e : (50 : Int32).toInt = 50 := by decide
  have hm : (fDr_angleOf a).toInt = a.toInt % 50 := by
    rw [fDr_angleOf.eq_1, Kit.i32_rem_nonneg a1, e]
  have hs : (a - fDr_angleOf a).toInt = a.toInt - a.toInt % 50 := by
    rw [Kit.i32_sub (by rw [hm]; omega) (by rw [hm]; omega), hm]
  rw [Kit.i32_add (by rw [hs, e]; omega) (by rw [hs, e]; omega), hs, e]
theorem end_b {a : Int32} (ha : vp_in a 200) : 0 ≤ a.toInt ∧ a.toInt ≤ ((a - fDr_angleOf a) + 50).toInt ∧ ((a - fDr_angleOf a) + 50).toInt ≤ 200 := by
  have h := end_v ha
  obtain ⟨a1, a2⟩ := vp_in_iff.mp ha
  omega
theorem end_m {a : Int32} (ha : vp_in a 200) : (((a - fDr_angleOf a) + 50).toInt - a.toInt).toNat < 51 := by
  have h := end_v ha
  obtain ⟨a1, a2⟩ := vp_in_iff.mp ha
  omega
theorem lk_lt {x y : Int32} (h : ¬ y ≤ x) : x.toInt < y.toInt := by
  rw [Int32.le_iff_toInt_le] at h
  omega
theorem i_inc {x : Int32} (h : x.toInt < 100000) (h0 : 0 ≤ x.toInt) : (x + 1).toInt = x.toInt + 1 := by
  have e : (1 : Int32).toInt = 1 := by decide
  rw [Kit.i32_add (by omega) (by omega), e]
theorem lk_in {x y : Int32} (h3 : 0 ≤ x.toInt ∧ x.toInt ≤ y.toInt ∧ y.toInt ≤ 200) (h : ¬ y ≤ x) : vp_in x 200 := by
  have := lk_lt h
  exact vp_in_iff.mpr ⟨h3.1, by omega⟩
theorem lk_s {x y : Int32} (h3 : 0 ≤ x.toInt ∧ x.toInt ≤ y.toInt ∧ y.toInt ≤ 200) (h : ¬ y ≤ x) : 0 ≤ (x + 1).toInt ∧ (x + 1).toInt ≤ y.toInt ∧ y.toInt ≤ 200 := by
  have := lk_lt h
  rw [i_inc (by omega) h3.1]
  omega
theorem lk_m {x y : Int32} {n : Nat} (h3 : 0 ≤ x.toInt ∧ x.toInt ≤ y.toInt ∧ y.toInt ≤ 200) (h : ¬ y ≤ x) (hn : (y.toInt - x.toInt).toNat < n + 1) : (y.toInt - (x + 1).toInt).toNat < n := by
  have := lk_lt h
  rw [i_inc (by omega) h3.1]
  omega
theorem ds_b {a : Int32} {k : Nat} (ha : a.toInt ≤ 300) (hk : k ≤ 300) (h : ¬ a ≤ nI k) : k + 1 ≤ 300 := by
  have := lk_lt h
  rw [nI_toInt (by omega)] at this
  omega
theorem ds_m {a : Int32} {k n : Nat} (ha : a.toInt ≤ 300) (hk : k ≤ 300) (h : ¬ a ≤ nI k) (hn : 300 - k < n + 1) : 300 - (k + 1) < n := by
  have := lk_lt h
  rw [nI_toInt (by omega)] at this
  omega
theorem dPr_punchWord_0 : decode ccPr_punchWord 0 = .ok (.aload_n 0, 1) := by decide +kernel
theorem dPr_punchWord_1 : decode ccPr_punchWord 1 = .ok (.getfield 17, 3) := by decide +kernel
theorem dPr_punchWord_4 : decode ccPr_punchWord 4 = .ok (.invokevirtual 213, 3) := by decide +kernel
theorem dPr_punchWord_7 : decode ccPr_punchWord 7 = .ok (.ifCond .eq 5, 3) := by decide +kernel
theorem dPr_punchWord_10 : decode ccPr_punchWord 10 = .ok (.iconst 4, 1) := by decide +kernel
theorem dPr_punchWord_11 : decode ccPr_punchWord 11 = .ok (.ireturn, 1) := by decide +kernel
theorem dPr_punchWord_12 : decode ccPr_punchWord 12 = .ok (.aload_n 0, 1) := by decide +kernel
theorem dPr_punchWord_13 : decode ccPr_punchWord 13 = .ok (.getfield 17, 3) := by decide +kernel
theorem dPr_punchWord_16 : decode ccPr_punchWord 16 = .ok (.lload_n 1, 1) := by decide +kernel
theorem dPr_punchWord_17 : decode ccPr_punchWord 17 = .ok (.iload_n 3, 1) := by decide +kernel
theorem dPr_punchWord_18 : decode ccPr_punchWord 18 = .ok (.invokestatic 218, 3) := by decide +kernel
theorem dPr_punchWord_21 : decode ccPr_punchWord 21 = .ok (.invokevirtual 222, 3) := by decide +kernel
theorem dPr_punchWord_24 : decode ccPr_punchWord 24 = .ok (.iconst (-1), 1) := by decide +kernel
theorem dPr_punchWord_25 : decode ccPr_punchWord 25 = .ok (.ireturn, 1) := by decide +kernel
def fPr_punchWord (z0 : SC) (v : Int64) (b : Bool) : Int32 × SC :=
  (if (fPu_isFull z0) = true then (4, z0) else ((-1), fPu_put z0 (fDg_withSign v b)))
set_option maxHeartbeats 4000000 in
set_option maxRecDepth 100000 in
theorem kPr_punchWord (l : Launch) (D : va_G) (q : Nat → Nat) (cI cJ cZ : ClassId) (hq : c_inj q) (z0 : SC) (v : Int64) (b : Bool) (hc : 0 ≤ (c_pcount z0).toInt) : Met l yPr_punchWord wsPr_punchWord { frames := 1, cells := 0, slots := 0, locals := 22 } (va_Pc [.ref (q 4), .long (v), .int (bb (b))] (c_C D q cI cJ cZ z0)) (cQw (some (.int ((fPr_punchWord z0 v b).1))) (c_W D q cI cJ cZ (fPr_punchWord z0 v b).2) (c_qs q)) 0 0 (c_qs q) := by
  refine Met.ofW (cc := ccPr_punchWord) (maxL := 4) (ret := (some .int)) (by decide +kernel) rfl ?_
  intro p e s m args below meth c s₁ B hml hv
  obtain ⟨rfl, hP, hK⟩ := hv
  have hx := B.exec
  have hb := B.bytes
  have hr := B.returns
  have hts := atoms_spec (ws := wsPr_punchWord) B.pre
  have hown : s.vm.findClass RPr = some m.cls := findClass_of_methodNamed B.named
  have hlocks := B.notSynchronized
  have w0 := hts (.fieldLink RPr 17 "DrumMachine$Processor" "punch" "LDrumMachine$Punch;") (List.mem_cons_of_mem _ wm1_112)
  have i0 : ∀ w ∈ u_ws RPr TPr 9, w ∈ wsPr_punchWord := fun w h => List.mem_cons_of_mem _ (inAPr w h)
  have hS : va_S (c_qs q) s.heap s.heap [] := va_S.rf
  have hl := lv_entry ([.ref (q 4), .long (v), .int (bb (b))]) (n := 4) (Nat.le_of_ble_eq_true rfl)
  rw [lg_entry_eq]
  generalize (lg_sl ([.ref (q 4), .long (v), .int (bb (b))]) ++ List.replicate (4 - (lg_sl ([.ref (q 4), .long (v), .int (bb (b))])).length) Slot.unset).toArray = ls at hl ⊢
  have hl : lv_has ls 4 [(0, .ref (q 4)), (1, .long (v)), (3, .int (bb (b)))] := hl
  have hR := fPr_punchWord.eq_1 z0 v b
  refine lv_aload_n hx hb dPr_punchWord_0 rfl (lv_at hl 0 rfl) ?_
  refine cg4_punch hx hb hts i0 hown hK hP w0 dPr_punchWord_1 ?_
  refine cl_rd (W.runV (As := []) (rest := []) ⟨hx, hb, hml, hown, hts⟩ (kPu_isFull l D q cI cJ cZ hq z0) (cwV 0 hts (gV wm4_40 wm4_41 wm4_42 wm1_5 wm4_43) rfl rfl rfl (by decide +kernel) ⟨Nat.le_of_ble_eq_true rfl, Nat.le_of_ble_eq_true rfl⟩) (c_preV3 hK hP) rfl rfl hl.1 rfl (lv_room (Nat.le_of_ble_eq_true rfl)) dPr_punchWord_4 ⟨Nat.le_refl _, Nat.le_refl _⟩) ?_
  refine wz_ifeq hx hb dPr_punchWord_7 rfl (fun h7 => ?_) (fun h7 => ?_)
  · have hR := hR.trans (if_neg h7)
    refine lv_aload_n hx hb dPr_punchWord_12 rfl (lv_at hl 0 rfl) ?_
    refine cg4_punch hx hb hts i0 hown hK hP w0 dPr_punchWord_13 ?_
    refine lv_lload_n hx hb dPr_punchWord_16 rfl (lv_at hl 1 rfl) ?_
    refine lv_iload_n hx hb dPr_punchWord_17 rfl (lv_at hl 2 rfl) ?_
    refine cl_rd (W.runS (As := [.long (v), .int (bb (b))]) (rest := [.ref (q 3)]) ⟨hx, hb, hml, hown, hts⟩ (kDg_withSign l v b) (va_cwS 2 hts (gS wm4_44 wm4_45 wm1_14 wm4_46) rfl rfl rfl (by decide +kernel) ⟨Nat.le_of_ble_eq_true rfl, Nat.le_of_ble_eq_true rfl⟩) (preT) rfl rfl hl.1 rfl (lv_room (Nat.le_of_ble_eq_true rfl)) dPr_punchWord_18 ⟨Nat.le_refl _, Nat.le_refl _⟩) ?_
    refine cl_wr (W.runV (As := [.long ((fDg_withSign v b))]) (rest := []) ⟨hx, hb, hml, hown, hts⟩ (kPu_put l D q cI cJ cZ hq z0 (fDg_withSign v b) (pu_in hc h7)) (cwV 1 hts (gV wm4_47 wm4_48 wm4_49 wm1_5 wm4_50) rfl rfl rfl (by decide +kernel) ⟨Nat.le_of_ble_eq_true rfl, Nat.le_of_ble_eq_true rfl⟩) (c_preV3 hK hP) rfl rfl hl.1 rfl (lv_room (Nat.le_of_ble_eq_true rfl)) dPr_punchWord_21 ⟨Nat.le_refl _, Nat.le_refl _⟩) hS (fun _ h => h) (fun _ h => h) (fun H locs hP hS => ?_)
    refine lv_iconst (v := (-1)) hx hb dPr_punchWord_24 (by decide) ?_
    exact W.iret hx hb hr (fun t ht _ => ⟨by rw [hR]; first | done | rfl, by rw [hR, ht]; exact hP, hS.F ht⟩) hS.2.2 dPr_punchWord_25
  · have hR := hR.trans (if_pos h7)
    refine lv_iconst (v := 4) hx hb dPr_punchWord_10 (by decide) ?_
    exact W.iret hx hb hr (fun t ht _ => ⟨by rw [hR]; first | done | rfl, by rw [hR, ht]; exact hP, hS.F ht⟩) hS.2.2 dPr_punchWord_11
theorem dPr_lookUp_0 : decode ccPr_lookUp 0 = .ok (.iload_n 1, 1) := by decide +kernel
theorem dPr_lookUp_1 : decode ccPr_lookUp 1 = .ok (.iload_n 1, 1) := by decide +kernel
theorem dPr_lookUp_2 : decode ccPr_lookUp 2 = .ok (.invokestatic 113, 3) := by decide +kernel
theorem dPr_lookUp_5 : decode ccPr_lookUp 5 = .ok (.isub, 1) := by decide +kernel
theorem dPr_lookUp_6 : decode ccPr_lookUp 6 = .ok (.bipush 50, 2) := by decide +kernel
theorem dPr_lookUp_8 : decode ccPr_lookUp 8 = .ok (.iadd, 1) := by decide +kernel
theorem dPr_lookUp_9 : decode ccPr_lookUp 9 = .ok (.istore_n 2, 1) := by decide +kernel
theorem dPr_lookUp_10 : decode ccPr_lookUp 10 = .ok (.iload_n 1, 1) := by decide +kernel
theorem dPr_lookUp_11 : decode ccPr_lookUp 11 = .ok (.istore_n 3, 1) := by decide +kernel
theorem dPr_lookUp_12 : decode ccPr_lookUp 12 = .ok (.iload_n 3, 1) := by decide +kernel
theorem dPr_lookUp_13 : decode ccPr_lookUp 13 = .ok (.iload_n 2, 1) := by decide +kernel
theorem dPr_lookUp_14 : decode ccPr_lookUp 14 = .ok (.if_icmp .ge 63, 3) := by decide +kernel
theorem dPr_lookUp_17 : decode ccPr_lookUp 17 = .ok (.iload_n 3, 1) := by decide +kernel
theorem dPr_lookUp_18 : decode ccPr_lookUp 18 = .ok (.iload_n 1, 1) := by decide +kernel
theorem dPr_lookUp_19 : decode ccPr_lookUp 19 = .ok (.if_icmp .le 13, 3) := by decide +kernel
theorem dPr_lookUp_22 : decode ccPr_lookUp 22 = .ok (.aload_n 0, 1) := by decide +kernel
theorem dPr_lookUp_23 : decode ccPr_lookUp 23 = .ok (.dup, 1) := by decide +kernel
theorem dPr_lookUp_24 : decode ccPr_lookUp 24 = .ok (.getfield 32, 3) := by decide +kernel
theorem dPr_lookUp_27 : decode ccPr_lookUp 27 = .ok (.lconst 1, 1) := by decide +kernel
theorem dPr_lookUp_28 : decode ccPr_lookUp 28 = .ok (.ladd, 1) := by decide +kernel
theorem dPr_lookUp_29 : decode ccPr_lookUp 29 = .ok (.putfield 32, 3) := by decide +kernel
theorem dPr_lookUp_32 : decode ccPr_lookUp 32 = .ok (.aload_n 0, 1) := by decide +kernel
theorem dPr_lookUp_33 : decode ccPr_lookUp 33 = .ok (.getfield 7, 3) := by decide +kernel
theorem dPr_lookUp_36 : decode ccPr_lookUp 36 = .ok (.iload_n 3, 1) := by decide +kernel
theorem dPr_lookUp_37 : decode ccPr_lookUp 37 = .ok (.invokevirtual 80, 3) := by decide +kernel
theorem dPr_lookUp_40 : decode ccPr_lookUp 40 = .ok (.ifCond .ne 5, 3) := by decide +kernel
theorem dPr_lookUp_43 : decode ccPr_lookUp 43 = .ok (.iconst 1, 1) := by decide +kernel
theorem dPr_lookUp_44 : decode ccPr_lookUp 44 = .ok (.ireturn, 1) := by decide +kernel
theorem dPr_lookUp_45 : decode ccPr_lookUp 45 = .ok (.aload_n 0, 1) := by decide +kernel
theorem dPr_lookUp_46 : decode ccPr_lookUp 46 = .ok (.getfield 7, 3) := by decide +kernel
theorem dPr_lookUp_49 : decode ccPr_lookUp 49 = .ok (.iload_n 3, 1) := by decide +kernel
theorem dPr_lookUp_50 : decode ccPr_lookUp 50 = .ok (.invokevirtual 83, 3) := by decide +kernel
theorem dPr_lookUp_53 : decode ccPr_lookUp 53 = .ok (.aload_n 0, 1) := by decide +kernel
theorem dPr_lookUp_54 : decode ccPr_lookUp 54 = .ok (.getfield 46, 3) := by decide +kernel
theorem dPr_lookUp_57 : decode ccPr_lookUp 57 = .ok (.lcmp, 1) := by decide +kernel
theorem dPr_lookUp_58 : decode ccPr_lookUp 58 = .ok (.ifCond .lt 13, 3) := by decide +kernel
theorem dPr_lookUp_61 : decode ccPr_lookUp 61 = .ok (.aload_n 0, 1) := by decide +kernel
theorem dPr_lookUp_62 : decode ccPr_lookUp 62 = .ok (.getfield 24, 3) := by decide +kernel
theorem dPr_lookUp_65 : decode ccPr_lookUp 65 = .ok (.iload_n 3, 1) := by decide +kernel
theorem dPr_lookUp_66 : decode ccPr_lookUp 66 = .ok (.invokevirtual 226, 3) := by decide +kernel
theorem dPr_lookUp_69 : decode ccPr_lookUp 69 = .ok (.iconst (-1), 1) := by decide +kernel
theorem dPr_lookUp_70 : decode ccPr_lookUp 70 = .ok (.ireturn, 1) := by decide +kernel
theorem dPr_lookUp_71 : decode ccPr_lookUp 71 = .ok (.iinc 3 1, 3) := by decide +kernel
theorem dPr_lookUp_74 : decode ccPr_lookUp 74 = .ok (.goto (-62), 3) := by decide +kernel
theorem dPr_lookUp_77 : decode ccPr_lookUp 77 = .ok (.iconst 5, 1) := by decide +kernel
theorem dPr_lookUp_78 : decode ccPr_lookUp 78 = .ok (.ireturn, 1) := by decide +kernel
def fPr_lookUp_12  : Nat → SC → Int32 → Int32 → Int32 → Int32 × SC
  | 0, z, a, v2, v3 => (0, z)
  | fu + 1, z, a, v2, v3 => (if v2 ≤ v3 then (5, z) else (if v3 ≤ a then (if (fDr_isValid z v3) = true then (if (fDr_valueAt z v3) < (c_dist z) then fPr_lookUp_12 fu z a v2 (v3 + 1) else ((-1), fAc_putDataAddress z v3)) else (1, z)) else (if (fDr_isValid (c_time_s z ((c_time z) + 1)) v3) = true then (if (fDr_valueAt (c_time_s z ((c_time z) + 1)) v3) < (c_dist z) then fPr_lookUp_12 fu (c_time_s z ((c_time z) + 1)) a v2 (v3 + 1) else ((-1), fAc_putDataAddress (c_time_s z ((c_time z) + 1)) v3)) else (1, c_time_s z ((c_time z) + 1)))))
def fPr_lookUp (z0 : SC) (a : Int32) : Int32 × SC :=
  fPr_lookUp_12 51 z0 a ((a - (fDr_angleOf a)) + 50) a
set_option maxHeartbeats 4000000 in
set_option maxRecDepth 100000 in
theorem kPr_lookUp (l : Launch) (D : va_G) (q : Nat → Nat) (cI cJ cZ : ClassId) (hq : c_inj q) (z0 : SC) (a : Int32) (ha : vp_in a 200) : Met l yPr_lookUp wsPr_lookUp { frames := 2, cells := 0, slots := 0, locals := 45 } (va_Pc [.ref (q 4), .int (a)] (c_C D q cI cJ cZ z0)) (cQw (some (.int ((fPr_lookUp z0 a).1))) (c_W D q cI cJ cZ (fPr_lookUp z0 a).2) (c_qs q)) 0 0 (c_qs q) := by
  refine Met.ofW (cc := ccPr_lookUp) (maxL := 4) (ret := (some .int)) (by decide +kernel) rfl ?_
  intro p e s m args below meth c s₁ B hml hv
  obtain ⟨rfl, hP, hK⟩ := hv
  have hx := B.exec
  have hb := B.bytes
  have hr := B.returns
  have hts := atoms_spec (ws := wsPr_lookUp) B.pre
  have hown : s.vm.findClass RPr = some m.cls := findClass_of_methodNamed B.named
  have hlocks := B.notSynchronized
  have w0 := hts (.fieldLink RPr 7 "DrumMachine$Processor" "drum" "LDrumMachine$Drum;") (List.mem_cons_of_mem _ wm1_110)
  have w1 := hts (.fieldLink RPr 46 "DrumMachine$Processor" "distributor" "J") (List.mem_cons_of_mem _ wm1_114)
  have w2 := hts (.fieldLink RPr 24 "DrumMachine$Processor" "accumulator" "LDrumMachine$Accumulator;") (List.mem_cons_of_mem _ wm1_113)
  have w3 := hts (.fieldLink RPr 32 "DrumMachine$Processor" "time" "J") (List.mem_cons_of_mem _ wm1_118)
  have i0 : ∀ w ∈ u_ws RPr TPr 9, w ∈ wsPr_lookUp := fun w h => List.mem_cons_of_mem _ (inAPr w h)
  have hS : va_S (c_qs q) s.heap s.heap [] := va_S.rf
  have hl := lv_entry ([.ref (q 4), .int (a)]) (n := 4) (Nat.le_of_ble_eq_true rfl)
  rw [lg_entry_eq]
  generalize (lg_sl ([.ref (q 4), .int (a)]) ++ List.replicate (4 - (lg_sl ([.ref (q 4), .int (a)])).length) Slot.unset).toArray = ls at hl ⊢
  have hl : lv_has ls 4 [(0, .ref (q 4)), (1, .int (a))] := hl
  have hB12 : ∀ (n12 : Nat) (H : Heap) (locs : List Loc) (ls : Array Slot) (z : SC) (v2 : Int32) (v3 : Int32), (v2.toInt - v3.toInt).toNat < n12 → fPr_lookUp z0 a = fPr_lookUp_12 n12 z a v2 v3 → 0 ≤ v3.toInt ∧ v3.toInt ≤ v2.toInt ∧ v2.toInt ≤ 200 → c_W D q cI cJ cZ z H → va_S (c_qs q) s.heap H locs → lv_has ls 4 [(0, .ref (q 4)), (1, .int (a)), (2, .int (v2)), (3, .int (v3))] → W p l e (headSpec wsPr_lookUp { frames := 2, cells := 0, slots := 0, locals := 45 }).room s m ([.ref (q 4), .int (a)] : List Value).toArray below meth c H locs 0 0 (MQ below (cQw (some (.int ((fPr_lookUp z0 a).1))) (c_W D q cI cJ cZ (fPr_lookUp z0 a).2) (c_qs q)) ([.ref (q 4), .int (a)] : List Value).toArray s 0 0 (c_qs q)) (F0 m 12 ls []) := by
    intro n12
    induction n12 with
    | zero => intro H locs ls z v2 v3 hn12; exact absurd hn12 (Nat.not_lt_zero _)
    | succ n12 ih12 =>
      intro H locs ls z v2 v3 hn12 hR h3 hP hS hl
      rw [fPr_lookUp_12.eq_2] at hR
      refine lv_iload_n hx hb dPr_lookUp_12 rfl (lv_at hl 3 rfl) ?_
      refine lv_iload_n hx hb dPr_lookUp_13 rfl (lv_at hl 2 rfl) ?_
      refine lv_icmp_ge hx hb dPr_lookUp_14 rfl (fun h14 => ?_) (fun h14 => ?_)
      · have hR := hR.trans (if_pos h14)
        refine lv_iconst (v := 5) hx hb dPr_lookUp_77 (by decide) ?_
        exact W.iret hx hb hr (fun t ht _ => ⟨by rw [hR]; first | done | rfl, by rw [hR, ht]; exact hP, hS.F ht⟩) hS.2.2 dPr_lookUp_78
      · have hR := hR.trans (if_neg h14)
        refine lv_iload_n hx hb dPr_lookUp_17 rfl (lv_at hl 3 rfl) ?_
        refine lv_iload_n hx hb dPr_lookUp_18 rfl (lv_at hl 1 rfl) ?_
        refine lv_icmp_le hx hb dPr_lookUp_19 rfl (fun h19 => ?_) (fun h19 => ?_)
        · have hR := hR.trans (if_pos h19)
          refine lv_aload_n hx hb dPr_lookUp_32 rfl (lv_at hl 0 rfl) ?_
          refine cg4_drum hx hb hts i0 hown hK hP w0 dPr_lookUp_33 ?_
          refine lv_iload_n hx hb dPr_lookUp_36 rfl (lv_at hl 3 rfl) ?_
          refine cl_rd (W.runV (As := [.int (v3)]) (rest := []) ⟨hx, hb, hml, hown, hts⟩ (kDr_isValid l D q cI cJ cZ hq z v3 (lk_in h3 h14)) (cwV 1 hts (gV wm3_144 wm2_130 wm2_131 wm1_2 wm2_132) rfl rfl rfl (by decide +kernel) ⟨Nat.le_of_ble_eq_true rfl, Nat.le_of_ble_eq_true rfl⟩) (c_preV1 hK hP) rfl rfl hl.1 rfl (lv_room (Nat.le_of_ble_eq_true rfl)) dPr_lookUp_37 ⟨Nat.le_refl _, Nat.le_refl _⟩) ?_
          refine wz_ifne hx hb dPr_lookUp_40 rfl (fun h40 => ?_) (fun h40 => ?_)
          · have hR := hR.trans (if_pos h40)
            refine lv_aload_n hx hb dPr_lookUp_45 rfl (lv_at hl 0 rfl) ?_
            refine cg4_drum hx hb hts i0 hown hK hP w0 dPr_lookUp_46 ?_
            refine lv_iload_n hx hb dPr_lookUp_49 rfl (lv_at hl 3 rfl) ?_
            refine cl_rd (W.runV (As := [.int (v3)]) (rest := []) ⟨hx, hb, hml, hown, hts⟩ (kDr_valueAt l D q cI cJ cZ hq z v3 (lk_in h3 h14)) (cwV 1 hts (gV wm3_145 wm3_146 wm3_147 wm1_2 wm3_148) rfl rfl rfl (by decide +kernel) ⟨Nat.le_of_ble_eq_true rfl, Nat.le_of_ble_eq_true rfl⟩) (c_preV1 hK hP) rfl rfl hl.1 rfl (lv_room (Nat.le_of_ble_eq_true rfl)) dPr_lookUp_50 ⟨Nat.le_refl _, Nat.le_refl _⟩) ?_
            refine lv_aload_n hx hb dPr_lookUp_53 rfl (lv_at hl 0 rfl) ?_
            refine cg4_distributor hx hb hts i0 hown hK hP w1 dPr_lookUp_54 ?_
            refine lc_lt hx hb dPr_lookUp_57 dPr_lookUp_58 rfl (fun h57 => ?_) (fun h57 => ?_)
            · have hR := hR.trans (if_pos h57)
              refine lv_iinc (k := 3) (lv' := [(3, .int (v3 + 1)), (0, .ref (q 4)), (1, .int (a)), (2, .int (v2))]) hx hb dPr_lookUp_71 hl rfl rfl (by decide) rfl (fun ls hl => ?_)
              refine lv_goto hx hb dPr_lookUp_74 rfl ?_
              exact ih12 H locs ls z v2 (v3 + 1) (lk_m h3 h14 hn12) hR (lk_s h3 h14) hP hS (lv_sub hl [1, 2, 3, 0] rfl)
            · have hR := hR.trans (if_neg h57)
              refine lv_aload_n hx hb dPr_lookUp_61 rfl (lv_at hl 0 rfl) ?_
              refine cg4_accumulator hx hb hts i0 hown hK hP w2 dPr_lookUp_62 ?_
              refine lv_iload_n hx hb dPr_lookUp_65 rfl (lv_at hl 3 rfl) ?_
              refine cl_wr (W.runV (As := [.int (v3)]) (rest := []) ⟨hx, hb, hml, hown, hts⟩ (kAc_putDataAddress l D q cI cJ cZ hq z v3) (cwV 1 hts (gV wm4_14 wm4_15 wm4_16 wm1_7 wm4_17) rfl rfl rfl (by decide +kernel) ⟨Nat.le_of_ble_eq_true rfl, Nat.le_of_ble_eq_true rfl⟩) (c_preV5 hK hP) rfl rfl hl.1 rfl (lv_room (Nat.le_of_ble_eq_true rfl)) dPr_lookUp_66 ⟨Nat.le_refl _, Nat.le_refl _⟩) hS (fun _ h => h) (fun _ h => h) (fun H locs hP hS => ?_)
              refine lv_iconst (v := (-1)) hx hb dPr_lookUp_69 (by decide) ?_
              exact W.iret hx hb hr (fun t ht _ => ⟨by rw [hR]; first | done | rfl, by rw [hR, ht]; exact hP, hS.F ht⟩) hS.2.2 dPr_lookUp_70
          · have hR := hR.trans (if_neg h40)
            refine lv_iconst (v := 1) hx hb dPr_lookUp_43 (by decide) ?_
            exact W.iret hx hb hr (fun t ht _ => ⟨by rw [hR]; first | done | rfl, by rw [hR, ht]; exact hP, hS.F ht⟩) hS.2.2 dPr_lookUp_44
        · have hR := hR.trans (if_neg h19)
          refine lv_aload_n hx hb dPr_lookUp_22 rfl (lv_at hl 0 rfl) ?_
          refine lv_dup hx hb dPr_lookUp_23 rfl ?_
          refine cg4_time hx hb hts i0 hown hK hP w3 dPr_lookUp_24 ?_
          refine lv_lconst (v := 1) hx hb dPr_lookUp_27 (by decide) ?_
          refine lv_ladd hx hb dPr_lookUp_28 ?_
          refine cp4_time ((c_time z) + 1) hq hS hx hb hts i0 hown hK hP w3 dPr_lookUp_29 (fun H locs hP hS => ?_)
          refine lv_aload_n hx hb dPr_lookUp_32 rfl (lv_at hl 0 rfl) ?_
          refine cg4_drum hx hb hts i0 hown hK hP w0 dPr_lookUp_33 ?_
          refine lv_iload_n hx hb dPr_lookUp_36 rfl (lv_at hl 3 rfl) ?_
          refine cl_rd (W.runV (As := [.int (v3)]) (rest := []) ⟨hx, hb, hml, hown, hts⟩ (kDr_isValid l D q cI cJ cZ hq (c_time_s z ((c_time z) + 1)) v3 (lk_in h3 h14)) (cwV 1 hts (gV wm3_144 wm2_130 wm2_131 wm1_2 wm2_132) rfl rfl rfl (by decide +kernel) ⟨Nat.le_of_ble_eq_true rfl, Nat.le_of_ble_eq_true rfl⟩) (c_preV1 hK hP) rfl rfl hl.1 rfl (lv_room (Nat.le_of_ble_eq_true rfl)) dPr_lookUp_37 ⟨Nat.le_refl _, Nat.le_refl _⟩) ?_
          refine wz_ifne hx hb dPr_lookUp_40 rfl (fun h40 => ?_) (fun h40 => ?_)
          · have hR := hR.trans (if_pos h40)
            refine lv_aload_n hx hb dPr_lookUp_45 rfl (lv_at hl 0 rfl) ?_
            refine cg4_drum hx hb hts i0 hown hK hP w0 dPr_lookUp_46 ?_
            refine lv_iload_n hx hb dPr_lookUp_49 rfl (lv_at hl 3 rfl) ?_
            refine cl_rd (W.runV (As := [.int (v3)]) (rest := []) ⟨hx, hb, hml, hown, hts⟩ (kDr_valueAt l D q cI cJ cZ hq (c_time_s z ((c_time z) + 1)) v3 (lk_in h3 h14)) (cwV 1 hts (gV wm3_145 wm3_146 wm3_147 wm1_2 wm3_148) rfl rfl rfl (by decide +kernel) ⟨Nat.le_of_ble_eq_true rfl, Nat.le_of_ble_eq_true rfl⟩) (c_preV1 hK hP) rfl rfl hl.1 rfl (lv_room (Nat.le_of_ble_eq_true rfl)) dPr_lookUp_50 ⟨Nat.le_refl _, Nat.le_refl _⟩) ?_
            refine lv_aload_n hx hb dPr_lookUp_53 rfl (lv_at hl 0 rfl) ?_
            refine cg4_distributor hx hb hts i0 hown hK hP w1 dPr_lookUp_54 ?_
            refine lc_lt hx hb dPr_lookUp_57 dPr_lookUp_58 rfl (fun h57 => ?_) (fun h57 => ?_)
            · have hR := hR.trans (if_pos h57)
              refine lv_iinc (k := 3) (lv' := [(3, .int (v3 + 1)), (0, .ref (q 4)), (1, .int (a)), (2, .int (v2))]) hx hb dPr_lookUp_71 hl rfl rfl (by decide) rfl (fun ls hl => ?_)
              refine lv_goto hx hb dPr_lookUp_74 rfl ?_
              exact ih12 H locs ls (c_time_s z ((c_time z) + 1)) v2 (v3 + 1) (lk_m h3 h14 hn12) hR (lk_s h3 h14) hP hS (lv_sub hl [1, 2, 3, 0] rfl)
            · have hR := hR.trans (if_neg h57)
              refine lv_aload_n hx hb dPr_lookUp_61 rfl (lv_at hl 0 rfl) ?_
              refine cg4_accumulator hx hb hts i0 hown hK hP w2 dPr_lookUp_62 ?_
              refine lv_iload_n hx hb dPr_lookUp_65 rfl (lv_at hl 3 rfl) ?_
              refine cl_wr (W.runV (As := [.int (v3)]) (rest := []) ⟨hx, hb, hml, hown, hts⟩ (kAc_putDataAddress l D q cI cJ cZ hq (c_time_s z ((c_time z) + 1)) v3) (cwV 1 hts (gV wm4_14 wm4_15 wm4_16 wm1_7 wm4_17) rfl rfl rfl (by decide +kernel) ⟨Nat.le_of_ble_eq_true rfl, Nat.le_of_ble_eq_true rfl⟩) (c_preV5 hK hP) rfl rfl hl.1 rfl (lv_room (Nat.le_of_ble_eq_true rfl)) dPr_lookUp_66 ⟨Nat.le_refl _, Nat.le_refl _⟩) hS (fun _ h => h) (fun _ h => h) (fun H locs hP hS => ?_)
              refine lv_iconst (v := (-1)) hx hb dPr_lookUp_69 (by decide) ?_
              exact W.iret hx hb hr (fun t ht _ => ⟨by rw [hR]; first | done | rfl, by rw [hR, ht]; exact hP, hS.F ht⟩) hS.2.2 dPr_lookUp_70
          · have hR := hR.trans (if_neg h40)
            refine lv_iconst (v := 1) hx hb dPr_lookUp_43 (by decide) ?_
            exact W.iret hx hb hr (fun t ht _ => ⟨by rw [hR]; first | done | rfl, by rw [hR, ht]; exact hP, hS.F ht⟩) hS.2.2 dPr_lookUp_44
  have hR := fPr_lookUp.eq_1 z0 a
  refine lv_iload_n hx hb dPr_lookUp_0 rfl (lv_at hl 1 rfl) ?_
  refine lv_iload_n hx hb dPr_lookUp_1 rfl (lv_at hl 1 rfl) ?_
  refine cl_rd (W.runS (As := [.int (a)]) (rest := [.int (a)]) ⟨hx, hb, hml, hown, hts⟩ (kDr_angleOf l a) (va_cwS 1 hts (gS wm3_141 wm3_142 wm1_2 wm3_143) rfl rfl rfl (by decide +kernel) ⟨Nat.le_of_ble_eq_true rfl, Nat.le_of_ble_eq_true rfl⟩) (preT) rfl rfl hl.1 rfl (lv_room (Nat.le_of_ble_eq_true rfl)) dPr_lookUp_2 ⟨Nat.le_refl _, Nat.le_refl _⟩) ?_
  refine lv_isub hx hb dPr_lookUp_5 ?_
  refine lv_bipush (v := 50) hx hb dPr_lookUp_6 (by decide) ?_
  refine lv_iadd hx hb dPr_lookUp_8 ?_
  refine lv_istore_n (lv' := [(2, .int ((a - (fDr_angleOf a)) + 50)), (0, .ref (q 4)), (1, .int (a))]) hx hb dPr_lookUp_9 rfl hl (by decide) rfl (fun ls hl => ?_)
  refine lv_iload_n hx hb dPr_lookUp_10 rfl (lv_at hl 2 rfl) ?_
  refine lv_istore_n (lv' := [(3, .int (a)), (2, .int ((a - (fDr_angleOf a)) + 50)), (0, .ref (q 4)), (1, .int (a))]) hx hb dPr_lookUp_11 rfl hl (by decide) rfl (fun ls hl => ?_)
  exact hB12 51 s.heap [] ls z0 ((a - (fDr_angleOf a)) + 50) a (end_m ha) hR (end_b ha) hP hS (lv_sub hl [2, 3, 1, 0] rfl)
theorem dPr_readCard_0 : decode ccPr_readCard 0 = .ok (.aload_n 0, 1) := by decide +kernel
theorem dPr_readCard_1 : decode ccPr_readCard 1 = .ok (.getfield 13, 3) := by decide +kernel
theorem dPr_readCard_4 : decode ccPr_readCard 4 = .ok (.invokevirtual 239, 3) := by decide +kernel
theorem dPr_readCard_7 : decode ccPr_readCard 7 = .ok (.ifCond .eq 5, 3) := by decide +kernel
theorem dPr_readCard_10 : decode ccPr_readCard 10 = .ok (.iconst 4, 1) := by decide +kernel
theorem dPr_readCard_11 : decode ccPr_readCard 11 = .ok (.ireturn, 1) := by decide +kernel
theorem dPr_readCard_12 : decode ccPr_readCard 12 = .ok (.aload_n 0, 1) := by decide +kernel
theorem dPr_readCard_13 : decode ccPr_readCard 13 = .ok (.getfield 7, 3) := by decide +kernel
theorem dPr_readCard_16 : decode ccPr_readCard 16 = .ok (.iload_n 1, 1) := by decide +kernel
theorem dPr_readCard_17 : decode ccPr_readCard 17 = .ok (.aload_n 0, 1) := by decide +kernel
theorem dPr_readCard_18 : decode ccPr_readCard 18 = .ok (.getfield 13, 3) := by decide +kernel
theorem dPr_readCard_21 : decode ccPr_readCard 21 = .ok (.invokevirtual 244, 3) := by decide +kernel
theorem dPr_readCard_24 : decode ccPr_readCard 24 = .ok (.aload_n 0, 1) := by decide +kernel
theorem dPr_readCard_25 : decode ccPr_readCard 25 = .ok (.getfield 13, 3) := by decide +kernel
theorem dPr_readCard_28 : decode ccPr_readCard 28 = .ok (.invokevirtual 247, 3) := by decide +kernel
theorem dPr_readCard_31 : decode ccPr_readCard 31 = .ok (.invokevirtual 236, 3) := by decide +kernel
theorem dPr_readCard_34 : decode ccPr_readCard 34 = .ok (.aload_n 0, 1) := by decide +kernel
theorem dPr_readCard_35 : decode ccPr_readCard 35 = .ok (.getfield 13, 3) := by decide +kernel
theorem dPr_readCard_38 : decode ccPr_readCard 38 = .ok (.invokevirtual 250, 3) := by decide +kernel
theorem dPr_readCard_41 : decode ccPr_readCard 41 = .ok (.iconst (-1), 1) := by decide +kernel
theorem dPr_readCard_42 : decode ccPr_readCard 42 = .ok (.ireturn, 1) := by decide +kernel
def fPr_readCard (z0 : SC) (a : Int32) : Int32 × SC :=
  (if (fCd_isEmpty z0) = true then (4, z0) else ((-1), fCd_dropFirst (fDr_store z0 a (fCd_firstValue z0) (fCd_firstIsMinus z0))))
set_option maxHeartbeats 4000000 in
set_option maxRecDepth 100000 in
theorem kPr_readCard (l : Launch) (D : va_G) (q : Nat → Nat) (cI cJ cZ : ClassId) (hq : c_inj q) (z0 : SC) (a : Int32) (ha : vp_in a 200) (hi : vp_in (c_cfirst z0) 20) : Met l yPr_readCard wsPr_readCard { frames := 2, cells := 0, slots := 0, locals := 47 } (va_Pc [.ref (q 4), .int (a)] (c_C D q cI cJ cZ z0)) (cQw (some (.int ((fPr_readCard z0 a).1))) (c_W D q cI cJ cZ (fPr_readCard z0 a).2) (c_qs q)) 0 0 (c_qs q) := by
  refine Met.ofW (cc := ccPr_readCard) (maxL := 2) (ret := (some .int)) (by decide +kernel) rfl ?_
  intro p e s m args below meth c s₁ B hml hv
  obtain ⟨rfl, hP, hK⟩ := hv
  have hx := B.exec
  have hb := B.bytes
  have hr := B.returns
  have hts := atoms_spec (ws := wsPr_readCard) B.pre
  have hown : s.vm.findClass RPr = some m.cls := findClass_of_methodNamed B.named
  have hlocks := B.notSynchronized
  have w0 := hts (.fieldLink RPr 13 "DrumMachine$Processor" "cards" "LDrumMachine$CardDeck;") (List.mem_cons_of_mem _ wm1_111)
  have w1 := hts (.fieldLink RPr 7 "DrumMachine$Processor" "drum" "LDrumMachine$Drum;") (List.mem_cons_of_mem _ wm1_110)
  have i0 : ∀ w ∈ u_ws RPr TPr 9, w ∈ wsPr_readCard := fun w h => List.mem_cons_of_mem _ (inAPr w h)
  have hS : va_S (c_qs q) s.heap s.heap [] := va_S.rf
  have hl := lv_entry ([.ref (q 4), .int (a)]) (n := 2) (Nat.le_of_ble_eq_true rfl)
  rw [lg_entry_eq]
  generalize (lg_sl ([.ref (q 4), .int (a)]) ++ List.replicate (2 - (lg_sl ([.ref (q 4), .int (a)])).length) Slot.unset).toArray = ls at hl ⊢
  have hl : lv_has ls 2 [(0, .ref (q 4)), (1, .int (a))] := hl
  have hR := fPr_readCard.eq_1 z0 a
  refine lv_aload_n hx hb dPr_readCard_0 rfl (lv_at hl 0 rfl) ?_
  refine cg4_cards hx hb hts i0 hown hK hP w0 dPr_readCard_1 ?_
  refine cl_rd (W.runV (As := []) (rest := []) ⟨hx, hb, hml, hown, hts⟩ (kCd_isEmpty l D q cI cJ cZ hq z0) (cwV 0 hts (gV wm3_210 wm3_211 wm3_212 wm1_4 wm3_213) rfl rfl rfl (by decide +kernel) ⟨Nat.le_of_ble_eq_true rfl, Nat.le_of_ble_eq_true rfl⟩) (c_preV2 hK hP) rfl rfl hl.1 rfl (lv_room (Nat.le_of_ble_eq_true rfl)) dPr_readCard_4 ⟨Nat.le_refl _, Nat.le_refl _⟩) ?_
  refine wz_ifeq hx hb dPr_readCard_7 rfl (fun h7 => ?_) (fun h7 => ?_)
  · have hR := hR.trans (if_neg h7)
    refine lv_aload_n hx hb dPr_readCard_12 rfl (lv_at hl 0 rfl) ?_
    refine cg4_drum hx hb hts i0 hown hK hP w1 dPr_readCard_13 ?_
    refine lv_iload_n hx hb dPr_readCard_16 rfl (lv_at hl 1 rfl) ?_
    refine lv_aload_n hx hb dPr_readCard_17 rfl (lv_at hl 0 rfl) ?_
    refine cg4_cards hx hb hts i0 hown hK hP w0 dPr_readCard_18 ?_
    refine cl_rd (W.runV (As := []) (rest := [.int (a), .ref (q 1)]) ⟨hx, hb, hml, hown, hts⟩ (kCd_firstValue l D q cI cJ cZ hq z0 hi) (cwV 0 hts (gV wm3_214 wm3_215 wm3_216 wm1_4 wm3_217) rfl rfl rfl (by decide +kernel) ⟨Nat.le_of_ble_eq_true rfl, Nat.le_of_ble_eq_true rfl⟩) (c_preV2 hK hP) rfl rfl hl.1 rfl (lv_room (Nat.le_of_ble_eq_true rfl)) dPr_readCard_21 ⟨Nat.le_refl _, Nat.le_refl _⟩) ?_
    refine lv_aload_n hx hb dPr_readCard_24 rfl (lv_at hl 0 rfl) ?_
    refine cg4_cards hx hb hts i0 hown hK hP w0 dPr_readCard_25 ?_
    refine cl_rd (W.runV (As := []) (rest := [.long (fCd_firstValue z0), .int (a), .ref (q 1)]) ⟨hx, hb, hml, hown, hts⟩ (kCd_firstIsMinus l D q cI cJ cZ hq z0 hi) (cwV 0 hts (gV wm3_218 wm3_219 wm3_220 wm1_4 wm3_221) rfl rfl rfl (by decide +kernel) ⟨Nat.le_of_ble_eq_true rfl, Nat.le_of_ble_eq_true rfl⟩) (c_preV2 hK hP) rfl rfl hl.1 rfl (lv_room (Nat.le_of_ble_eq_true rfl)) dPr_readCard_28 ⟨Nat.le_refl _, Nat.le_refl _⟩) ?_
    refine cl_wr (W.runV (As := [.int (a), .long ((fCd_firstValue z0)), .int (bb ((fCd_firstIsMinus z0)))]) (rest := []) ⟨hx, hb, hml, hown, hts⟩ (kDr_store l D q cI cJ cZ hq z0 a (fCd_firstValue z0) (fCd_firstIsMinus z0) ha) (cwV 3 hts (gV wm3_222 wm2_101 wm2_102 wm1_2 wm2_103) rfl rfl rfl (by decide +kernel) ⟨Nat.le_of_ble_eq_true rfl, Nat.le_of_ble_eq_true rfl⟩) (c_preV1 hK hP) rfl rfl hl.1 rfl (lv_room (Nat.le_of_ble_eq_true rfl)) dPr_readCard_31 ⟨Nat.le_refl _, Nat.le_refl _⟩) hS (fun _ h => h) (fun _ h => h) (fun H locs hP hS => ?_)
    refine lv_aload_n hx hb dPr_readCard_34 rfl (lv_at hl 0 rfl) ?_
    refine cg4_cards hx hb hts i0 hown hK hP w0 dPr_readCard_35 ?_
    refine cl_wr (W.runV (As := []) (rest := []) ⟨hx, hb, hml, hown, hts⟩ (kCd_dropFirst l D q cI cJ cZ hq (fDr_store z0 a (fCd_firstValue z0) (fCd_firstIsMinus z0))) (cwV 0 hts (gV wm3_223 wm3_224 wm3_225 wm1_4 wm3_226) rfl rfl rfl (by decide +kernel) ⟨Nat.le_of_ble_eq_true rfl, Nat.le_of_ble_eq_true rfl⟩) (c_preV2 hK hP) rfl rfl hl.1 rfl (lv_room (Nat.le_of_ble_eq_true rfl)) dPr_readCard_38 ⟨Nat.le_refl _, Nat.le_refl _⟩) hS (fun _ h => h) (fun _ h => h) (fun H locs hP hS => ?_)
    refine lv_iconst (v := (-1)) hx hb dPr_readCard_41 (by decide) ?_
    exact W.iret hx hb hr (fun t ht _ => ⟨by rw [hR]; first | done | rfl, by rw [hR, ht]; exact hP, hS.F ht⟩) hS.2.2 dPr_readCard_42
  · have hR := hR.trans (if_pos h7)
    refine lv_iconst (v := 4) hx hb dPr_readCard_10 (by decide) ?_
    exact W.iret hx hb hr (fun t ht _ => ⟨by rw [hR]; first | done | rfl, by rw [hR, ht]; exact hP, hS.F ht⟩) hS.2.2 dPr_readCard_11
theorem dPr_write_0 : decode ccPr_write 0 = .ok (.iload_n 1, 1) := by decide +kernel
theorem dPr_write_1 : decode ccPr_write 1 = .ok (.bipush 70, 2) := by decide +kernel
theorem dPr_write_3 : decode ccPr_write 3 = .ok (.if_icmp .ne 9, 3) := by decide +kernel
theorem dPr_write_6 : decode ccPr_write 6 = .ok (.aload_n 0, 1) := by decide +kernel
theorem dPr_write_7 : decode ccPr_write 7 = .ok (.iload_n 2, 1) := by decide +kernel
theorem dPr_write_8 : decode ccPr_write 8 = .ok (.invokevirtual 229, 3) := by decide +kernel
theorem dPr_write_11 : decode ccPr_write 11 = .ok (.ireturn, 1) := by decide +kernel
theorem dPr_write_12 : decode ccPr_write 12 = .ok (.iload_n 1, 1) := by decide +kernel
theorem dPr_write_13 : decode ccPr_write 13 = .ok (.bipush 20, 2) := by decide +kernel
theorem dPr_write_15 : decode ccPr_write 15 = .ok (.if_icmp .ne 24, 3) := by decide +kernel
theorem dPr_write_18 : decode ccPr_write 18 = .ok (.aload_n 0, 1) := by decide +kernel
theorem dPr_write_19 : decode ccPr_write 19 = .ok (.aload_n 0, 1) := by decide +kernel
theorem dPr_write_20 : decode ccPr_write 20 = .ok (.getfield 24, 3) := by decide +kernel
theorem dPr_write_23 : decode ccPr_write 23 = .ok (.invokevirtual 43, 3) := by decide +kernel
theorem dPr_write_26 : decode ccPr_write 26 = .ok (.aload_n 0, 1) := by decide +kernel
theorem dPr_write_27 : decode ccPr_write 27 = .ok (.getfield 24, 3) := by decide +kernel
theorem dPr_write_30 : decode ccPr_write 30 = .ok (.invokevirtual 49, 3) := by decide +kernel
theorem dPr_write_33 : decode ccPr_write 33 = .ok (.invokevirtual 187, 3) := by decide +kernel
theorem dPr_write_36 : decode ccPr_write 36 = .ok (.goto 63, 3) := by decide +kernel
theorem dPr_write_39 : decode ccPr_write 39 = .ok (.iload_n 1, 1) := by decide +kernel
theorem dPr_write_40 : decode ccPr_write 40 = .ok (.bipush 21, 2) := by decide +kernel
theorem dPr_write_42 : decode ccPr_write 42 = .ok (.if_icmp .ne 24, 3) := by decide +kernel
theorem dPr_write_45 : decode ccPr_write 45 = .ok (.aload_n 0, 1) := by decide +kernel
theorem dPr_write_46 : decode ccPr_write 46 = .ok (.aload_n 0, 1) := by decide +kernel
theorem dPr_write_47 : decode ccPr_write 47 = .ok (.getfield 24, 3) := by decide +kernel
theorem dPr_write_50 : decode ccPr_write 50 = .ok (.invokevirtual 39, 3) := by decide +kernel
theorem dPr_write_53 : decode ccPr_write 53 = .ok (.aload_n 0, 1) := by decide +kernel
theorem dPr_write_54 : decode ccPr_write 54 = .ok (.getfield 24, 3) := by decide +kernel
theorem dPr_write_57 : decode ccPr_write 57 = .ok (.invokevirtual 49, 3) := by decide +kernel
theorem dPr_write_60 : decode ccPr_write 60 = .ok (.invokevirtual 187, 3) := by decide +kernel
theorem dPr_write_63 : decode ccPr_write 63 = .ok (.goto 36, 3) := by decide +kernel
theorem dPr_write_66 : decode ccPr_write 66 = .ok (.iload_n 1, 1) := by decide +kernel
theorem dPr_write_67 : decode ccPr_write 67 = .ok (.bipush 22, 2) := by decide +kernel
theorem dPr_write_69 : decode ccPr_write 69 = .ok (.if_icmp .ne 30, 3) := by decide +kernel
theorem dPr_write_72 : decode ccPr_write 72 = .ok (.aload_n 0, 1) := by decide +kernel
theorem dPr_write_73 : decode ccPr_write 73 = .ok (.getfield 24, 3) := by decide +kernel
theorem dPr_write_76 : decode ccPr_write 76 = .ok (.invokevirtual 43, 3) := by decide +kernel
theorem dPr_write_79 : decode ccPr_write 79 = .ok (.invokestatic 93, 3) := by decide +kernel
theorem dPr_write_82 : decode ccPr_write 82 = .ok (.istore_n 3, 1) := by decide +kernel
theorem dPr_write_83 : decode ccPr_write 83 = .ok (.aload_n 0, 1) := by decide +kernel
theorem dPr_write_84 : decode ccPr_write 84 = .ok (.aload_n 0, 1) := by decide +kernel
theorem dPr_write_85 : decode ccPr_write 85 = .ok (.getfield 46, 3) := by decide +kernel
theorem dPr_write_88 : decode ccPr_write 88 = .ok (.iload_n 3, 1) := by decide +kernel
theorem dPr_write_89 : decode ccPr_write 89 = .ok (.invokestatic 232, 3) := by decide +kernel
theorem dPr_write_92 : decode ccPr_write 92 = .ok (.aload_n 0, 1) := by decide +kernel
theorem dPr_write_93 : decode ccPr_write 93 = .ok (.getfield 53, 3) := by decide +kernel
theorem dPr_write_96 : decode ccPr_write 96 = .ok (.invokevirtual 187, 3) := by decide +kernel
theorem dPr_write_99 : decode ccPr_write 99 = .ok (.aload_n 0, 1) := by decide +kernel
theorem dPr_write_100 : decode ccPr_write 100 = .ok (.getfield 7, 3) := by decide +kernel
theorem dPr_write_103 : decode ccPr_write 103 = .ok (.iload_n 2, 1) := by decide +kernel
theorem dPr_write_104 : decode ccPr_write 104 = .ok (.aload_n 0, 1) := by decide +kernel
theorem dPr_write_105 : decode ccPr_write 105 = .ok (.getfield 46, 3) := by decide +kernel
theorem dPr_write_108 : decode ccPr_write 108 = .ok (.aload_n 0, 1) := by decide +kernel
theorem dPr_write_109 : decode ccPr_write 109 = .ok (.getfield 53, 3) := by decide +kernel
theorem dPr_write_112 : decode ccPr_write 112 = .ok (.invokevirtual 236, 3) := by decide +kernel
theorem dPr_write_115 : decode ccPr_write 115 = .ok (.iconst (-1), 1) := by decide +kernel
theorem dPr_write_116 : decode ccPr_write 116 = .ok (.ireturn, 1) := by decide +kernel
def fPr_write_99  (z : SC) (a : Int32) : Int32 × SC :=
  ((-1), fDr_store z a (c_dist z) (c_distm z))
def fPr_write (z0 : SC) (o : Int32) (a : Int32) : Int32 × SC :=
  (if o = (70 : Int32) then ((fPr_readCard z0 a).1, (fPr_readCard z0 a).2) else (if o = (20 : Int32) then fPr_write_99 (fPr_setDistributor z0 (fAc_lowerDigits z0) (fAc_isMinus z0)) a else (if o = (21 : Int32) then fPr_write_99 (fPr_setDistributor z0 (fAc_upperDigits z0) (fAc_isMinus z0)) a else (if o = (22 : Int32) then fPr_write_99 (fPr_setDistributor z0 (fDg_withDataAddress (c_dist z0) (fDg_dataAddressOf (fAc_lowerDigits z0))) (c_distm z0)) a else fPr_write_99 z0 a))))
set_option maxHeartbeats 4000000 in
set_option maxRecDepth 100000 in
theorem kPr_write (l : Launch) (D : va_G) (q : Nat → Nat) (cI cJ cZ : ClassId) (hq : c_inj q) (z0 : SC) (o : Int32) (a : Int32) (ha : vp_in a 200) (hi : vp_in (c_cfirst z0) 20) : Met l yPr_write wsPr_write { frames := 3, cells := 0, slots := 0, locals := 68 } (va_Pc [.ref (q 4), .int (o), .int (a)] (c_C D q cI cJ cZ z0)) (cQw (some (.int ((fPr_write z0 o a).1))) (c_W D q cI cJ cZ (fPr_write z0 o a).2) (c_qs q)) 0 0 (c_qs q) := by
  refine Met.ofW (cc := ccPr_write) (maxL := 4) (ret := (some .int)) (by decide +kernel) rfl ?_
  intro p e s m args below meth c s₁ B hml hv
  obtain ⟨rfl, hP, hK⟩ := hv
  have hx := B.exec
  have hb := B.bytes
  have hr := B.returns
  have hts := atoms_spec (ws := wsPr_write) B.pre
  have hown : s.vm.findClass RPr = some m.cls := findClass_of_methodNamed B.named
  have hlocks := B.notSynchronized
  have w0 := hts (.fieldLink RPr 7 "DrumMachine$Processor" "drum" "LDrumMachine$Drum;") (List.mem_cons_of_mem _ wm1_110)
  have w1 := hts (.fieldLink RPr 46 "DrumMachine$Processor" "distributor" "J") (List.mem_cons_of_mem _ wm1_114)
  have w2 := hts (.fieldLink RPr 53 "DrumMachine$Processor" "distributorMinus" "Z") (List.mem_cons_of_mem _ wm1_115)
  have w3 := hts (.fieldLink RPr 24 "DrumMachine$Processor" "accumulator" "LDrumMachine$Accumulator;") (List.mem_cons_of_mem _ wm1_113)
  have i0 : ∀ w ∈ u_ws RPr TPr 9, w ∈ wsPr_write := fun w h => List.mem_cons_of_mem _ (inAPr w h)
  have hS : va_S (c_qs q) s.heap s.heap [] := va_S.rf
  have hl := lv_entry ([.ref (q 4), .int (o), .int (a)]) (n := 4) (Nat.le_of_ble_eq_true rfl)
  rw [lg_entry_eq]
  generalize (lg_sl ([.ref (q 4), .int (o), .int (a)]) ++ List.replicate (4 - (lg_sl ([.ref (q 4), .int (o), .int (a)])).length) Slot.unset).toArray = ls at hl ⊢
  have hl : lv_has ls 4 [(0, .ref (q 4)), (1, .int (o)), (2, .int (a))] := hl
  have hB99 : ∀ (H : Heap) (locs : List Loc) (ls : Array Slot) (z : SC), fPr_write z0 o a = fPr_write_99 z a → c_W D q cI cJ cZ z H → va_S (c_qs q) s.heap H locs → lv_has ls 4 [(0, .ref (q 4)), (2, .int (a))] → W p l e (headSpec wsPr_write { frames := 3, cells := 0, slots := 0, locals := 68 }).room s m ([.ref (q 4), .int (o), .int (a)] : List Value).toArray below meth c H locs 0 0 (MQ below (cQw (some (.int ((fPr_write z0 o a).1))) (c_W D q cI cJ cZ (fPr_write z0 o a).2) (c_qs q)) ([.ref (q 4), .int (o), .int (a)] : List Value).toArray s 0 0 (c_qs q)) (F0 m 99 ls []) := by
    intro H locs ls z hR hP hS hl
    rw [fPr_write_99.eq_1] at hR
    refine lv_aload_n hx hb dPr_write_99 rfl (lv_at hl 0 rfl) ?_
    refine cg4_drum hx hb hts i0 hown hK hP w0 dPr_write_100 ?_
    refine lv_iload_n hx hb dPr_write_103 rfl (lv_at hl 1 rfl) ?_
    refine lv_aload_n hx hb dPr_write_104 rfl (lv_at hl 0 rfl) ?_
    refine cg4_distributor hx hb hts i0 hown hK hP w1 dPr_write_105 ?_
    refine lv_aload_n hx hb dPr_write_108 rfl (lv_at hl 0 rfl) ?_
    refine cg4_distributorMinus hx hb hts i0 hown hK hP w2 dPr_write_109 ?_
    refine cl_wr (W.runV (As := [.int (a), .long ((c_dist z)), .int (bb ((c_distm z)))]) (rest := []) ⟨hx, hb, hml, hown, hts⟩ (kDr_store l D q cI cJ cZ hq z a (c_dist z) (c_distm z) ha) (cwV 3 hts (gV wm3_222 wm2_101 wm2_102 wm1_2 wm2_103) rfl rfl rfl (by decide +kernel) ⟨Nat.le_of_ble_eq_true rfl, Nat.le_of_ble_eq_true rfl⟩) (c_preV1 hK hP) rfl rfl hl.1 rfl (lv_room (Nat.le_of_ble_eq_true rfl)) dPr_write_112 ⟨Nat.le_refl _, Nat.le_refl _⟩) hS (fun _ h => h) (fun _ h => h) (fun H locs hP hS => ?_)
    refine lv_iconst (v := (-1)) hx hb dPr_write_115 (by decide) ?_
    exact W.iret hx hb hr (fun t ht _ => ⟨by rw [hR]; first | done | rfl, by rw [hR, ht]; exact hP, hS.F ht⟩) hS.2.2 dPr_write_116
  have hR := fPr_write.eq_1 z0 o a
  refine lv_iload_n hx hb dPr_write_0 rfl (lv_at hl 1 rfl) ?_
  refine lv_bipush (v := 70) hx hb dPr_write_1 (by decide) ?_
  refine lv_icmp_ne hx hb dPr_write_3 rfl (fun h3 => ?_) (fun h3 => ?_)
  · have hR := hR.trans (if_neg h3)
    refine lv_iload_n hx hb dPr_write_12 rfl (lv_at hl 1 rfl) ?_
    refine lv_bipush (v := 20) hx hb dPr_write_13 (by decide) ?_
    refine lv_icmp_ne hx hb dPr_write_15 rfl (fun h15 => ?_) (fun h15 => ?_)
    · have hR := hR.trans (if_neg h15)
      refine lv_iload_n hx hb dPr_write_39 rfl (lv_at hl 1 rfl) ?_
      refine lv_bipush (v := 21) hx hb dPr_write_40 (by decide) ?_
      refine lv_icmp_ne hx hb dPr_write_42 rfl (fun h42 => ?_) (fun h42 => ?_)
      · have hR := hR.trans (if_neg h42)
        refine lv_iload_n hx hb dPr_write_66 rfl (lv_at hl 1 rfl) ?_
        refine lv_bipush (v := 22) hx hb dPr_write_67 (by decide) ?_
        refine lv_icmp_ne hx hb dPr_write_69 rfl (fun h69 => ?_) (fun h69 => ?_)
        · have hR := hR.trans (if_neg h69)
          exact hB99 s.heap [] ls z0 hR hP hS (lv_sub hl [0, 2] rfl)
        · have hR := hR.trans (if_pos h69)
          refine lv_aload_n hx hb dPr_write_72 rfl (lv_at hl 0 rfl) ?_
          refine cg4_accumulator hx hb hts i0 hown hK hP w3 dPr_write_73 ?_
          refine cl_rd (W.runV (As := []) (rest := []) ⟨hx, hb, hml, hown, hts⟩ (kAc_lowerDigits l D q cI cJ cZ hq z0) (cwV 0 hts (gV wm3_227 wm3_228 wm3_229 wm1_7 wm3_230) rfl rfl rfl (by decide +kernel) ⟨Nat.le_of_ble_eq_true rfl, Nat.le_of_ble_eq_true rfl⟩) (c_preV5 hK hP) rfl rfl hl.1 rfl (lv_room (Nat.le_of_ble_eq_true rfl)) dPr_write_76 ⟨Nat.le_refl _, Nat.le_refl _⟩) ?_
          refine cl_rd (W.runS (As := [.long ((fAc_lowerDigits z0))]) (rest := []) ⟨hx, hb, hml, hown, hts⟩ (kDg_dataAddressOf l (fAc_lowerDigits z0)) (va_cwS 1 hts (gS wm3_152 wm3_153 wm1_14 wm3_154) rfl rfl rfl (by decide +kernel) ⟨Nat.le_of_ble_eq_true rfl, Nat.le_of_ble_eq_true rfl⟩) (preT) rfl rfl hl.1 rfl (lv_room (Nat.le_of_ble_eq_true rfl)) dPr_write_79 ⟨Nat.le_refl _, Nat.le_refl _⟩) ?_
          refine lv_istore_n (lv' := [(3, .int (fDg_dataAddressOf (fAc_lowerDigits z0))), (0, .ref (q 4)), (1, .int (o)), (2, .int (a))]) hx hb dPr_write_82 rfl hl (by decide) rfl (fun ls hl => ?_)
          refine lv_aload_n hx hb dPr_write_83 rfl (lv_at hl 1 rfl) ?_
          refine lv_aload_n hx hb dPr_write_84 rfl (lv_at hl 1 rfl) ?_
          refine cg4_distributor hx hb hts i0 hown hK hP w1 dPr_write_85 ?_
          refine lv_iload_n hx hb dPr_write_88 rfl (lv_at hl 0 rfl) ?_
          refine cl_rd (W.runS (As := [.long ((c_dist z0)), .int ((fDg_dataAddressOf (fAc_lowerDigits z0)))]) (rest := [.ref (q 4)]) ⟨hx, hb, hml, hown, hts⟩ (kDg_withDataAddress l (c_dist z0) (fDg_dataAddressOf (fAc_lowerDigits z0))) (va_cwS 2 hts (gS wm4_3 wm4_4 wm1_14 wm4_5) rfl rfl rfl (by decide +kernel) ⟨Nat.le_of_ble_eq_true rfl, Nat.le_of_ble_eq_true rfl⟩) (preT) rfl rfl hl.1 rfl (lv_room (Nat.le_of_ble_eq_true rfl)) dPr_write_89 ⟨Nat.le_refl _, Nat.le_refl _⟩) ?_
          refine lv_aload_n hx hb dPr_write_92 rfl (lv_at hl 1 rfl) ?_
          refine cg4_distributorMinus hx hb hts i0 hown hK hP w2 dPr_write_93 ?_
          refine cl_wr (W.runV (As := [.long ((fDg_withDataAddress (c_dist z0) (fDg_dataAddressOf (fAc_lowerDigits z0)))), .int (bb ((c_distm z0)))]) (rest := []) ⟨hx, hb, hml, hown, hts⟩ (kPr_setDistributor l D q cI cJ cZ hq z0 (fDg_withDataAddress (c_dist z0) (fDg_dataAddressOf (fAc_lowerDigits z0))) (c_distm z0)) (cwV 2 hts (gV wm3_235 wm3_237 ws2_5 wm1_6 wm3_238) rfl rfl rfl (by decide +kernel) ⟨Nat.le_of_ble_eq_true rfl, Nat.le_of_ble_eq_true rfl⟩) (c_preV4 hK hP) rfl rfl hl.1 rfl (lv_room (Nat.le_of_ble_eq_true rfl)) dPr_write_96 ⟨Nat.le_refl _, Nat.le_refl _⟩) hS (fun _ h => h) (fun _ h => h) (fun H locs hP hS => ?_)
          exact hB99 H locs ls (fPr_setDistributor z0 (fDg_withDataAddress (c_dist z0) (fDg_dataAddressOf (fAc_lowerDigits z0))) (c_distm z0)) hR hP hS (lv_sub hl [1, 3] rfl)
      · have hR := hR.trans (if_pos h42)
        refine lv_aload_n hx hb dPr_write_45 rfl (lv_at hl 0 rfl) ?_
        refine lv_aload_n hx hb dPr_write_46 rfl (lv_at hl 0 rfl) ?_
        refine cg4_accumulator hx hb hts i0 hown hK hP w3 dPr_write_47 ?_
        refine cl_rd (W.runV (As := []) (rest := [.ref (q 4)]) ⟨hx, hb, hml, hown, hts⟩ (kAc_upperDigits l D q cI cJ cZ hq z0) (cwV 0 hts (gV wm3_239 wm4_0 wm4_1 wm1_7 wm4_2) rfl rfl rfl (by decide +kernel) ⟨Nat.le_of_ble_eq_true rfl, Nat.le_of_ble_eq_true rfl⟩) (c_preV5 hK hP) rfl rfl hl.1 rfl (lv_room (Nat.le_of_ble_eq_true rfl)) dPr_write_50 ⟨Nat.le_refl _, Nat.le_refl _⟩) ?_
        refine lv_aload_n hx hb dPr_write_53 rfl (lv_at hl 0 rfl) ?_
        refine cg4_accumulator hx hb hts i0 hown hK hP w3 dPr_write_54 ?_
        refine cl_rd (W.runV (As := []) (rest := [.long (fAc_upperDigits z0), .ref (q 4)]) ⟨hx, hb, hml, hown, hts⟩ (kAc_isMinus l D q cI cJ cZ hq z0) (cwV 0 hts (gV wm3_231 wm3_232 wm3_233 wm1_7 wm3_234) rfl rfl rfl (by decide +kernel) ⟨Nat.le_of_ble_eq_true rfl, Nat.le_of_ble_eq_true rfl⟩) (c_preV5 hK hP) rfl rfl hl.1 rfl (lv_room (Nat.le_of_ble_eq_true rfl)) dPr_write_57 ⟨Nat.le_refl _, Nat.le_refl _⟩) ?_
        refine cl_wr (W.runV (As := [.long ((fAc_upperDigits z0)), .int (bb ((fAc_isMinus z0)))]) (rest := []) ⟨hx, hb, hml, hown, hts⟩ (kPr_setDistributor l D q cI cJ cZ hq z0 (fAc_upperDigits z0) (fAc_isMinus z0)) (cwV 2 hts (gV wm3_235 wm3_237 ws2_5 wm1_6 wm3_238) rfl rfl rfl (by decide +kernel) ⟨Nat.le_of_ble_eq_true rfl, Nat.le_of_ble_eq_true rfl⟩) (c_preV4 hK hP) rfl rfl hl.1 rfl (lv_room (Nat.le_of_ble_eq_true rfl)) dPr_write_60 ⟨Nat.le_refl _, Nat.le_refl _⟩) hS (fun _ h => h) (fun _ h => h) (fun H locs hP hS => ?_)
        refine lv_goto hx hb dPr_write_63 rfl ?_
        exact hB99 H locs ls (fPr_setDistributor z0 (fAc_upperDigits z0) (fAc_isMinus z0)) hR hP hS (lv_sub hl [0, 2] rfl)
    · have hR := hR.trans (if_pos h15)
      refine lv_aload_n hx hb dPr_write_18 rfl (lv_at hl 0 rfl) ?_
      refine lv_aload_n hx hb dPr_write_19 rfl (lv_at hl 0 rfl) ?_
      refine cg4_accumulator hx hb hts i0 hown hK hP w3 dPr_write_20 ?_
      refine cl_rd (W.runV (As := []) (rest := [.ref (q 4)]) ⟨hx, hb, hml, hown, hts⟩ (kAc_lowerDigits l D q cI cJ cZ hq z0) (cwV 0 hts (gV wm3_227 wm3_228 wm3_229 wm1_7 wm3_230) rfl rfl rfl (by decide +kernel) ⟨Nat.le_of_ble_eq_true rfl, Nat.le_of_ble_eq_true rfl⟩) (c_preV5 hK hP) rfl rfl hl.1 rfl (lv_room (Nat.le_of_ble_eq_true rfl)) dPr_write_23 ⟨Nat.le_refl _, Nat.le_refl _⟩) ?_
      refine lv_aload_n hx hb dPr_write_26 rfl (lv_at hl 0 rfl) ?_
      refine cg4_accumulator hx hb hts i0 hown hK hP w3 dPr_write_27 ?_
      refine cl_rd (W.runV (As := []) (rest := [.long (fAc_lowerDigits z0), .ref (q 4)]) ⟨hx, hb, hml, hown, hts⟩ (kAc_isMinus l D q cI cJ cZ hq z0) (cwV 0 hts (gV wm3_231 wm3_232 wm3_233 wm1_7 wm3_234) rfl rfl rfl (by decide +kernel) ⟨Nat.le_of_ble_eq_true rfl, Nat.le_of_ble_eq_true rfl⟩) (c_preV5 hK hP) rfl rfl hl.1 rfl (lv_room (Nat.le_of_ble_eq_true rfl)) dPr_write_30 ⟨Nat.le_refl _, Nat.le_refl _⟩) ?_
      refine cl_wr (W.runV (As := [.long ((fAc_lowerDigits z0)), .int (bb ((fAc_isMinus z0)))]) (rest := []) ⟨hx, hb, hml, hown, hts⟩ (kPr_setDistributor l D q cI cJ cZ hq z0 (fAc_lowerDigits z0) (fAc_isMinus z0)) (cwV 2 hts (gV wm3_235 wm3_237 ws2_5 wm1_6 wm3_238) rfl rfl rfl (by decide +kernel) ⟨Nat.le_of_ble_eq_true rfl, Nat.le_of_ble_eq_true rfl⟩) (c_preV4 hK hP) rfl rfl hl.1 rfl (lv_room (Nat.le_of_ble_eq_true rfl)) dPr_write_33 ⟨Nat.le_refl _, Nat.le_refl _⟩) hS (fun _ h => h) (fun _ h => h) (fun H locs hP hS => ?_)
      refine lv_goto hx hb dPr_write_36 rfl ?_
      exact hB99 H locs ls (fPr_setDistributor z0 (fAc_lowerDigits z0) (fAc_isMinus z0)) hR hP hS (lv_sub hl [0, 2] rfl)
  · have hR := hR.trans (if_pos h3)
    refine lv_aload_n hx hb dPr_write_6 rfl (lv_at hl 0 rfl) ?_
    refine lv_iload_n hx hb dPr_write_7 rfl (lv_at hl 2 rfl) ?_
    refine cl_wr (W.runV (As := [.int (a)]) (rest := []) ⟨hx, hb, hml, hown, hts⟩ (kPr_readCard l D q cI cJ cZ hq z0 a ha hi) (cwV 1 hts (gV wm3_206 wm3_208 ws2_4 wm1_6 wm3_209) rfl rfl rfl (by decide +kernel) ⟨Nat.le_of_ble_eq_true rfl, Nat.le_of_ble_eq_true rfl⟩) (c_preV4 hK hP) rfl rfl hl.1 rfl (lv_room (Nat.le_of_ble_eq_true rfl)) dPr_write_8 ⟨Nat.le_refl _, Nat.le_refl _⟩) hS (fun _ h => h) (fun _ h => h) (fun H locs hP hS => ?_)
    exact W.iret hx hb hr (fun t ht _ => ⟨by rw [hR]; first | done | rfl, by rw [hR, ht]; exact hP, hS.F ht⟩) hS.2.2 dPr_write_11
theorem dPr_read_0 : decode ccPr_read 0 = .ok (.iload_n 1, 1) := by decide +kernel
theorem dPr_read_1 : decode ccPr_read 1 = .ok (.bipush 84, 2) := by decide +kernel
theorem dPr_read_3 : decode ccPr_read 3 = .ok (.if_icmp .ne 9, 3) := by decide +kernel
theorem dPr_read_6 : decode ccPr_read 6 = .ok (.aload_n 0, 1) := by decide +kernel
theorem dPr_read_7 : decode ccPr_read 7 = .ok (.iload_n 2, 1) := by decide +kernel
theorem dPr_read_8 : decode ccPr_read 8 = .ok (.invokevirtual 164, 3) := by decide +kernel
theorem dPr_read_11 : decode ccPr_read 11 = .ok (.ireturn, 1) := by decide +kernel
theorem dPr_read_12 : decode ccPr_read 12 = .ok (.aload_n 0, 1) := by decide +kernel
theorem dPr_read_13 : decode ccPr_read 13 = .ok (.getfield 7, 3) := by decide +kernel
theorem dPr_read_16 : decode ccPr_read 16 = .ok (.iload_n 2, 1) := by decide +kernel
theorem dPr_read_17 : decode ccPr_read 17 = .ok (.invokevirtual 80, 3) := by decide +kernel
theorem dPr_read_20 : decode ccPr_read 20 = .ok (.ifCond .ne 5, 3) := by decide +kernel
theorem dPr_read_23 : decode ccPr_read 23 = .ok (.iconst 1, 1) := by decide +kernel
theorem dPr_read_24 : decode ccPr_read 24 = .ok (.ireturn, 1) := by decide +kernel
theorem dPr_read_25 : decode ccPr_read 25 = .ok (.aload_n 0, 1) := by decide +kernel
theorem dPr_read_26 : decode ccPr_read 26 = .ok (.getfield 7, 3) := by decide +kernel
theorem dPr_read_29 : decode ccPr_read 29 = .ok (.iload_n 2, 1) := by decide +kernel
theorem dPr_read_30 : decode ccPr_read 30 = .ok (.invokevirtual 83, 3) := by decide +kernel
theorem dPr_read_33 : decode ccPr_read 33 = .ok (.lstore_n 3, 1) := by decide +kernel
theorem dPr_read_34 : decode ccPr_read 34 = .ok (.aload_n 0, 1) := by decide +kernel
theorem dPr_read_35 : decode ccPr_read 35 = .ok (.getfield 7, 3) := by decide +kernel
theorem dPr_read_38 : decode ccPr_read 38 = .ok (.iload_n 2, 1) := by decide +kernel
theorem dPr_read_39 : decode ccPr_read 39 = .ok (.invokevirtual 167, 3) := by decide +kernel
theorem dPr_read_42 : decode ccPr_read 42 = .ok (.istore 5, 2) := by decide +kernel
theorem dPr_read_44 : decode ccPr_read 44 = .ok (.iconst (-1), 1) := by decide +kernel
theorem dPr_read_45 : decode ccPr_read 45 = .ok (.istore 6, 2) := by decide +kernel
theorem dPr_read_47 : decode ccPr_read 47 = .ok (.iload_n 1, 1) := by decide +kernel
theorem dPr_read_48 : decode ccPr_read 48 = .ok (.bipush 14, 2) := by decide +kernel
theorem dPr_read_50 : decode ccPr_read 50 = .ok (.if_icmp .ne 15, 3) := by decide +kernel
theorem dPr_read_53 : decode ccPr_read 53 = .ok (.aload_n 0, 1) := by decide +kernel
theorem dPr_read_54 : decode ccPr_read 54 = .ok (.lload_n 3, 1) := by decide +kernel
theorem dPr_read_55 : decode ccPr_read 55 = .ok (.iload 5, 2) := by decide +kernel
theorem dPr_read_57 : decode ccPr_read 57 = .ok (.invokevirtual 169, 3) := by decide +kernel
theorem dPr_read_60 : decode ccPr_read 60 = .ok (.istore 6, 2) := by decide +kernel
theorem dPr_read_62 : decode ccPr_read 62 = .ok (.goto 52, 3) := by decide +kernel
theorem dPr_read_65 : decode ccPr_read 65 = .ok (.iload_n 1, 1) := by decide +kernel
theorem dPr_read_66 : decode ccPr_read 66 = .ok (.bipush 71, 2) := by decide +kernel
theorem dPr_read_68 : decode ccPr_read 68 = .ok (.if_icmp .ne 15, 3) := by decide +kernel
theorem dPr_read_71 : decode ccPr_read 71 = .ok (.aload_n 0, 1) := by decide +kernel
theorem dPr_read_72 : decode ccPr_read 72 = .ok (.lload_n 3, 1) := by decide +kernel
theorem dPr_read_73 : decode ccPr_read 73 = .ok (.iload 5, 2) := by decide +kernel
theorem dPr_read_75 : decode ccPr_read 75 = .ok (.invokevirtual 173, 3) := by decide +kernel
theorem dPr_read_78 : decode ccPr_read 78 = .ok (.istore 6, 2) := by decide +kernel
theorem dPr_read_80 : decode ccPr_read 80 = .ok (.goto 34, 3) := by decide +kernel
theorem dPr_read_83 : decode ccPr_read 83 = .ok (.iload_n 1, 1) := by decide +kernel
theorem dPr_read_84 : decode ccPr_read 84 = .ok (.bipush 19, 2) := by decide +kernel
theorem dPr_read_86 : decode ccPr_read 86 = .ok (.if_icmp .ne 13, 3) := by decide +kernel
theorem dPr_read_89 : decode ccPr_read 89 = .ok (.aload_n 0, 1) := by decide +kernel
theorem dPr_read_90 : decode ccPr_read 90 = .ok (.lload_n 3, 1) := by decide +kernel
theorem dPr_read_91 : decode ccPr_read 91 = .ok (.iload 5, 2) := by decide +kernel
theorem dPr_read_93 : decode ccPr_read 93 = .ok (.invokevirtual 176, 3) := by decide +kernel
theorem dPr_read_96 : decode ccPr_read 96 = .ok (.goto 18, 3) := by decide +kernel
theorem dPr_read_99 : decode ccPr_read 99 = .ok (.iload_n 1, 1) := by decide +kernel
theorem dPr_read_100 : decode ccPr_read 100 = .ok (.invokestatic 180, 3) := by decide +kernel
theorem dPr_read_103 : decode ccPr_read 103 = .ok (.ifCond .eq 11, 3) := by decide +kernel
theorem dPr_read_106 : decode ccPr_read 106 = .ok (.aload_n 0, 1) := by decide +kernel
theorem dPr_read_107 : decode ccPr_read 107 = .ok (.iload_n 1, 1) := by decide +kernel
theorem dPr_read_108 : decode ccPr_read 108 = .ok (.lload_n 3, 1) := by decide +kernel
theorem dPr_read_109 : decode ccPr_read 109 = .ok (.iload 5, 2) := by decide +kernel
theorem dPr_read_111 : decode ccPr_read 111 = .ok (.invokevirtual 183, 3) := by decide +kernel
theorem dPr_read_114 : decode ccPr_read 114 = .ok (.iload 6, 2) := by decide +kernel
theorem dPr_read_116 : decode ccPr_read 116 = .ok (.invokestatic 67, 3) := by decide +kernel
theorem dPr_read_119 : decode ccPr_read 119 = .ok (.ifCond .ne 10, 3) := by decide +kernel
theorem dPr_read_122 : decode ccPr_read 122 = .ok (.aload_n 0, 1) := by decide +kernel
theorem dPr_read_123 : decode ccPr_read 123 = .ok (.lload_n 3, 1) := by decide +kernel
theorem dPr_read_124 : decode ccPr_read 124 = .ok (.iload 5, 2) := by decide +kernel
theorem dPr_read_126 : decode ccPr_read 126 = .ok (.invokevirtual 187, 3) := by decide +kernel
theorem dPr_read_129 : decode ccPr_read 129 = .ok (.iload 6, 2) := by decide +kernel
theorem dPr_read_131 : decode ccPr_read 131 = .ok (.ireturn, 1) := by decide +kernel
def fPr_read_114  (z : SC) (v3 : Int64) (v5 : Bool) (v6 : Int32) : Int32 × SC :=
  (if (fPr_isFault v6) = true then (v6, z) else (v6, fPr_setDistributor z v3 v5))
def fPr_read_47  (z : SC) (o : Int32) (v3 : Int64) (v5 : Bool) (v6 : Int32) : Int32 × SC :=
  (if o = (14 : Int32) then fPr_read_114 ((fPr_divide z v3 v5).2) v3 v5 ((fPr_divide z v3 v5).1) else (if o = (71 : Int32) then fPr_read_114 ((fPr_punchWord z v3 v5).2) v3 v5 ((fPr_punchWord z v3 v5).1) else (if o = (19 : Int32) then fPr_read_114 (fPr_multiply z v3 v5) v3 v5 v6 else (if (fOp_adds o) = true then fPr_read_114 (fPr_addWord z o v3 v5) v3 v5 v6 else fPr_read_114 z v3 v5 v6))))
def fPr_read (z0 : SC) (o : Int32) (a : Int32) : Int32 × SC :=
  (if o = (84 : Int32) then ((fPr_lookUp z0 a).1, (fPr_lookUp z0 a).2) else (if (fDr_isValid z0 a) = true then fPr_read_47 z0 o (fDr_valueAt z0 a) (fDr_isMinus z0 a) ((-1)) else (1, z0)))
set_option maxHeartbeats 4000000 in
set_option maxRecDepth 100000 in
theorem kPr_read (l : Launch) (D : va_G) (q : Nat → Nat) (cI cJ cZ : ClassId) (hq : c_inj q) (z0 : SC) (o : Int32) (a : Int32) (ha : vp_in a 200) (hc : 0 ≤ (c_pcount z0).toInt) : Met l yPr_read wsPr_read { frames := 3, cells := 0, slots := 0, locals := 81 } (va_Pc [.ref (q 4), .int (o), .int (a)] (c_C D q cI cJ cZ z0)) (cQw (some (.int ((fPr_read z0 o a).1))) (c_W D q cI cJ cZ (fPr_read z0 o a).2) (c_qs q)) 0 0 (c_qs q) := by
  refine Met.ofW (cc := ccPr_read) (maxL := 7) (ret := (some .int)) (by decide +kernel) rfl ?_
  intro p e s m args below meth c s₁ B hml hv
  obtain ⟨rfl, hP, hK⟩ := hv
  have hx := B.exec
  have hb := B.bytes
  have hr := B.returns
  have hts := atoms_spec (ws := wsPr_read) B.pre
  have hown : s.vm.findClass RPr = some m.cls := findClass_of_methodNamed B.named
  have hlocks := B.notSynchronized
  have w0 := hts (.fieldLink RPr 7 "DrumMachine$Processor" "drum" "LDrumMachine$Drum;") (List.mem_cons_of_mem _ wm1_110)
  have i0 : ∀ w ∈ u_ws RPr TPr 9, w ∈ wsPr_read := fun w h => List.mem_cons_of_mem _ (inAPr w h)
  have hS : va_S (c_qs q) s.heap s.heap [] := va_S.rf
  have hl := lv_entry ([.ref (q 4), .int (o), .int (a)]) (n := 7) (Nat.le_of_ble_eq_true rfl)
  rw [lg_entry_eq]
  generalize (lg_sl ([.ref (q 4), .int (o), .int (a)]) ++ List.replicate (7 - (lg_sl ([.ref (q 4), .int (o), .int (a)])).length) Slot.unset).toArray = ls at hl ⊢
  have hl : lv_has ls 7 [(0, .ref (q 4)), (1, .int (o)), (2, .int (a))] := hl
  have hB114 : ∀ (H : Heap) (locs : List Loc) (ls : Array Slot) (z : SC) (v3 : Int64) (v5 : Bool) (v6 : Int32), fPr_read z0 o a = fPr_read_114 z v3 v5 v6 → c_W D q cI cJ cZ z H → va_S (c_qs q) s.heap H locs → lv_has ls 7 [(0, .ref (q 4)), (3, .long (v3)), (5, .int (bb (v5))), (6, .int (v6))] → W p l e (headSpec wsPr_read { frames := 3, cells := 0, slots := 0, locals := 81 }).room s m ([.ref (q 4), .int (o), .int (a)] : List Value).toArray below meth c H locs 0 0 (MQ below (cQw (some (.int ((fPr_read z0 o a).1))) (c_W D q cI cJ cZ (fPr_read z0 o a).2) (c_qs q)) ([.ref (q 4), .int (o), .int (a)] : List Value).toArray s 0 0 (c_qs q)) (F0 m 114 ls []) := by
    intro H locs ls z v3 v5 v6 hR hP hS hl
    rw [fPr_read_114.eq_1] at hR
    refine lv_iload hx hb dPr_read_114 (lv_at hl 3 rfl) ?_
    refine cl_rd (W.runS (As := [.int (v6)]) (rest := []) ⟨hx, hb, hml, hown, hts⟩ (kPr_isFault l v6) (va_cwS 1 hts (gS wm4_81 wm4_82 wm1_6 wm4_83) rfl rfl rfl (by decide +kernel) ⟨Nat.le_of_ble_eq_true rfl, Nat.le_of_ble_eq_true rfl⟩) (preT) rfl rfl hl.1 rfl (lv_room (Nat.le_of_ble_eq_true rfl)) dPr_read_116 ⟨Nat.le_refl _, Nat.le_refl _⟩) ?_
    refine wz_ifne hx hb dPr_read_119 rfl (fun h119 => ?_) (fun h119 => ?_)
    · have hR := hR.trans (if_pos h119)
      refine lv_iload hx hb dPr_read_129 (lv_at hl 3 rfl) ?_
      exact W.iret hx hb hr (fun t ht _ => ⟨by rw [hR]; first | done | rfl, by rw [hR, ht]; exact hP, hS.F ht⟩) hS.2.2 dPr_read_131
    · have hR := hR.trans (if_neg h119)
      refine lv_aload_n hx hb dPr_read_122 rfl (lv_at hl 0 rfl) ?_
      refine lv_lload_n hx hb dPr_read_123 rfl (lv_at hl 1 rfl) ?_
      refine lv_iload hx hb dPr_read_124 (lv_at hl 2 rfl) ?_
      refine cl_wr (W.runV (As := [.long (v3), .int (bb (v5))]) (rest := []) ⟨hx, hb, hml, hown, hts⟩ (kPr_setDistributor l D q cI cJ cZ hq z v3 v5) (cwV 2 hts (gV wm3_235 wm3_237 ws2_5 wm1_6 wm3_238) rfl rfl rfl (by decide +kernel) ⟨Nat.le_of_ble_eq_true rfl, Nat.le_of_ble_eq_true rfl⟩) (c_preV4 hK hP) rfl rfl hl.1 rfl (lv_room (Nat.le_of_ble_eq_true rfl)) dPr_read_126 ⟨Nat.le_refl _, Nat.le_refl _⟩) hS (fun _ h => h) (fun _ h => h) (fun H locs hP hS => ?_)
      refine lv_iload hx hb dPr_read_129 (lv_at hl 3 rfl) ?_
      exact W.iret hx hb hr (fun t ht _ => ⟨by rw [hR]; first | done | rfl, by rw [hR, ht]; exact hP, hS.F ht⟩) hS.2.2 dPr_read_131
  have hB47 : ∀ (H : Heap) (locs : List Loc) (ls : Array Slot) (z : SC) (v3 : Int64) (v5 : Bool) (v6 : Int32), fPr_read z0 o a = fPr_read_47 z o v3 v5 v6 → 0 ≤ (c_pcount z).toInt → c_W D q cI cJ cZ z H → va_S (c_qs q) s.heap H locs → lv_has ls 7 [(0, .ref (q 4)), (1, .int (o)), (3, .long (v3)), (5, .int (bb (v5))), (6, .int (v6))] → W p l e (headSpec wsPr_read { frames := 3, cells := 0, slots := 0, locals := 81 }).room s m ([.ref (q 4), .int (o), .int (a)] : List Value).toArray below meth c H locs 0 0 (MQ below (cQw (some (.int ((fPr_read z0 o a).1))) (c_W D q cI cJ cZ (fPr_read z0 o a).2) (c_qs q)) ([.ref (q 4), .int (o), .int (a)] : List Value).toArray s 0 0 (c_qs q)) (F0 m 47 ls []) := by
    intro H locs ls z v3 v5 v6 hR hc hP hS hl
    rw [fPr_read_47.eq_1] at hR
    refine lv_iload_n hx hb dPr_read_47 rfl (lv_at hl 1 rfl) ?_
    refine lv_bipush (v := 14) hx hb dPr_read_48 (by decide) ?_
    refine lv_icmp_ne hx hb dPr_read_50 rfl (fun h50 => ?_) (fun h50 => ?_)
    · have hR := hR.trans (if_neg h50)
      refine lv_iload_n hx hb dPr_read_65 rfl (lv_at hl 1 rfl) ?_
      refine lv_bipush (v := 71) hx hb dPr_read_66 (by decide) ?_
      refine lv_icmp_ne hx hb dPr_read_68 rfl (fun h68 => ?_) (fun h68 => ?_)
      · have hR := hR.trans (if_neg h68)
        refine lv_iload_n hx hb dPr_read_83 rfl (lv_at hl 1 rfl) ?_
        refine lv_bipush (v := 19) hx hb dPr_read_84 (by decide) ?_
        refine lv_icmp_ne hx hb dPr_read_86 rfl (fun h86 => ?_) (fun h86 => ?_)
        · have hR := hR.trans (if_neg h86)
          refine lv_iload_n hx hb dPr_read_99 rfl (lv_at hl 1 rfl) ?_
          refine cl_rd (W.runS (As := [.int (o)]) (rest := []) ⟨hx, hb, hml, hown, hts⟩ (kOp_adds l o) (va_cwS 1 hts (gS wm4_60 wm4_61 wm1_17 wm4_62) rfl rfl rfl (by decide +kernel) ⟨Nat.le_of_ble_eq_true rfl, Nat.le_of_ble_eq_true rfl⟩) (preT) rfl rfl hl.1 rfl (lv_room (Nat.le_of_ble_eq_true rfl)) dPr_read_100 ⟨Nat.le_refl _, Nat.le_refl _⟩) ?_
          refine wz_ifeq hx hb dPr_read_103 rfl (fun h103 => ?_) (fun h103 => ?_)
          · have hR := hR.trans (if_neg h103)
            exact hB114 H locs ls z v3 v5 v6 hR hP hS (lv_sub hl [0, 2, 3, 4] rfl)
          · have hR := hR.trans (if_pos h103)
            refine lv_aload_n hx hb dPr_read_106 rfl (lv_at hl 0 rfl) ?_
            refine lv_iload_n hx hb dPr_read_107 rfl (lv_at hl 1 rfl) ?_
            refine lv_lload_n hx hb dPr_read_108 rfl (lv_at hl 2 rfl) ?_
            refine lv_iload hx hb dPr_read_109 (lv_at hl 3 rfl) ?_
            refine cl_wr (W.runV (As := [.int (o), .long (v3), .int (bb (v5))]) (rest := []) ⟨hx, hb, hml, hown, hts⟩ (kPr_addWord l D q cI cJ cZ hq z o v3 v5) (cwV 3 hts (gV wm4_63 wm4_65 ws2_11 wm1_6 wm4_66) rfl rfl rfl (by decide +kernel) ⟨Nat.le_of_ble_eq_true rfl, Nat.le_of_ble_eq_true rfl⟩) (c_preV4 hK hP) rfl rfl hl.1 rfl (lv_room (Nat.le_of_ble_eq_true rfl)) dPr_read_111 ⟨Nat.le_refl _, Nat.le_refl _⟩) hS (fun _ h => h) (fun _ h => h) (fun H locs hP hS => ?_)
            exact hB114 H locs ls (fPr_addWord z o v3 v5) v3 v5 v6 hR hP hS (lv_sub hl [0, 2, 3, 4] rfl)
        · have hR := hR.trans (if_pos h86)
          refine lv_aload_n hx hb dPr_read_89 rfl (lv_at hl 0 rfl) ?_
          refine lv_lload_n hx hb dPr_read_90 rfl (lv_at hl 2 rfl) ?_
          refine lv_iload hx hb dPr_read_91 (lv_at hl 3 rfl) ?_
          refine cl_wr (W.runV (As := [.long (v3), .int (bb (v5))]) (rest := []) ⟨hx, hb, hml, hown, hts⟩ (kPr_multiply l D q cI cJ cZ hq z v3 v5) (cwV 2 hts (gV wm4_51 wm4_53 ws2_10 wm1_6 wm4_54) rfl rfl rfl (by decide +kernel) ⟨Nat.le_of_ble_eq_true rfl, Nat.le_of_ble_eq_true rfl⟩) (c_preV4 hK hP) rfl rfl hl.1 rfl (lv_room (Nat.le_of_ble_eq_true rfl)) dPr_read_93 ⟨Nat.le_refl _, Nat.le_refl _⟩) hS (fun _ h => h) (fun _ h => h) (fun H locs hP hS => ?_)
          refine lv_goto hx hb dPr_read_96 rfl ?_
          exact hB114 H locs ls (fPr_multiply z v3 v5) v3 v5 v6 hR hP hS (lv_sub hl [0, 2, 3, 4] rfl)
      · have hR := hR.trans (if_pos h68)
        refine lv_aload_n hx hb dPr_read_71 rfl (lv_at hl 0 rfl) ?_
        refine lv_lload_n hx hb dPr_read_72 rfl (lv_at hl 2 rfl) ?_
        refine lv_iload hx hb dPr_read_73 (lv_at hl 3 rfl) ?_
        refine cl_wr (W.runV (As := [.long (v3), .int (bb (v5))]) (rest := []) ⟨hx, hb, hml, hown, hts⟩ (kPr_punchWord l D q cI cJ cZ hq z v3 v5 hc) (cwV 2 hts (gV wm4_36 wm4_38 ws2_9 wm1_6 wm4_39) rfl rfl rfl (by decide +kernel) ⟨Nat.le_of_ble_eq_true rfl, Nat.le_of_ble_eq_true rfl⟩) (c_preV4 hK hP) rfl rfl hl.1 rfl (lv_room (Nat.le_of_ble_eq_true rfl)) dPr_read_75 ⟨Nat.le_refl _, Nat.le_refl _⟩) hS (fun _ h => h) (fun _ h => h) (fun H locs hP hS => ?_)
        refine lv_istore (lv' := [(6, .int ((fPr_punchWord z v3 v5).1)), (0, .ref (q 4)), (1, .int (o)), (3, .long (v3)), (5, .int (bb (v5)))]) hx hb dPr_read_78 hl (by decide) rfl (fun ls hl => ?_)
        refine lv_goto hx hb dPr_read_80 rfl ?_
        exact hB114 H locs ls ((fPr_punchWord z v3 v5).2) v3 v5 ((fPr_punchWord z v3 v5).1) hR hP hS (lv_sub hl [1, 3, 4, 0] rfl)
    · have hR := hR.trans (if_pos h50)
      refine lv_aload_n hx hb dPr_read_53 rfl (lv_at hl 0 rfl) ?_
      refine lv_lload_n hx hb dPr_read_54 rfl (lv_at hl 2 rfl) ?_
      refine lv_iload hx hb dPr_read_55 (lv_at hl 3 rfl) ?_
      refine cl_wr (W.runV (As := [.long (v3), .int (bb (v5))]) (rest := []) ⟨hx, hb, hml, hown, hts⟩ (kPr_divide l D q cI cJ cZ hq z v3 v5) (cwV 2 hts (gV wm4_23 wm4_25 ws2_8 wm1_6 wm4_26) rfl rfl rfl (by decide +kernel) ⟨Nat.le_of_ble_eq_true rfl, Nat.le_of_ble_eq_true rfl⟩) (c_preV4 hK hP) rfl rfl hl.1 rfl (lv_room (Nat.le_of_ble_eq_true rfl)) dPr_read_57 ⟨Nat.le_refl _, Nat.le_refl _⟩) hS (fun _ h => h) (fun _ h => h) (fun H locs hP hS => ?_)
      refine lv_istore (lv' := [(6, .int ((fPr_divide z v3 v5).1)), (0, .ref (q 4)), (1, .int (o)), (3, .long (v3)), (5, .int (bb (v5)))]) hx hb dPr_read_60 hl (by decide) rfl (fun ls hl => ?_)
      refine lv_goto hx hb dPr_read_62 rfl ?_
      exact hB114 H locs ls ((fPr_divide z v3 v5).2) v3 v5 ((fPr_divide z v3 v5).1) hR hP hS (lv_sub hl [1, 3, 4, 0] rfl)
  have hR := fPr_read.eq_1 z0 o a
  refine lv_iload_n hx hb dPr_read_0 rfl (lv_at hl 1 rfl) ?_
  refine lv_bipush (v := 84) hx hb dPr_read_1 (by decide) ?_
  refine lv_icmp_ne hx hb dPr_read_3 rfl (fun h3 => ?_) (fun h3 => ?_)
  · have hR := hR.trans (if_neg h3)
    refine lv_aload_n hx hb dPr_read_12 rfl (lv_at hl 0 rfl) ?_
    refine cg4_drum hx hb hts i0 hown hK hP w0 dPr_read_13 ?_
    refine lv_iload_n hx hb dPr_read_16 rfl (lv_at hl 2 rfl) ?_
    refine cl_rd (W.runV (As := [.int (a)]) (rest := []) ⟨hx, hb, hml, hown, hts⟩ (kDr_isValid l D q cI cJ cZ hq z0 a ha) (cwV 1 hts (gV wm3_144 wm2_130 wm2_131 wm1_2 wm2_132) rfl rfl rfl (by decide +kernel) ⟨Nat.le_of_ble_eq_true rfl, Nat.le_of_ble_eq_true rfl⟩) (c_preV1 hK hP) rfl rfl hl.1 rfl (lv_room (Nat.le_of_ble_eq_true rfl)) dPr_read_17 ⟨Nat.le_refl _, Nat.le_refl _⟩) ?_
    refine wz_ifne hx hb dPr_read_20 rfl (fun h20 => ?_) (fun h20 => ?_)
    · have hR := hR.trans (if_pos h20)
      refine lv_aload_n hx hb dPr_read_25 rfl (lv_at hl 0 rfl) ?_
      refine cg4_drum hx hb hts i0 hown hK hP w0 dPr_read_26 ?_
      refine lv_iload_n hx hb dPr_read_29 rfl (lv_at hl 2 rfl) ?_
      refine cl_rd (W.runV (As := [.int (a)]) (rest := []) ⟨hx, hb, hml, hown, hts⟩ (kDr_valueAt l D q cI cJ cZ hq z0 a ha) (cwV 1 hts (gV wm3_145 wm3_146 wm3_147 wm1_2 wm3_148) rfl rfl rfl (by decide +kernel) ⟨Nat.le_of_ble_eq_true rfl, Nat.le_of_ble_eq_true rfl⟩) (c_preV1 hK hP) rfl rfl hl.1 rfl (lv_room (Nat.le_of_ble_eq_true rfl)) dPr_read_30 ⟨Nat.le_refl _, Nat.le_refl _⟩) ?_
      refine lv_lstore_n (lv' := [(3, .long (fDr_valueAt z0 a)), (0, .ref (q 4)), (1, .int (o)), (2, .int (a))]) hx hb dPr_read_33 rfl hl (by decide) rfl (fun ls hl => ?_)
      refine lv_aload_n hx hb dPr_read_34 rfl (lv_at hl 1 rfl) ?_
      refine cg4_drum hx hb hts i0 hown hK hP w0 dPr_read_35 ?_
      refine lv_iload_n hx hb dPr_read_38 rfl (lv_at hl 3 rfl) ?_
      refine cl_rd (W.runV (As := [.int (a)]) (rest := []) ⟨hx, hb, hml, hown, hts⟩ (kDr_isMinus l D q cI cJ cZ hq z0 a ha) (cwV 1 hts (gV wm4_19 wm4_20 wm4_21 wm1_2 wm4_22) rfl rfl rfl (by decide +kernel) ⟨Nat.le_of_ble_eq_true rfl, Nat.le_of_ble_eq_true rfl⟩) (c_preV1 hK hP) rfl rfl hl.1 rfl (lv_room (Nat.le_of_ble_eq_true rfl)) dPr_read_39 ⟨Nat.le_refl _, Nat.le_refl _⟩) ?_
      refine lv_istore (lv' := [(5, .int (bb (fDr_isMinus z0 a))), (3, .long (fDr_valueAt z0 a)), (0, .ref (q 4)), (1, .int (o)), (2, .int (a))]) hx hb dPr_read_42 hl (by decide) rfl (fun ls hl => ?_)
      refine lv_iconst (v := (-1)) hx hb dPr_read_44 (by decide) ?_
      refine lv_istore (lv' := [(6, .int ((-1))), (5, .int (bb (fDr_isMinus z0 a))), (3, .long (fDr_valueAt z0 a)), (0, .ref (q 4)), (1, .int (o)), (2, .int (a))]) hx hb dPr_read_45 hl (by decide) rfl (fun ls hl => ?_)
      exact hB47 s.heap [] ls z0 (fDr_valueAt z0 a) (fDr_isMinus z0 a) ((-1)) hR (by first | assumption | omega) hP hS (lv_sub hl [3, 4, 2, 1, 0] rfl)
    · have hR := hR.trans (if_neg h20)
      refine lv_iconst (v := 1) hx hb dPr_read_23 (by decide) ?_
      exact W.iret hx hb hr (fun t ht _ => ⟨by rw [hR]; first | done | rfl, by rw [hR, ht]; exact hP, hS.F ht⟩) hS.2.2 dPr_read_24
  · have hR := hR.trans (if_pos h3)
    refine lv_aload_n hx hb dPr_read_6 rfl (lv_at hl 0 rfl) ?_
    refine lv_iload_n hx hb dPr_read_7 rfl (lv_at hl 2 rfl) ?_
    refine cl_wr (W.runV (As := [.int (a)]) (rest := []) ⟨hx, hb, hml, hown, hts⟩ (kPr_lookUp l D q cI cJ cZ hq z0 a ha) (cwV 1 hts (gV wm4_10 wm4_12 ws2_7 wm1_6 wm4_13) rfl rfl rfl (by decide +kernel) ⟨Nat.le_of_ble_eq_true rfl, Nat.le_of_ble_eq_true rfl⟩) (c_preV4 hK hP) rfl rfl hl.1 rfl (lv_room (Nat.le_of_ble_eq_true rfl)) dPr_read_8 ⟨Nat.le_refl _, Nat.le_refl _⟩) hS (fun _ h => h) (fun _ h => h) (fun H locs hP hS => ?_)
    exact W.iret hx hb hr (fun t ht _ => ⟨by rw [hR]; first | done | rfl, by rw [hR, ht]; exact hP, hS.F ht⟩) hS.2.2 dPr_read_11
theorem dPr_operate_0 : decode ccPr_operate 0 = .ok (.iload_n 1, 1) := by decide +kernel
theorem dPr_operate_1 : decode ccPr_operate 1 = .ok (.invokestatic 117, 3) := by decide +kernel
theorem dPr_operate_4 : decode ccPr_operate 4 = .ok (.ifCond .ne 5, 3) := by decide +kernel
theorem dPr_operate_7 : decode ccPr_operate 7 = .ok (.iconst 2, 1) := by decide +kernel
theorem dPr_operate_8 : decode ccPr_operate 8 = .ok (.ireturn, 1) := by decide +kernel
theorem dPr_operate_9 : decode ccPr_operate 9 = .ok (.iload_n 1, 1) := by decide +kernel
theorem dPr_operate_10 : decode ccPr_operate 10 = .ok (.iconst 1, 1) := by decide +kernel
theorem dPr_operate_11 : decode ccPr_operate 11 = .ok (.if_icmp .ne 5, 3) := by decide +kernel
theorem dPr_operate_14 : decode ccPr_operate 14 = .ok (.iconst 0, 1) := by decide +kernel
theorem dPr_operate_15 : decode ccPr_operate 15 = .ok (.ireturn, 1) := by decide +kernel
theorem dPr_operate_16 : decode ccPr_operate 16 = .ok (.iload_n 1, 1) := by decide +kernel
theorem dPr_operate_17 : decode ccPr_operate 17 = .ok (.invokestatic 120, 3) := by decide +kernel
theorem dPr_operate_20 : decode ccPr_operate 20 = .ok (.ifCond .eq 15, 3) := by decide +kernel
theorem dPr_operate_23 : decode ccPr_operate 23 = .ok (.aload_n 0, 1) := by decide +kernel
theorem dPr_operate_24 : decode ccPr_operate 24 = .ok (.iload_n 1, 1) := by decide +kernel
theorem dPr_operate_25 : decode ccPr_operate 25 = .ok (.iload_n 1, 1) := by decide +kernel
theorem dPr_operate_26 : decode ccPr_operate 26 = .ok (.iload_n 2, 1) := by decide +kernel
theorem dPr_operate_27 : decode ccPr_operate 27 = .ok (.invokestatic 123, 3) := by decide +kernel
theorem dPr_operate_30 : decode ccPr_operate 30 = .ok (.invokevirtual 126, 3) := by decide +kernel
theorem dPr_operate_33 : decode ccPr_operate 33 = .ok (.iconst (-1), 1) := by decide +kernel
theorem dPr_operate_34 : decode ccPr_operate 34 = .ok (.ireturn, 1) := by decide +kernel
theorem dPr_operate_35 : decode ccPr_operate 35 = .ok (.iload_n 1, 1) := by decide +kernel
theorem dPr_operate_36 : decode ccPr_operate 36 = .ok (.invokestatic 130, 3) := by decide +kernel
theorem dPr_operate_39 : decode ccPr_operate 39 = .ok (.ifCond .ne 5, 3) := by decide +kernel
theorem dPr_operate_42 : decode ccPr_operate 42 = .ok (.iconst (-1), 1) := by decide +kernel
theorem dPr_operate_43 : decode ccPr_operate 43 = .ok (.ireturn, 1) := by decide +kernel
theorem dPr_operate_44 : decode ccPr_operate 44 = .ok (.iload_n 2, 1) := by decide +kernel
theorem dPr_operate_45 : decode ccPr_operate 45 = .ok (.invokestatic 71, 3) := by decide +kernel
theorem dPr_operate_48 : decode ccPr_operate 48 = .ok (.ifCond .ne 5, 3) := by decide +kernel
theorem dPr_operate_51 : decode ccPr_operate 51 = .ok (.iconst 2, 1) := by decide +kernel
theorem dPr_operate_52 : decode ccPr_operate 52 = .ok (.ireturn, 1) := by decide +kernel
theorem dPr_operate_53 : decode ccPr_operate 53 = .ok (.aload_n 0, 1) := by decide +kernel
theorem dPr_operate_54 : decode ccPr_operate 54 = .ok (.iload_n 2, 1) := by decide +kernel
theorem dPr_operate_55 : decode ccPr_operate 55 = .ok (.invokevirtual 76, 3) := by decide +kernel
theorem dPr_operate_58 : decode ccPr_operate 58 = .ok (.iload_n 1, 1) := by decide +kernel
theorem dPr_operate_59 : decode ccPr_operate 59 = .ok (.invokestatic 133, 3) := by decide +kernel
theorem dPr_operate_62 : decode ccPr_operate 62 = .ok (.ifCond .eq 12, 3) := by decide +kernel
theorem dPr_operate_65 : decode ccPr_operate 65 = .ok (.aload_n 0, 1) := by decide +kernel
theorem dPr_operate_66 : decode ccPr_operate 66 = .ok (.iload_n 1, 1) := by decide +kernel
theorem dPr_operate_67 : decode ccPr_operate 67 = .ok (.iload_n 2, 1) := by decide +kernel
theorem dPr_operate_68 : decode ccPr_operate 68 = .ok (.invokevirtual 136, 3) := by decide +kernel
theorem dPr_operate_71 : decode ccPr_operate 71 = .ok (.goto 9, 3) := by decide +kernel
theorem dPr_operate_74 : decode ccPr_operate 74 = .ok (.aload_n 0, 1) := by decide +kernel
theorem dPr_operate_75 : decode ccPr_operate 75 = .ok (.iload_n 1, 1) := by decide +kernel
theorem dPr_operate_76 : decode ccPr_operate 76 = .ok (.iload_n 2, 1) := by decide +kernel
theorem dPr_operate_77 : decode ccPr_operate 77 = .ok (.invokevirtual 139, 3) := by decide +kernel
theorem dPr_operate_80 : decode ccPr_operate 80 = .ok (.ireturn, 1) := by decide +kernel
def fPr_operate (z0 : SC) (o : Int32) (a : Int32) : Int32 × SC :=
  (if (fOp_exists o) = true then (if o = (1 : Int32) then (0, z0) else (if (fOp_shifts o) = true then ((-1), fPr_shift z0 o (fOp_shiftLength o a)) else (if (fOp_accessesData o) = true then (if (fDr_hasAddress a) = true then (if (fOp_writes o) = true then ((fPr_write (fPr_waitAndAccess z0 a) o a).1, (fPr_write (fPr_waitAndAccess z0 a) o a).2) else ((fPr_read (fPr_waitAndAccess z0 a) o a).1, (fPr_read (fPr_waitAndAccess z0 a) o a).2)) else (2, z0)) else ((-1), z0)))) else (2, z0))
set_option maxHeartbeats 4000000 in
set_option maxRecDepth 100000 in
theorem kPr_operate (l : Launch) (D : va_G) (q : Nat → Nat) (cI cJ cZ : ClassId) (hq : c_inj q) (z0 : SC) (o : Int32) (a : Int32) (hi : vp_in (c_cfirst z0) 20) (hc : 0 ≤ (c_pcount z0).toInt) : Met l yPr_operate wsPr_operate { frames := 4, cells := 0, slots := 0, locals := 107 } (va_Pc [.ref (q 4), .int (o), .int (a)] (c_C D q cI cJ cZ z0)) (cQw (some (.int ((fPr_operate z0 o a).1))) (c_W D q cI cJ cZ (fPr_operate z0 o a).2) (c_qs q)) 0 0 (c_qs q) := by
  refine Met.ofW (cc := ccPr_operate) (maxL := 3) (ret := (some .int)) (by decide +kernel) rfl ?_
  intro p e s m args below meth c s₁ B hml hv
  obtain ⟨rfl, hP, hK⟩ := hv
  have hx := B.exec
  have hb := B.bytes
  have hr := B.returns
  have hts := atoms_spec (ws := wsPr_operate) B.pre
  have hown : s.vm.findClass RPr = some m.cls := findClass_of_methodNamed B.named
  have hlocks := B.notSynchronized
  have hS : va_S (c_qs q) s.heap s.heap [] := va_S.rf
  have hl := lv_entry ([.ref (q 4), .int (o), .int (a)]) (n := 3) (Nat.le_of_ble_eq_true rfl)
  rw [lg_entry_eq]
  generalize (lg_sl ([.ref (q 4), .int (o), .int (a)]) ++ List.replicate (3 - (lg_sl ([.ref (q 4), .int (o), .int (a)])).length) Slot.unset).toArray = ls at hl ⊢
  have hl : lv_has ls 3 [(0, .ref (q 4)), (1, .int (o)), (2, .int (a))] := hl
  have hR := fPr_operate.eq_1 z0 o a
  refine lv_iload_n hx hb dPr_operate_0 rfl (lv_at hl 1 rfl) ?_
  refine cl_rd (W.runS (As := [.int (o)]) (rest := []) ⟨hx, hb, hml, hown, hts⟩ (kOp_exists l o) (va_cwS 1 hts (gS wm3_159 wm2_178 wm1_17 wm2_179) rfl rfl rfl (by decide +kernel) ⟨Nat.le_of_ble_eq_true rfl, Nat.le_of_ble_eq_true rfl⟩) (preT) rfl rfl hl.1 rfl (lv_room (Nat.le_of_ble_eq_true rfl)) dPr_operate_1 ⟨Nat.le_refl _, Nat.le_refl _⟩) ?_
  refine wz_ifne hx hb dPr_operate_4 rfl (fun h4 => ?_) (fun h4 => ?_)
  · have hR := hR.trans (if_pos h4)
    refine lv_iload_n hx hb dPr_operate_9 rfl (lv_at hl 1 rfl) ?_
    refine lv_iconst (v := 1) hx hb dPr_operate_10 (by decide) ?_
    refine lv_icmp_ne hx hb dPr_operate_11 rfl (fun h11 => ?_) (fun h11 => ?_)
    · have hR := hR.trans (if_neg h11)
      refine lv_iload_n hx hb dPr_operate_16 rfl (lv_at hl 1 rfl) ?_
      refine cl_rd (W.runS (As := [.int (o)]) (rest := []) ⟨hx, hb, hml, hown, hts⟩ (kOp_shifts l o) (va_cwS 1 hts (gS wm3_160 wm2_198 wm1_17 wm2_199) rfl rfl rfl (by decide +kernel) ⟨Nat.le_of_ble_eq_true rfl, Nat.le_of_ble_eq_true rfl⟩) (preT) rfl rfl hl.1 rfl (lv_room (Nat.le_of_ble_eq_true rfl)) dPr_operate_17 ⟨Nat.le_refl _, Nat.le_refl _⟩) ?_
      refine wz_ifeq hx hb dPr_operate_20 rfl (fun h20 => ?_) (fun h20 => ?_)
      · have hR := hR.trans (if_neg h20)
        refine lv_iload_n hx hb dPr_operate_35 rfl (lv_at hl 1 rfl) ?_
        refine cl_rd (W.runS (As := [.int (o)]) (rest := []) ⟨hx, hb, hml, hown, hts⟩ (kOp_accessesData l o) (va_cwS 1 hts (gS wm3_198 wm3_44 wm1_17 wm3_45) rfl rfl rfl (by decide +kernel) ⟨Nat.le_of_ble_eq_true rfl, Nat.le_of_ble_eq_true rfl⟩) (preT) rfl rfl hl.1 rfl (lv_room (Nat.le_of_ble_eq_true rfl)) dPr_operate_36 ⟨Nat.le_refl _, Nat.le_refl _⟩) ?_
        refine wz_ifne hx hb dPr_operate_39 rfl (fun h39 => ?_) (fun h39 => ?_)
        · have hR := hR.trans (if_pos h39)
          refine lv_iload_n hx hb dPr_operate_44 rfl (lv_at hl 2 rfl) ?_
          refine cl_rd (W.runS (As := [.int (a)]) (rest := []) ⟨hx, hb, hml, hown, hts⟩ (kDr_hasAddress l a) (va_cwS 1 hts (gS wm3_135 wm2_9 wm1_2 wm2_10) rfl rfl rfl (by decide +kernel) ⟨Nat.le_of_ble_eq_true rfl, Nat.le_of_ble_eq_true rfl⟩) (preT) rfl rfl hl.1 rfl (lv_room (Nat.le_of_ble_eq_true rfl)) dPr_operate_45 ⟨Nat.le_refl _, Nat.le_refl _⟩) ?_
          refine wz_ifne hx hb dPr_operate_48 rfl (fun h48 => ?_) (fun h48 => ?_)
          · have hR := hR.trans (if_pos h48)
            refine lv_aload_n hx hb dPr_operate_53 rfl (lv_at hl 0 rfl) ?_
            refine lv_iload_n hx hb dPr_operate_54 rfl (lv_at hl 2 rfl) ?_
            refine cl_wr (W.runV (As := [.int (a)]) (rest := []) ⟨hx, hb, hml, hown, hts⟩ (kPr_waitAndAccess l D q cI cJ cZ hq z0 a) (cwV 1 hts (gV wm3_136 wm3_138 ws2_0 wm1_6 wm3_139) rfl rfl rfl (by decide +kernel) ⟨Nat.le_of_ble_eq_true rfl, Nat.le_of_ble_eq_true rfl⟩) (c_preV4 hK hP) rfl rfl hl.1 rfl (lv_room (Nat.le_of_ble_eq_true rfl)) dPr_operate_55 ⟨Nat.le_refl _, Nat.le_refl _⟩) hS (fun _ h => h) (fun _ h => h) (fun H locs hP hS => ?_)
            refine lv_iload_n hx hb dPr_operate_58 rfl (lv_at hl 1 rfl) ?_
            refine cl_rd (W.runS (As := [.int (o)]) (rest := []) ⟨hx, hb, hml, hown, hts⟩ (kOp_writes l o) (va_cwS 1 hts (gS wm3_199 wm3_200 wm1_17 wm3_201) rfl rfl rfl (by decide +kernel) ⟨Nat.le_of_ble_eq_true rfl, Nat.le_of_ble_eq_true rfl⟩) (preT) rfl rfl hl.1 rfl (lv_room (Nat.le_of_ble_eq_true rfl)) dPr_operate_59 ⟨Nat.le_refl _, Nat.le_refl _⟩) ?_
            refine wz_ifeq hx hb dPr_operate_62 rfl (fun h62 => ?_) (fun h62 => ?_)
            · have hR := hR.trans (if_neg h62)
              refine lv_aload_n hx hb dPr_operate_74 rfl (lv_at hl 0 rfl) ?_
              refine lv_iload_n hx hb dPr_operate_75 rfl (lv_at hl 1 rfl) ?_
              refine lv_iload_n hx hb dPr_operate_76 rfl (lv_at hl 2 rfl) ?_
              refine cl_wr (W.runV (As := [.int (o), .int (a)]) (rest := []) ⟨hx, hb, hml, hown, hts⟩ (kPr_read l D q cI cJ cZ hq (fPr_waitAndAccess z0 a) o a (has_in h48) hc) (cwV 2 hts (gV wm4_6 wm4_8 ws2_6 wm1_6 wm4_9) rfl rfl rfl (by decide +kernel) ⟨Nat.le_of_ble_eq_true rfl, Nat.le_of_ble_eq_true rfl⟩) (c_preV4 hK hP) rfl rfl hl.1 rfl (lv_room (Nat.le_of_ble_eq_true rfl)) dPr_operate_77 ⟨Nat.le_refl _, Nat.le_refl _⟩) hS (fun _ h => h) (fun _ h => h) (fun H locs hP hS => ?_)
              exact W.iret hx hb hr (fun t ht _ => ⟨by rw [hR]; first | done | rfl, by rw [hR, ht]; exact hP, hS.F ht⟩) hS.2.2 dPr_operate_80
            · have hR := hR.trans (if_pos h62)
              refine lv_aload_n hx hb dPr_operate_65 rfl (lv_at hl 0 rfl) ?_
              refine lv_iload_n hx hb dPr_operate_66 rfl (lv_at hl 1 rfl) ?_
              refine lv_iload_n hx hb dPr_operate_67 rfl (lv_at hl 2 rfl) ?_
              refine cl_wr (W.runV (As := [.int (o), .int (a)]) (rest := []) ⟨hx, hb, hml, hown, hts⟩ (kPr_write l D q cI cJ cZ hq (fPr_waitAndAccess z0 a) o a (has_in h48) hi) (cwV 2 hts (gV wm3_202 wm3_204 ws2_3 wm1_6 wm3_205) rfl rfl rfl (by decide +kernel) ⟨Nat.le_of_ble_eq_true rfl, Nat.le_of_ble_eq_true rfl⟩) (c_preV4 hK hP) rfl rfl hl.1 rfl (lv_room (Nat.le_of_ble_eq_true rfl)) dPr_operate_68 ⟨Nat.le_refl _, Nat.le_refl _⟩) hS (fun _ h => h) (fun _ h => h) (fun H locs hP hS => ?_)
              refine lv_goto hx hb dPr_operate_71 rfl ?_
              exact W.iret hx hb hr (fun t ht _ => ⟨by rw [hR]; first | done | rfl, by rw [hR, ht]; exact hP, hS.F ht⟩) hS.2.2 dPr_operate_80
          · have hR := hR.trans (if_neg h48)
            refine lv_iconst (v := 2) hx hb dPr_operate_51 (by decide) ?_
            exact W.iret hx hb hr (fun t ht _ => ⟨by rw [hR]; first | done | rfl, by rw [hR, ht]; exact hP, hS.F ht⟩) hS.2.2 dPr_operate_52
        · have hR := hR.trans (if_neg h39)
          refine lv_iconst (v := (-1)) hx hb dPr_operate_42 (by decide) ?_
          exact W.iret hx hb hr (fun t ht _ => ⟨by rw [hR]; first | done | rfl, by rw [hR, ht]; exact hP, hS.F ht⟩) hS.2.2 dPr_operate_43
      · have hR := hR.trans (if_pos h20)
        refine lv_aload_n hx hb dPr_operate_23 rfl (lv_at hl 0 rfl) ?_
        refine lv_iload_n hx hb dPr_operate_24 rfl (lv_at hl 1 rfl) ?_
        refine lv_iload_n hx hb dPr_operate_25 rfl (lv_at hl 1 rfl) ?_
        refine lv_iload_n hx hb dPr_operate_26 rfl (lv_at hl 2 rfl) ?_
        refine cl_rd (W.runS (As := [.int (o), .int (a)]) (rest := [.int (o), .ref (q 4)]) ⟨hx, hb, hml, hown, hts⟩ (kOp_shiftLength l o a) (va_cwS 2 hts (gS wm3_161 wm3_50 wm1_17 wm3_51) rfl rfl rfl (by decide +kernel) ⟨Nat.le_of_ble_eq_true rfl, Nat.le_of_ble_eq_true rfl⟩) (preT) rfl rfl hl.1 rfl (lv_room (Nat.le_of_ble_eq_true rfl)) dPr_operate_27 ⟨Nat.le_refl _, Nat.le_refl _⟩) ?_
        refine cl_wr (W.runV (As := [.int (o), .int ((fOp_shiftLength o a))]) (rest := []) ⟨hx, hb, hml, hown, hts⟩ (kPr_shift l D q cI cJ cZ hq z0 o (fOp_shiftLength o a)) (cwV 2 hts (gV wm3_162 wm3_164 ws2_2 wm1_6 wm3_165) rfl rfl rfl (by decide +kernel) ⟨Nat.le_of_ble_eq_true rfl, Nat.le_of_ble_eq_true rfl⟩) (c_preV4 hK hP) rfl rfl hl.1 rfl (lv_room (Nat.le_of_ble_eq_true rfl)) dPr_operate_30 ⟨Nat.le_refl _, Nat.le_refl _⟩) hS (fun _ h => h) (fun _ h => h) (fun H locs hP hS => ?_)
        refine lv_iconst (v := (-1)) hx hb dPr_operate_33 (by decide) ?_
        exact W.iret hx hb hr (fun t ht _ => ⟨by rw [hR]; first | done | rfl, by rw [hR, ht]; exact hP, hS.F ht⟩) hS.2.2 dPr_operate_34
    · have hR := hR.trans (if_pos h11)
      refine lv_iconst (v := 0) hx hb dPr_operate_14 (by decide) ?_
      exact W.iret hx hb hr (fun t ht _ => ⟨by rw [hR]; first | done | rfl, by rw [hR, ht]; exact hP, hS.F ht⟩) hS.2.2 dPr_operate_15
  · have hR := hR.trans (if_neg h4)
    refine lv_iconst (v := 2) hx hb dPr_operate_7 (by decide) ?_
    exact W.iret hx hb hr (fun t ht _ => ⟨by rw [hR]; first | done | rfl, by rw [hR, ht]; exact hP, hS.F ht⟩) hS.2.2 dPr_operate_8
theorem dPr_step_0 : decode ccPr_step 0 = .ok (.aload_n 0, 1) := by decide +kernel
theorem dPr_step_1 : decode ccPr_step 1 = .ok (.getfield 36, 3) := by decide +kernel
theorem dPr_step_4 : decode ccPr_step 4 = .ok (.invokestatic 71, 3) := by decide +kernel
theorem dPr_step_7 : decode ccPr_step 7 = .ok (.ifCond .ne 5, 3) := by decide +kernel
theorem dPr_step_10 : decode ccPr_step 10 = .ok (.iconst 2, 1) := by decide +kernel
theorem dPr_step_11 : decode ccPr_step 11 = .ok (.ireturn, 1) := by decide +kernel
theorem dPr_step_12 : decode ccPr_step 12 = .ok (.aload_n 0, 1) := by decide +kernel
theorem dPr_step_13 : decode ccPr_step 13 = .ok (.aload_n 0, 1) := by decide +kernel
theorem dPr_step_14 : decode ccPr_step 14 = .ok (.getfield 36, 3) := by decide +kernel
theorem dPr_step_17 : decode ccPr_step 17 = .ok (.invokevirtual 76, 3) := by decide +kernel
theorem dPr_step_20 : decode ccPr_step 20 = .ok (.aload_n 0, 1) := by decide +kernel
theorem dPr_step_21 : decode ccPr_step 21 = .ok (.getfield 7, 3) := by decide +kernel
theorem dPr_step_24 : decode ccPr_step 24 = .ok (.aload_n 0, 1) := by decide +kernel
theorem dPr_step_25 : decode ccPr_step 25 = .ok (.getfield 36, 3) := by decide +kernel
theorem dPr_step_28 : decode ccPr_step 28 = .ok (.invokevirtual 80, 3) := by decide +kernel
theorem dPr_step_31 : decode ccPr_step 31 = .ok (.ifCond .ne 5, 3) := by decide +kernel
theorem dPr_step_34 : decode ccPr_step 34 = .ok (.iconst 1, 1) := by decide +kernel
theorem dPr_step_35 : decode ccPr_step 35 = .ok (.ireturn, 1) := by decide +kernel
theorem dPr_step_36 : decode ccPr_step 36 = .ok (.aload_n 0, 1) := by decide +kernel
theorem dPr_step_37 : decode ccPr_step 37 = .ok (.getfield 7, 3) := by decide +kernel
theorem dPr_step_40 : decode ccPr_step 40 = .ok (.aload_n 0, 1) := by decide +kernel
theorem dPr_step_41 : decode ccPr_step 41 = .ok (.getfield 36, 3) := by decide +kernel
theorem dPr_step_44 : decode ccPr_step 44 = .ok (.invokevirtual 83, 3) := by decide +kernel
theorem dPr_step_47 : decode ccPr_step 47 = .ok (.lstore_n 1, 1) := by decide +kernel
theorem dPr_step_48 : decode ccPr_step 48 = .ok (.lload_n 1, 1) := by decide +kernel
theorem dPr_step_49 : decode ccPr_step 49 = .ok (.invokestatic 87, 3) := by decide +kernel
theorem dPr_step_52 : decode ccPr_step 52 = .ok (.istore_n 3, 1) := by decide +kernel
theorem dPr_step_53 : decode ccPr_step 53 = .ok (.lload_n 1, 1) := by decide +kernel
theorem dPr_step_54 : decode ccPr_step 54 = .ok (.invokestatic 93, 3) := by decide +kernel
theorem dPr_step_57 : decode ccPr_step 57 = .ok (.istore 4, 2) := by decide +kernel
theorem dPr_step_59 : decode ccPr_step 59 = .ok (.aload_n 0, 1) := by decide +kernel
theorem dPr_step_60 : decode ccPr_step 60 = .ok (.iload_n 3, 1) := by decide +kernel
theorem dPr_step_61 : decode ccPr_step 61 = .ok (.iload 4, 2) := by decide +kernel
theorem dPr_step_63 : decode ccPr_step 63 = .ok (.invokevirtual 96, 3) := by decide +kernel
theorem dPr_step_66 : decode ccPr_step 66 = .ok (.istore 5, 2) := by decide +kernel
theorem dPr_step_68 : decode ccPr_step 68 = .ok (.iload 5, 2) := by decide +kernel
theorem dPr_step_70 : decode ccPr_step 70 = .ok (.invokestatic 67, 3) := by decide +kernel
theorem dPr_step_73 : decode ccPr_step 73 = .ok (.ifCond .eq 6, 3) := by decide +kernel
theorem dPr_step_76 : decode ccPr_step 76 = .ok (.iload 5, 2) := by decide +kernel
theorem dPr_step_78 : decode ccPr_step 78 = .ok (.ireturn, 1) := by decide +kernel
theorem dPr_step_79 : decode ccPr_step 79 = .ok (.aload_n 0, 1) := by decide +kernel
theorem dPr_step_80 : decode ccPr_step 80 = .ok (.dup, 1) := by decide +kernel
theorem dPr_step_81 : decode ccPr_step 81 = .ok (.getfield 32, 3) := by decide +kernel
theorem dPr_step_84 : decode ccPr_step 84 = .ok (.iload_n 3, 1) := by decide +kernel
theorem dPr_step_85 : decode ccPr_step 85 = .ok (.iload 4, 2) := by decide +kernel
theorem dPr_step_87 : decode ccPr_step 87 = .ok (.invokestatic 100, 3) := by decide +kernel
theorem dPr_step_90 : decode ccPr_step 90 = .ok (.i2l, 1) := by decide +kernel
theorem dPr_step_91 : decode ccPr_step 91 = .ok (.ladd, 1) := by decide +kernel
theorem dPr_step_92 : decode ccPr_step 92 = .ok (.putfield 32, 3) := by decide +kernel
theorem dPr_step_95 : decode ccPr_step 95 = .ok (.aload_n 0, 1) := by decide +kernel
theorem dPr_step_96 : decode ccPr_step 96 = .ok (.aload_n 0, 1) := by decide +kernel
theorem dPr_step_97 : decode ccPr_step 97 = .ok (.iload_n 3, 1) := by decide +kernel
theorem dPr_step_98 : decode ccPr_step 98 = .ok (.invokevirtual 105, 3) := by decide +kernel
theorem dPr_step_101 : decode ccPr_step 101 = .ok (.ifCond .eq 8, 3) := by decide +kernel
theorem dPr_step_104 : decode ccPr_step 104 = .ok (.iload 4, 2) := by decide +kernel
theorem dPr_step_106 : decode ccPr_step 106 = .ok (.goto 7, 3) := by decide +kernel
theorem dPr_step_109 : decode ccPr_step 109 = .ok (.lload_n 1, 1) := by decide +kernel
theorem dPr_step_110 : decode ccPr_step 110 = .ok (.invokestatic 108, 3) := by decide +kernel
theorem dPr_step_113 : decode ccPr_step 113 = .ok (.putfield 36, 3) := by decide +kernel
theorem dPr_step_116 : decode ccPr_step 116 = .ok (.iload 5, 2) := by decide +kernel
theorem dPr_step_118 : decode ccPr_step 118 = .ok (.ireturn, 1) := by decide +kernel
def fPr_step_95  (z : SC) (v1 : Int64) (v3 : Int32) (v4 : Int32) (v5 : Int32) : Int32 × SC :=
  (if ((fPr_takesBranch z v3).1) = true then (v5, c_nxt_s ((fPr_takesBranch z v3).2) v4) else (v5, c_nxt_s ((fPr_takesBranch z v3).2) (fDg_nextAddressOf v1)))
def fPr_step_68  (z : SC) (v1 : Int64) (v3 : Int32) (v4 : Int32) (v5 : Int32) : Int32 × SC :=
  (if (fPr_isFault v5) = true then (v5, z) else fPr_step_95 (c_time_s z ((c_time z) + ((fOp_fixedTime v3 v4).toInt64))) v1 v3 v4 v5)
def fPr_step_48  (z : SC) (v1 : Int64) : Int32 × SC :=
  fPr_step_68 ((fPr_operate z (fDg_operationOf v1) (fDg_dataAddressOf v1)).2) v1 (fDg_operationOf v1) (fDg_dataAddressOf v1) ((fPr_operate z (fDg_operationOf v1) (fDg_dataAddressOf v1)).1)
def fPr_step (z0 : SC)  : Int32 × SC :=
  (if (fDr_hasAddress (c_nxt z0)) = true then (if (fDr_isValid (fPr_waitAndAccess z0 (c_nxt z0)) (c_nxt (fPr_waitAndAccess z0 (c_nxt z0)))) = true then fPr_step_48 (fPr_waitAndAccess z0 (c_nxt z0)) (fDr_valueAt (fPr_waitAndAccess z0 (c_nxt z0)) (c_nxt (fPr_waitAndAccess z0 (c_nxt z0)))) else (1, fPr_waitAndAccess z0 (c_nxt z0))) else (2, z0))
set_option maxHeartbeats 4000000 in
set_option maxRecDepth 100000 in
theorem kPr_step (l : Launch) (D : va_G) (q : Nat → Nat) (cI cJ cZ : ClassId) (hq : c_inj q) (z0 : SC)  (hi : vp_in (c_cfirst z0) 20) (hc : 0 ≤ (c_pcount z0).toInt) : Met l yPr_step wsPr_step { frames := 5, cells := 0, slots := 0, locals := 129 } (va_Pc [.ref (q 4)] (c_C D q cI cJ cZ z0)) (cQw (some (.int ((fPr_step z0).1))) (c_W D q cI cJ cZ (fPr_step z0).2) (c_qs q)) 0 0 (c_qs q) := by
  refine Met.ofW (cc := ccPr_step) (maxL := 6) (ret := (some .int)) (by decide +kernel) rfl ?_
  intro p e s m args below meth c s₁ B hml hv
  obtain ⟨rfl, hP, hK⟩ := hv
  have hx := B.exec
  have hb := B.bytes
  have hr := B.returns
  have hts := atoms_spec (ws := wsPr_step) B.pre
  have hown : s.vm.findClass RPr = some m.cls := findClass_of_methodNamed B.named
  have hlocks := B.notSynchronized
  have w0 := hts (.fieldLink RPr 36 "DrumMachine$Processor" "next" "I") (List.mem_cons_of_mem _ wm1_116)
  have w1 := hts (.fieldLink RPr 32 "DrumMachine$Processor" "time" "J") (List.mem_cons_of_mem _ wm1_118)
  have w2 := hts (.fieldLink RPr 7 "DrumMachine$Processor" "drum" "LDrumMachine$Drum;") (List.mem_cons_of_mem _ wm1_110)
  have i0 : ∀ w ∈ u_ws RPr TPr 9, w ∈ wsPr_step := fun w h => List.mem_cons_of_mem _ (inAPr w h)
  have hS : va_S (c_qs q) s.heap s.heap [] := va_S.rf
  have hl := lv_entry ([.ref (q 4)]) (n := 6) (Nat.le_of_ble_eq_true rfl)
  rw [lg_entry_eq]
  generalize (lg_sl ([.ref (q 4)]) ++ List.replicate (6 - (lg_sl ([.ref (q 4)])).length) Slot.unset).toArray = ls at hl ⊢
  have hl : lv_has ls 6 [(0, .ref (q 4))] := hl
  have hB95 : ∀ (H : Heap) (locs : List Loc) (ls : Array Slot) (z : SC) (v1 : Int64) (v3 : Int32) (v4 : Int32) (v5 : Int32), fPr_step z0 = fPr_step_95 z v1 v3 v4 v5 → c_W D q cI cJ cZ z H → va_S (c_qs q) s.heap H locs → lv_has ls 6 [(0, .ref (q 4)), (1, .long (v1)), (3, .int (v3)), (4, .int (v4)), (5, .int (v5))] → W p l e (headSpec wsPr_step { frames := 5, cells := 0, slots := 0, locals := 129 }).room s m ([.ref (q 4)] : List Value).toArray below meth c H locs 0 0 (MQ below (cQw (some (.int ((fPr_step z0).1))) (c_W D q cI cJ cZ (fPr_step z0).2) (c_qs q)) ([.ref (q 4)] : List Value).toArray s 0 0 (c_qs q)) (F0 m 95 ls []) := by
    intro H locs ls z v1 v3 v4 v5 hR hP hS hl
    rw [fPr_step_95.eq_1] at hR
    refine lv_aload_n hx hb dPr_step_95 rfl (lv_at hl 0 rfl) ?_
    refine lv_aload_n hx hb dPr_step_96 rfl (lv_at hl 0 rfl) ?_
    refine lv_iload_n hx hb dPr_step_97 rfl (lv_at hl 2 rfl) ?_
    refine cl_wr (W.runV (As := [.int (v3)]) (rest := [.ref (q 4)]) ⟨hx, hb, hml, hown, hts⟩ (kPr_takesBranch l D q cI cJ cZ hq z v3) (cwV 1 hts (gV wm4_85 wm4_87 ws2_12 wm1_6 wm4_88) rfl rfl rfl (by decide +kernel) ⟨Nat.le_of_ble_eq_true rfl, Nat.le_of_ble_eq_true rfl⟩) (c_preV4 hK hP) rfl rfl hl.1 rfl (lv_room (Nat.le_of_ble_eq_true rfl)) dPr_step_98 ⟨Nat.le_refl _, Nat.le_refl _⟩) hS (fun _ h => h) (fun _ h => h) (fun H locs hP hS => ?_)
    refine wz_ifeq hx hb dPr_step_101 rfl (fun h101 => ?_) (fun h101 => ?_)
    · have hR := hR.trans (if_neg h101)
      refine lv_lload_n hx hb dPr_step_109 rfl (lv_at hl 1 rfl) ?_
      refine cl_rd (W.runS (As := [.long (v1)]) (rest := [.ref (q 4)]) ⟨hx, hb, hml, hown, hts⟩ (kDg_nextAddressOf l v1) (va_cwS 1 hts (gS wm4_99 wm4_100 wm1_14 wm4_101) rfl rfl rfl (by decide +kernel) ⟨Nat.le_of_ble_eq_true rfl, Nat.le_of_ble_eq_true rfl⟩) (preT) rfl rfl hl.1 rfl (lv_room (Nat.le_of_ble_eq_true rfl)) dPr_step_110 ⟨Nat.le_refl _, Nat.le_refl _⟩) ?_
      refine cp4_next (fDg_nextAddressOf v1) hq hS hx hb hts i0 hown hK hP w0 dPr_step_113 (fun H locs hP hS => ?_)
      refine lv_iload hx hb dPr_step_116 (lv_at hl 4 rfl) ?_
      exact W.iret hx hb hr (fun t ht _ => ⟨by rw [hR]; first | done | rfl, by rw [hR, ht]; exact hP, hS.F ht⟩) hS.2.2 dPr_step_118
    · have hR := hR.trans (if_pos h101)
      refine lv_iload hx hb dPr_step_104 (lv_at hl 3 rfl) ?_
      refine lv_goto hx hb dPr_step_106 rfl ?_
      refine cp4_next v4 hq hS hx hb hts i0 hown hK hP w0 dPr_step_113 (fun H locs hP hS => ?_)
      refine lv_iload hx hb dPr_step_116 (lv_at hl 4 rfl) ?_
      exact W.iret hx hb hr (fun t ht _ => ⟨by rw [hR]; first | done | rfl, by rw [hR, ht]; exact hP, hS.F ht⟩) hS.2.2 dPr_step_118
  have hB68 : ∀ (H : Heap) (locs : List Loc) (ls : Array Slot) (z : SC) (v1 : Int64) (v3 : Int32) (v4 : Int32) (v5 : Int32), fPr_step z0 = fPr_step_68 z v1 v3 v4 v5 → c_W D q cI cJ cZ z H → va_S (c_qs q) s.heap H locs → lv_has ls 6 [(0, .ref (q 4)), (1, .long (v1)), (3, .int (v3)), (4, .int (v4)), (5, .int (v5))] → W p l e (headSpec wsPr_step { frames := 5, cells := 0, slots := 0, locals := 129 }).room s m ([.ref (q 4)] : List Value).toArray below meth c H locs 0 0 (MQ below (cQw (some (.int ((fPr_step z0).1))) (c_W D q cI cJ cZ (fPr_step z0).2) (c_qs q)) ([.ref (q 4)] : List Value).toArray s 0 0 (c_qs q)) (F0 m 68 ls []) := by
    intro H locs ls z v1 v3 v4 v5 hR hP hS hl
    rw [fPr_step_68.eq_1] at hR
    refine lv_iload hx hb dPr_step_68 (lv_at hl 4 rfl) ?_
    refine cl_rd (W.runS (As := [.int (v5)]) (rest := []) ⟨hx, hb, hml, hown, hts⟩ (kPr_isFault l v5) (va_cwS 1 hts (gS wm4_81 wm4_82 wm1_6 wm4_83) rfl rfl rfl (by decide +kernel) ⟨Nat.le_of_ble_eq_true rfl, Nat.le_of_ble_eq_true rfl⟩) (preT) rfl rfl hl.1 rfl (lv_room (Nat.le_of_ble_eq_true rfl)) dPr_step_70 ⟨Nat.le_refl _, Nat.le_refl _⟩) ?_
    refine wz_ifeq hx hb dPr_step_73 rfl (fun h73 => ?_) (fun h73 => ?_)
    · have hR := hR.trans (if_neg h73)
      refine lv_aload_n hx hb dPr_step_79 rfl (lv_at hl 0 rfl) ?_
      refine lv_dup hx hb dPr_step_80 rfl ?_
      refine cg4_time hx hb hts i0 hown hK hP w1 dPr_step_81 ?_
      refine lv_iload_n hx hb dPr_step_84 rfl (lv_at hl 2 rfl) ?_
      refine lv_iload hx hb dPr_step_85 (lv_at hl 3 rfl) ?_
      refine cl_rd (W.runS (As := [.int (v3), .int (v4)]) (rest := [.long (c_time z), .ref (q 4)]) ⟨hx, hb, hml, hown, hts⟩ (kOp_fixedTime l v3 v4) (va_cwS 2 hts (gS wm4_84 wm3_47 wm1_17 wm3_48) rfl rfl rfl (by decide +kernel) ⟨Nat.le_of_ble_eq_true rfl, Nat.le_of_ble_eq_true rfl⟩) (preT) rfl rfl hl.1 rfl (lv_room (Nat.le_of_ble_eq_true rfl)) dPr_step_87 ⟨Nat.le_refl _, Nat.le_refl _⟩) ?_
      refine lv_i2l hx hb dPr_step_90 rfl ?_
      refine lv_ladd hx hb dPr_step_91 ?_
      refine cp4_time ((c_time z) + ((fOp_fixedTime v3 v4).toInt64)) hq hS hx hb hts i0 hown hK hP w1 dPr_step_92 (fun H locs hP hS => ?_)
      exact hB95 H locs ls (c_time_s z ((c_time z) + ((fOp_fixedTime v3 v4).toInt64))) v1 v3 v4 v5 hR hP hS (lv_sub hl [0, 1, 2, 3, 4] rfl)
    · have hR := hR.trans (if_pos h73)
      refine lv_iload hx hb dPr_step_76 (lv_at hl 4 rfl) ?_
      exact W.iret hx hb hr (fun t ht _ => ⟨by rw [hR]; first | done | rfl, by rw [hR, ht]; exact hP, hS.F ht⟩) hS.2.2 dPr_step_78
  have hB48 : ∀ (H : Heap) (locs : List Loc) (ls : Array Slot) (z : SC) (v1 : Int64), fPr_step z0 = fPr_step_48 z v1 → vp_in (c_cfirst z) 20 → 0 ≤ (c_pcount z).toInt → c_W D q cI cJ cZ z H → va_S (c_qs q) s.heap H locs → lv_has ls 6 [(0, .ref (q 4)), (1, .long (v1))] → W p l e (headSpec wsPr_step { frames := 5, cells := 0, slots := 0, locals := 129 }).room s m ([.ref (q 4)] : List Value).toArray below meth c H locs 0 0 (MQ below (cQw (some (.int ((fPr_step z0).1))) (c_W D q cI cJ cZ (fPr_step z0).2) (c_qs q)) ([.ref (q 4)] : List Value).toArray s 0 0 (c_qs q)) (F0 m 48 ls []) := by
    intro H locs ls z v1 hR hi hc hP hS hl
    rw [fPr_step_48.eq_1] at hR
    refine lv_lload_n hx hb dPr_step_48 rfl (lv_at hl 1 rfl) ?_
    refine cl_rd (W.runS (As := [.long (v1)]) (rest := []) ⟨hx, hb, hml, hown, hts⟩ (kDg_operationOf l v1) (va_cwS 1 hts (gS wm3_149 wm3_150 wm1_14 wm3_151) rfl rfl rfl (by decide +kernel) ⟨Nat.le_of_ble_eq_true rfl, Nat.le_of_ble_eq_true rfl⟩) (preT) rfl rfl hl.1 rfl (lv_room (Nat.le_of_ble_eq_true rfl)) dPr_step_49 ⟨Nat.le_refl _, Nat.le_refl _⟩) ?_
    refine lv_istore_n (lv' := [(3, .int (fDg_operationOf v1)), (0, .ref (q 4)), (1, .long (v1))]) hx hb dPr_step_52 rfl hl (by decide) rfl (fun ls hl => ?_)
    refine lv_lload_n hx hb dPr_step_53 rfl (lv_at hl 2 rfl) ?_
    refine cl_rd (W.runS (As := [.long (v1)]) (rest := []) ⟨hx, hb, hml, hown, hts⟩ (kDg_dataAddressOf l v1) (va_cwS 1 hts (gS wm3_152 wm3_153 wm1_14 wm3_154) rfl rfl rfl (by decide +kernel) ⟨Nat.le_of_ble_eq_true rfl, Nat.le_of_ble_eq_true rfl⟩) (preT) rfl rfl hl.1 rfl (lv_room (Nat.le_of_ble_eq_true rfl)) dPr_step_54 ⟨Nat.le_refl _, Nat.le_refl _⟩) ?_
    refine lv_istore (lv' := [(4, .int (fDg_dataAddressOf v1)), (3, .int (fDg_operationOf v1)), (0, .ref (q 4)), (1, .long (v1))]) hx hb dPr_step_57 hl (by decide) rfl (fun ls hl => ?_)
    refine lv_aload_n hx hb dPr_step_59 rfl (lv_at hl 2 rfl) ?_
    refine lv_iload_n hx hb dPr_step_60 rfl (lv_at hl 1 rfl) ?_
    refine lv_iload hx hb dPr_step_61 (lv_at hl 0 rfl) ?_
    refine cl_wr (W.runV (As := [.int ((fDg_operationOf v1)), .int ((fDg_dataAddressOf v1))]) (rest := []) ⟨hx, hb, hml, hown, hts⟩ (kPr_operate l D q cI cJ cZ hq z (fDg_operationOf v1) (fDg_dataAddressOf v1) hi hc) (cwV 2 hts (gV wm3_155 wm3_157 ws2_1 wm1_6 wm3_158) rfl rfl rfl (by decide +kernel) ⟨Nat.le_of_ble_eq_true rfl, Nat.le_of_ble_eq_true rfl⟩) (c_preV4 hK hP) rfl rfl hl.1 rfl (lv_room (Nat.le_of_ble_eq_true rfl)) dPr_step_63 ⟨Nat.le_refl _, Nat.le_refl _⟩) hS (fun _ h => h) (fun _ h => h) (fun H locs hP hS => ?_)
    refine lv_istore (lv' := [(5, .int ((fPr_operate z (fDg_operationOf v1) (fDg_dataAddressOf v1)).1)), (4, .int (fDg_dataAddressOf v1)), (3, .int (fDg_operationOf v1)), (0, .ref (q 4)), (1, .long (v1))]) hx hb dPr_step_66 hl (by decide) rfl (fun ls hl => ?_)
    exact hB68 H locs ls ((fPr_operate z (fDg_operationOf v1) (fDg_dataAddressOf v1)).2) v1 (fDg_operationOf v1) (fDg_dataAddressOf v1) ((fPr_operate z (fDg_operationOf v1) (fDg_dataAddressOf v1)).1) hR hP hS (lv_sub hl [3, 4, 2, 1, 0] rfl)
  have hR := fPr_step.eq_1 z0
  refine lv_aload_n hx hb dPr_step_0 rfl (lv_at hl 0 rfl) ?_
  refine cg4_next hx hb hts i0 hown hK hP w0 dPr_step_1 ?_
  refine cl_rd (W.runS (As := [.int ((c_nxt z0))]) (rest := []) ⟨hx, hb, hml, hown, hts⟩ (kDr_hasAddress l (c_nxt z0)) (va_cwS 1 hts (gS wm3_135 wm2_9 wm1_2 wm2_10) rfl rfl rfl (by decide +kernel) ⟨Nat.le_of_ble_eq_true rfl, Nat.le_of_ble_eq_true rfl⟩) (preT) rfl rfl hl.1 rfl (lv_room (Nat.le_of_ble_eq_true rfl)) dPr_step_4 ⟨Nat.le_refl _, Nat.le_refl _⟩) ?_
  refine wz_ifne hx hb dPr_step_7 rfl (fun h7 => ?_) (fun h7 => ?_)
  · have hR := hR.trans (if_pos h7)
    refine lv_aload_n hx hb dPr_step_12 rfl (lv_at hl 0 rfl) ?_
    refine lv_aload_n hx hb dPr_step_13 rfl (lv_at hl 0 rfl) ?_
    refine cg4_next hx hb hts i0 hown hK hP w0 dPr_step_14 ?_
    refine cl_wr (W.runV (As := [.int ((c_nxt z0))]) (rest := []) ⟨hx, hb, hml, hown, hts⟩ (kPr_waitAndAccess l D q cI cJ cZ hq z0 (c_nxt z0)) (cwV 1 hts (gV wm3_136 wm3_138 ws2_0 wm1_6 wm3_139) rfl rfl rfl (by decide +kernel) ⟨Nat.le_of_ble_eq_true rfl, Nat.le_of_ble_eq_true rfl⟩) (c_preV4 hK hP) rfl rfl hl.1 rfl (lv_room (Nat.le_of_ble_eq_true rfl)) dPr_step_17 ⟨Nat.le_refl _, Nat.le_refl _⟩) hS (fun _ h => h) (fun _ h => h) (fun H locs hP hS => ?_)
    refine lv_aload_n hx hb dPr_step_20 rfl (lv_at hl 0 rfl) ?_
    refine cg4_drum hx hb hts i0 hown hK hP w2 dPr_step_21 ?_
    refine lv_aload_n hx hb dPr_step_24 rfl (lv_at hl 0 rfl) ?_
    refine cg4_next hx hb hts i0 hown hK hP w0 dPr_step_25 ?_
    refine cl_rd (W.runV (As := [.int ((c_nxt (fPr_waitAndAccess z0 (c_nxt z0))))]) (rest := []) ⟨hx, hb, hml, hown, hts⟩ (kDr_isValid l D q cI cJ cZ hq (fPr_waitAndAccess z0 (c_nxt z0)) (c_nxt (fPr_waitAndAccess z0 (c_nxt z0))) (has_in h7)) (cwV 1 hts (gV wm3_144 wm2_130 wm2_131 wm1_2 wm2_132) rfl rfl rfl (by decide +kernel) ⟨Nat.le_of_ble_eq_true rfl, Nat.le_of_ble_eq_true rfl⟩) (c_preV1 hK hP) rfl rfl hl.1 rfl (lv_room (Nat.le_of_ble_eq_true rfl)) dPr_step_28 ⟨Nat.le_refl _, Nat.le_refl _⟩) ?_
    refine wz_ifne hx hb dPr_step_31 rfl (fun h31 => ?_) (fun h31 => ?_)
    · have hR := hR.trans (if_pos h31)
      refine lv_aload_n hx hb dPr_step_36 rfl (lv_at hl 0 rfl) ?_
      refine cg4_drum hx hb hts i0 hown hK hP w2 dPr_step_37 ?_
      refine lv_aload_n hx hb dPr_step_40 rfl (lv_at hl 0 rfl) ?_
      refine cg4_next hx hb hts i0 hown hK hP w0 dPr_step_41 ?_
      refine cl_rd (W.runV (As := [.int ((c_nxt (fPr_waitAndAccess z0 (c_nxt z0))))]) (rest := []) ⟨hx, hb, hml, hown, hts⟩ (kDr_valueAt l D q cI cJ cZ hq (fPr_waitAndAccess z0 (c_nxt z0)) (c_nxt (fPr_waitAndAccess z0 (c_nxt z0))) (has_in h7)) (cwV 1 hts (gV wm3_145 wm3_146 wm3_147 wm1_2 wm3_148) rfl rfl rfl (by decide +kernel) ⟨Nat.le_of_ble_eq_true rfl, Nat.le_of_ble_eq_true rfl⟩) (c_preV1 hK hP) rfl rfl hl.1 rfl (lv_room (Nat.le_of_ble_eq_true rfl)) dPr_step_44 ⟨Nat.le_refl _, Nat.le_refl _⟩) ?_
      refine lv_lstore_n (lv' := [(1, .long (fDr_valueAt (fPr_waitAndAccess z0 (c_nxt z0)) (c_nxt (fPr_waitAndAccess z0 (c_nxt z0))))), (0, .ref (q 4))]) hx hb dPr_step_47 rfl hl (by decide) rfl (fun ls hl => ?_)
      exact hB48 H locs ls (fPr_waitAndAccess z0 (c_nxt z0)) (fDr_valueAt (fPr_waitAndAccess z0 (c_nxt z0)) (c_nxt (fPr_waitAndAccess z0 (c_nxt z0)))) hR (by first | assumption | omega) (by first | assumption | omega) hP hS (lv_sub hl [1, 0] rfl)
    · have hR := hR.trans (if_neg h31)
      refine lv_iconst (v := 1) hx hb dPr_step_34 (by decide) ?_
      exact W.iret hx hb hr (fun t ht _ => ⟨by rw [hR]; first | done | rfl, by rw [hR, ht]; exact hP, hS.F ht⟩) hS.2.2 dPr_step_35
  · have hR := hR.trans (if_neg h7)
    refine lv_iconst (v := 2) hx hb dPr_step_10 (by decide) ?_
    exact W.iret hx hb hr (fun t ht _ => ⟨by rw [hR]; first | done | rfl, by rw [hR, ht]; exact hP, hS.F ht⟩) hS.2.2 dPr_step_11
end
section
def kp (z z' : SC) : Prop := c_cfirst z' = c_cfirst z ∧ c_pcount z' = c_pcount z
def c_J (z : SC) : Prop := vp_in (c_cfirst z) 20 ∧ 0 ≤ (c_pcount z).toInt
theorem J_kp {z z' : SC} (h : kp z z') (hJ : c_J z) : c_J z' := by
  unfold c_J
  rw [h.1, h.2]
  exact hJ
theorem kp_rf (z : SC) : kp z z := ⟨rfl, rfl⟩
theorem kp_tr {x y z : SC} (h1 : kp x y) (h2 : kp y z) : kp x z := ⟨h2.1.trans h1.1, h2.2.trans h1.2⟩
theorem kp_store6 : ∀ (n : Nat) (z : SC) (a : Int32) (v : Int64) (b : Bool) (v5 : Int64) (v7 : Nat), kp z (fDr_store_6 n z a v b v5 v7) := by
  intro n
  induction n with
  | zero => intro z a v b v5 v7; exact ⟨rfl, rfl⟩
  | succ n ih =>
    intro z a v b v5 v7
    rw [fDr_store_6.eq_2]
    split
    · exact ⟨rfl, rfl⟩
    · exact ih _ _ _ _ _ _
theorem kp_store (z : SC) (a : Int32) (v : Int64) (b : Bool) : kp z (fDr_store z a v b) := kp_store6 _ _ _ _ _ _ _
theorem kp_add77 (z : SC) (x y : Int64) : kp z (fAc_add_77 z x y) := by
  unfold fAc_add_77
  split <;> exact ⟨rfl, rfl⟩
theorem kp_add61 (z : SC) (b : Bool) (x y : Int64) : kp z (fAc_add_61 z b x y) := kp_add77 (c_amin_s z b) _ _
theorem kp_add14 (z : SC) (s0 : Int32) (u w : Int64) (b : Bool) : kp z (fAc_add_14 z s0 u w b) := by
  unfold fAc_add_14
  split
  · exact kp_add61 _ _ _ _
  · split
    · split
      · exact kp_add77 _ _ _
      · exact kp_add61 _ _ _ _
    · exact kp_add77 _ _ _
theorem kp_add (z : SC) (u w : Int64) (b : Bool) : kp z (fAc_add z u w b) := by
  unfold fAc_add
  split <;> exact kp_add14 _ _ _ _ _
theorem kp_mul (z : SC) (v : Int64) (b : Bool) : kp z (fAc_multiply z v b) := by
  unfold fAc_multiply fAc_multiply_44
  split <;> exact ⟨rfl, rfl⟩
theorem kp_div40 : ∀ (n : Nat) (z : SC) (v : Int64) (b : Bool) (v4 v6 v8 : Int64) (v10 : Nat), kp z (fAc_divide_40 n z v b v4 v6 v8 v10).2 := by
  intro n
  induction n with
  | zero => intro z v b v4 v6 v8 v10; exact ⟨rfl, rfl⟩
  | succ n ih =>
    intro z v b v4 v6 v8 v10
    rw [fAc_divide_40.eq_2]
    split
    · split <;> exact ⟨rfl, rfl⟩
    · exact ih _ _ _ _ _ _ _
theorem kp_div (z : SC) (v : Int64) (b : Bool) : kp z (fAc_divide z v b).2 := by
  unfold fAc_divide
  split
  · exact ⟨rfl, rfl⟩
  · split
    · exact kp_div40 _ _ _ _ _ _ _ _
    · exact ⟨rfl, rfl⟩
theorem kp_sr (z : SC) (x : Int32) : kp z (fAc_shiftRight z x) := ⟨rfl, rfl⟩
theorem kp_sl (z : SC) (x : Int32) : kp z (fAc_shiftLeft z x) := ⟨rfl, rfl⟩
theorem kp_srr (z : SC) (x : Int32) : kp z (fAc_shiftAndRound z x) := by
  unfold fAc_shiftAndRound fAc_shiftAndRound_11
  split
  · exact kp_sr _ _
  · exact kp_tr (kp_sr z x) (kp_add _ _ _ _)
theorem kp_shift (z : SC) (o x : Int32) : kp z (fPr_shift z o x) := by
  unfold fPr_shift
  by_cases h1 : o = (35 : Int32)
  · rw [if_pos h1]; exact kp_sl _ _
  · rw [if_neg h1]
    by_cases h2 : o = (30 : Int32)
    · rw [if_pos h2]; exact kp_sr _ _
    · rw [if_neg h2]; exact kp_srr _ _
theorem kp_addW48 (z : SC) (o : Int32) (v : Int64) (b : Bool) : kp z (fPr_addWord_48 z o v b) := by
  unfold fPr_addWord_48
  split <;> exact kp_add _ _ _ _
theorem kp_lk : ∀ (n : Nat) (z : SC) (a v2 v3 : Int32), kp z (fPr_lookUp_12 n z a v2 v3).2 := by
  intro n
  induction n with
  | zero => intro z a v2 v3; exact ⟨rfl, rfl⟩
  | succ n ih =>
    intro z a v2 v3
    rw [fPr_lookUp_12.eq_2]
    split
    · exact ⟨rfl, rfl⟩
    · split
      · split
        · split
          · exact ih _ _ _ _
          · exact ⟨rfl, rfl⟩
        · exact ⟨rfl, rfl⟩
      · split
        · split
          · exact ih (c_time_s z _) _ _ _
          · exact ⟨rfl, rfl⟩
        · exact ⟨rfl, rfl⟩
theorem kp_tb (z : SC) (o : Int32) : kp z (fPr_takesBranch z o).2 := by
  unfold fPr_takesBranch
  repeat' split
  all_goals exact ⟨rfl, rfl⟩
theorem J_readCard {z : SC} (h : c_J z) (a : Int32) : c_J (fPr_readCard z a).2 := by
  unfold fPr_readCard
  split
  · exact h
  · have h1 := J_kp (kp_store z a (fCd_firstValue z) (fCd_firstIsMinus z)) h
    generalize fDr_store z a (fCd_firstValue z) (fCd_firstIsMinus z) = y at h1
    refine ⟨?_, h1.2⟩
    show vp_in ((c_cfirst y + 1) % 20) 20
    obtain ⟨a1, a2⟩ := vp_in_iff.mp h1.1
    have e : (20 : Int32).toInt = 20 := by decide
    have e1 := i_inc (x := c_cfirst y) (by omega) a1
    refine vp_in_iff.mpr ?_
    rw [Kit.i32_rem_nonneg (by omega), e1, e]
    omega
theorem J_punch {z : SC} (h : c_J z) (v : Int64) (b : Bool) : c_J (fPr_punchWord z v b).2 := by
  unfold fPr_punchWord
  by_cases h1 : fPu_isFull z = true
  · rw [if_pos h1]; exact h
  · rw [if_neg h1]
    refine ⟨h.1, ?_⟩
    show 0 ≤ (c_pcount z + 1).toInt
    obtain ⟨a1, a2⟩ := vp_in_iff.mp (pu_in h.2 h1)
    rw [i_inc (by omega) a1]
    omega
theorem J_w99 {z : SC} (h : c_J z) (a : Int32) : c_J (fPr_write_99 z a).2 := J_kp (kp_store _ _ _ _) h
theorem J_sd {z : SC} (h : c_J z) (v : Int64) (b : Bool) : c_J (fPr_setDistributor z v b) := h
theorem J_write {z : SC} (h : c_J z) (o a : Int32) : c_J (fPr_write z o a).2 := by
  unfold fPr_write
  split
  · exact J_readCard h a
  · split
    · exact J_w99 (J_sd h _ _) a
    · split
      · exact J_w99 (J_sd h _ _) a
      · split
        · exact J_w99 (J_sd h _ _) a
        · exact J_w99 h a
theorem J_114 {z : SC} (h : c_J z) (v : Int64) (b : Bool) (x : Int32) : c_J (fPr_read_114 z v b x).2 := by
  unfold fPr_read_114
  split <;> exact h
theorem kp_addW30 (z : SC) (s0 : Bool) (o : Int32) (v : Int64) : kp z (fPr_addWord_30 z s0 o v) := by
  unfold fPr_addWord_30 fPr_addWord_46
  split <;> exact kp_addW48 _ _ _ _
theorem kp_addW14 (z : SC) (o : Int32) (v : Int64) (b : Bool) : kp z (fPr_addWord_14 z o v b) := by
  unfold fPr_addWord_14 fPr_addWord_29
  split
  · split <;> exact kp_addW30 _ _ _ _
  · exact kp_addW30 _ _ _ _
theorem kp_addW (z : SC) (o : Int32) (v : Int64) (b : Bool) : kp z (fPr_addWord z o v b) := by
  unfold fPr_addWord
  split
  · exact kp_tr (y := fAc_reset z) ⟨rfl, rfl⟩ (kp_addW14 _ _ _ _)
  · exact kp_addW14 _ _ _ _
theorem kp_pmul (z : SC) (v : Int64) (b : Bool) : kp z (fPr_multiply z v b) := by
  unfold fPr_multiply
  generalize hT : c_time z + (2 * fDg_sum (fAc_upperDigits z)).toInt64 = x
  exact kp_tr (y := c_time_s z x) ⟨rfl, rfl⟩ (kp_mul _ _ _)
theorem kp_pdiv (z : SC) (v : Int64) (b : Bool) : kp z (fPr_divide z v b).2 := by
  unfold fPr_divide
  have h := kp_div z v b
  generalize fAc_divide z v b = y at h
  by_cases h1 : y.1 = true
  · rw [if_pos h1]
    unfold fPr_divide_14
    generalize c_time y.2 + (2 * fDg_sum (fAc_lowerDigits y.2)).toInt64 = x
    exact h
  · rw [if_neg h1]; exact h
theorem J_47 {z : SC} (h : c_J z) (o : Int32) (v : Int64) (b : Bool) (x : Int32) : c_J (fPr_read_47 z o v b x).2 := by
  unfold fPr_read_47
  split
  · exact J_114 (J_kp (kp_pdiv _ _ _) h) _ _ _
  · split
    · exact J_114 (J_punch h _ _) _ _ _
    · split
      · exact J_114 (J_kp (kp_pmul _ _ _) h) _ _ _
      · split
        · exact J_114 (J_kp (kp_addW _ _ _ _) h) _ _ _
        · exact J_114 h _ _ _
theorem J_read {z : SC} (h : c_J z) (o a : Int32) : c_J (fPr_read z o a).2 := by
  unfold fPr_read
  split
  · exact J_kp (kp_lk _ _ _ _ _) h
  · split
    · exact J_47 h _ _ _ _
    · exact h
theorem J_wait {z : SC} (h : c_J z) (a : Int32) : c_J (fPr_waitAndAccess z a) := by
  unfold fPr_waitAndAccess
  generalize c_time z + _ = x
  exact h
theorem J_op {z : SC} (h : c_J z) (o a : Int32) : c_J (fPr_operate z o a).2 := by
  unfold fPr_operate
  split
  · split
    · exact h
    · split
      · exact J_kp (kp_shift _ _ _) h
      · split
        · split
          · split
            · exact J_write (J_wait h a) o a
            · exact J_read (J_wait h a) o a
          · exact h
        · exact h
  · exact h
theorem J_95 {z : SC} (h : c_J z) (v1 : Int64) (v3 v4 v5 : Int32) : c_J (fPr_step_95 z v1 v3 v4 v5).2 := by
  unfold fPr_step_95
  split <;> exact J_kp (kp_tb z v3) h
theorem J_68 {z : SC} (h : c_J z) (v1 : Int64) (v3 v4 v5 : Int32) : c_J (fPr_step_68 z v1 v3 v4 v5).2 := by
  unfold fPr_step_68
  split
  · exact h
  · generalize c_time z + _ = x
    exact J_95 (z := c_time_s z x) h _ _ _ _
theorem J_48 {z : SC} (h : c_J z) (v1 : Int64) : c_J (fPr_step_48 z v1).2 := by
  unfold fPr_step_48
  exact J_68 (J_op h _ _) _ _ _ _
theorem J_step {z : SC} (h : c_J z) : c_J (fPr_step z).2 := by
  unfold fPr_step
  have h1 := J_wait h (c_nxt z)
  generalize fPr_waitAndAccess z (c_nxt z) = y at h1
  split
  · split
    · exact J_48 h1 _
    · exact h1
  · exact h
theorem st_hi {z : SC} {x : Int32} (hi : vp_in (c_cfirst z) 20) (hc : 0 ≤ (c_pcount z).toInt) : vp_in (c_cfirst (c_cause_s (fPr_step z).2 x)) 20 := (J_step ⟨hi, hc⟩).1
theorem st_hc {z : SC} {x : Int32} (hi : vp_in (c_cfirst z) 20) (hc : 0 ≤ (c_pcount z).toInt) : 0 ≤ (c_pcount (c_cause_s (fPr_step z).2 x)).toInt := (J_step ⟨hi, hc⟩).2
end
section
theorem dPr_doSteps_0 : decode ccPr_doSteps 0 = .ok (.iconst 0, 1) := by decide +kernel
theorem dPr_doSteps_1 : decode ccPr_doSteps 1 = .ok (.istore_n 2, 1) := by decide +kernel
theorem dPr_doSteps_2 : decode ccPr_doSteps 2 = .ok (.iconst 0, 1) := by decide +kernel
theorem dPr_doSteps_3 : decode ccPr_doSteps 3 = .ok (.istore_n 3, 1) := by decide +kernel
theorem dPr_doSteps_4 : decode ccPr_doSteps 4 = .ok (.iload_n 3, 1) := by decide +kernel
theorem dPr_doSteps_5 : decode ccPr_doSteps 5 = .ok (.iload_n 1, 1) := by decide +kernel
theorem dPr_doSteps_6 : decode ccPr_doSteps 6 = .ok (.if_icmp .ge 37, 3) := by decide +kernel
theorem dPr_doSteps_9 : decode ccPr_doSteps 9 = .ok (.aload_n 0, 1) := by decide +kernel
theorem dPr_doSteps_10 : decode ccPr_doSteps 10 = .ok (.invokevirtual 60, 3) := by decide +kernel
theorem dPr_doSteps_13 : decode ccPr_doSteps 13 = .ok (.ifCond .ne 30, 3) := by decide +kernel
theorem dPr_doSteps_16 : decode ccPr_doSteps 16 = .ok (.aload_n 0, 1) := by decide +kernel
theorem dPr_doSteps_17 : decode ccPr_doSteps 17 = .ok (.aload_n 0, 1) := by decide +kernel
theorem dPr_doSteps_18 : decode ccPr_doSteps 18 = .ok (.invokevirtual 63, 3) := by decide +kernel
theorem dPr_doSteps_21 : decode ccPr_doSteps 21 = .ok (.putfield 28, 3) := by decide +kernel
theorem dPr_doSteps_24 : decode ccPr_doSteps 24 = .ok (.aload_n 0, 1) := by decide +kernel
theorem dPr_doSteps_25 : decode ccPr_doSteps 25 = .ok (.getfield 28, 3) := by decide +kernel
theorem dPr_doSteps_28 : decode ccPr_doSteps 28 = .ok (.invokestatic 67, 3) := by decide +kernel
theorem dPr_doSteps_31 : decode ccPr_doSteps 31 = .ok (.ifCond .ne 6, 3) := by decide +kernel
theorem dPr_doSteps_34 : decode ccPr_doSteps 34 = .ok (.iinc 2 1, 3) := by decide +kernel
theorem dPr_doSteps_37 : decode ccPr_doSteps 37 = .ok (.iinc 3 1, 3) := by decide +kernel
theorem dPr_doSteps_40 : decode ccPr_doSteps 40 = .ok (.goto (-36), 3) := by decide +kernel
theorem dPr_doSteps_43 : decode ccPr_doSteps 43 = .ok (.iload_n 2, 1) := by decide +kernel
theorem dPr_doSteps_44 : decode ccPr_doSteps 44 = .ok (.ireturn, 1) := by decide +kernel
def fPr_doSteps_4  : Nat → SC → Int32 → Int32 → Nat → Int32 × SC
  | 0, z, a, v2, v3 => (0, z)
  | fu + 1, z, a, v2, v3 => (if a ≤ (nI (v3)) then (v2, z) else (if (fPr_isStopped z) = true then (v2, z) else (if (fPr_isFault ((fPr_step z).1)) = true then fPr_doSteps_4 fu (c_cause_s ((fPr_step z).2) ((fPr_step z).1)) a v2 (v3 + 1) else fPr_doSteps_4 fu (c_cause_s ((fPr_step z).2) ((fPr_step z).1)) a (v2 + 1) (v3 + 1))))
def fPr_doSteps (z0 : SC) (a : Int32) : Int32 × SC :=
  fPr_doSteps_4 301 z0 a 0 0
set_option maxHeartbeats 4000000 in
set_option maxRecDepth 100000 in
theorem kPr_doSteps (l : Launch) (D : va_G) (q : Nat → Nat) (cI cJ cZ : ClassId) (hq : c_inj q) (z0 : SC) (a : Int32) (ha : a.toInt ≤ 300) (hi : vp_in (c_cfirst z0) 20) (hc : 0 ≤ (c_pcount z0).toInt) : Met l yPr_doSteps wsPr_doSteps { frames := 6, cells := 0, slots := 0, locals := 154 } (va_Pc [.ref (q 4), .int (a)] (c_C D q cI cJ cZ z0)) (cQw (some (.int ((fPr_doSteps z0 a).1))) (c_W D q cI cJ cZ (fPr_doSteps z0 a).2) (c_qs q)) 0 0 (c_qs q) := by
  refine Met.ofW (cc := ccPr_doSteps) (maxL := 4) (ret := (some .int)) (by decide +kernel) rfl ?_
  intro p e s m args below meth c s₁ B hml hv
  obtain ⟨rfl, hP, hK⟩ := hv
  have hx := B.exec
  have hb := B.bytes
  have hr := B.returns
  have hts := atoms_spec (ws := wsPr_doSteps) B.pre
  have hown : s.vm.findClass RPr = some m.cls := findClass_of_methodNamed B.named
  have hlocks := B.notSynchronized
  have w0 := hts (.fieldLink RPr 28 "DrumMachine$Processor" "cause" "I") (List.mem_cons_of_mem _ wm1_117)
  have i0 : ∀ w ∈ u_ws RPr TPr 9, w ∈ wsPr_doSteps := fun w h => List.mem_cons_of_mem _ (inAPr w h)
  have hS : va_S (c_qs q) s.heap s.heap [] := va_S.rf
  have hl := lv_entry ([.ref (q 4), .int (a)]) (n := 4) (Nat.le_of_ble_eq_true rfl)
  rw [lg_entry_eq]
  generalize (lg_sl ([.ref (q 4), .int (a)]) ++ List.replicate (4 - (lg_sl ([.ref (q 4), .int (a)])).length) Slot.unset).toArray = ls at hl ⊢
  have hl : lv_has ls 4 [(0, .ref (q 4)), (1, .int (a))] := hl
  have hB4 : ∀ (n4 : Nat) (H : Heap) (locs : List Loc) (ls : Array Slot) (z : SC) (v2 : Int32) (v3 : Nat), 300 - v3 < n4 → fPr_doSteps z0 a = fPr_doSteps_4 n4 z a v2 v3 → v3 ≤ 300 → vp_in (c_cfirst z) 20 → 0 ≤ (c_pcount z).toInt → c_W D q cI cJ cZ z H → va_S (c_qs q) s.heap H locs → lv_has ls 4 [(0, .ref (q 4)), (1, .int (a)), (2, .int (v2)), (3, .int (nI (v3)))] → W p l e (headSpec wsPr_doSteps { frames := 6, cells := 0, slots := 0, locals := 154 }).room s m ([.ref (q 4), .int (a)] : List Value).toArray below meth c H locs 0 0 (MQ below (cQw (some (.int ((fPr_doSteps z0 a).1))) (c_W D q cI cJ cZ (fPr_doSteps z0 a).2) (c_qs q)) ([.ref (q 4), .int (a)] : List Value).toArray s 0 0 (c_qs q)) (F0 m 4 ls []) := by
    intro n4
    induction n4 with
    | zero => intro H locs ls z v2 v3 hn4; exact absurd hn4 (Nat.not_lt_zero _)
    | succ n4 ih4 =>
      intro H locs ls z v2 v3 hn4 hR h3 hi hc hP hS hl
      rw [fPr_doSteps_4.eq_2] at hR
      refine lv_iload_n hx hb dPr_doSteps_4 rfl (lv_at hl 3 rfl) ?_
      refine lv_iload_n hx hb dPr_doSteps_5 rfl (lv_at hl 1 rfl) ?_
      refine lv_icmp_ge hx hb dPr_doSteps_6 rfl (fun h6 => ?_) (fun h6 => ?_)
      · have hR := hR.trans (if_pos h6)
        refine lv_iload_n hx hb dPr_doSteps_43 rfl (lv_at hl 2 rfl) ?_
        exact W.iret hx hb hr (fun t ht _ => ⟨by rw [hR]; first | done | rfl, by rw [hR, ht]; exact hP, hS.F ht⟩) hS.2.2 dPr_doSteps_44
      · have hR := hR.trans (if_neg h6)
        refine lv_aload_n hx hb dPr_doSteps_9 rfl (lv_at hl 0 rfl) ?_
        refine cl_rd (W.runV (As := []) (rest := []) ⟨hx, hb, hml, hown, hts⟩ (kPr_isStopped l D q cI cJ cZ hq z) (cwV 0 hts (gV wm3_130 wm3_122 wm3_123 wm1_6 wm3_124) rfl rfl rfl (by decide +kernel) ⟨Nat.le_of_ble_eq_true rfl, Nat.le_of_ble_eq_true rfl⟩) (c_preV4 hK hP) rfl rfl hl.1 rfl (lv_room (Nat.le_of_ble_eq_true rfl)) dPr_doSteps_10 ⟨Nat.le_refl _, Nat.le_refl _⟩) ?_
        refine wz_ifne hx hb dPr_doSteps_13 rfl (fun h13 => ?_) (fun h13 => ?_)
        · have hR := hR.trans (if_pos h13)
          refine lv_iload_n hx hb dPr_doSteps_43 rfl (lv_at hl 2 rfl) ?_
          exact W.iret hx hb hr (fun t ht _ => ⟨by rw [hR]; first | done | rfl, by rw [hR, ht]; exact hP, hS.F ht⟩) hS.2.2 dPr_doSteps_44
        · have hR := hR.trans (if_neg h13)
          refine lv_aload_n hx hb dPr_doSteps_16 rfl (lv_at hl 0 rfl) ?_
          refine lv_aload_n hx hb dPr_doSteps_17 rfl (lv_at hl 0 rfl) ?_
          refine cl_wr (W.runV (As := []) (rest := [.ref (q 4)]) ⟨hx, hb, hml, hown, hts⟩ (kPr_step l D q cI cJ cZ hq z hi hc) (cwV 0 hts (gV wm3_131 wm3_133 ws1_15 wm1_6 wm3_134) rfl rfl rfl (by decide +kernel) ⟨Nat.le_of_ble_eq_true rfl, Nat.le_of_ble_eq_true rfl⟩) (c_preV4 hK hP) rfl rfl hl.1 rfl (lv_room (Nat.le_of_ble_eq_true rfl)) dPr_doSteps_18 ⟨Nat.le_refl _, Nat.le_refl _⟩) hS (fun _ h => h) (fun _ h => h) (fun H locs hP hS => ?_)
          refine cp4_cause ((fPr_step z).1) hq hS hx hb hts i0 hown hK hP w0 dPr_doSteps_21 (fun H locs hP hS => ?_)
          refine lv_aload_n hx hb dPr_doSteps_24 rfl (lv_at hl 0 rfl) ?_
          refine cg4_cause hx hb hts i0 hown hK hP w0 dPr_doSteps_25 ?_
          refine cl_rd (W.runS (As := [.int (((fPr_step z).1))]) (rest := []) ⟨hx, hb, hml, hown, hts⟩ (kPr_isFault l ((fPr_step z).1)) (va_cwS 1 hts (gS wm4_81 wm4_82 wm1_6 wm4_83) rfl rfl rfl (by decide +kernel) ⟨Nat.le_of_ble_eq_true rfl, Nat.le_of_ble_eq_true rfl⟩) (preT) rfl rfl hl.1 rfl (lv_room (Nat.le_of_ble_eq_true rfl)) dPr_doSteps_28 ⟨Nat.le_refl _, Nat.le_refl _⟩) ?_
          refine wz_ifne hx hb dPr_doSteps_31 rfl (fun h31 => ?_) (fun h31 => ?_)
          · have hR := hR.trans (if_pos h31)
            refine lv_iinc (k := 3) (lv' := [(3, .int (nI (v3 + 1))), (0, .ref (q 4)), (1, .int (a)), (2, .int (v2))]) hx hb dPr_doSteps_37 hl rfl (nI_1 _) (by decide) rfl (fun ls hl => ?_)
            refine lv_goto hx hb dPr_doSteps_40 rfl ?_
            exact ih4 H locs ls (c_cause_s ((fPr_step z).2) ((fPr_step z).1)) v2 (v3 + 1) (ds_m ha h3 h6 hn4) hR (ds_b ha h3 h6) (st_hi hi hc) (st_hc hi hc) hP hS (lv_sub hl [1, 2, 3, 0] rfl)
          · have hR := hR.trans (if_neg h31)
            refine lv_iinc (k := 2) (lv' := [(2, .int (v2 + 1)), (0, .ref (q 4)), (1, .int (a)), (3, .int (nI (v3)))]) hx hb dPr_doSteps_34 hl rfl rfl (by decide) rfl (fun ls hl => ?_)
            refine lv_iinc (k := 3) (lv' := [(3, .int (nI (v3 + 1))), (2, .int (v2 + 1)), (0, .ref (q 4)), (1, .int (a))]) hx hb dPr_doSteps_37 hl rfl (nI_1 _) (by decide) rfl (fun ls hl => ?_)
            refine lv_goto hx hb dPr_doSteps_40 rfl ?_
            exact ih4 H locs ls (c_cause_s ((fPr_step z).2) ((fPr_step z).1)) (v2 + 1) (v3 + 1) (ds_m ha h3 h6 hn4) hR (ds_b ha h3 h6) (st_hi hi hc) (st_hc hi hc) hP hS (lv_sub hl [2, 3, 1, 0] rfl)
  have hR := fPr_doSteps.eq_1 z0 a
  refine lv_iconst (v := 0) hx hb dPr_doSteps_0 (by decide) ?_
  refine lv_istore_n (lv' := [(2, .int (0)), (0, .ref (q 4)), (1, .int (a))]) hx hb dPr_doSteps_1 rfl hl (by decide) rfl (fun ls hl => ?_)
  refine lv_iconst (v := 0) hx hb dPr_doSteps_2 (by decide) ?_
  refine lv_istore_n (lv' := [(3, .int (nI (0))), (2, .int (0)), (0, .ref (q 4)), (1, .int (a))]) hx hb dPr_doSteps_3 rfl hl (by decide) rfl (fun ls hl => ?_)
  exact hB4 301 s.heap [] ls z0 0 0 (by omega) hR (by first | assumption | omega) (by first | assumption | omega) (by first | assumption | omega) hP hS (lv_sub hl [2, 3, 1, 0] rfl)
end
section
theorem dAs_isSymbol_0 : decode ccAs_isSymbol 0 = .ok (.iload_n 0, 1) := by decide +kernel
theorem dAs_isSymbol_1 : decode ccAs_isSymbol 1 = .ok (.sipush 1000, 3) := by decide +kernel
theorem dAs_isSymbol_4 : decode ccAs_isSymbol 4 = .ok (.if_icmp .lt 14, 3) := by decide +kernel
theorem dAs_isSymbol_7 : decode ccAs_isSymbol 7 = .ok (.iload_n 0, 1) := by decide +kernel
theorem dAs_isSymbol_8 : decode ccAs_isSymbol 8 = .ok (.sipush 1020, 3) := by decide +kernel
theorem dAs_isSymbol_11 : decode ccAs_isSymbol 11 = .ok (.if_icmp .ge 7, 3) := by decide +kernel
theorem dAs_isSymbol_14 : decode ccAs_isSymbol 14 = .ok (.iconst 1, 1) := by decide +kernel
theorem dAs_isSymbol_15 : decode ccAs_isSymbol 15 = .ok (.goto 4, 3) := by decide +kernel
theorem dAs_isSymbol_18 : decode ccAs_isSymbol 18 = .ok (.iconst 0, 1) := by decide +kernel
theorem dAs_isSymbol_19 : decode ccAs_isSymbol 19 = .ok (.ireturn, 1) := by decide +kernel
def fAs_isSymbol (a : Int32) : Bool :=
  (if a < (1000 : Int32) then false else (if (1020 : Int32) ≤ a then false else true))
set_option maxHeartbeats 4000000 in
set_option maxRecDepth 100000 in
theorem kAs_isSymbol (l : Launch) (a : Int32)  : Met l yAs_isSymbol wsAs_isSymbol { frames := 0, cells := 0, slots := 0, locals := 0 } (va_Pc [.int (a)] (fun _ => True)) (cQr (some (.int (bb (fAs_isSymbol a))))) 0 0 (fun _ => False) := by
  refine Met.ofW (cc := ccAs_isSymbol) (maxL := 1) (ret := (some .boolean)) (by decide +kernel) rfl ?_
  intro p e s m args below meth c s₁ B hml hv
  obtain ⟨rfl, -⟩ := hv
  have hx := B.exec
  have hb := B.bytes
  have hr := B.returns
  have hts := atoms_spec (ws := wsAs_isSymbol) B.pre
  have hown : s.vm.findClass RAs = some m.cls := findClass_of_methodNamed B.named
  have hlocks := B.notSynchronized
  have hl := lv_entry ([.int (a)]) (n := 1) (Nat.le_of_ble_eq_true rfl)
  rw [lg_entry_eq]
  generalize (lg_sl ([.int (a)]) ++ List.replicate (1 - (lg_sl ([.int (a)])).length) Slot.unset).toArray = ls at hl ⊢
  have hl : lv_has ls 1 [(0, .int (a))] := hl
  have hR := fAs_isSymbol.eq_1 a
  refine lv_iload_n hx hb dAs_isSymbol_0 rfl (lv_at hl 0 rfl) ?_
  refine lv_sipush (v := 1000) hx hb dAs_isSymbol_1 (by decide) ?_
  refine lv_icmp_lt hx hb dAs_isSymbol_4 rfl (fun h4 => ?_) (fun h4 => ?_)
  · have hR := hR.trans (if_pos h4)
    refine lv_iconst (v := 0) hx hb dAs_isSymbol_18 (by decide) ?_
    exact W.zret hx hb hr rfl (fun t ht _ => ⟨by rw [hR]; first | done | rfl, ht⟩) (fun _ h => absurd h List.not_mem_nil) dAs_isSymbol_19
  · have hR := hR.trans (if_neg h4)
    refine lv_iload_n hx hb dAs_isSymbol_7 rfl (lv_at hl 0 rfl) ?_
    refine lv_sipush (v := 1020) hx hb dAs_isSymbol_8 (by decide) ?_
    refine lv_icmp_ge hx hb dAs_isSymbol_11 rfl (fun h11 => ?_) (fun h11 => ?_)
    · have hR := hR.trans (if_pos h11)
      refine lv_iconst (v := 0) hx hb dAs_isSymbol_18 (by decide) ?_
      exact W.zret hx hb hr rfl (fun t ht _ => ⟨by rw [hR]; first | done | rfl, ht⟩) (fun _ h => absurd h List.not_mem_nil) dAs_isSymbol_19
    · have hR := hR.trans (if_neg h11)
      refine lv_iconst (v := 1) hx hb dAs_isSymbol_14 (by decide) ?_
      refine lv_goto hx hb dAs_isSymbol_15 rfl ?_
      exact W.zret hx hb hr rfl (fun t ht _ => ⟨by rw [hR]; first | done | rfl, ht⟩) (fun _ h => absurd h List.not_mem_nil) dAs_isSymbol_19
theorem dAs_isPart_0 : decode ccAs_isPart 0 = .ok (.iload_n 0, 1) := by decide +kernel
theorem dAs_isPart_1 : decode ccAs_isPart 1 = .ok (.iconst (-1), 1) := by decide +kernel
theorem dAs_isPart_2 : decode ccAs_isPart 2 = .ok (.if_icmp .eq 17, 3) := by decide +kernel
theorem dAs_isPart_5 : decode ccAs_isPart 5 = .ok (.iload_n 0, 1) := by decide +kernel
theorem dAs_isPart_6 : decode ccAs_isPart 6 = .ok (.invokestatic 49, 3) := by decide +kernel
theorem dAs_isPart_9 : decode ccAs_isPart 9 = .ok (.ifCond .ne 10, 3) := by decide +kernel
theorem dAs_isPart_12 : decode ccAs_isPart 12 = .ok (.iload_n 0, 1) := by decide +kernel
theorem dAs_isPart_13 : decode ccAs_isPart 13 = .ok (.invokestatic 53, 3) := by decide +kernel
theorem dAs_isPart_16 : decode ccAs_isPart 16 = .ok (.ifCond .eq 7, 3) := by decide +kernel
theorem dAs_isPart_19 : decode ccAs_isPart 19 = .ok (.iconst 1, 1) := by decide +kernel
theorem dAs_isPart_20 : decode ccAs_isPart 20 = .ok (.goto 4, 3) := by decide +kernel
theorem dAs_isPart_23 : decode ccAs_isPart 23 = .ok (.iconst 0, 1) := by decide +kernel
theorem dAs_isPart_24 : decode ccAs_isPart 24 = .ok (.ireturn, 1) := by decide +kernel
def fAs_isPart (a : Int32) : Bool :=
  (if a = ((-1) : Int32) then true else (if (fDr_hasAddress a) = true then true else (if (fAs_isSymbol a) = true then true else false)))
set_option maxHeartbeats 4000000 in
set_option maxRecDepth 100000 in
theorem kAs_isPart (l : Launch) (a : Int32)  : Met l yAs_isPart wsAs_isPart { frames := 1, cells := 0, slots := 0, locals := 20 } (va_Pc [.int (a)] (fun _ => True)) (cQr (some (.int (bb (fAs_isPart a))))) 0 0 (fun _ => False) := by
  refine Met.ofW (cc := ccAs_isPart) (maxL := 1) (ret := (some .boolean)) (by decide +kernel) rfl ?_
  intro p e s m args below meth c s₁ B hml hv
  obtain ⟨rfl, -⟩ := hv
  have hx := B.exec
  have hb := B.bytes
  have hr := B.returns
  have hts := atoms_spec (ws := wsAs_isPart) B.pre
  have hown : s.vm.findClass RAs = some m.cls := findClass_of_methodNamed B.named
  have hlocks := B.notSynchronized
  have hl := lv_entry ([.int (a)]) (n := 1) (Nat.le_of_ble_eq_true rfl)
  rw [lg_entry_eq]
  generalize (lg_sl ([.int (a)]) ++ List.replicate (1 - (lg_sl ([.int (a)])).length) Slot.unset).toArray = ls at hl ⊢
  have hl : lv_has ls 1 [(0, .int (a))] := hl
  have hR := fAs_isPart.eq_1 a
  refine lv_iload_n hx hb dAs_isPart_0 rfl (lv_at hl 0 rfl) ?_
  refine lv_iconst (v := (-1)) hx hb dAs_isPart_1 (by decide) ?_
  refine lv_icmp_eq hx hb dAs_isPart_2 rfl (fun h2 => ?_) (fun h2 => ?_)
  · have hR := hR.trans (if_pos h2)
    refine lv_iconst (v := 1) hx hb dAs_isPart_19 (by decide) ?_
    refine lv_goto hx hb dAs_isPart_20 rfl ?_
    exact W.zret hx hb hr rfl (fun t ht _ => ⟨by rw [hR]; first | done | rfl, ht⟩) (fun _ h => absurd h List.not_mem_nil) dAs_isPart_24
  · have hR := hR.trans (if_neg h2)
    refine lv_iload_n hx hb dAs_isPart_5 rfl (lv_at hl 0 rfl) ?_
    refine cl_rd (W.runS (As := [.int (a)]) (rest := []) ⟨hx, hb, hml, hown, hts⟩ (kDr_hasAddress l a) (va_cwS 1 hts (gS wm2_190 wm2_9 wm1_2 wm2_10) rfl rfl rfl (by decide +kernel) ⟨Nat.le_of_ble_eq_true rfl, Nat.le_of_ble_eq_true rfl⟩) (preT) rfl rfl hl.1 rfl (lv_room (Nat.le_of_ble_eq_true rfl)) dAs_isPart_6 ⟨Nat.le_refl _, Nat.le_refl _⟩) ?_
    refine wz_ifne hx hb dAs_isPart_9 rfl (fun h9 => ?_) (fun h9 => ?_)
    · have hR := hR.trans (if_pos h9)
      refine lv_iconst (v := 1) hx hb dAs_isPart_19 (by decide) ?_
      refine lv_goto hx hb dAs_isPart_20 rfl ?_
      exact W.zret hx hb hr rfl (fun t ht _ => ⟨by rw [hR]; first | done | rfl, ht⟩) (fun _ h => absurd h List.not_mem_nil) dAs_isPart_24
    · have hR := hR.trans (if_neg h9)
      refine lv_iload_n hx hb dAs_isPart_12 rfl (lv_at hl 0 rfl) ?_
      refine cl_rd (W.runS (As := [.int (a)]) (rest := []) ⟨hx, hb, hml, hown, hts⟩ (kAs_isSymbol l a) (va_cwS 1 hts (gS wm2_191 wm2_192 wm1_8 wm2_193) rfl rfl rfl (by decide +kernel) ⟨Nat.le_of_ble_eq_true rfl, Nat.le_of_ble_eq_true rfl⟩) (preT) rfl rfl hl.1 rfl (lv_room (Nat.le_of_ble_eq_true rfl)) dAs_isPart_13 ⟨Nat.le_refl _, Nat.le_refl _⟩) ?_
      refine wz_ifeq hx hb dAs_isPart_16 rfl (fun h16 => ?_) (fun h16 => ?_)
      · have hR := hR.trans (if_neg h16)
        refine lv_iconst (v := 0) hx hb dAs_isPart_23 (by decide) ?_
        exact W.zret hx hb hr rfl (fun t ht _ => ⟨by rw [hR]; first | done | rfl, ht⟩) (fun _ h => absurd h List.not_mem_nil) dAs_isPart_24
      · have hR := hR.trans (if_pos h16)
        refine lv_iconst (v := 1) hx hb dAs_isPart_19 (by decide) ?_
        refine lv_goto hx hb dAs_isPart_20 rfl ?_
        exact W.zret hx hb hr rfl (fun t ht _ => ⟨by rw [hR]; first | done | rfl, ht⟩) (fun _ h => absurd h List.not_mem_nil) dAs_isPart_24
theorem dAs_isDataPart_0 : decode ccAs_isDataPart 0 = .ok (.iload_n 0, 1) := by decide +kernel
theorem dAs_isDataPart_1 : decode ccAs_isDataPart 1 = .ok (.invokestatic 56, 3) := by decide +kernel
theorem dAs_isDataPart_4 : decode ccAs_isDataPart 4 = .ok (.ifCond .eq 24, 3) := by decide +kernel
theorem dAs_isDataPart_7 : decode ccAs_isDataPart 7 = .ok (.iload_n 1, 1) := by decide +kernel
theorem dAs_isDataPart_8 : decode ccAs_isDataPart 8 = .ok (.iconst (-1), 1) := by decide +kernel
theorem dAs_isDataPart_9 : decode ccAs_isDataPart 9 = .ok (.if_icmp .eq 13, 3) := by decide +kernel
theorem dAs_isDataPart_12 : decode ccAs_isDataPart 12 = .ok (.iload_n 1, 1) := by decide +kernel
theorem dAs_isDataPart_13 : decode ccAs_isDataPart 13 = .ok (.ifCond .lt 13, 3) := by decide +kernel
theorem dAs_isDataPart_16 : decode ccAs_isDataPart 16 = .ok (.iload_n 1, 1) := by decide +kernel
theorem dAs_isDataPart_17 : decode ccAs_isDataPart 17 = .ok (.bipush 9, 2) := by decide +kernel
theorem dAs_isDataPart_19 : decode ccAs_isDataPart 19 = .ok (.if_icmp .gt 7, 3) := by decide +kernel
theorem dAs_isDataPart_22 : decode ccAs_isDataPart 22 = .ok (.iconst 1, 1) := by decide +kernel
theorem dAs_isDataPart_23 : decode ccAs_isDataPart 23 = .ok (.goto 4, 3) := by decide +kernel
theorem dAs_isDataPart_26 : decode ccAs_isDataPart 26 = .ok (.iconst 0, 1) := by decide +kernel
theorem dAs_isDataPart_27 : decode ccAs_isDataPart 27 = .ok (.ireturn, 1) := by decide +kernel
theorem dAs_isDataPart_28 : decode ccAs_isDataPart 28 = .ok (.iload_n 1, 1) := by decide +kernel
theorem dAs_isDataPart_29 : decode ccAs_isDataPart 29 = .ok (.invokestatic 61, 3) := by decide +kernel
theorem dAs_isDataPart_32 : decode ccAs_isDataPart 32 = .ok (.ireturn, 1) := by decide +kernel
def fAs_isDataPart (o : Int32) (a : Int32) : Bool :=
  (if (fOp_shifts o) = true then (if a = ((-1) : Int32) then true else (if a < 0 then false else (if (9 : Int32) < a then false else true))) else fAs_isPart a)
set_option maxHeartbeats 4000000 in
set_option maxRecDepth 100000 in
theorem kAs_isDataPart (l : Launch) (o : Int32) (a : Int32)  : Met l yAs_isDataPart wsAs_isDataPart { frames := 3, cells := 0, slots := 0, locals := 60 } (va_Pc [.int (o), .int (a)] (fun _ => True)) (cQr (some (.int (bb (fAs_isDataPart o a))))) 0 0 (fun _ => False) := by
  refine Met.ofW (cc := ccAs_isDataPart) (maxL := 2) (ret := (some .boolean)) (by decide +kernel) rfl ?_
  intro p e s m args below meth c s₁ B hml hv
  obtain ⟨rfl, -⟩ := hv
  have hx := B.exec
  have hb := B.bytes
  have hr := B.returns
  have hts := atoms_spec (ws := wsAs_isDataPart) B.pre
  have hown : s.vm.findClass RAs = some m.cls := findClass_of_methodNamed B.named
  have hlocks := B.notSynchronized
  have hl := lv_entry ([.int (o), .int (a)]) (n := 2) (Nat.le_of_ble_eq_true rfl)
  rw [lg_entry_eq]
  generalize (lg_sl ([.int (o), .int (a)]) ++ List.replicate (2 - (lg_sl ([.int (o), .int (a)])).length) Slot.unset).toArray = ls at hl ⊢
  have hl : lv_has ls 2 [(0, .int (o)), (1, .int (a))] := hl
  have hR := fAs_isDataPart.eq_1 o a
  refine lv_iload_n hx hb dAs_isDataPart_0 rfl (lv_at hl 0 rfl) ?_
  refine cl_rd (W.runS (As := [.int (o)]) (rest := []) ⟨hx, hb, hml, hown, hts⟩ (kOp_shifts l o) (va_cwS 1 hts (gS wm2_197 wm2_198 wm1_17 wm2_199) rfl rfl rfl (by decide +kernel) ⟨Nat.le_of_ble_eq_true rfl, Nat.le_of_ble_eq_true rfl⟩) (preT) rfl rfl hl.1 rfl (lv_room (Nat.le_of_ble_eq_true rfl)) dAs_isDataPart_1 ⟨Nat.le_refl _, Nat.le_refl _⟩) ?_
  refine wz_ifeq hx hb dAs_isDataPart_4 rfl (fun h4 => ?_) (fun h4 => ?_)
  · have hR := hR.trans (if_neg h4)
    refine lv_iload_n hx hb dAs_isDataPart_28 rfl (lv_at hl 1 rfl) ?_
    refine cl_rd (W.runS (As := [.int (a)]) (rest := []) ⟨hx, hb, hml, hown, hts⟩ (kAs_isPart l a) (va_cwS 1 hts (gS wm2_200 wm2_188 wm1_8 wm2_189) rfl rfl rfl (by decide +kernel) ⟨Nat.le_of_ble_eq_true rfl, Nat.le_of_ble_eq_true rfl⟩) (preT) rfl rfl hl.1 rfl (lv_room (Nat.le_of_ble_eq_true rfl)) dAs_isDataPart_29 ⟨Nat.le_refl _, Nat.le_refl _⟩) ?_
    exact W.zret hx hb hr (nz_b _) (fun t ht _ => ⟨by rw [hR]; first | done | rfl, ht⟩) (fun _ h => absurd h List.not_mem_nil) dAs_isDataPart_32
  · have hR := hR.trans (if_pos h4)
    refine lv_iload_n hx hb dAs_isDataPart_7 rfl (lv_at hl 1 rfl) ?_
    refine lv_iconst (v := (-1)) hx hb dAs_isDataPart_8 (by decide) ?_
    refine lv_icmp_eq hx hb dAs_isDataPart_9 rfl (fun h9 => ?_) (fun h9 => ?_)
    · have hR := hR.trans (if_pos h9)
      refine lv_iconst (v := 1) hx hb dAs_isDataPart_22 (by decide) ?_
      refine lv_goto hx hb dAs_isDataPart_23 rfl ?_
      exact W.zret hx hb hr rfl (fun t ht _ => ⟨by rw [hR]; first | done | rfl, ht⟩) (fun _ h => absurd h List.not_mem_nil) dAs_isDataPart_27
    · have hR := hR.trans (if_neg h9)
      refine lv_iload_n hx hb dAs_isDataPart_12 rfl (lv_at hl 1 rfl) ?_
      refine lv_if_lt hx hb dAs_isDataPart_13 rfl (fun h13 => ?_) (fun h13 => ?_)
      · have hR := hR.trans (if_pos h13)
        refine lv_iconst (v := 0) hx hb dAs_isDataPart_26 (by decide) ?_
        exact W.zret hx hb hr rfl (fun t ht _ => ⟨by rw [hR]; first | done | rfl, ht⟩) (fun _ h => absurd h List.not_mem_nil) dAs_isDataPart_27
      · have hR := hR.trans (if_neg h13)
        refine lv_iload_n hx hb dAs_isDataPart_16 rfl (lv_at hl 1 rfl) ?_
        refine lv_bipush (v := 9) hx hb dAs_isDataPart_17 (by decide) ?_
        refine lv_icmp_gt hx hb dAs_isDataPart_19 rfl (fun h19 => ?_) (fun h19 => ?_)
        · have hR := hR.trans (if_pos h19)
          refine lv_iconst (v := 0) hx hb dAs_isDataPart_26 (by decide) ?_
          exact W.zret hx hb hr rfl (fun t ht _ => ⟨by rw [hR]; first | done | rfl, ht⟩) (fun _ h => absurd h List.not_mem_nil) dAs_isDataPart_27
        · have hR := hR.trans (if_neg h19)
          refine lv_iconst (v := 1) hx hb dAs_isDataPart_22 (by decide) ?_
          refine lv_goto hx hb dAs_isDataPart_23 rfl ?_
          exact W.zret hx hb hr rfl (fun t ht _ => ⟨by rw [hR]; first | done | rfl, ht⟩) (fun _ h => absurd h List.not_mem_nil) dAs_isDataPart_27
theorem dAs_hasSymbol_0 : decode ccAs_hasSymbol 0 = .ok (.iload_n 0, 1) := by decide +kernel
theorem dAs_hasSymbol_1 : decode ccAs_hasSymbol 1 = .ok (.ifCond .lt 13, 3) := by decide +kernel
theorem dAs_hasSymbol_4 : decode ccAs_hasSymbol 4 = .ok (.iload_n 0, 1) := by decide +kernel
theorem dAs_hasSymbol_5 : decode ccAs_hasSymbol 5 = .ok (.bipush 20, 2) := by decide +kernel
theorem dAs_hasSymbol_7 : decode ccAs_hasSymbol 7 = .ok (.if_icmp .ge 7, 3) := by decide +kernel
theorem dAs_hasSymbol_10 : decode ccAs_hasSymbol 10 = .ok (.iconst 1, 1) := by decide +kernel
theorem dAs_hasSymbol_11 : decode ccAs_hasSymbol 11 = .ok (.goto 4, 3) := by decide +kernel
theorem dAs_hasSymbol_14 : decode ccAs_hasSymbol 14 = .ok (.iconst 0, 1) := by decide +kernel
theorem dAs_hasSymbol_15 : decode ccAs_hasSymbol 15 = .ok (.ireturn, 1) := by decide +kernel
def fAs_hasSymbol (a : Int32) : Bool :=
  (if a < 0 then false else (if (20 : Int32) ≤ a then false else true))
set_option maxHeartbeats 4000000 in
set_option maxRecDepth 100000 in
theorem kAs_hasSymbol (l : Launch) (a : Int32)  : Met l yAs_hasSymbol wsAs_hasSymbol { frames := 0, cells := 0, slots := 0, locals := 0 } (va_Pc [.int (a)] (fun _ => True)) (cQr (some (.int (bb (fAs_hasSymbol a))))) 0 0 (fun _ => False) := by
  refine Met.ofW (cc := ccAs_hasSymbol) (maxL := 1) (ret := (some .boolean)) (by decide +kernel) rfl ?_
  intro p e s m args below meth c s₁ B hml hv
  obtain ⟨rfl, -⟩ := hv
  have hx := B.exec
  have hb := B.bytes
  have hr := B.returns
  have hts := atoms_spec (ws := wsAs_hasSymbol) B.pre
  have hown : s.vm.findClass RAs = some m.cls := findClass_of_methodNamed B.named
  have hlocks := B.notSynchronized
  have hl := lv_entry ([.int (a)]) (n := 1) (Nat.le_of_ble_eq_true rfl)
  rw [lg_entry_eq]
  generalize (lg_sl ([.int (a)]) ++ List.replicate (1 - (lg_sl ([.int (a)])).length) Slot.unset).toArray = ls at hl ⊢
  have hl : lv_has ls 1 [(0, .int (a))] := hl
  have hR := fAs_hasSymbol.eq_1 a
  refine lv_iload_n hx hb dAs_hasSymbol_0 rfl (lv_at hl 0 rfl) ?_
  refine lv_if_lt hx hb dAs_hasSymbol_1 rfl (fun h1 => ?_) (fun h1 => ?_)
  · have hR := hR.trans (if_pos h1)
    refine lv_iconst (v := 0) hx hb dAs_hasSymbol_14 (by decide) ?_
    exact W.zret hx hb hr rfl (fun t ht _ => ⟨by rw [hR]; first | done | rfl, ht⟩) (fun _ h => absurd h List.not_mem_nil) dAs_hasSymbol_15
  · have hR := hR.trans (if_neg h1)
    refine lv_iload_n hx hb dAs_hasSymbol_4 rfl (lv_at hl 0 rfl) ?_
    refine lv_bipush (v := 20) hx hb dAs_hasSymbol_5 (by decide) ?_
    refine lv_icmp_ge hx hb dAs_hasSymbol_7 rfl (fun h7 => ?_) (fun h7 => ?_)
    · have hR := hR.trans (if_pos h7)
      refine lv_iconst (v := 0) hx hb dAs_hasSymbol_14 (by decide) ?_
      exact W.zret hx hb hr rfl (fun t ht _ => ⟨by rw [hR]; first | done | rfl, ht⟩) (fun _ h => absurd h List.not_mem_nil) dAs_hasSymbol_15
    · have hR := hR.trans (if_neg h7)
      refine lv_iconst (v := 1) hx hb dAs_hasSymbol_10 (by decide) ?_
      refine lv_goto hx hb dAs_hasSymbol_11 rfl ?_
      exact W.zret hx hb hr rfl (fun t ht _ => ⟨by rw [hR]; first | done | rfl, ht⟩) (fun _ h => absurd h List.not_mem_nil) dAs_hasSymbol_15
theorem dAs_isFull_0 : decode ccAs_isFull 0 = .ok (.aload_n 0, 1) := by decide +kernel
theorem dAs_isFull_1 : decode ccAs_isFull 1 = .ok (.getfield 64, 3) := by decide +kernel
theorem dAs_isFull_4 : decode ccAs_isFull 4 = .ok (.bipush 40, 2) := by decide +kernel
theorem dAs_isFull_6 : decode ccAs_isFull 6 = .ok (.if_icmp .lt 7, 3) := by decide +kernel
theorem dAs_isFull_9 : decode ccAs_isFull 9 = .ok (.iconst 1, 1) := by decide +kernel
theorem dAs_isFull_10 : decode ccAs_isFull 10 = .ok (.goto 4, 3) := by decide +kernel
theorem dAs_isFull_13 : decode ccAs_isFull 13 = .ok (.iconst 0, 1) := by decide +kernel
theorem dAs_isFull_14 : decode ccAs_isFull 14 = .ok (.ireturn, 1) := by decide +kernel
def fAs_isFull (z0 : SC)  : Bool :=
  (if (c_acount z0) < (40 : Int32) then false else true)
set_option maxHeartbeats 4000000 in
set_option maxRecDepth 100000 in
theorem kAs_isFull (l : Launch) (D : va_G) (q : Nat → Nat) (cI cJ cZ : ClassId) (hq : c_inj q) (z0 : SC)   : Met l yAs_isFull wsAs_isFull { frames := 0, cells := 0, slots := 0, locals := 0 } (va_Pc [.ref (q 6)] (c_C D q cI cJ cZ z0)) (cQr (some (.int (bb (fAs_isFull z0))))) 0 0 (fun _ => False) := by
  refine Met.ofW (cc := ccAs_isFull) (maxL := 1) (ret := (some .boolean)) (by decide +kernel) rfl ?_
  intro p e s m args below meth c s₁ B hml hv
  obtain ⟨rfl, hP, hK⟩ := hv
  have hx := B.exec
  have hb := B.bytes
  have hr := B.returns
  have hts := atoms_spec (ws := wsAs_isFull) B.pre
  have hown : s.vm.findClass RAs = some m.cls := findClass_of_methodNamed B.named
  have hlocks := B.notSynchronized
  have w0 := hts (.fieldLink RAs 64 "DrumMachine$Assembler" "count" "I") (List.mem_cons_of_mem _ wm1_155)
  have i0 : ∀ w ∈ u_ws RAs TAs 11, w ∈ wsAs_isFull := fun w h => List.mem_cons_of_mem _ (inAAs w h)
  have hl := lv_entry ([.ref (q 6)]) (n := 1) (Nat.le_of_ble_eq_true rfl)
  rw [lg_entry_eq]
  generalize (lg_sl ([.ref (q 6)]) ++ List.replicate (1 - (lg_sl ([.ref (q 6)])).length) Slot.unset).toArray = ls at hl ⊢
  have hl : lv_has ls 1 [(0, .ref (q 6))] := hl
  have hR := fAs_isFull.eq_1 z0
  refine lv_aload_n hx hb dAs_isFull_0 rfl (lv_at hl 0 rfl) ?_
  refine cg6_count hx hb hts i0 hown hK hP w0 dAs_isFull_1 ?_
  refine lv_bipush (v := 40) hx hb dAs_isFull_4 (by decide) ?_
  refine lv_icmp_lt hx hb dAs_isFull_6 rfl (fun h6 => ?_) (fun h6 => ?_)
  · have hR := hR.trans (if_pos h6)
    refine lv_iconst (v := 0) hx hb dAs_isFull_13 (by decide) ?_
    exact W.zret hx hb hr rfl (fun t ht _ => ⟨by rw [hR]; first | done | rfl, ht⟩) (fun _ h => absurd h List.not_mem_nil) dAs_isFull_14
  · have hR := hR.trans (if_neg h6)
    refine lv_iconst (v := 1) hx hb dAs_isFull_9 (by decide) ?_
    refine lv_goto hx hb dAs_isFull_10 rfl ?_
    exact W.zret hx hb hr rfl (fun t ht _ => ⟨by rw [hR]; first | done | rfl, ht⟩) (fun _ h => absurd h List.not_mem_nil) dAs_isFull_14
theorem dAs_isEmpty_0 : decode ccAs_isEmpty 0 = .ok (.aload_n 0, 1) := by decide +kernel
theorem dAs_isEmpty_1 : decode ccAs_isEmpty 1 = .ok (.getfield 64, 3) := by decide +kernel
theorem dAs_isEmpty_4 : decode ccAs_isEmpty 4 = .ok (.ifCond .ne 7, 3) := by decide +kernel
theorem dAs_isEmpty_7 : decode ccAs_isEmpty 7 = .ok (.iconst 1, 1) := by decide +kernel
theorem dAs_isEmpty_8 : decode ccAs_isEmpty 8 = .ok (.goto 4, 3) := by decide +kernel
theorem dAs_isEmpty_11 : decode ccAs_isEmpty 11 = .ok (.iconst 0, 1) := by decide +kernel
theorem dAs_isEmpty_12 : decode ccAs_isEmpty 12 = .ok (.ireturn, 1) := by decide +kernel
def fAs_isEmpty (z0 : SC)  : Bool :=
  (if (c_acount z0) = 0 then true else false)
set_option maxHeartbeats 4000000 in
set_option maxRecDepth 100000 in
theorem kAs_isEmpty (l : Launch) (D : va_G) (q : Nat → Nat) (cI cJ cZ : ClassId) (hq : c_inj q) (z0 : SC)   : Met l yAs_isEmpty wsAs_isEmpty { frames := 0, cells := 0, slots := 0, locals := 0 } (va_Pc [.ref (q 6)] (c_C D q cI cJ cZ z0)) (cQr (some (.int (bb (fAs_isEmpty z0))))) 0 0 (fun _ => False) := by
  refine Met.ofW (cc := ccAs_isEmpty) (maxL := 1) (ret := (some .boolean)) (by decide +kernel) rfl ?_
  intro p e s m args below meth c s₁ B hml hv
  obtain ⟨rfl, hP, hK⟩ := hv
  have hx := B.exec
  have hb := B.bytes
  have hr := B.returns
  have hts := atoms_spec (ws := wsAs_isEmpty) B.pre
  have hown : s.vm.findClass RAs = some m.cls := findClass_of_methodNamed B.named
  have hlocks := B.notSynchronized
  have w0 := hts (.fieldLink RAs 64 "DrumMachine$Assembler" "count" "I") (List.mem_cons_of_mem _ wm1_155)
  have i0 : ∀ w ∈ u_ws RAs TAs 11, w ∈ wsAs_isEmpty := fun w h => List.mem_cons_of_mem _ (inAAs w h)
  have hl := lv_entry ([.ref (q 6)]) (n := 1) (Nat.le_of_ble_eq_true rfl)
  rw [lg_entry_eq]
  generalize (lg_sl ([.ref (q 6)]) ++ List.replicate (1 - (lg_sl ([.ref (q 6)])).length) Slot.unset).toArray = ls at hl ⊢
  have hl : lv_has ls 1 [(0, .ref (q 6))] := hl
  have hR := fAs_isEmpty.eq_1 z0
  refine lv_aload_n hx hb dAs_isEmpty_0 rfl (lv_at hl 0 rfl) ?_
  refine cg6_count hx hb hts i0 hown hK hP w0 dAs_isEmpty_1 ?_
  refine lv_if_ne hx hb dAs_isEmpty_4 rfl (fun h4 => ?_) (fun h4 => ?_)
  · have hR := hR.trans (if_neg h4)
    refine lv_iconst (v := 0) hx hb dAs_isEmpty_11 (by decide) ?_
    exact W.zret hx hb hr rfl (fun t ht _ => ⟨by rw [hR]; first | done | rfl, ht⟩) (fun _ h => absurd h List.not_mem_nil) dAs_isEmpty_12
  · have hR := hR.trans (if_pos h4)
    refine lv_iconst (v := 1) hx hb dAs_isEmpty_7 (by decide) ?_
    refine lv_goto hx hb dAs_isEmpty_8 rfl ?_
    exact W.zret hx hb hr rfl (fun t ht _ => ⟨by rw [hR]; first | done | rfl, ht⟩) (fun _ h => absurd h List.not_mem_nil) dAs_isEmpty_12
theorem dAs_addLine_0 : decode ccAs_addLine 0 = .ok (.aload_n 0, 1) := by decide +kernel
theorem dAs_addLine_1 : decode ccAs_addLine 1 = .ok (.getfield 64, 3) := by decide +kernel
theorem dAs_addLine_4 : decode ccAs_addLine 4 = .ok (.istore 5, 2) := by decide +kernel
theorem dAs_addLine_6 : decode ccAs_addLine 6 = .ok (.aload_n 0, 1) := by decide +kernel
theorem dAs_addLine_7 : decode ccAs_addLine 7 = .ok (.getfield 9, 3) := by decide +kernel
theorem dAs_addLine_10 : decode ccAs_addLine 10 = .ok (.iload 5, 2) := by decide +kernel
theorem dAs_addLine_12 : decode ccAs_addLine 12 = .ok (.iload_n 1, 1) := by decide +kernel
theorem dAs_addLine_13 : decode ccAs_addLine 13 = .ok (.iastore, 1) := by decide +kernel
theorem dAs_addLine_14 : decode ccAs_addLine 14 = .ok (.aload_n 0, 1) := by decide +kernel
theorem dAs_addLine_15 : decode ccAs_addLine 15 = .ok (.getfield 13, 3) := by decide +kernel
theorem dAs_addLine_18 : decode ccAs_addLine 18 = .ok (.iload 5, 2) := by decide +kernel
theorem dAs_addLine_20 : decode ccAs_addLine 20 = .ok (.iload_n 2, 1) := by decide +kernel
theorem dAs_addLine_21 : decode ccAs_addLine 21 = .ok (.iastore, 1) := by decide +kernel
theorem dAs_addLine_22 : decode ccAs_addLine 22 = .ok (.aload_n 0, 1) := by decide +kernel
theorem dAs_addLine_23 : decode ccAs_addLine 23 = .ok (.getfield 16, 3) := by decide +kernel
theorem dAs_addLine_26 : decode ccAs_addLine 26 = .ok (.iload 5, 2) := by decide +kernel
theorem dAs_addLine_28 : decode ccAs_addLine 28 = .ok (.iload_n 3, 1) := by decide +kernel
theorem dAs_addLine_29 : decode ccAs_addLine 29 = .ok (.iastore, 1) := by decide +kernel
theorem dAs_addLine_30 : decode ccAs_addLine 30 = .ok (.aload_n 0, 1) := by decide +kernel
theorem dAs_addLine_31 : decode ccAs_addLine 31 = .ok (.getfield 19, 3) := by decide +kernel
theorem dAs_addLine_34 : decode ccAs_addLine 34 = .ok (.iload 5, 2) := by decide +kernel
theorem dAs_addLine_36 : decode ccAs_addLine 36 = .ok (.iload 4, 2) := by decide +kernel
theorem dAs_addLine_38 : decode ccAs_addLine 38 = .ok (.iastore, 1) := by decide +kernel
theorem dAs_addLine_39 : decode ccAs_addLine 39 = .ok (.aload_n 0, 1) := by decide +kernel
theorem dAs_addLine_40 : decode ccAs_addLine 40 = .ok (.dup, 1) := by decide +kernel
theorem dAs_addLine_41 : decode ccAs_addLine 41 = .ok (.getfield 64, 3) := by decide +kernel
theorem dAs_addLine_44 : decode ccAs_addLine 44 = .ok (.iconst 1, 1) := by decide +kernel
theorem dAs_addLine_45 : decode ccAs_addLine 45 = .ok (.iadd, 1) := by decide +kernel
theorem dAs_addLine_46 : decode ccAs_addLine 46 = .ok (.putfield 64, 3) := by decide +kernel
theorem dAs_addLine_49 : decode ccAs_addLine 49 = .ok (.iload 5, 2) := by decide +kernel
theorem dAs_addLine_51 : decode ccAs_addLine 51 = .ok (.ireturn, 1) := by decide +kernel
def fAs_addLine (z0 : SC) (a : Int32) (o : Int32) (d : Int32) (x : Int32) : Int32 × SC :=
  (c_acount z0, c_acount_s (c_nparts_s (c_dparts_s (c_ops_s (c_lparts_s z0 (upd (c_lparts z0) ((c_acount z0).toNatClampNeg) a)) (upd (c_ops z0) ((c_acount z0).toNatClampNeg) o)) (upd (c_dparts z0) ((c_acount z0).toNatClampNeg) d)) (upd (c_nparts z0) ((c_acount z0).toNatClampNeg) x)) ((c_acount z0) + 1))
set_option maxHeartbeats 4000000 in
set_option maxRecDepth 100000 in
theorem kAs_addLine (l : Launch) (D : va_G) (q : Nat → Nat) (cI cJ cZ : ClassId) (hq : c_inj q) (z0 : SC) (a : Int32) (o : Int32) (d : Int32) (x : Int32) (hi : vp_in (c_acount z0) 40) : Met l yAs_addLine wsAs_addLine { frames := 0, cells := 0, slots := 0, locals := 0 } (va_Pc [.ref (q 6), .int (a), .int (o), .int (d), .int (x)] (c_C D q cI cJ cZ z0)) (cQw (some (.int ((fAs_addLine z0 a o d x).1))) (c_W D q cI cJ cZ (fAs_addLine z0 a o d x).2) (c_qs q)) 0 0 (c_qs q) := by
  refine Met.ofW (cc := ccAs_addLine) (maxL := 6) (ret := (some .int)) (by decide +kernel) rfl ?_
  intro p e s m args below meth c s₁ B hml hv
  obtain ⟨rfl, hP, hK⟩ := hv
  have hx := B.exec
  have hb := B.bytes
  have hr := B.returns
  have hts := atoms_spec (ws := wsAs_addLine) B.pre
  have hown : s.vm.findClass RAs = some m.cls := findClass_of_methodNamed B.named
  have hlocks := B.notSynchronized
  have w0 := hts (.fieldLink RAs 64 "DrumMachine$Assembler" "count" "I") (List.mem_cons_of_mem _ wm1_155)
  have w1 := hts (.fieldLink RAs 9 "DrumMachine$Assembler" "locationParts" "[I") (List.mem_cons_of_mem _ wm1_145)
  have w2 := hts (.fieldLink RAs 13 "DrumMachine$Assembler" "operations" "[I") (List.mem_cons_of_mem _ wm1_146)
  have w3 := hts (.fieldLink RAs 16 "DrumMachine$Assembler" "dataParts" "[I") (List.mem_cons_of_mem _ wm1_147)
  have w4 := hts (.fieldLink RAs 19 "DrumMachine$Assembler" "nextParts" "[I") (List.mem_cons_of_mem _ wm1_148)
  have i0 : ∀ w ∈ u_ws RAs TAs 11, w ∈ wsAs_addLine := fun w h => List.mem_cons_of_mem _ (inAAs w h)
  have hS : va_S (c_qs q) s.heap s.heap [] := va_S.rf
  have hl := lv_entry ([.ref (q 6), .int (a), .int (o), .int (d), .int (x)]) (n := 6) (Nat.le_of_ble_eq_true rfl)
  rw [lg_entry_eq]
  generalize (lg_sl ([.ref (q 6), .int (a), .int (o), .int (d), .int (x)]) ++ List.replicate (6 - (lg_sl ([.ref (q 6), .int (a), .int (o), .int (d), .int (x)])).length) Slot.unset).toArray = ls at hl ⊢
  have hl : lv_has ls 6 [(0, .ref (q 6)), (1, .int (a)), (2, .int (o)), (3, .int (d)), (4, .int (x))] := hl
  have hR := fAs_addLine.eq_1 z0 a o d x
  refine lv_aload_n hx hb dAs_addLine_0 rfl (lv_at hl 0 rfl) ?_
  refine cg6_count hx hb hts i0 hown hK hP w0 dAs_addLine_1 ?_
  refine lv_istore (lv' := [(5, .int (c_acount z0)), (0, .ref (q 6)), (1, .int (a)), (2, .int (o)), (3, .int (d)), (4, .int (x))]) hx hb dAs_addLine_4 hl (by decide) rfl (fun ls hl => ?_)
  refine lv_aload_n hx hb dAs_addLine_6 rfl (lv_at hl 1 rfl) ?_
  refine cg6_locationParts hx hb hts i0 hown hK hP w1 dAs_addLine_7 ?_
  refine lv_iload hx hb dAs_addLine_10 (lv_at hl 0 rfl) ?_
  refine lv_iload_n hx hb dAs_addLine_12 rfl (lv_at hl 2 rfl) ?_
  refine cs_lparts a hq hS hx hb hK hP hi dAs_addLine_13 (fun H locs hP hS => ?_)
  refine lv_aload_n hx hb dAs_addLine_14 rfl (lv_at hl 1 rfl) ?_
  refine cg6_operations hx hb hts i0 hown hK hP w2 dAs_addLine_15 ?_
  refine lv_iload hx hb dAs_addLine_18 (lv_at hl 0 rfl) ?_
  refine lv_iload_n hx hb dAs_addLine_20 rfl (lv_at hl 3 rfl) ?_
  refine cs_ops o hq hS hx hb hK hP hi dAs_addLine_21 (fun H locs hP hS => ?_)
  refine lv_aload_n hx hb dAs_addLine_22 rfl (lv_at hl 1 rfl) ?_
  refine cg6_dataParts hx hb hts i0 hown hK hP w3 dAs_addLine_23 ?_
  refine lv_iload hx hb dAs_addLine_26 (lv_at hl 0 rfl) ?_
  refine lv_iload_n hx hb dAs_addLine_28 rfl (lv_at hl 4 rfl) ?_
  refine cs_dparts d hq hS hx hb hK hP hi dAs_addLine_29 (fun H locs hP hS => ?_)
  refine lv_aload_n hx hb dAs_addLine_30 rfl (lv_at hl 1 rfl) ?_
  refine cg6_nextParts hx hb hts i0 hown hK hP w4 dAs_addLine_31 ?_
  refine lv_iload hx hb dAs_addLine_34 (lv_at hl 0 rfl) ?_
  refine lv_iload hx hb dAs_addLine_36 (lv_at hl 5 rfl) ?_
  refine cs_nparts x hq hS hx hb hK hP hi dAs_addLine_38 (fun H locs hP hS => ?_)
  refine lv_aload_n hx hb dAs_addLine_39 rfl (lv_at hl 1 rfl) ?_
  refine lv_dup hx hb dAs_addLine_40 rfl ?_
  refine cg6_count hx hb hts i0 hown hK hP w0 dAs_addLine_41 ?_
  refine lv_iconst (v := 1) hx hb dAs_addLine_44 (by decide) ?_
  refine lv_iadd hx hb dAs_addLine_45 ?_
  refine cp6_count ((c_acount z0) + 1) hq hS hx hb hts i0 hown hK hP w0 dAs_addLine_46 (fun H locs hP hS => ?_)
  refine lv_iload hx hb dAs_addLine_49 (lv_at hl 0 rfl) ?_
  exact W.iret hx hb hr (fun t ht _ => ⟨by rw [hR]; first | done | rfl, by rw [hR, ht]; exact hP, hS.F ht⟩) hS.2.2 dAs_addLine_51
theorem dAs_markReserved_0 : decode ccAs_markReserved 0 = .ok (.aload_n 0, 1) := by decide +kernel
theorem dAs_markReserved_1 : decode ccAs_markReserved 1 = .ok (.getfield 36, 3) := by decide +kernel
theorem dAs_markReserved_4 : decode ccAs_markReserved 4 = .ok (.iload_n 1, 1) := by decide +kernel
theorem dAs_markReserved_5 : decode ccAs_markReserved 5 = .ok (.iconst 1, 1) := by decide +kernel
theorem dAs_markReserved_6 : decode ccAs_markReserved 6 = .ok (.bastore, 1) := by decide +kernel
theorem dAs_markReserved_7 : decode ccAs_markReserved 7 = .ok (.return_, 1) := by decide +kernel
def fAs_markReserved (z0 : SC) (a : Int32) : SC :=
  c_resv_s z0 (updB (c_resv z0) a.toNatClampNeg true)
set_option maxHeartbeats 4000000 in
set_option maxRecDepth 100000 in
theorem kAs_markReserved (l : Launch) (D : va_G) (q : Nat → Nat) (cI cJ cZ : ClassId) (hq : c_inj q) (z0 : SC) (a : Int32) (ha : vp_in a 200) : Met l yAs_markReserved wsAs_markReserved { frames := 0, cells := 0, slots := 0, locals := 0 } (va_Pc [.ref (q 6), .int (a)] (c_C D q cI cJ cZ z0)) (cQw none (c_W D q cI cJ cZ (fAs_markReserved z0 a)) (c_qs q)) 0 0 (c_qs q) := by
  refine Met.ofW (cc := ccAs_markReserved) (maxL := 2) (ret := none) (by decide +kernel) rfl ?_
  intro p e s m args below meth c s₁ B hml hv
  obtain ⟨rfl, hP, hK⟩ := hv
  have hx := B.exec
  have hb := B.bytes
  have hr := B.returns
  have hts := atoms_spec (ws := wsAs_markReserved) B.pre
  have hown : s.vm.findClass RAs = some m.cls := findClass_of_methodNamed B.named
  have hlocks := B.notSynchronized
  have w0 := hts (.fieldLink RAs 36 "DrumMachine$Assembler" "reserved" "[Z") (List.mem_cons_of_mem _ wm1_153)
  have i0 : ∀ w ∈ u_ws RAs TAs 11, w ∈ wsAs_markReserved := fun w h => List.mem_cons_of_mem _ (inAAs w h)
  have hS : va_S (c_qs q) s.heap s.heap [] := va_S.rf
  have hl := lv_entry ([.ref (q 6), .int (a)]) (n := 2) (Nat.le_of_ble_eq_true rfl)
  rw [lg_entry_eq]
  generalize (lg_sl ([.ref (q 6), .int (a)]) ++ List.replicate (2 - (lg_sl ([.ref (q 6), .int (a)])).length) Slot.unset).toArray = ls at hl ⊢
  have hl : lv_has ls 2 [(0, .ref (q 6)), (1, .int (a))] := hl
  have hR := fAs_markReserved.eq_1 z0 a
  refine lv_aload_n hx hb dAs_markReserved_0 rfl (lv_at hl 0 rfl) ?_
  refine cg6_reserved hx hb hts i0 hown hK hP w0 dAs_markReserved_1 ?_
  refine lv_iload_n hx hb dAs_markReserved_4 rfl (lv_at hl 1 rfl) ?_
  refine lv_iconst (v := 1) hx hb dAs_markReserved_5 (by decide) ?_
  refine cs_resv true hq hS hx hb hK hP ha dAs_markReserved_6 (fun H locs hP hS => ?_)
  exact W.vret hx hb hr (fun t ht _ => ⟨rfl, by rw [hR, ht]; exact hP, hS.F ht⟩) hS.2.2 dAs_markReserved_7
theorem dAs_placeOf_0 : decode ccAs_placeOf 0 = .ok (.aload_n 0, 1) := by decide +kernel
theorem dAs_placeOf_1 : decode ccAs_placeOf 1 = .ok (.getfield 31, 3) := by decide +kernel
theorem dAs_placeOf_4 : decode ccAs_placeOf 4 = .ok (.iload_n 1, 1) := by decide +kernel
theorem dAs_placeOf_5 : decode ccAs_placeOf 5 = .ok (.iaload, 1) := by decide +kernel
theorem dAs_placeOf_6 : decode ccAs_placeOf 6 = .ok (.ireturn, 1) := by decide +kernel
def fAs_placeOf (z0 : SC) (a : Int32) : Int32 :=
  c_syms z0 a.toNatClampNeg
set_option maxHeartbeats 4000000 in
set_option maxRecDepth 100000 in
theorem kAs_placeOf (l : Launch) (D : va_G) (q : Nat → Nat) (cI cJ cZ : ClassId) (hq : c_inj q) (z0 : SC) (a : Int32) (ha : vp_in a 20) : Met l yAs_placeOf wsAs_placeOf { frames := 0, cells := 0, slots := 0, locals := 0 } (va_Pc [.ref (q 6), .int (a)] (c_C D q cI cJ cZ z0)) (cQr (some (.int (fAs_placeOf z0 a)))) 0 0 (fun _ => False) := by
  refine Met.ofW (cc := ccAs_placeOf) (maxL := 2) (ret := (some .int)) (by decide +kernel) rfl ?_
  intro p e s m args below meth c s₁ B hml hv
  obtain ⟨rfl, hP, hK⟩ := hv
  have hx := B.exec
  have hb := B.bytes
  have hr := B.returns
  have hts := atoms_spec (ws := wsAs_placeOf) B.pre
  have hown : s.vm.findClass RAs = some m.cls := findClass_of_methodNamed B.named
  have hlocks := B.notSynchronized
  have w0 := hts (.fieldLink RAs 31 "DrumMachine$Assembler" "symbolPlaces" "[I") (List.mem_cons_of_mem _ wm1_152)
  have i0 : ∀ w ∈ u_ws RAs TAs 11, w ∈ wsAs_placeOf := fun w h => List.mem_cons_of_mem _ (inAAs w h)
  have hl := lv_entry ([.ref (q 6), .int (a)]) (n := 2) (Nat.le_of_ble_eq_true rfl)
  rw [lg_entry_eq]
  generalize (lg_sl ([.ref (q 6), .int (a)]) ++ List.replicate (2 - (lg_sl ([.ref (q 6), .int (a)])).length) Slot.unset).toArray = ls at hl ⊢
  have hl : lv_has ls 2 [(0, .ref (q 6)), (1, .int (a))] := hl
  have hR := fAs_placeOf.eq_1 z0 a
  refine lv_aload_n hx hb dAs_placeOf_0 rfl (lv_at hl 0 rfl) ?_
  refine cg6_symbolPlaces hx hb hts i0 hown hK hP w0 dAs_placeOf_1 ?_
  refine lv_iload_n hx hb dAs_placeOf_4 rfl (lv_at hl 1 rfl) ?_
  refine cl_syms hx hb hK hP ha dAs_placeOf_5 ?_
  exact W.iret hx hb hr (fun t ht _ => ⟨by rw [hR]; first | done | rfl, ht⟩) (fun _ h => absurd h List.not_mem_nil) dAs_placeOf_6
theorem dAs_firstLocation_0 : decode ccAs_firstLocation 0 = .ok (.aload_n 0, 1) := by decide +kernel
theorem dAs_firstLocation_1 : decode ccAs_firstLocation 1 = .ok (.getfield 22, 3) := by decide +kernel
theorem dAs_firstLocation_4 : decode ccAs_firstLocation 4 = .ok (.iconst 0, 1) := by decide +kernel
theorem dAs_firstLocation_5 : decode ccAs_firstLocation 5 = .ok (.iaload, 1) := by decide +kernel
theorem dAs_firstLocation_6 : decode ccAs_firstLocation 6 = .ok (.ireturn, 1) := by decide +kernel
def fAs_firstLocation (z0 : SC)  : Int32 :=
  c_locs z0 (((0 : Int32)).toNatClampNeg)
set_option maxHeartbeats 4000000 in
set_option maxRecDepth 100000 in
theorem kAs_firstLocation (l : Launch) (D : va_G) (q : Nat → Nat) (cI cJ cZ : ClassId) (hq : c_inj q) (z0 : SC)   : Met l yAs_firstLocation wsAs_firstLocation { frames := 0, cells := 0, slots := 0, locals := 0 } (va_Pc [.ref (q 6)] (c_C D q cI cJ cZ z0)) (cQr (some (.int (fAs_firstLocation z0)))) 0 0 (fun _ => False) := by
  refine Met.ofW (cc := ccAs_firstLocation) (maxL := 1) (ret := (some .int)) (by decide +kernel) rfl ?_
  intro p e s m args below meth c s₁ B hml hv
  obtain ⟨rfl, hP, hK⟩ := hv
  have hx := B.exec
  have hb := B.bytes
  have hr := B.returns
  have hts := atoms_spec (ws := wsAs_firstLocation) B.pre
  have hown : s.vm.findClass RAs = some m.cls := findClass_of_methodNamed B.named
  have hlocks := B.notSynchronized
  have w0 := hts (.fieldLink RAs 22 "DrumMachine$Assembler" "locations" "[I") (List.mem_cons_of_mem _ wm1_149)
  have i0 : ∀ w ∈ u_ws RAs TAs 11, w ∈ wsAs_firstLocation := fun w h => List.mem_cons_of_mem _ (inAAs w h)
  have hl := lv_entry ([.ref (q 6)]) (n := 1) (Nat.le_of_ble_eq_true rfl)
  rw [lg_entry_eq]
  generalize (lg_sl ([.ref (q 6)]) ++ List.replicate (1 - (lg_sl ([.ref (q 6)])).length) Slot.unset).toArray = ls at hl ⊢
  have hl : lv_has ls 1 [(0, .ref (q 6))] := hl
  have hR := fAs_firstLocation.eq_1 z0
  refine lv_aload_n hx hb dAs_firstLocation_0 rfl (lv_at hl 0 rfl) ?_
  refine cg6_locations hx hb hts i0 hown hK hP w0 dAs_firstLocation_1 ?_
  refine lv_iconst (v := 0) hx hb dAs_firstLocation_4 (by decide) ?_
  refine cl_locs hx hb hK hP (vp_in_nI (n := 0) (by decide) (by decide)) dAs_firstLocation_5 ?_
  exact W.iret hx hb hr (fun t ht _ => ⟨by rw [hR]; first | done | rfl, ht⟩) (fun _ h => absurd h List.not_mem_nil) dAs_firstLocation_6
theorem dAs_takeIfAddress_0 : decode ccAs_takeIfAddress 0 = .ok (.iload_n 1, 1) := by decide +kernel
theorem dAs_takeIfAddress_1 : decode ccAs_takeIfAddress 1 = .ok (.invokestatic 49, 3) := by decide +kernel
theorem dAs_takeIfAddress_4 : decode ccAs_takeIfAddress 4 = .ok (.ifCond .eq 10, 3) := by decide +kernel
theorem dAs_takeIfAddress_7 : decode ccAs_takeIfAddress 7 = .ok (.aload_n 0, 1) := by decide +kernel
theorem dAs_takeIfAddress_8 : decode ccAs_takeIfAddress 8 = .ok (.getfield 40, 3) := by decide +kernel
theorem dAs_takeIfAddress_11 : decode ccAs_takeIfAddress 11 = .ok (.iload_n 1, 1) := by decide +kernel
theorem dAs_takeIfAddress_12 : decode ccAs_takeIfAddress 12 = .ok (.iconst 1, 1) := by decide +kernel
theorem dAs_takeIfAddress_13 : decode ccAs_takeIfAddress 13 = .ok (.bastore, 1) := by decide +kernel
theorem dAs_takeIfAddress_14 : decode ccAs_takeIfAddress 14 = .ok (.return_, 1) := by decide +kernel
def fAs_takeIfAddress (z0 : SC) (a : Int32) : SC :=
  (if (fDr_hasAddress a) = true then c_taken_s z0 (updB (c_taken z0) a.toNatClampNeg true) else z0)
set_option maxHeartbeats 4000000 in
set_option maxRecDepth 100000 in
theorem kAs_takeIfAddress (l : Launch) (D : va_G) (q : Nat → Nat) (cI cJ cZ : ClassId) (hq : c_inj q) (z0 : SC) (a : Int32)  : Met l yAs_takeIfAddress wsAs_takeIfAddress { frames := 1, cells := 0, slots := 0, locals := 20 } (va_Pc [.ref (q 6), .int (a)] (c_C D q cI cJ cZ z0)) (cQw none (c_W D q cI cJ cZ (fAs_takeIfAddress z0 a)) (c_qs q)) 0 0 (c_qs q) := by
  refine Met.ofW (cc := ccAs_takeIfAddress) (maxL := 2) (ret := none) (by decide +kernel) rfl ?_
  intro p e s m args below meth c s₁ B hml hv
  obtain ⟨rfl, hP, hK⟩ := hv
  have hx := B.exec
  have hb := B.bytes
  have hr := B.returns
  have hts := atoms_spec (ws := wsAs_takeIfAddress) B.pre
  have hown : s.vm.findClass RAs = some m.cls := findClass_of_methodNamed B.named
  have hlocks := B.notSynchronized
  have w0 := hts (.fieldLink RAs 40 "DrumMachine$Assembler" "taken" "[Z") (List.mem_cons_of_mem _ wm1_154)
  have i0 : ∀ w ∈ u_ws RAs TAs 11, w ∈ wsAs_takeIfAddress := fun w h => List.mem_cons_of_mem _ (inAAs w h)
  have hS : va_S (c_qs q) s.heap s.heap [] := va_S.rf
  have hl := lv_entry ([.ref (q 6), .int (a)]) (n := 2) (Nat.le_of_ble_eq_true rfl)
  rw [lg_entry_eq]
  generalize (lg_sl ([.ref (q 6), .int (a)]) ++ List.replicate (2 - (lg_sl ([.ref (q 6), .int (a)])).length) Slot.unset).toArray = ls at hl ⊢
  have hl : lv_has ls 2 [(0, .ref (q 6)), (1, .int (a))] := hl
  have hR := fAs_takeIfAddress.eq_1 z0 a
  refine lv_iload_n hx hb dAs_takeIfAddress_0 rfl (lv_at hl 1 rfl) ?_
  refine cl_rd (W.runS (As := [.int (a)]) (rest := []) ⟨hx, hb, hml, hown, hts⟩ (kDr_hasAddress l a) (va_cwS 1 hts (gS wm2_190 wm2_9 wm1_2 wm2_10) rfl rfl rfl (by decide +kernel) ⟨Nat.le_of_ble_eq_true rfl, Nat.le_of_ble_eq_true rfl⟩) (preT) rfl rfl hl.1 rfl (lv_room (Nat.le_of_ble_eq_true rfl)) dAs_takeIfAddress_1 ⟨Nat.le_refl _, Nat.le_refl _⟩) ?_
  refine wz_ifeq hx hb dAs_takeIfAddress_4 rfl (fun h4 => ?_) (fun h4 => ?_)
  · have hR := hR.trans (if_neg h4)
    exact W.vret hx hb hr (fun t ht _ => ⟨rfl, by rw [hR, ht]; exact hP, hS.F ht⟩) hS.2.2 dAs_takeIfAddress_14
  · have hR := hR.trans (if_pos h4)
    refine lv_aload_n hx hb dAs_takeIfAddress_7 rfl (lv_at hl 0 rfl) ?_
    refine cg6_taken hx hb hts i0 hown hK hP w0 dAs_takeIfAddress_8 ?_
    refine lv_iload_n hx hb dAs_takeIfAddress_11 rfl (lv_at hl 1 rfl) ?_
    refine lv_iconst (v := 1) hx hb dAs_takeIfAddress_12 (by decide) ?_
    refine cs_taken true hq hS hx hb hK hP (has_in h4) dAs_takeIfAddress_13 (fun H locs hP hS => ?_)
    exact W.vret hx hb hr (fun t ht _ => ⟨rfl, by rw [hR, ht]; exact hP, hS.F ht⟩) hS.2.2 dAs_takeIfAddress_14
def pl (x : Int32) : Prop := -1 ≤ x.toInt ∧ x.toInt < 200
def pp (x : Int32) : Prop := pl x ∨ (1000 ≤ x.toInt ∧ x.toInt < 1020)
theorem ff_in {x : Int32} (h4 : 0 ≤ x.toInt ∧ x.toInt ≤ 249) (h : ¬ (200 : Int32) ≤ x) : vp_in x 200 := by
  have h1 := lk_lt h
  have e : (200 : Int32).toInt = 200 := by decide
  exact vp_in_iff.mpr ⟨h4.1, by omega⟩
theorem ff_v {a : Int32} {k : Nat} (ha : 0 ≤ a.toInt ∧ a.toInt ≤ 10000) (hk : k ≤ 50) : ((a + nI k) % 50).toInt = (a.toInt + k) % 50 := by
  have e : (50 : Int32).toInt = 50 := by decide
  have ek := nI_toInt (n := k) (by omega)
  have e1 : (a + nI k).toInt = a.toInt + k := by rw [Kit.i32_add (by omega) (by omega), ek]
  rw [Kit.i32_rem_nonneg (by omega), e1, e]
theorem ff_b {a : Int32} {k : Nat} (ha : 0 ≤ a.toInt ∧ a.toInt ≤ 10000) (hk : k ≤ 50) : 0 ≤ ((a + nI k) % 50).toInt ∧ ((a + nI k) % 50).toInt ≤ 249 := by
  have := ff_v ha hk
  omega
theorem ff_m {a : Int32} {k : Nat} (ha : 0 ≤ a.toInt ∧ a.toInt ≤ 10000) (hk : k ≤ 50) : (249 - ((a + nI k) % 50).toInt).toNat / 50 < 5 := by
  have := ff_v ha hk
  omega
theorem ff_p {x : Int32} (h4 : 0 ≤ x.toInt ∧ x.toInt ≤ 249) (h : ¬ (200 : Int32) ≤ x) : (x + 50).toInt = x.toInt + 50 := by
  have e : (50 : Int32).toInt = 50 := by decide
  rw [Kit.i32_add (by omega) (by omega), e]
theorem ff_s {x : Int32} (h4 : 0 ≤ x.toInt ∧ x.toInt ≤ 249) (h : ¬ (200 : Int32) ≤ x) : 0 ≤ (x + 50).toInt ∧ (x + 50).toInt ≤ 249 := by
  have h1 := lk_lt h
  have e : (200 : Int32).toInt = 200 := by decide
  rw [ff_p h4 h]
  omega
theorem ff_n {x : Int32} {n : Nat} (h4 : 0 ≤ x.toInt ∧ x.toInt ≤ 249) (h : ¬ (200 : Int32) ≤ x) (hn : (249 - x.toInt).toNat / 50 < n + 1) : (249 - (x + 50).toInt).toNat / 50 < n := by
  have h1 := lk_lt h
  have e : (200 : Int32).toInt = 200 := by decide
  rw [ff_p h4 h]
  omega
theorem pl_in {x : Int32} (hp : pl x) (h : ¬ x = -1) : vp_in x 200 := by
  have e : (-1 : Int32).toInt = -1 := by decide
  have h1 : ¬ x.toInt = -1 := fun q => h (Int32.toInt_inj.mp (by rw [q, e]))
  exact vp_in_iff.mpr ⟨by have := hp.1; omega, hp.2⟩
theorem pl_nn {x : Int32} (hp : pl x) (h : ¬ x = -1) : 0 ≤ x.toInt := (vp_in_iff.mp (pl_in hp h)).1
theorem pl_m1 : pl (-1) := by
  have e : (-1 : Int32).toInt = -1 := by decide
  unfold pl
  omega
theorem pl_of {x : Int32} (h : vp_in x 200) : pl x := by
  obtain ⟨h1, h2⟩ := vp_in_iff.mp h
  exact ⟨by omega, h2⟩
theorem sy_in {a : Int32} (h : fAs_isSymbol a = true) : vp_in (a - 1000) 20 := by
  rw [fAs_isSymbol.eq_1] at h
  have e : (1000 : Int32).toInt = 1000 := by decide
  have e2 : (1020 : Int32).toInt = 1020 := by decide
  by_cases h1 : a < (1000 : Int32)
  · rw [if_pos h1] at h; cases h
  · rw [if_neg h1] at h
    by_cases h2 : (1020 : Int32) ≤ a
    · rw [if_pos h2] at h; cases h
    · rw [Int32.lt_iff_toInt_lt] at h1
      have h3 := lk_lt h2
      rw [vp_in_iff, Kit.i32_sub (by omega) (by omega), e]
      omega
theorem pr_in {a : Int32} (ha : vp_in a 40) (h : ¬ a ≤ 0) : vp_in (a - 1) 40 := by
  obtain ⟨a1, a2⟩ := vp_in_iff.mp ha
  have e : (0 : Int32).toInt = 0 := by decide
  have e1 : (1 : Int32).toInt = 1 := by decide
  rw [Int32.le_iff_toInt_le] at h
  rw [vp_in_iff, Kit.i32_sub (by omega) (by omega), e1]
  omega
theorem mt_in {x : Int32} {k : Nat} (hn : 0 ≤ x.toInt ∧ x.toInt ≤ 40) (h : ¬ x ≤ nI k) (hk : k ≤ 40) : vp_in (nI k) 40 := by
  have h1 := lk_lt h
  rw [nI_toInt (by omega)] at h1
  exact vp_in_nI (by omega) (by decide)
theorem mt_b {x : Int32} {k : Nat} (hn : 0 ≤ x.toInt ∧ x.toInt ≤ 40) (h : ¬ x ≤ nI k) (hk : k ≤ 40) : k + 1 ≤ 40 := by
  have h1 := lk_lt h
  rw [nI_toInt (by omega)] at h1
  omega
theorem mt_m {x : Int32} {k n : Nat} (hn : 0 ≤ x.toInt ∧ x.toInt ≤ 40) (h : ¬ x ≤ nI k) (hk : k ≤ 40) (hm : 40 - k < n + 1) : 40 - (k + 1) < n := by
  have h1 := lk_lt h
  rw [nI_toInt (by omega)] at h1
  omega
theorem el_in {a : Int32} {k : Nat} (ha : vp_in a 40) (h : ¬ a ≤ nI k) (hk : k ≤ 40) : vp_in (nI k) 40 := by
  obtain ⟨a1, a2⟩ := vp_in_iff.mp ha
  exact mt_in (x := a) ⟨a1, by omega⟩ h hk
theorem el_b {a : Int32} {k : Nat} (ha : vp_in a 40) (h : ¬ a ≤ nI k) (hk : k ≤ 40) : k + 1 ≤ 40 := by
  obtain ⟨a1, a2⟩ := vp_in_iff.mp ha
  exact mt_b (x := a) ⟨a1, by omega⟩ h hk
theorem el_m {a : Int32} {k n : Nat} (ha : vp_in a 40) (h : ¬ a ≤ nI k) (hk : k ≤ 40) (hm : 40 - k < n + 1) : 40 - (k + 1) < n := by
  obtain ⟨a1, a2⟩ := vp_in_iff.mp ha
  exact mt_m (x := a) ⟨a1, by omega⟩ h hk hm
theorem ta_n (z : SC) (a : Int32) : c_acount (fAs_takeIfAddress z a) = c_acount z := by
  unfold fAs_takeIfAddress
  split <;> rfl
theorem dAs_leastFree_0 : decode ccAs_leastFree 0 = .ok (.iconst 0, 1) := by decide +kernel
theorem dAs_leastFree_1 : decode ccAs_leastFree 1 = .ok (.istore_n 1, 1) := by decide +kernel
theorem dAs_leastFree_2 : decode ccAs_leastFree 2 = .ok (.iload_n 1, 1) := by decide +kernel
theorem dAs_leastFree_3 : decode ccAs_leastFree 3 = .ok (.sipush 200, 3) := by decide +kernel
theorem dAs_leastFree_6 : decode ccAs_leastFree 6 = .ok (.if_icmp .ge 20, 3) := by decide +kernel
theorem dAs_leastFree_9 : decode ccAs_leastFree 9 = .ok (.aload_n 0, 1) := by decide +kernel
theorem dAs_leastFree_10 : decode ccAs_leastFree 10 = .ok (.getfield 40, 3) := by decide +kernel
theorem dAs_leastFree_13 : decode ccAs_leastFree 13 = .ok (.iload_n 1, 1) := by decide +kernel
theorem dAs_leastFree_14 : decode ccAs_leastFree 14 = .ok (.baload, 1) := by decide +kernel
theorem dAs_leastFree_15 : decode ccAs_leastFree 15 = .ok (.ifCond .ne 5, 3) := by decide +kernel
theorem dAs_leastFree_18 : decode ccAs_leastFree 18 = .ok (.iload_n 1, 1) := by decide +kernel
theorem dAs_leastFree_19 : decode ccAs_leastFree 19 = .ok (.ireturn, 1) := by decide +kernel
theorem dAs_leastFree_20 : decode ccAs_leastFree 20 = .ok (.iinc 1 1, 3) := by decide +kernel
theorem dAs_leastFree_23 : decode ccAs_leastFree 23 = .ok (.goto (-21), 3) := by decide +kernel
theorem dAs_leastFree_26 : decode ccAs_leastFree 26 = .ok (.iconst (-1), 1) := by decide +kernel
theorem dAs_leastFree_27 : decode ccAs_leastFree 27 = .ok (.ireturn, 1) := by decide +kernel
def fAs_leastFree_2  : Nat → SC → Nat → Int32
  | 0, z0, v1 => 0
  | fu + 1, z0, v1 => (if 200 ≤ v1 then (-1) else (if (c_taken z0 ((nI (v1)).toNatClampNeg)) = true then fAs_leastFree_2 fu z0 (v1 + 1) else nI (v1)))
def fAs_leastFree (z0 : SC)  : Int32 :=
  fAs_leastFree_2 201 z0 0
set_option maxHeartbeats 4000000 in
set_option maxRecDepth 100000 in
theorem kAs_leastFree (l : Launch) (D : va_G) (q : Nat → Nat) (cI cJ cZ : ClassId) (hq : c_inj q) (z0 : SC)   : Met l yAs_leastFree wsAs_leastFree { frames := 0, cells := 0, slots := 0, locals := 0 } (va_Pc [.ref (q 6)] (c_C D q cI cJ cZ z0)) (cQr (some (.int (fAs_leastFree z0)))) 0 0 (fun _ => False) := by
  refine Met.ofW (cc := ccAs_leastFree) (maxL := 2) (ret := (some .int)) (by decide +kernel) rfl ?_
  intro p e s m args below meth c s₁ B hml hv
  obtain ⟨rfl, hP, hK⟩ := hv
  have hx := B.exec
  have hb := B.bytes
  have hr := B.returns
  have hts := atoms_spec (ws := wsAs_leastFree) B.pre
  have hown : s.vm.findClass RAs = some m.cls := findClass_of_methodNamed B.named
  have hlocks := B.notSynchronized
  have w0 := hts (.fieldLink RAs 40 "DrumMachine$Assembler" "taken" "[Z") (List.mem_cons_of_mem _ wm1_154)
  have i0 : ∀ w ∈ u_ws RAs TAs 11, w ∈ wsAs_leastFree := fun w h => List.mem_cons_of_mem _ (inAAs w h)
  have hl := lv_entry ([.ref (q 6)]) (n := 2) (Nat.le_of_ble_eq_true rfl)
  rw [lg_entry_eq]
  generalize (lg_sl ([.ref (q 6)]) ++ List.replicate (2 - (lg_sl ([.ref (q 6)])).length) Slot.unset).toArray = ls at hl ⊢
  have hl : lv_has ls 2 [(0, .ref (q 6))] := hl
  have hB2 : ∀ (n2 : Nat) (ls : Array Slot) (v1 : Nat), 200 - v1 < n2 → fAs_leastFree z0 = fAs_leastFree_2 n2 z0 v1 → (v1 ≤ 200) → lv_has ls 2 [(0, .ref (q 6)), (1, .int (nI (v1)))] → W p l e (headSpec wsAs_leastFree { frames := 0, cells := 0, slots := 0, locals := 0 }).room s m ([.ref (q 6)] : List Value).toArray below meth c s.heap [] 0 0 (MQ below (cQr (some (.int (fAs_leastFree z0)))) ([.ref (q 6)] : List Value).toArray s 0 0 (fun _ => False)) (F0 m 2 ls []) := by
    intro n2
    induction n2 with
    | zero => intro ls v1 hn2; exact absurd hn2 (Nat.not_lt_zero _)
    | succ n2 ih2 =>
      intro ls v1 hn2 hR h1 hl
      rw [fAs_leastFree_2.eq_2] at hR
      refine lv_iload_n hx hb dAs_leastFree_2 rfl (lv_at hl 1 rfl) ?_
      refine lv_sipush (v := 200) hx hb dAs_leastFree_3 (by decide) ?_
      refine wn_ge (x := v1) (y := 200) hx hb (by omega) (by omega) dAs_leastFree_6 rfl (fun h6 => ?_) (fun h6 => ?_)
      · have hR := hR.trans (if_pos h6)
        refine lv_iconst (v := (-1)) hx hb dAs_leastFree_26 (by decide) ?_
        exact W.iret hx hb hr (fun t ht _ => ⟨by rw [hR]; first | done | rfl, ht⟩) (fun _ h => absurd h List.not_mem_nil) dAs_leastFree_27
      · have hR := hR.trans (if_neg h6)
        refine lv_aload_n hx hb dAs_leastFree_9 rfl (lv_at hl 0 rfl) ?_
        refine cg6_taken hx hb hts i0 hown hK hP w0 dAs_leastFree_10 ?_
        refine lv_iload_n hx hb dAs_leastFree_13 rfl (lv_at hl 1 rfl) ?_
        refine cl_taken hx hb hK hP (vp_in_nI (by omega) (by decide)) dAs_leastFree_14 ?_
        refine wz_ifne hx hb dAs_leastFree_15 rfl (fun h15 => ?_) (fun h15 => ?_)
        · have hR := hR.trans (if_pos h15)
          refine lv_iinc (k := 1) (lv' := [(1, .int (nI (v1 + 1))), (0, .ref (q 6))]) hx hb dAs_leastFree_20 hl rfl (nI_1 _) (by decide) rfl (fun ls hl => ?_)
          refine lv_goto hx hb dAs_leastFree_23 rfl ?_
          exact ih2 ls (v1 + 1) (by omega) hR (by first | assumption | omega) (lv_sub hl [1, 0] rfl)
        · have hR := hR.trans (if_neg h15)
          refine lv_iload_n hx hb dAs_leastFree_18 rfl (lv_at hl 1 rfl) ?_
          exact W.iret hx hb hr (fun t ht _ => ⟨by rw [hR]; first | done | rfl, ht⟩) (fun _ h => absurd h List.not_mem_nil) dAs_leastFree_19
  have hR := fAs_leastFree.eq_1 z0
  refine lv_iconst (v := 0) hx hb dAs_leastFree_0 (by decide) ?_
  refine lv_istore_n (lv' := [(1, .int (nI (0))), (0, .ref (q 6))]) hx hb dAs_leastFree_1 rfl hl (by decide) rfl (fun ls hl => ?_)
  exact hB2 201 ls 0 (by omega) hR (by first | assumption | omega) (lv_sub hl [1, 0] rfl)
theorem dAs_firstFreeFromAngle_0 : decode ccAs_firstFreeFromAngle 0 = .ok (.iconst 0, 1) := by decide +kernel
theorem dAs_firstFreeFromAngle_1 : decode ccAs_firstFreeFromAngle 1 = .ok (.istore_n 2, 1) := by decide +kernel
theorem dAs_firstFreeFromAngle_2 : decode ccAs_firstFreeFromAngle 2 = .ok (.iload_n 2, 1) := by decide +kernel
theorem dAs_firstFreeFromAngle_3 : decode ccAs_firstFreeFromAngle 3 = .ok (.bipush 50, 2) := by decide +kernel
theorem dAs_firstFreeFromAngle_5 : decode ccAs_firstFreeFromAngle 5 = .ok (.if_icmp .ge 46, 3) := by decide +kernel
theorem dAs_firstFreeFromAngle_8 : decode ccAs_firstFreeFromAngle 8 = .ok (.iload_n 1, 1) := by decide +kernel
theorem dAs_firstFreeFromAngle_9 : decode ccAs_firstFreeFromAngle 9 = .ok (.iload_n 2, 1) := by decide +kernel
theorem dAs_firstFreeFromAngle_10 : decode ccAs_firstFreeFromAngle 10 = .ok (.iadd, 1) := by decide +kernel
theorem dAs_firstFreeFromAngle_11 : decode ccAs_firstFreeFromAngle 11 = .ok (.bipush 50, 2) := by decide +kernel
theorem dAs_firstFreeFromAngle_13 : decode ccAs_firstFreeFromAngle 13 = .ok (.irem, 1) := by decide +kernel
theorem dAs_firstFreeFromAngle_14 : decode ccAs_firstFreeFromAngle 14 = .ok (.istore_n 3, 1) := by decide +kernel
theorem dAs_firstFreeFromAngle_15 : decode ccAs_firstFreeFromAngle 15 = .ok (.iload_n 3, 1) := by decide +kernel
theorem dAs_firstFreeFromAngle_16 : decode ccAs_firstFreeFromAngle 16 = .ok (.istore 4, 2) := by decide +kernel
theorem dAs_firstFreeFromAngle_18 : decode ccAs_firstFreeFromAngle 18 = .ok (.iload 4, 2) := by decide +kernel
theorem dAs_firstFreeFromAngle_20 : decode ccAs_firstFreeFromAngle 20 = .ok (.sipush 200, 3) := by decide +kernel
theorem dAs_firstFreeFromAngle_23 : decode ccAs_firstFreeFromAngle 23 = .ok (.if_icmp .ge 22, 3) := by decide +kernel
theorem dAs_firstFreeFromAngle_26 : decode ccAs_firstFreeFromAngle 26 = .ok (.aload_n 0, 1) := by decide +kernel
theorem dAs_firstFreeFromAngle_27 : decode ccAs_firstFreeFromAngle 27 = .ok (.getfield 40, 3) := by decide +kernel
theorem dAs_firstFreeFromAngle_30 : decode ccAs_firstFreeFromAngle 30 = .ok (.iload 4, 2) := by decide +kernel
theorem dAs_firstFreeFromAngle_32 : decode ccAs_firstFreeFromAngle 32 = .ok (.baload, 1) := by decide +kernel
theorem dAs_firstFreeFromAngle_33 : decode ccAs_firstFreeFromAngle 33 = .ok (.ifCond .ne 6, 3) := by decide +kernel
theorem dAs_firstFreeFromAngle_36 : decode ccAs_firstFreeFromAngle 36 = .ok (.iload 4, 2) := by decide +kernel
theorem dAs_firstFreeFromAngle_38 : decode ccAs_firstFreeFromAngle 38 = .ok (.ireturn, 1) := by decide +kernel
theorem dAs_firstFreeFromAngle_39 : decode ccAs_firstFreeFromAngle 39 = .ok (.iinc 4 50, 3) := by decide +kernel
theorem dAs_firstFreeFromAngle_42 : decode ccAs_firstFreeFromAngle 42 = .ok (.goto (-24), 3) := by decide +kernel
theorem dAs_firstFreeFromAngle_45 : decode ccAs_firstFreeFromAngle 45 = .ok (.iinc 2 1, 3) := by decide +kernel
theorem dAs_firstFreeFromAngle_48 : decode ccAs_firstFreeFromAngle 48 = .ok (.goto (-46), 3) := by decide +kernel
theorem dAs_firstFreeFromAngle_51 : decode ccAs_firstFreeFromAngle 51 = .ok (.iconst (-1), 1) := by decide +kernel
theorem dAs_firstFreeFromAngle_52 : decode ccAs_firstFreeFromAngle 52 = .ok (.ireturn, 1) := by decide +kernel
def fAs_firstFreeFromAngle_18 (k2 : SC → Int32 → Nat → (Int32)) : Nat → SC → Int32 → Nat → Int32 → Int32
  | 0, z0, a, v2, v4 => 0
  | fu + 1, z0, a, v2, v4 => (if (200 : Int32) ≤ v4 then k2 z0 a (v2 + 1) else (if (c_taken z0 v4.toNatClampNeg) = true then fAs_firstFreeFromAngle_18 k2 fu z0 a v2 (v4 + 50) else v4))
def fAs_firstFreeFromAngle_2  : Nat → SC → Int32 → Nat → Int32
  | 0, z0, a, v2 => 0
  | fu + 1, z0, a, v2 => (if 50 ≤ v2 then (-1) else fAs_firstFreeFromAngle_18 (fAs_firstFreeFromAngle_2 fu) 5 z0 a v2 ((a + (nI (v2))) % 50))
def fAs_firstFreeFromAngle (z0 : SC) (a : Int32) : Int32 :=
  fAs_firstFreeFromAngle_2 51 z0 a 0
set_option maxHeartbeats 4000000 in
set_option maxRecDepth 100000 in
theorem kAs_firstFreeFromAngle (l : Launch) (D : va_G) (q : Nat → Nat) (cI cJ cZ : ClassId) (hq : c_inj q) (z0 : SC) (a : Int32) (ha : 0 ≤ a.toInt ∧ a.toInt ≤ 10000) : Met l yAs_firstFreeFromAngle wsAs_firstFreeFromAngle { frames := 0, cells := 0, slots := 0, locals := 0 } (va_Pc [.ref (q 6), .int (a)] (c_C D q cI cJ cZ z0)) (cQr (some (.int (fAs_firstFreeFromAngle z0 a)))) 0 0 (fun _ => False) := by
  refine Met.ofW (cc := ccAs_firstFreeFromAngle) (maxL := 5) (ret := (some .int)) (by decide +kernel) rfl ?_
  intro p e s m args below meth c s₁ B hml hv
  obtain ⟨rfl, hP, hK⟩ := hv
  have hx := B.exec
  have hb := B.bytes
  have hr := B.returns
  have hts := atoms_spec (ws := wsAs_firstFreeFromAngle) B.pre
  have hown : s.vm.findClass RAs = some m.cls := findClass_of_methodNamed B.named
  have hlocks := B.notSynchronized
  have w0 := hts (.fieldLink RAs 40 "DrumMachine$Assembler" "taken" "[Z") (List.mem_cons_of_mem _ wm1_154)
  have i0 : ∀ w ∈ u_ws RAs TAs 11, w ∈ wsAs_firstFreeFromAngle := fun w h => List.mem_cons_of_mem _ (inAAs w h)
  have hl := lv_entry ([.ref (q 6), .int (a)]) (n := 5) (Nat.le_of_ble_eq_true rfl)
  rw [lg_entry_eq]
  generalize (lg_sl ([.ref (q 6), .int (a)]) ++ List.replicate (5 - (lg_sl ([.ref (q 6), .int (a)])).length) Slot.unset).toArray = ls at hl ⊢
  have hl : lv_has ls 5 [(0, .ref (q 6)), (1, .int (a))] := hl
  have hB2 : ∀ (n2 : Nat) (ls : Array Slot) (v2 : Nat), 50 - v2 < n2 → fAs_firstFreeFromAngle z0 a = fAs_firstFreeFromAngle_2 n2 z0 a v2 → (v2 ≤ 50) → lv_has ls 5 [(0, .ref (q 6)), (1, .int (a)), (2, .int (nI (v2)))] → W p l e (headSpec wsAs_firstFreeFromAngle { frames := 0, cells := 0, slots := 0, locals := 0 }).room s m ([.ref (q 6), .int (a)] : List Value).toArray below meth c s.heap [] 0 0 (MQ below (cQr (some (.int (fAs_firstFreeFromAngle z0 a)))) ([.ref (q 6), .int (a)] : List Value).toArray s 0 0 (fun _ => False)) (F0 m 2 ls []) := by
    intro n2
    induction n2 with
    | zero => intro ls v2 hn2; exact absurd hn2 (Nat.not_lt_zero _)
    | succ n2 ih2 =>
      intro ls v2 hn2 hR h2 hl
      rw [fAs_firstFreeFromAngle_2.eq_2] at hR
      have hB18 : ∀ (n18 : Nat) (ls : Array Slot) (v2 : Nat) (v4 : Int32), (249 - v4.toInt).toNat / 50 < n18 → fAs_firstFreeFromAngle z0 a = fAs_firstFreeFromAngle_18 (fAs_firstFreeFromAngle_2 n2) n18 z0 a v2 v4 → (0 ≤ v4.toInt ∧ v4.toInt ≤ 249) → (v2 < 50) → (50 - v2 < n2 + 1) → lv_has ls 5 [(0, .ref (q 6)), (1, .int (a)), (2, .int (nI (v2))), (4, .int (v4))] → W p l e (headSpec wsAs_firstFreeFromAngle { frames := 0, cells := 0, slots := 0, locals := 0 }).room s m ([.ref (q 6), .int (a)] : List Value).toArray below meth c s.heap [] 0 0 (MQ below (cQr (some (.int (fAs_firstFreeFromAngle z0 a)))) ([.ref (q 6), .int (a)] : List Value).toArray s 0 0 (fun _ => False)) (F0 m 18 ls []) := by
        intro n18
        induction n18 with
        | zero => intro ls v2 v4 hn18; exact absurd hn18 (Nat.not_lt_zero _)
        | succ n18 ih18 =>
          intro ls v2 v4 hn18 hR h4 h2 hm hl
          rw [fAs_firstFreeFromAngle_18.eq_2] at hR
          refine lv_iload hx hb dAs_firstFreeFromAngle_18 (lv_at hl 3 rfl) ?_
          refine lv_sipush (v := 200) hx hb dAs_firstFreeFromAngle_20 (by decide) ?_
          refine lv_icmp_ge hx hb dAs_firstFreeFromAngle_23 rfl (fun h23 => ?_) (fun h23 => ?_)
          · have hR := hR.trans (if_pos h23)
            refine lv_iinc (k := 2) (lv' := [(2, .int (nI (v2 + 1))), (0, .ref (q 6)), (1, .int (a)), (4, .int (v4))]) hx hb dAs_firstFreeFromAngle_45 hl rfl (nI_1 _) (by decide) rfl (fun ls hl => ?_)
            refine lv_goto hx hb dAs_firstFreeFromAngle_48 rfl ?_
            exact ih2 ls (v2 + 1) (by omega) hR (by first | assumption | omega) (lv_sub hl [1, 2, 0] rfl)
          · have hR := hR.trans (if_neg h23)
            refine lv_aload_n hx hb dAs_firstFreeFromAngle_26 rfl (lv_at hl 0 rfl) ?_
            refine cg6_taken hx hb hts i0 hown hK hP w0 dAs_firstFreeFromAngle_27 ?_
            refine lv_iload hx hb dAs_firstFreeFromAngle_30 (lv_at hl 3 rfl) ?_
            refine cl_taken hx hb hK hP (ff_in h4 h23) dAs_firstFreeFromAngle_32 ?_
            refine wz_ifne hx hb dAs_firstFreeFromAngle_33 rfl (fun h33 => ?_) (fun h33 => ?_)
            · have hR := hR.trans (if_pos h33)
              refine lv_iinc (k := 3) (lv' := [(4, .int (v4 + 50)), (0, .ref (q 6)), (1, .int (a)), (2, .int (nI (v2)))]) hx hb dAs_firstFreeFromAngle_39 hl rfl rfl (by decide) rfl (fun ls hl => ?_)
              refine lv_goto hx hb dAs_firstFreeFromAngle_42 rfl ?_
              exact ih18 ls v2 (v4 + 50) (ff_n h4 h23 hn18) hR (ff_s h4 h23) (by first | assumption | omega) (by first | assumption | omega) (lv_sub hl [1, 2, 3, 0] rfl)
            · have hR := hR.trans (if_neg h33)
              refine lv_iload hx hb dAs_firstFreeFromAngle_36 (lv_at hl 3 rfl) ?_
              exact W.iret hx hb hr (fun t ht _ => ⟨by rw [hR]; first | done | rfl, ht⟩) (fun _ h => absurd h List.not_mem_nil) dAs_firstFreeFromAngle_38
      refine lv_iload_n hx hb dAs_firstFreeFromAngle_2 rfl (lv_at hl 2 rfl) ?_
      refine lv_bipush (v := 50) hx hb dAs_firstFreeFromAngle_3 (by decide) ?_
      refine wn_ge (x := v2) (y := 50) hx hb (by omega) (by omega) dAs_firstFreeFromAngle_5 rfl (fun h5 => ?_) (fun h5 => ?_)
      · have hR := hR.trans (if_pos h5)
        refine lv_iconst (v := (-1)) hx hb dAs_firstFreeFromAngle_51 (by decide) ?_
        exact W.iret hx hb hr (fun t ht _ => ⟨by rw [hR]; first | done | rfl, ht⟩) (fun _ h => absurd h List.not_mem_nil) dAs_firstFreeFromAngle_52
      · have hR := hR.trans (if_neg h5)
        refine lv_iload_n hx hb dAs_firstFreeFromAngle_8 rfl (lv_at hl 1 rfl) ?_
        refine lv_iload_n hx hb dAs_firstFreeFromAngle_9 rfl (lv_at hl 2 rfl) ?_
        refine lv_iadd hx hb dAs_firstFreeFromAngle_10 ?_
        refine lv_bipush (v := 50) hx hb dAs_firstFreeFromAngle_11 (by decide) ?_
        refine lm_irem hx hb dAs_firstFreeFromAngle_13 (by decide) ?_
        refine lv_istore_n (lv' := [(3, .int ((a + (nI (v2))) % 50)), (0, .ref (q 6)), (1, .int (a)), (2, .int (nI (v2)))]) hx hb dAs_firstFreeFromAngle_14 rfl hl (by decide) rfl (fun ls hl => ?_)
        refine lv_iload_n hx hb dAs_firstFreeFromAngle_15 rfl (lv_at hl 0 rfl) ?_
        refine lv_istore (lv' := [(4, .int ((a + (nI (v2))) % 50)), (3, .int ((a + (nI (v2))) % 50)), (0, .ref (q 6)), (1, .int (a)), (2, .int (nI (v2)))]) hx hb dAs_firstFreeFromAngle_16 hl (by decide) rfl (fun ls hl => ?_)
        exact hB18 5 ls v2 ((a + (nI (v2))) % 50) (ff_m ha h2) hR (ff_b ha h2) (by first | assumption | omega) (by first | assumption | omega) (lv_sub hl [2, 3, 4, 0] rfl)
  have hR := fAs_firstFreeFromAngle.eq_1 z0 a
  refine lv_iconst (v := 0) hx hb dAs_firstFreeFromAngle_0 (by decide) ?_
  refine lv_istore_n (lv' := [(2, .int (nI (0))), (0, .ref (q 6)), (1, .int (a))]) hx hb dAs_firstFreeFromAngle_1 rfl hl (by decide) rfl (fun ls hl => ?_)
  exact hB2 51 ls 0 (by omega) hR (by first | assumption | omega) (lv_sub hl [1, 2, 0] rfl)
end
section
theorem pl_0 : pl 0 := by
  have e : (0 : Int32).toInt = 0 := by decide
  unfold pl
  omega
theorem ff18_pl (z : SC) (a : Int32) (k : SC → Int32 → Nat → Int32) (hk : ∀ v, pl (k z a v)) : ∀ (n v2 : Nat) (v4 : Int32), (0 ≤ v4.toInt ∧ v4.toInt ≤ 249) → pl (fAs_firstFreeFromAngle_18 k n z a v2 v4) := by
  intro n
  induction n with
  | zero => intro v2 v4 _; exact pl_0
  | succ n ih =>
    intro v2 v4 h4
    rw [fAs_firstFreeFromAngle_18.eq_2]
    by_cases h : (200 : Int32) ≤ v4
    · rw [if_pos h]; exact hk _
    · rw [if_neg h]
      by_cases h1 : c_taken z v4.toNatClampNeg = true
      · rw [if_pos h1]; exact ih _ _ (ff_s h4 h)
      · rw [if_neg h1]; exact pl_of (ff_in h4 h)
theorem ff2_pl (z : SC) (a : Int32) (ha : 0 ≤ a.toInt ∧ a.toInt ≤ 10000) : ∀ (n v2 : Nat), pl (fAs_firstFreeFromAngle_2 n z a v2) := by
  intro n
  induction n with
  | zero => intro v2; exact pl_0
  | succ n ih =>
    intro v2
    rw [fAs_firstFreeFromAngle_2.eq_2]
    by_cases h : 50 ≤ v2
    · rw [if_pos h]; exact pl_m1
    · rw [if_neg h]; exact ff18_pl z a _ ih _ _ _ (ff_b ha (by omega))
theorem ff_pl {z : SC} {a : Int32} (ha : 0 ≤ a.toInt ∧ a.toInt ≤ 10000) : pl (fAs_firstFreeFromAngle z a) := ff2_pl z a ha _ _
theorem lf2_pl (z : SC) : ∀ (n v1 : Nat), pl (fAs_leastFree_2 n z v1) := by
  intro n
  induction n with
  | zero => intro v1; exact pl_0
  | succ n ih =>
    intro v1
    rw [fAs_leastFree_2.eq_2]
    by_cases h : 200 ≤ v1
    · rw [if_pos h]; exact pl_m1
    · rw [if_neg h]
      by_cases h1 : c_taken z ((nI v1).toNatClampNeg) = true
      · rw [if_pos h1]; exact ih _
      · rw [if_neg h1]; exact pl_of (vp_in_nI (by omega) (by decide))
theorem lf_pl {z : SC} : pl (fAs_leastFree z) := lf2_pl z _ _
theorem dAs_newPlace_0 : decode ccAs_newPlace 0 = .ok (.iload_n 2, 1) := by decide +kernel
theorem dAs_newPlace_1 : decode ccAs_newPlace 1 = .ok (.ifCond .eq 11, 3) := by decide +kernel
theorem dAs_newPlace_4 : decode ccAs_newPlace 4 = .ok (.aload_n 0, 1) := by decide +kernel
theorem dAs_newPlace_5 : decode ccAs_newPlace 5 = .ok (.iload_n 1, 1) := by decide +kernel
theorem dAs_newPlace_6 : decode ccAs_newPlace 6 = .ok (.invokevirtual 123, 3) := by decide +kernel
theorem dAs_newPlace_9 : decode ccAs_newPlace 9 = .ok (.goto 7, 3) := by decide +kernel
theorem dAs_newPlace_12 : decode ccAs_newPlace 12 = .ok (.aload_n 0, 1) := by decide +kernel
theorem dAs_newPlace_13 : decode ccAs_newPlace 13 = .ok (.invokevirtual 126, 3) := by decide +kernel
theorem dAs_newPlace_16 : decode ccAs_newPlace 16 = .ok (.istore_n 3, 1) := by decide +kernel
theorem dAs_newPlace_17 : decode ccAs_newPlace 17 = .ok (.iload_n 3, 1) := by decide +kernel
theorem dAs_newPlace_18 : decode ccAs_newPlace 18 = .ok (.iconst (-1), 1) := by decide +kernel
theorem dAs_newPlace_19 : decode ccAs_newPlace 19 = .ok (.if_icmp .eq 10, 3) := by decide +kernel
theorem dAs_newPlace_22 : decode ccAs_newPlace 22 = .ok (.aload_n 0, 1) := by decide +kernel
theorem dAs_newPlace_23 : decode ccAs_newPlace 23 = .ok (.getfield 40, 3) := by decide +kernel
theorem dAs_newPlace_26 : decode ccAs_newPlace 26 = .ok (.iload_n 3, 1) := by decide +kernel
theorem dAs_newPlace_27 : decode ccAs_newPlace 27 = .ok (.iconst 1, 1) := by decide +kernel
theorem dAs_newPlace_28 : decode ccAs_newPlace 28 = .ok (.bastore, 1) := by decide +kernel
theorem dAs_newPlace_29 : decode ccAs_newPlace 29 = .ok (.iload_n 3, 1) := by decide +kernel
theorem dAs_newPlace_30 : decode ccAs_newPlace 30 = .ok (.ireturn, 1) := by decide +kernel
def fAs_newPlace_16  (z : SC) (s0 : Int32) : Int32 × SC :=
  (if s0 = ((-1) : Int32) then (s0, z) else (s0, c_taken_s z (updB (c_taken z) s0.toNatClampNeg true)))
def fAs_newPlace (z0 : SC) (a : Int32) (b : Bool) : Int32 × SC :=
  (if b = true then fAs_newPlace_16 z0 (fAs_firstFreeFromAngle z0 a) else fAs_newPlace_16 z0 (fAs_leastFree z0))
set_option maxHeartbeats 4000000 in
set_option maxRecDepth 100000 in
theorem kAs_newPlace (l : Launch) (D : va_G) (q : Nat → Nat) (cI cJ cZ : ClassId) (hq : c_inj q) (z0 : SC) (a : Int32) (b : Bool) (ha : 0 ≤ a.toInt ∧ a.toInt ≤ 10000) : Met l yAs_newPlace wsAs_newPlace { frames := 1, cells := 0, slots := 0, locals := 24 } (va_Pc [.ref (q 6), .int (a), .int (bb (b))] (c_C D q cI cJ cZ z0)) (cQw (some (.int ((fAs_newPlace z0 a b).1))) (c_W D q cI cJ cZ (fAs_newPlace z0 a b).2) (c_qs q)) 0 0 (c_qs q) := by
  refine Met.ofW (cc := ccAs_newPlace) (maxL := 4) (ret := (some .int)) (by decide +kernel) rfl ?_
  intro p e s m args below meth c s₁ B hml hv
  obtain ⟨rfl, hP, hK⟩ := hv
  have hx := B.exec
  have hb := B.bytes
  have hr := B.returns
  have hts := atoms_spec (ws := wsAs_newPlace) B.pre
  have hown : s.vm.findClass RAs = some m.cls := findClass_of_methodNamed B.named
  have hlocks := B.notSynchronized
  have w0 := hts (.fieldLink RAs 40 "DrumMachine$Assembler" "taken" "[Z") (List.mem_cons_of_mem _ wm1_154)
  have i0 : ∀ w ∈ u_ws RAs TAs 11, w ∈ wsAs_newPlace := fun w h => List.mem_cons_of_mem _ (inAAs w h)
  have hS : va_S (c_qs q) s.heap s.heap [] := va_S.rf
  have hl := lv_entry ([.ref (q 6), .int (a), .int (bb (b))]) (n := 4) (Nat.le_of_ble_eq_true rfl)
  rw [lg_entry_eq]
  generalize (lg_sl ([.ref (q 6), .int (a), .int (bb (b))]) ++ List.replicate (4 - (lg_sl ([.ref (q 6), .int (a), .int (bb (b))])).length) Slot.unset).toArray = ls at hl ⊢
  have hl : lv_has ls 4 [(0, .ref (q 6)), (1, .int (a)), (2, .int (bb (b)))] := hl
  have hB16 : ∀ (H : Heap) (locs : List Loc) (ls : Array Slot) (z : SC) (s0 : Int32), fAs_newPlace z0 a b = fAs_newPlace_16 z s0 → (pl s0) → c_W D q cI cJ cZ z H → va_S (c_qs q) s.heap H locs → lv_has ls 4 [(0, .ref (q 6))] → W p l e (headSpec wsAs_newPlace { frames := 1, cells := 0, slots := 0, locals := 24 }).room s m ([.ref (q 6), .int (a), .int (bb (b))] : List Value).toArray below meth c H locs 0 0 (MQ below (cQw (some (.int ((fAs_newPlace z0 a b).1))) (c_W D q cI cJ cZ (fAs_newPlace z0 a b).2) (c_qs q)) ([.ref (q 6), .int (a), .int (bb (b))] : List Value).toArray s 0 0 (c_qs q)) (F0 m 16 ls [.int (s0)]) := by
    intro H locs ls z s0 hR hp hP hS hl
    rw [fAs_newPlace_16.eq_1] at hR
    refine lv_istore_n (lv' := [(3, .int (s0)), (0, .ref (q 6))]) hx hb dAs_newPlace_16 rfl hl (by decide) rfl (fun ls hl => ?_)
    refine lv_iload_n hx hb dAs_newPlace_17 rfl (lv_at hl 0 rfl) ?_
    refine lv_iconst (v := (-1)) hx hb dAs_newPlace_18 (by decide) ?_
    refine lv_icmp_eq hx hb dAs_newPlace_19 rfl (fun h19 => ?_) (fun h19 => ?_)
    · have hR := hR.trans (if_pos h19)
      refine lv_iload_n hx hb dAs_newPlace_29 rfl (lv_at hl 0 rfl) ?_
      exact W.iret hx hb hr (fun t ht _ => ⟨by rw [hR]; first | done | rfl, by rw [hR, ht]; exact hP, hS.F ht⟩) hS.2.2 dAs_newPlace_30
    · have hR := hR.trans (if_neg h19)
      refine lv_aload_n hx hb dAs_newPlace_22 rfl (lv_at hl 1 rfl) ?_
      refine cg6_taken hx hb hts i0 hown hK hP w0 dAs_newPlace_23 ?_
      refine lv_iload_n hx hb dAs_newPlace_26 rfl (lv_at hl 0 rfl) ?_
      refine lv_iconst (v := 1) hx hb dAs_newPlace_27 (by decide) ?_
      refine cs_taken true hq hS hx hb hK hP (pl_in hp h19) dAs_newPlace_28 (fun H locs hP hS => ?_)
      refine lv_iload_n hx hb dAs_newPlace_29 rfl (lv_at hl 0 rfl) ?_
      exact W.iret hx hb hr (fun t ht _ => ⟨by rw [hR]; first | done | rfl, by rw [hR, ht]; exact hP, hS.F ht⟩) hS.2.2 dAs_newPlace_30
  have hR := fAs_newPlace.eq_1 z0 a b
  refine lv_iload_n hx hb dAs_newPlace_0 rfl (lv_at hl 2 rfl) ?_
  refine wz_ifeq hx hb dAs_newPlace_1 rfl (fun h1 => ?_) (fun h1 => ?_)
  · have hR := hR.trans (if_neg h1)
    refine lv_aload_n hx hb dAs_newPlace_12 rfl (lv_at hl 0 rfl) ?_
    refine cl_rd (W.runV (As := []) (rest := []) ⟨hx, hb, hml, hown, hts⟩ (kAs_leastFree l D q cI cJ cZ hq z0) (cwV 0 hts (gV wm3_27 wm3_29 ws1_10 wm1_8 wm3_30) rfl rfl rfl (by decide +kernel) ⟨Nat.le_of_ble_eq_true rfl, Nat.le_of_ble_eq_true rfl⟩) (c_preV6 hK hP) rfl rfl hl.1 rfl (lv_room (Nat.le_of_ble_eq_true rfl)) dAs_newPlace_13 ⟨Nat.le_refl _, Nat.le_refl _⟩) ?_
    exact hB16 s.heap [] ls z0 (fAs_leastFree z0) hR lf_pl hP hS (lv_sub hl [0] rfl)
  · have hR := hR.trans (if_pos h1)
    refine lv_aload_n hx hb dAs_newPlace_4 rfl (lv_at hl 0 rfl) ?_
    refine lv_iload_n hx hb dAs_newPlace_5 rfl (lv_at hl 1 rfl) ?_
    refine cl_rd (W.runV (As := [.int (a)]) (rest := []) ⟨hx, hb, hml, hown, hts⟩ (kAs_firstFreeFromAngle l D q cI cJ cZ hq z0 a ha) (cwV 1 hts (gV wm3_23 wm3_25 ws1_9 wm1_8 wm3_26) rfl rfl rfl (by decide +kernel) ⟨Nat.le_of_ble_eq_true rfl, Nat.le_of_ble_eq_true rfl⟩) (c_preV6 hK hP) rfl rfl hl.1 rfl (lv_room (Nat.le_of_ble_eq_true rfl)) dAs_newPlace_6 ⟨Nat.le_refl _, Nat.le_refl _⟩) ?_
    refine lv_goto hx hb dAs_newPlace_9 rfl ?_
    exact hB16 s.heap [] ls z0 (fAs_firstFreeFromAngle z0 a) hR (ff_pl ha) hP hS (lv_sub hl [0] rfl)
theorem dAs_placePart_0 : decode ccAs_placePart 0 = .ok (.iload_n 1, 1) := by decide +kernel
theorem dAs_placePart_1 : decode ccAs_placePart 1 = .ok (.invokestatic 53, 3) := by decide +kernel
theorem dAs_placePart_4 : decode ccAs_placePart 4 = .ok (.ifCond .ne 5, 3) := by decide +kernel
theorem dAs_placePart_7 : decode ccAs_placePart 7 = .ok (.iload_n 1, 1) := by decide +kernel
theorem dAs_placePart_8 : decode ccAs_placePart 8 = .ok (.ireturn, 1) := by decide +kernel
theorem dAs_placePart_9 : decode ccAs_placePart 9 = .ok (.iload_n 1, 1) := by decide +kernel
theorem dAs_placePart_10 : decode ccAs_placePart 10 = .ok (.sipush 1000, 3) := by decide +kernel
theorem dAs_placePart_13 : decode ccAs_placePart 13 = .ok (.isub, 1) := by decide +kernel
theorem dAs_placePart_14 : decode ccAs_placePart 14 = .ok (.istore 4, 2) := by decide +kernel
theorem dAs_placePart_16 : decode ccAs_placePart 16 = .ok (.aload_n 0, 1) := by decide +kernel
theorem dAs_placePart_17 : decode ccAs_placePart 17 = .ok (.getfield 31, 3) := by decide +kernel
theorem dAs_placePart_20 : decode ccAs_placePart 20 = .ok (.iload 4, 2) := by decide +kernel
theorem dAs_placePart_22 : decode ccAs_placePart 22 = .ok (.iaload, 1) := by decide +kernel
theorem dAs_placePart_23 : decode ccAs_placePart 23 = .ok (.iconst (-1), 1) := by decide +kernel
theorem dAs_placePart_24 : decode ccAs_placePart 24 = .ok (.if_icmp .ne 16, 3) := by decide +kernel
theorem dAs_placePart_27 : decode ccAs_placePart 27 = .ok (.aload_n 0, 1) := by decide +kernel
theorem dAs_placePart_28 : decode ccAs_placePart 28 = .ok (.getfield 31, 3) := by decide +kernel
theorem dAs_placePart_31 : decode ccAs_placePart 31 = .ok (.iload 4, 2) := by decide +kernel
theorem dAs_placePart_33 : decode ccAs_placePart 33 = .ok (.aload_n 0, 1) := by decide +kernel
theorem dAs_placePart_34 : decode ccAs_placePart 34 = .ok (.iload_n 2, 1) := by decide +kernel
theorem dAs_placePart_35 : decode ccAs_placePart 35 = .ok (.iload_n 3, 1) := by decide +kernel
theorem dAs_placePart_36 : decode ccAs_placePart 36 = .ok (.invokevirtual 109, 3) := by decide +kernel
theorem dAs_placePart_39 : decode ccAs_placePart 39 = .ok (.iastore, 1) := by decide +kernel
theorem dAs_placePart_40 : decode ccAs_placePart 40 = .ok (.aload_n 0, 1) := by decide +kernel
theorem dAs_placePart_41 : decode ccAs_placePart 41 = .ok (.getfield 31, 3) := by decide +kernel
theorem dAs_placePart_44 : decode ccAs_placePart 44 = .ok (.iload 4, 2) := by decide +kernel
theorem dAs_placePart_46 : decode ccAs_placePart 46 = .ok (.iaload, 1) := by decide +kernel
theorem dAs_placePart_47 : decode ccAs_placePart 47 = .ok (.ireturn, 1) := by decide +kernel
def fAs_placePart_40  (z : SC) (v4 : Int32) : Int32 × SC :=
  (c_syms z v4.toNatClampNeg, z)
def fAs_placePart_16  (z : SC) (x : Int32) (b : Bool) (v4 : Int32) : Int32 × SC :=
  (if (c_syms z v4.toNatClampNeg) = ((-1) : Int32) then fAs_placePart_40 (c_syms_s ((fAs_newPlace z x b).2) (upd (c_syms ((fAs_newPlace z x b).2)) v4.toNatClampNeg ((fAs_newPlace z x b).1))) v4 else fAs_placePart_40 z v4)
def fAs_placePart (z0 : SC) (a : Int32) (x : Int32) (b : Bool) : Int32 × SC :=
  (if (fAs_isSymbol a) = true then fAs_placePart_16 z0 x b (a - 1000) else (a, z0))
set_option maxHeartbeats 4000000 in
set_option maxRecDepth 100000 in
theorem kAs_placePart (l : Launch) (D : va_G) (q : Nat → Nat) (cI cJ cZ : ClassId) (hq : c_inj q) (z0 : SC) (a : Int32) (x : Int32) (b : Bool) (hx9 : 0 ≤ x.toInt ∧ x.toInt ≤ 10000) : Met l yAs_placePart wsAs_placePart { frames := 2, cells := 0, slots := 0, locals := 47 } (va_Pc [.ref (q 6), .int (a), .int (x), .int (bb (b))] (c_C D q cI cJ cZ z0)) (cQw (some (.int ((fAs_placePart z0 a x b).1))) (c_W D q cI cJ cZ (fAs_placePart z0 a x b).2) (c_qs q)) 0 0 (c_qs q) := by
  refine Met.ofW (cc := ccAs_placePart) (maxL := 5) (ret := (some .int)) (by decide +kernel) rfl ?_
  intro p e s m args below meth c s₁ B hml hv
  obtain ⟨rfl, hP, hK⟩ := hv
  have hx := B.exec
  have hb := B.bytes
  have hr := B.returns
  have hts := atoms_spec (ws := wsAs_placePart) B.pre
  have hown : s.vm.findClass RAs = some m.cls := findClass_of_methodNamed B.named
  have hlocks := B.notSynchronized
  have w0 := hts (.fieldLink RAs 31 "DrumMachine$Assembler" "symbolPlaces" "[I") (List.mem_cons_of_mem _ wm1_152)
  have i0 : ∀ w ∈ u_ws RAs TAs 11, w ∈ wsAs_placePart := fun w h => List.mem_cons_of_mem _ (inAAs w h)
  have hS : va_S (c_qs q) s.heap s.heap [] := va_S.rf
  have hl := lv_entry ([.ref (q 6), .int (a), .int (x), .int (bb (b))]) (n := 5) (Nat.le_of_ble_eq_true rfl)
  rw [lg_entry_eq]
  generalize (lg_sl ([.ref (q 6), .int (a), .int (x), .int (bb (b))]) ++ List.replicate (5 - (lg_sl ([.ref (q 6), .int (a), .int (x), .int (bb (b))])).length) Slot.unset).toArray = ls at hl ⊢
  have hl : lv_has ls 5 [(0, .ref (q 6)), (1, .int (a)), (2, .int (x)), (3, .int (bb (b)))] := hl
  have hB40 : ∀ (H : Heap) (locs : List Loc) (ls : Array Slot) (z : SC) (v4 : Int32), fAs_placePart z0 a x b = fAs_placePart_40 z v4 → (vp_in v4 20) → c_W D q cI cJ cZ z H → va_S (c_qs q) s.heap H locs → lv_has ls 5 [(0, .ref (q 6)), (4, .int (v4))] → W p l e (headSpec wsAs_placePart { frames := 2, cells := 0, slots := 0, locals := 47 }).room s m ([.ref (q 6), .int (a), .int (x), .int (bb (b))] : List Value).toArray below meth c H locs 0 0 (MQ below (cQw (some (.int ((fAs_placePart z0 a x b).1))) (c_W D q cI cJ cZ (fAs_placePart z0 a x b).2) (c_qs q)) ([.ref (q 6), .int (a), .int (x), .int (bb (b))] : List Value).toArray s 0 0 (c_qs q)) (F0 m 40 ls []) := by
    intro H locs ls z v4 hR hs hP hS hl
    rw [fAs_placePart_40.eq_1] at hR
    refine lv_aload_n hx hb dAs_placePart_40 rfl (lv_at hl 0 rfl) ?_
    refine cg6_symbolPlaces hx hb hts i0 hown hK hP w0 dAs_placePart_41 ?_
    refine lv_iload hx hb dAs_placePart_44 (lv_at hl 1 rfl) ?_
    refine cl_syms hx hb hK hP hs dAs_placePart_46 ?_
    exact W.iret hx hb hr (fun t ht _ => ⟨by rw [hR]; first | done | rfl, by rw [hR, ht]; exact hP, hS.F ht⟩) hS.2.2 dAs_placePart_47
  have hB16 : ∀ (H : Heap) (locs : List Loc) (ls : Array Slot) (z : SC) (v4 : Int32), fAs_placePart z0 a x b = fAs_placePart_16 z x b v4 → (vp_in v4 20) → c_W D q cI cJ cZ z H → va_S (c_qs q) s.heap H locs → lv_has ls 5 [(0, .ref (q 6)), (2, .int (x)), (3, .int (bb (b))), (4, .int (v4))] → W p l e (headSpec wsAs_placePart { frames := 2, cells := 0, slots := 0, locals := 47 }).room s m ([.ref (q 6), .int (a), .int (x), .int (bb (b))] : List Value).toArray below meth c H locs 0 0 (MQ below (cQw (some (.int ((fAs_placePart z0 a x b).1))) (c_W D q cI cJ cZ (fAs_placePart z0 a x b).2) (c_qs q)) ([.ref (q 6), .int (a), .int (x), .int (bb (b))] : List Value).toArray s 0 0 (c_qs q)) (F0 m 16 ls []) := by
    intro H locs ls z v4 hR hs hP hS hl
    rw [fAs_placePart_16.eq_1] at hR
    refine lv_aload_n hx hb dAs_placePart_16 rfl (lv_at hl 0 rfl) ?_
    refine cg6_symbolPlaces hx hb hts i0 hown hK hP w0 dAs_placePart_17 ?_
    refine lv_iload hx hb dAs_placePart_20 (lv_at hl 3 rfl) ?_
    refine cl_syms hx hb hK hP hs dAs_placePart_22 ?_
    refine lv_iconst (v := (-1)) hx hb dAs_placePart_23 (by decide) ?_
    refine lv_icmp_ne hx hb dAs_placePart_24 rfl (fun h24 => ?_) (fun h24 => ?_)
    · have hR := hR.trans (if_neg h24)
      exact hB40 H locs ls z v4 hR (by first | assumption | omega) hP hS (lv_sub hl [0, 3] rfl)
    · have hR := hR.trans (if_pos h24)
      refine lv_aload_n hx hb dAs_placePart_27 rfl (lv_at hl 0 rfl) ?_
      refine cg6_symbolPlaces hx hb hts i0 hown hK hP w0 dAs_placePart_28 ?_
      refine lv_iload hx hb dAs_placePart_31 (lv_at hl 3 rfl) ?_
      refine lv_aload_n hx hb dAs_placePart_33 rfl (lv_at hl 0 rfl) ?_
      refine lv_iload_n hx hb dAs_placePart_34 rfl (lv_at hl 1 rfl) ?_
      refine lv_iload_n hx hb dAs_placePart_35 rfl (lv_at hl 2 rfl) ?_
      refine cl_wr (W.runV (As := [.int (x), .int (bb (b))]) (rest := [.int (v4), .ref (q 20)]) ⟨hx, hb, hml, hown, hts⟩ (kAs_newPlace l D q cI cJ cZ hq z x b hx9) (cwV 2 hts (gV wm3_19 wm3_21 ws1_8 wm1_8 wm3_22) rfl rfl rfl (by decide +kernel) ⟨Nat.le_of_ble_eq_true rfl, Nat.le_of_ble_eq_true rfl⟩) (c_preV6 hK hP) rfl rfl hl.1 rfl (lv_room (Nat.le_of_ble_eq_true rfl)) dAs_placePart_36 ⟨Nat.le_refl _, Nat.le_refl _⟩) hS (fun _ h => h) (fun _ h => h) (fun H locs hP hS => ?_)
      refine cs_syms ((fAs_newPlace z x b).1) hq hS hx hb hK hP hs dAs_placePart_39 (fun H locs hP hS => ?_)
      exact hB40 H locs ls (c_syms_s ((fAs_newPlace z x b).2) (upd (c_syms ((fAs_newPlace z x b).2)) v4.toNatClampNeg ((fAs_newPlace z x b).1))) v4 hR (by first | assumption | omega) hP hS (lv_sub hl [0, 3] rfl)
  have hR := fAs_placePart.eq_1 z0 a x b
  refine lv_iload_n hx hb dAs_placePart_0 rfl (lv_at hl 1 rfl) ?_
  refine cl_rd (W.runS (As := [.int (a)]) (rest := []) ⟨hx, hb, hml, hown, hts⟩ (kAs_isSymbol l a) (va_cwS 1 hts (gS wm2_191 wm2_192 wm1_8 wm2_193) rfl rfl rfl (by decide +kernel) ⟨Nat.le_of_ble_eq_true rfl, Nat.le_of_ble_eq_true rfl⟩) (preT) rfl rfl hl.1 rfl (lv_room (Nat.le_of_ble_eq_true rfl)) dAs_placePart_1 ⟨Nat.le_refl _, Nat.le_refl _⟩) ?_
  refine wz_ifne hx hb dAs_placePart_4 rfl (fun h4 => ?_) (fun h4 => ?_)
  · have hR := hR.trans (if_pos h4)
    refine lv_iload_n hx hb dAs_placePart_9 rfl (lv_at hl 1 rfl) ?_
    refine lv_sipush (v := 1000) hx hb dAs_placePart_10 (by decide) ?_
    refine lv_isub hx hb dAs_placePart_13 ?_
    refine lv_istore (lv' := [(4, .int (a - 1000)), (0, .ref (q 6)), (1, .int (a)), (2, .int (x)), (3, .int (bb (b)))]) hx hb dAs_placePart_14 hl (by decide) rfl (fun ls hl => ?_)
    exact hB16 s.heap [] ls z0 (a - 1000) hR (sy_in h4) hP hS (lv_sub hl [1, 3, 4, 0] rfl)
  · have hR := hR.trans (if_neg h4)
    refine lv_iload_n hx hb dAs_placePart_7 rfl (lv_at hl 1 rfl) ?_
    exact W.iret hx hb hr (fun t ht _ => ⟨by rw [hR]; first | done | rfl, by rw [hR, ht]; exact hP, hS.F ht⟩) hS.2.2 dAs_placePart_8
theorem dAs_bestForNext_0 : decode ccAs_bestForNext 0 = .ok (.aload_n 0, 1) := by decide +kernel
theorem dAs_bestForNext_1 : decode ccAs_bestForNext 1 = .ok (.getfield 13, 3) := by decide +kernel
theorem dAs_bestForNext_4 : decode ccAs_bestForNext 4 = .ok (.iload_n 1, 1) := by decide +kernel
theorem dAs_bestForNext_5 : decode ccAs_bestForNext 5 = .ok (.iaload, 1) := by decide +kernel
theorem dAs_bestForNext_6 : decode ccAs_bestForNext 6 = .ok (.istore_n 2, 1) := by decide +kernel
theorem dAs_bestForNext_7 : decode ccAs_bestForNext 7 = .ok (.iload_n 2, 1) := by decide +kernel
theorem dAs_bestForNext_8 : decode ccAs_bestForNext 8 = .ok (.invokestatic 116, 3) := by decide +kernel
theorem dAs_bestForNext_11 : decode ccAs_bestForNext 11 = .ok (.ifCond .eq 12, 3) := by decide +kernel
theorem dAs_bestForNext_14 : decode ccAs_bestForNext 14 = .ok (.aload_n 0, 1) := by decide +kernel
theorem dAs_bestForNext_15 : decode ccAs_bestForNext 15 = .ok (.getfield 25, 3) := by decide +kernel
theorem dAs_bestForNext_18 : decode ccAs_bestForNext 18 = .ok (.iload_n 1, 1) := by decide +kernel
theorem dAs_bestForNext_19 : decode ccAs_bestForNext 19 = .ok (.iaload, 1) := by decide +kernel
theorem dAs_bestForNext_20 : decode ccAs_bestForNext 20 = .ok (.goto 9, 3) := by decide +kernel
theorem dAs_bestForNext_23 : decode ccAs_bestForNext 23 = .ok (.aload_n 0, 1) := by decide +kernel
theorem dAs_bestForNext_24 : decode ccAs_bestForNext 24 = .ok (.getfield 22, 3) := by decide +kernel
theorem dAs_bestForNext_27 : decode ccAs_bestForNext 27 = .ok (.iload_n 1, 1) := by decide +kernel
theorem dAs_bestForNext_28 : decode ccAs_bestForNext 28 = .ok (.iaload, 1) := by decide +kernel
theorem dAs_bestForNext_29 : decode ccAs_bestForNext 29 = .ok (.istore_n 3, 1) := by decide +kernel
theorem dAs_bestForNext_30 : decode ccAs_bestForNext 30 = .ok (.iload_n 3, 1) := by decide +kernel
theorem dAs_bestForNext_31 : decode ccAs_bestForNext 31 = .ok (.iconst 1, 1) := by decide +kernel
theorem dAs_bestForNext_32 : decode ccAs_bestForNext 32 = .ok (.iadd, 1) := by decide +kernel
theorem dAs_bestForNext_33 : decode ccAs_bestForNext 33 = .ok (.iload_n 2, 1) := by decide +kernel
theorem dAs_bestForNext_34 : decode ccAs_bestForNext 34 = .ok (.aload_n 0, 1) := by decide +kernel
theorem dAs_bestForNext_35 : decode ccAs_bestForNext 35 = .ok (.getfield 25, 3) := by decide +kernel
theorem dAs_bestForNext_38 : decode ccAs_bestForNext 38 = .ok (.iload_n 1, 1) := by decide +kernel
theorem dAs_bestForNext_39 : decode ccAs_bestForNext 39 = .ok (.iaload, 1) := by decide +kernel
theorem dAs_bestForNext_40 : decode ccAs_bestForNext 40 = .ok (.invokestatic 119, 3) := by decide +kernel
theorem dAs_bestForNext_43 : decode ccAs_bestForNext 43 = .ok (.iadd, 1) := by decide +kernel
theorem dAs_bestForNext_44 : decode ccAs_bestForNext 44 = .ok (.ireturn, 1) := by decide +kernel
def fAs_bestForNext_29  (z0 : SC) (s0 : Int32) (a : Int32) (v2 : Int32) : Int32 :=
  (s0 + 1) + (fOp_fixedTime v2 (c_dat z0 a.toNatClampNeg))
def fAs_bestForNext (z0 : SC) (a : Int32) : Int32 :=
  (if (fOp_accessesData (c_ops z0 a.toNatClampNeg)) = true then fAs_bestForNext_29 z0 (c_dat z0 a.toNatClampNeg) a (c_ops z0 a.toNatClampNeg) else fAs_bestForNext_29 z0 (c_locs z0 a.toNatClampNeg) a (c_ops z0 a.toNatClampNeg))
set_option maxHeartbeats 4000000 in
set_option maxRecDepth 100000 in
theorem kAs_bestForNext (l : Launch) (D : va_G) (q : Nat → Nat) (cI cJ cZ : ClassId) (hq : c_inj q) (z0 : SC) (a : Int32) (ha : vp_in a 40) : Met l yAs_bestForNext wsAs_bestForNext { frames := 3, cells := 0, slots := 0, locals := 63 } (va_Pc [.ref (q 6), .int (a)] (c_C D q cI cJ cZ z0)) (cQr (some (.int (fAs_bestForNext z0 a)))) 0 0 (fun _ => False) := by
  refine Met.ofW (cc := ccAs_bestForNext) (maxL := 4) (ret := (some .int)) (by decide +kernel) rfl ?_
  intro p e s m args below meth c s₁ B hml hv
  obtain ⟨rfl, hP, hK⟩ := hv
  have hx := B.exec
  have hb := B.bytes
  have hr := B.returns
  have hts := atoms_spec (ws := wsAs_bestForNext) B.pre
  have hown : s.vm.findClass RAs = some m.cls := findClass_of_methodNamed B.named
  have hlocks := B.notSynchronized
  have w0 := hts (.fieldLink RAs 25 "DrumMachine$Assembler" "data" "[I") (List.mem_cons_of_mem _ wm1_150)
  have w1 := hts (.fieldLink RAs 13 "DrumMachine$Assembler" "operations" "[I") (List.mem_cons_of_mem _ wm1_146)
  have w2 := hts (.fieldLink RAs 22 "DrumMachine$Assembler" "locations" "[I") (List.mem_cons_of_mem _ wm1_149)
  have i0 : ∀ w ∈ u_ws RAs TAs 11, w ∈ wsAs_bestForNext := fun w h => List.mem_cons_of_mem _ (inAAs w h)
  have hl := lv_entry ([.ref (q 6), .int (a)]) (n := 4) (Nat.le_of_ble_eq_true rfl)
  rw [lg_entry_eq]
  generalize (lg_sl ([.ref (q 6), .int (a)]) ++ List.replicate (4 - (lg_sl ([.ref (q 6), .int (a)])).length) Slot.unset).toArray = ls at hl ⊢
  have hl : lv_has ls 4 [(0, .ref (q 6)), (1, .int (a))] := hl
  have hB29 : ∀ (ls : Array Slot) (s0 : Int32) (v2 : Int32), fAs_bestForNext z0 a = fAs_bestForNext_29 z0 s0 a v2 → lv_has ls 4 [(0, .ref (q 6)), (1, .int (a)), (2, .int (v2))] → W p l e (headSpec wsAs_bestForNext { frames := 3, cells := 0, slots := 0, locals := 63 }).room s m ([.ref (q 6), .int (a)] : List Value).toArray below meth c s.heap [] 0 0 (MQ below (cQr (some (.int (fAs_bestForNext z0 a)))) ([.ref (q 6), .int (a)] : List Value).toArray s 0 0 (fun _ => False)) (F0 m 29 ls [.int (s0)]) := by
    intro ls s0 v2 hR hl
    rw [fAs_bestForNext_29.eq_1] at hR
    refine lv_istore_n (lv' := [(3, .int (s0)), (0, .ref (q 6)), (1, .int (a)), (2, .int (v2))]) hx hb dAs_bestForNext_29 rfl hl (by decide) rfl (fun ls hl => ?_)
    refine lv_iload_n hx hb dAs_bestForNext_30 rfl (lv_at hl 0 rfl) ?_
    refine lv_iconst (v := 1) hx hb dAs_bestForNext_31 (by decide) ?_
    refine lv_iadd hx hb dAs_bestForNext_32 ?_
    refine lv_iload_n hx hb dAs_bestForNext_33 rfl (lv_at hl 3 rfl) ?_
    refine lv_aload_n hx hb dAs_bestForNext_34 rfl (lv_at hl 1 rfl) ?_
    refine cg6_data hx hb hts i0 hown hK hP w0 dAs_bestForNext_35 ?_
    refine lv_iload_n hx hb dAs_bestForNext_38 rfl (lv_at hl 2 rfl) ?_
    refine cl_dat hx hb hK hP ha dAs_bestForNext_39 ?_
    refine cl_rd (W.runS (As := [.int (v2), .int ((c_dat z0 a.toNatClampNeg))]) (rest := [.int (s0 + 1)]) ⟨hx, hb, hml, hown, hts⟩ (kOp_fixedTime l v2 (c_dat z0 a.toNatClampNeg)) (va_cwS 2 hts (gS wm3_46 wm3_47 wm1_17 wm3_48) rfl rfl rfl (by decide +kernel) ⟨Nat.le_of_ble_eq_true rfl, Nat.le_of_ble_eq_true rfl⟩) (preT) rfl rfl hl.1 rfl (lv_room (Nat.le_of_ble_eq_true rfl)) dAs_bestForNext_40 ⟨Nat.le_refl _, Nat.le_refl _⟩) ?_
    refine lv_iadd hx hb dAs_bestForNext_43 ?_
    exact W.iret hx hb hr (fun t ht _ => ⟨by rw [hR]; first | done | rfl, ht⟩) (fun _ h => absurd h List.not_mem_nil) dAs_bestForNext_44
  have hR := fAs_bestForNext.eq_1 z0 a
  refine lv_aload_n hx hb dAs_bestForNext_0 rfl (lv_at hl 0 rfl) ?_
  refine cg6_operations hx hb hts i0 hown hK hP w1 dAs_bestForNext_1 ?_
  refine lv_iload_n hx hb dAs_bestForNext_4 rfl (lv_at hl 1 rfl) ?_
  refine cl_ops hx hb hK hP ha dAs_bestForNext_5 ?_
  refine lv_istore_n (lv' := [(2, .int (c_ops z0 a.toNatClampNeg)), (0, .ref (q 6)), (1, .int (a))]) hx hb dAs_bestForNext_6 rfl hl (by decide) rfl (fun ls hl => ?_)
  refine lv_iload_n hx hb dAs_bestForNext_7 rfl (lv_at hl 0 rfl) ?_
  refine cl_rd (W.runS (As := [.int ((c_ops z0 a.toNatClampNeg))]) (rest := []) ⟨hx, hb, hml, hown, hts⟩ (kOp_accessesData l (c_ops z0 a.toNatClampNeg)) (va_cwS 1 hts (gS wm3_43 wm3_44 wm1_17 wm3_45) rfl rfl rfl (by decide +kernel) ⟨Nat.le_of_ble_eq_true rfl, Nat.le_of_ble_eq_true rfl⟩) (preT) rfl rfl hl.1 rfl (lv_room (Nat.le_of_ble_eq_true rfl)) dAs_bestForNext_8 ⟨Nat.le_refl _, Nat.le_refl _⟩) ?_
  refine wz_ifeq hx hb dAs_bestForNext_11 rfl (fun h11 => ?_) (fun h11 => ?_)
  · have hR := hR.trans (if_neg h11)
    refine lv_aload_n hx hb dAs_bestForNext_23 rfl (lv_at hl 1 rfl) ?_
    refine cg6_locations hx hb hts i0 hown hK hP w2 dAs_bestForNext_24 ?_
    refine lv_iload_n hx hb dAs_bestForNext_27 rfl (lv_at hl 2 rfl) ?_
    refine cl_locs hx hb hK hP ha dAs_bestForNext_28 ?_
    exact hB29 ls (c_locs z0 a.toNatClampNeg) (c_ops z0 a.toNatClampNeg) hR (lv_sub hl [1, 2, 0] rfl)
  · have hR := hR.trans (if_pos h11)
    refine lv_aload_n hx hb dAs_bestForNext_14 rfl (lv_at hl 1 rfl) ?_
    refine cg6_data hx hb hts i0 hown hK hP w0 dAs_bestForNext_15 ?_
    refine lv_iload_n hx hb dAs_bestForNext_18 rfl (lv_at hl 2 rfl) ?_
    refine cl_dat hx hb hK hP ha dAs_bestForNext_19 ?_
    refine lv_goto hx hb dAs_bestForNext_20 rfl ?_
    exact hB29 ls (c_dat z0 a.toNatClampNeg) (c_ops z0 a.toNatClampNeg) hR (lv_sub hl [1, 2, 0] rfl)
theorem dAs_placeLocation_0 : decode ccAs_placeLocation 0 = .ok (.aload_n 0, 1) := by decide +kernel
theorem dAs_placeLocation_1 : decode ccAs_placeLocation 1 = .ok (.getfield 9, 3) := by decide +kernel
theorem dAs_placeLocation_4 : decode ccAs_placeLocation 4 = .ok (.iload_n 1, 1) := by decide +kernel
theorem dAs_placeLocation_5 : decode ccAs_placeLocation 5 = .ok (.iaload, 1) := by decide +kernel
theorem dAs_placeLocation_6 : decode ccAs_placeLocation 6 = .ok (.istore_n 3, 1) := by decide +kernel
theorem dAs_placeLocation_7 : decode ccAs_placeLocation 7 = .ok (.iload_n 3, 1) := by decide +kernel
theorem dAs_placeLocation_8 : decode ccAs_placeLocation 8 = .ok (.iconst (-1), 1) := by decide +kernel
theorem dAs_placeLocation_9 : decode ccAs_placeLocation 9 = .ok (.if_icmp .eq 11, 3) := by decide +kernel
theorem dAs_placeLocation_12 : decode ccAs_placeLocation 12 = .ok (.aload_n 0, 1) := by decide +kernel
theorem dAs_placeLocation_13 : decode ccAs_placeLocation 13 = .ok (.iload_n 3, 1) := by decide +kernel
theorem dAs_placeLocation_14 : decode ccAs_placeLocation 14 = .ok (.iconst 0, 1) := by decide +kernel
theorem dAs_placeLocation_15 : decode ccAs_placeLocation 15 = .ok (.iload_n 2, 1) := by decide +kernel
theorem dAs_placeLocation_16 : decode ccAs_placeLocation 16 = .ok (.invokevirtual 105, 3) := by decide +kernel
theorem dAs_placeLocation_19 : decode ccAs_placeLocation 19 = .ok (.ireturn, 1) := by decide +kernel
theorem dAs_placeLocation_20 : decode ccAs_placeLocation 20 = .ok (.iload_n 1, 1) := by decide +kernel
theorem dAs_placeLocation_21 : decode ccAs_placeLocation 21 = .ok (.ifCond .le 24, 3) := by decide +kernel
theorem dAs_placeLocation_24 : decode ccAs_placeLocation 24 = .ok (.aload_n 0, 1) := by decide +kernel
theorem dAs_placeLocation_25 : decode ccAs_placeLocation 25 = .ok (.getfield 19, 3) := by decide +kernel
theorem dAs_placeLocation_28 : decode ccAs_placeLocation 28 = .ok (.iload_n 1, 1) := by decide +kernel
theorem dAs_placeLocation_29 : decode ccAs_placeLocation 29 = .ok (.iconst 1, 1) := by decide +kernel
theorem dAs_placeLocation_30 : decode ccAs_placeLocation 30 = .ok (.isub, 1) := by decide +kernel
theorem dAs_placeLocation_31 : decode ccAs_placeLocation 31 = .ok (.iaload, 1) := by decide +kernel
theorem dAs_placeLocation_32 : decode ccAs_placeLocation 32 = .ok (.iconst (-1), 1) := by decide +kernel
theorem dAs_placeLocation_33 : decode ccAs_placeLocation 33 = .ok (.if_icmp .ne 12, 3) := by decide +kernel
theorem dAs_placeLocation_36 : decode ccAs_placeLocation 36 = .ok (.aload_n 0, 1) := by decide +kernel
theorem dAs_placeLocation_37 : decode ccAs_placeLocation 37 = .ok (.getfield 28, 3) := by decide +kernel
theorem dAs_placeLocation_40 : decode ccAs_placeLocation 40 = .ok (.iload_n 1, 1) := by decide +kernel
theorem dAs_placeLocation_41 : decode ccAs_placeLocation 41 = .ok (.iconst 1, 1) := by decide +kernel
theorem dAs_placeLocation_42 : decode ccAs_placeLocation 42 = .ok (.isub, 1) := by decide +kernel
theorem dAs_placeLocation_43 : decode ccAs_placeLocation 43 = .ok (.iaload, 1) := by decide +kernel
theorem dAs_placeLocation_44 : decode ccAs_placeLocation 44 = .ok (.ireturn, 1) := by decide +kernel
theorem dAs_placeLocation_45 : decode ccAs_placeLocation 45 = .ok (.aload_n 0, 1) := by decide +kernel
theorem dAs_placeLocation_46 : decode ccAs_placeLocation 46 = .ok (.iconst 0, 1) := by decide +kernel
theorem dAs_placeLocation_47 : decode ccAs_placeLocation 47 = .ok (.iload_n 2, 1) := by decide +kernel
theorem dAs_placeLocation_48 : decode ccAs_placeLocation 48 = .ok (.invokevirtual 109, 3) := by decide +kernel
theorem dAs_placeLocation_51 : decode ccAs_placeLocation 51 = .ok (.ireturn, 1) := by decide +kernel
def fAs_placeLocation (z0 : SC) (a : Int32) (b : Bool) : Int32 × SC :=
  (if (c_lparts z0 a.toNatClampNeg) = ((-1) : Int32) then (if a ≤ 0 then ((fAs_newPlace z0 0 b).1, (fAs_newPlace z0 0 b).2) else (if (c_nparts z0 ((a - 1).toNatClampNeg)) = ((-1) : Int32) then (c_nexts z0 ((a - 1).toNatClampNeg), z0) else ((fAs_newPlace z0 0 b).1, (fAs_newPlace z0 0 b).2))) else ((fAs_placePart z0 (c_lparts z0 a.toNatClampNeg) 0 b).1, (fAs_placePart z0 (c_lparts z0 a.toNatClampNeg) 0 b).2))
set_option maxHeartbeats 4000000 in
set_option maxRecDepth 100000 in
theorem kAs_placeLocation (l : Launch) (D : va_G) (q : Nat → Nat) (cI cJ cZ : ClassId) (hq : c_inj q) (z0 : SC) (a : Int32) (b : Bool) (ha : vp_in a 40) : Met l yAs_placeLocation wsAs_placeLocation { frames := 3, cells := 0, slots := 0, locals := 71 } (va_Pc [.ref (q 6), .int (a), .int (bb (b))] (c_C D q cI cJ cZ z0)) (cQw (some (.int ((fAs_placeLocation z0 a b).1))) (c_W D q cI cJ cZ (fAs_placeLocation z0 a b).2) (c_qs q)) 0 0 (c_qs q) := by
  refine Met.ofW (cc := ccAs_placeLocation) (maxL := 4) (ret := (some .int)) (by decide +kernel) rfl ?_
  intro p e s m args below meth c s₁ B hml hv
  obtain ⟨rfl, hP, hK⟩ := hv
  have hx := B.exec
  have hb := B.bytes
  have hr := B.returns
  have hts := atoms_spec (ws := wsAs_placeLocation) B.pre
  have hown : s.vm.findClass RAs = some m.cls := findClass_of_methodNamed B.named
  have hlocks := B.notSynchronized
  have w0 := hts (.fieldLink RAs 9 "DrumMachine$Assembler" "locationParts" "[I") (List.mem_cons_of_mem _ wm1_145)
  have w1 := hts (.fieldLink RAs 19 "DrumMachine$Assembler" "nextParts" "[I") (List.mem_cons_of_mem _ wm1_148)
  have w2 := hts (.fieldLink RAs 28 "DrumMachine$Assembler" "nexts" "[I") (List.mem_cons_of_mem _ wm1_151)
  have i0 : ∀ w ∈ u_ws RAs TAs 11, w ∈ wsAs_placeLocation := fun w h => List.mem_cons_of_mem _ (inAAs w h)
  have hS : va_S (c_qs q) s.heap s.heap [] := va_S.rf
  have hl := lv_entry ([.ref (q 6), .int (a), .int (bb (b))]) (n := 4) (Nat.le_of_ble_eq_true rfl)
  rw [lg_entry_eq]
  generalize (lg_sl ([.ref (q 6), .int (a), .int (bb (b))]) ++ List.replicate (4 - (lg_sl ([.ref (q 6), .int (a), .int (bb (b))])).length) Slot.unset).toArray = ls at hl ⊢
  have hl : lv_has ls 4 [(0, .ref (q 6)), (1, .int (a)), (2, .int (bb (b)))] := hl
  have hR := fAs_placeLocation.eq_1 z0 a b
  refine lv_aload_n hx hb dAs_placeLocation_0 rfl (lv_at hl 0 rfl) ?_
  refine cg6_locationParts hx hb hts i0 hown hK hP w0 dAs_placeLocation_1 ?_
  refine lv_iload_n hx hb dAs_placeLocation_4 rfl (lv_at hl 1 rfl) ?_
  refine cl_lparts hx hb hK hP ha dAs_placeLocation_5 ?_
  refine lv_istore_n (lv' := [(3, .int (c_lparts z0 a.toNatClampNeg)), (0, .ref (q 6)), (1, .int (a)), (2, .int (bb (b)))]) hx hb dAs_placeLocation_6 rfl hl (by decide) rfl (fun ls hl => ?_)
  refine lv_iload_n hx hb dAs_placeLocation_7 rfl (lv_at hl 0 rfl) ?_
  refine lv_iconst (v := (-1)) hx hb dAs_placeLocation_8 (by decide) ?_
  refine lv_icmp_eq hx hb dAs_placeLocation_9 rfl (fun h9 => ?_) (fun h9 => ?_)
  · have hR := hR.trans (if_pos h9)
    refine lv_iload_n hx hb dAs_placeLocation_20 rfl (lv_at hl 2 rfl) ?_
    refine lv_if_le hx hb dAs_placeLocation_21 rfl (fun h21 => ?_) (fun h21 => ?_)
    · have hR := hR.trans (if_pos h21)
      refine lv_aload_n hx hb dAs_placeLocation_45 rfl (lv_at hl 1 rfl) ?_
      refine lv_iconst (v := 0) hx hb dAs_placeLocation_46 (by decide) ?_
      refine lv_iload_n hx hb dAs_placeLocation_47 rfl (lv_at hl 3 rfl) ?_
      refine cl_wr (W.runV (As := [.int (0), .int (bb (b))]) (rest := []) ⟨hx, hb, hml, hown, hts⟩ (kAs_newPlace l D q cI cJ cZ hq z0 0 b (by decide)) (cwV 2 hts (gV wm3_19 wm3_21 ws1_8 wm1_8 wm3_22) rfl rfl rfl (by decide +kernel) ⟨Nat.le_of_ble_eq_true rfl, Nat.le_of_ble_eq_true rfl⟩) (c_preV6 hK hP) rfl rfl hl.1 rfl (lv_room (Nat.le_of_ble_eq_true rfl)) dAs_placeLocation_48 ⟨Nat.le_refl _, Nat.le_refl _⟩) hS (fun _ h => h) (fun _ h => h) (fun H locs hP hS => ?_)
      exact W.iret hx hb hr (fun t ht _ => ⟨by rw [hR]; first | done | rfl, by rw [hR, ht]; exact hP, hS.F ht⟩) hS.2.2 dAs_placeLocation_51
    · have hR := hR.trans (if_neg h21)
      refine lv_aload_n hx hb dAs_placeLocation_24 rfl (lv_at hl 1 rfl) ?_
      refine cg6_nextParts hx hb hts i0 hown hK hP w1 dAs_placeLocation_25 ?_
      refine lv_iload_n hx hb dAs_placeLocation_28 rfl (lv_at hl 2 rfl) ?_
      refine lv_iconst (v := 1) hx hb dAs_placeLocation_29 (by decide) ?_
      refine lv_isub hx hb dAs_placeLocation_30 ?_
      refine cl_nparts hx hb hK hP (pr_in ha h21) dAs_placeLocation_31 ?_
      refine lv_iconst (v := (-1)) hx hb dAs_placeLocation_32 (by decide) ?_
      refine lv_icmp_ne hx hb dAs_placeLocation_33 rfl (fun h33 => ?_) (fun h33 => ?_)
      · have hR := hR.trans (if_neg h33)
        refine lv_aload_n hx hb dAs_placeLocation_45 rfl (lv_at hl 1 rfl) ?_
        refine lv_iconst (v := 0) hx hb dAs_placeLocation_46 (by decide) ?_
        refine lv_iload_n hx hb dAs_placeLocation_47 rfl (lv_at hl 3 rfl) ?_
        refine cl_wr (W.runV (As := [.int (0), .int (bb (b))]) (rest := []) ⟨hx, hb, hml, hown, hts⟩ (kAs_newPlace l D q cI cJ cZ hq z0 0 b (by decide)) (cwV 2 hts (gV wm3_19 wm3_21 ws1_8 wm1_8 wm3_22) rfl rfl rfl (by decide +kernel) ⟨Nat.le_of_ble_eq_true rfl, Nat.le_of_ble_eq_true rfl⟩) (c_preV6 hK hP) rfl rfl hl.1 rfl (lv_room (Nat.le_of_ble_eq_true rfl)) dAs_placeLocation_48 ⟨Nat.le_refl _, Nat.le_refl _⟩) hS (fun _ h => h) (fun _ h => h) (fun H locs hP hS => ?_)
        exact W.iret hx hb hr (fun t ht _ => ⟨by rw [hR]; first | done | rfl, by rw [hR, ht]; exact hP, hS.F ht⟩) hS.2.2 dAs_placeLocation_51
      · have hR := hR.trans (if_pos h33)
        refine lv_aload_n hx hb dAs_placeLocation_36 rfl (lv_at hl 1 rfl) ?_
        refine cg6_nexts hx hb hts i0 hown hK hP w2 dAs_placeLocation_37 ?_
        refine lv_iload_n hx hb dAs_placeLocation_40 rfl (lv_at hl 2 rfl) ?_
        refine lv_iconst (v := 1) hx hb dAs_placeLocation_41 (by decide) ?_
        refine lv_isub hx hb dAs_placeLocation_42 ?_
        refine cl_nexts hx hb hK hP (pr_in ha h21) dAs_placeLocation_43 ?_
        exact W.iret hx hb hr (fun t ht _ => ⟨by rw [hR]; first | done | rfl, by rw [hR, ht]; exact hP, hS.F ht⟩) hS.2.2 dAs_placeLocation_44
  · have hR := hR.trans (if_neg h9)
    refine lv_aload_n hx hb dAs_placeLocation_12 rfl (lv_at hl 1 rfl) ?_
    refine lv_iload_n hx hb dAs_placeLocation_13 rfl (lv_at hl 0 rfl) ?_
    refine lv_iconst (v := 0) hx hb dAs_placeLocation_14 (by decide) ?_
    refine lv_iload_n hx hb dAs_placeLocation_15 rfl (lv_at hl 3 rfl) ?_
    refine cl_wr (W.runV (As := [.int ((c_lparts z0 a.toNatClampNeg)), .int (0), .int (bb (b))]) (rest := []) ⟨hx, hb, hml, hown, hts⟩ (kAs_placePart l D q cI cJ cZ hq z0 (c_lparts z0 a.toNatClampNeg) 0 b (by decide)) (cwV 3 hts (gV wm3_15 wm3_17 ws1_7 wm1_8 wm3_18) rfl rfl rfl (by decide +kernel) ⟨Nat.le_of_ble_eq_true rfl, Nat.le_of_ble_eq_true rfl⟩) (c_preV6 hK hP) rfl rfl hl.1 rfl (lv_room (Nat.le_of_ble_eq_true rfl)) dAs_placeLocation_16 ⟨Nat.le_refl _, Nat.le_refl _⟩) hS (fun _ h => h) (fun _ h => h) (fun H locs hP hS => ?_)
    exact W.iret hx hb hr (fun t ht _ => ⟨by rw [hR]; first | done | rfl, by rw [hR, ht]; exact hP, hS.F ht⟩) hS.2.2 dAs_placeLocation_19
end
section
theorem dAr_fill_0 : decode ccAr_fill 0 = .ok (.iconst 0, 1) := by decide +kernel
theorem dAr_fill_1 : decode ccAr_fill 1 = .ok (.istore_n 2, 1) := by decide +kernel
theorem dAr_fill_2 : decode ccAr_fill 2 = .ok (.aload_n 0, 1) := by decide +kernel
theorem dAr_fill_3 : decode ccAr_fill 3 = .ok (.arraylength, 1) := by decide +kernel
theorem dAr_fill_4 : decode ccAr_fill 4 = .ok (.istore_n 3, 1) := by decide +kernel
theorem dAr_fill_5 : decode ccAr_fill 5 = .ok (.iload_n 2, 1) := by decide +kernel
theorem dAr_fill_6 : decode ccAr_fill 6 = .ok (.iload_n 3, 1) := by decide +kernel
theorem dAr_fill_7 : decode ccAr_fill 7 = .ok (.if_icmp .ge 13, 3) := by decide +kernel
theorem dAr_fill_10 : decode ccAr_fill 10 = .ok (.aload_n 0, 1) := by decide +kernel
theorem dAr_fill_11 : decode ccAr_fill 11 = .ok (.iload_n 2, 1) := by decide +kernel
theorem dAr_fill_12 : decode ccAr_fill 12 = .ok (.iload_n 1, 1) := by decide +kernel
theorem dAr_fill_13 : decode ccAr_fill 13 = .ok (.iastore, 1) := by decide +kernel
theorem dAr_fill_14 : decode ccAr_fill 14 = .ok (.iinc 2 1, 3) := by decide +kernel
theorem dAr_fill_17 : decode ccAr_fill 17 = .ok (.goto (-12), 3) := by decide +kernel
theorem dAr_fill_20 : decode ccAr_fill 20 = .ok (.return_, 1) := by decide +kernel
def fAr_fillC_5  : Nat → SC → Int32 → Nat → Nat → SC
  | 0, z, v, v2, v3 => z
  | fu + 1, z, v, v2, v3 => (if v3 ≤ v2 then z else fAr_fillC_5 fu (c_syms_s z (upd (c_syms z) ((nI (v2)).toNatClampNeg) v)) v (v2 + 1) v3)
def fAr_fillC (z0 : SC) (v : Int32) : SC :=
  fAr_fillC_5 21 z0 v 0 20
set_option maxHeartbeats 4000000 in
set_option maxRecDepth 100000 in
theorem kAr_fillC (l : Launch) (D : va_G) (q : Nat → Nat) (cI cJ cZ : ClassId) (hq : c_inj q) (z0 : SC) (v : Int32)  : Met l yAr_fill wsAr_fill { frames := 0, cells := 0, slots := 0, locals := 0 } (va_Pc [.ref (q 20), .int (v)] (c_C D q cI cJ cZ z0)) (cQw none (c_W D q cI cJ cZ (fAr_fillC z0 v)) (c_qs q)) 0 0 (c_qs q) := by
  refine va_MetF (cc := ccAr_fill) (maxL := 4) (ret := none) (by decide +kernel) rfl ?_
  intro p e s m args below meth c s₁ B hml hv
  obtain ⟨rfl, hP, hK⟩ := hv
  have hx := B.exec
  have hb := B.bytes
  have hr := B.returns
  have hts := atoms_spec (ws := wsAr_fill) B.pre
  have hown : s.vm.findClass RAr = some m.cls := findClass_of_methodNamed B.named
  have hlocks := B.notSynchronized
  have hS : va_S (c_qs q) s.heap s.heap [] := va_S.rf
  have hl := lv_entry ([.ref (q 20), .int (v)]) (n := 4) (Nat.le_of_ble_eq_true rfl)
  rw [lg_entry_eq]
  generalize (lg_sl ([.ref (q 20), .int (v)]) ++ List.replicate (4 - (lg_sl ([.ref (q 20), .int (v)])).length) Slot.unset).toArray = ls at hl ⊢
  have hl : lv_has ls 4 [(0, .ref (q 20)), (1, .int (v))] := hl
  have hB5 : ∀ (n5 : Nat) (H : Heap) (locs : List Loc) (ls : Array Slot) (z : SC) (v2 : Nat) (v3 : Nat), 20 - v2 < n5 → fAr_fillC z0 v = fAr_fillC_5 n5 z v v2 v3 → (v2 ≤ 20) → (v3 = 20) → c_W D q cI cJ cZ z H → va_S (c_qs q) s.heap H locs → lv_has ls 4 [(0, .ref (q 20)), (1, .int (v)), (2, .int (nI (v2))), (3, .int (nI (v3)))] → W p l e (headSpec wsAr_fill { frames := 0, cells := 0, slots := 0, locals := 0 }).room s m ([.ref (q 20), .int (v)] : List Value).toArray below meth c H locs 0 0 (MQ below (cQw none (c_W D q cI cJ cZ (fAr_fillC z0 v)) (c_qs q)) ([.ref (q 20), .int (v)] : List Value).toArray s 0 0 (c_qs q)) (F0 m 5 ls []) := by
    intro n5
    induction n5 with
    | zero => intro H locs ls z v2 v3 hn5; exact absurd hn5 (Nat.not_lt_zero _)
    | succ n5 ih5 =>
      intro H locs ls z v2 v3 hn5 hR h2 h3 hP hS hl
      rw [fAr_fillC_5.eq_2] at hR
      refine lv_iload_n hx hb dAr_fill_5 rfl (lv_at hl 2 rfl) ?_
      refine lv_iload_n hx hb dAr_fill_6 rfl (lv_at hl 3 rfl) ?_
      refine wn_ge (x := v2) (y := v3) hx hb (by omega) (by omega) dAr_fill_7 rfl (fun h7 => ?_) (fun h7 => ?_)
      · have hR := hR.trans (if_pos h7)
        exact W.vret hx hb hr (fun t ht _ => ⟨rfl, by rw [hR, ht]; exact hP, hS.F ht⟩) hS.2.2 dAr_fill_20
      · have hR := hR.trans (if_neg h7)
        refine lv_aload_n hx hb dAr_fill_10 rfl (lv_at hl 0 rfl) ?_
        refine lv_iload_n hx hb dAr_fill_11 rfl (lv_at hl 2 rfl) ?_
        refine lv_iload_n hx hb dAr_fill_12 rfl (lv_at hl 1 rfl) ?_
        refine cs_syms v hq hS hx hb hK hP (vp_in_nI (by omega) (by decide)) dAr_fill_13 (fun H locs hP hS => ?_)
        refine lv_iinc (k := 2) (lv' := [(2, .int (nI (v2 + 1))), (0, .ref (q 20)), (1, .int (v)), (3, .int (nI (v3)))]) hx hb dAr_fill_14 hl rfl (nI_1 _) (by decide) rfl (fun ls hl => ?_)
        refine lv_goto hx hb dAr_fill_17 rfl ?_
        exact ih5 H locs ls (c_syms_s z (upd (c_syms z) ((nI (v2)).toNatClampNeg) v)) (v2 + 1) v3 (by omega) hR (by first | assumption | omega) (by first | assumption | omega) hP hS (lv_sub hl [1, 2, 0, 3] rfl)
  have hR := fAr_fillC.eq_1 z0 v
  refine lv_iconst (v := 0) hx hb dAr_fill_0 (by decide) ?_
  refine lv_istore_n (lv' := [(2, .int (nI (0))), (0, .ref (q 20)), (1, .int (v))]) hx hb dAr_fill_1 rfl hl (by decide) rfl (fun ls hl => ?_)
  refine lv_aload_n hx hb dAr_fill_2 rfl (lv_at hl 1 rfl) ?_
  refine va_alen (v := 20) hx hb hK hP 20 0 rfl rfl rfl dAr_fill_3 ?_
  refine lv_istore_n (lv' := [(3, .int (nI (20))), (2, .int (nI (0))), (0, .ref (q 20)), (1, .int (v))]) hx hb dAr_fill_4 rfl hl (by decide) rfl (fun ls hl => ?_)
  exact hB5 21 s.heap [] ls z0 0 20 (by omega) hR (by first | assumption | omega) (by first | assumption | omega) hP hS (lv_sub hl [2, 3, 1, 0] rfl)
theorem dAs_forgetPlaces_0 : decode ccAs_forgetPlaces 0 = .ok (.aload_n 0, 1) := by decide +kernel
theorem dAs_forgetPlaces_1 : decode ccAs_forgetPlaces 1 = .ok (.getfield 31, 3) := by decide +kernel
theorem dAs_forgetPlaces_4 : decode ccAs_forgetPlaces 4 = .ok (.iconst (-1), 1) := by decide +kernel
theorem dAs_forgetPlaces_5 : decode ccAs_forgetPlaces 5 = .ok (.invokestatic 43, 3) := by decide +kernel
theorem dAs_forgetPlaces_8 : decode ccAs_forgetPlaces 8 = .ok (.return_, 1) := by decide +kernel
def fAs_forgetPlaces (z0 : SC)  : SC :=
  fAr_fillC z0 ((-1))
set_option maxHeartbeats 4000000 in
set_option maxRecDepth 100000 in
theorem kAs_forgetPlaces (l : Launch) (D : va_G) (q : Nat → Nat) (cI cJ cZ : ClassId) (hq : c_inj q) (z0 : SC)   : Met l yAs_forgetPlaces wsAs_forgetPlaces { frames := 1, cells := 0, slots := 0, locals := 23 } (va_Pc [.ref (q 6)] (c_C D q cI cJ cZ z0)) (cQw none (c_W D q cI cJ cZ (fAs_forgetPlaces z0)) (c_qs q)) 0 0 (c_qs q) := by
  refine Met.ofW (cc := ccAs_forgetPlaces) (maxL := 1) (ret := none) (by decide +kernel) rfl ?_
  intro p e s m args below meth c s₁ B hml hv
  obtain ⟨rfl, hP, hK⟩ := hv
  have hx := B.exec
  have hb := B.bytes
  have hr := B.returns
  have hts := atoms_spec (ws := wsAs_forgetPlaces) B.pre
  have hown : s.vm.findClass RAs = some m.cls := findClass_of_methodNamed B.named
  have hlocks := B.notSynchronized
  have w0 := hts (.fieldLink RAs 31 "DrumMachine$Assembler" "symbolPlaces" "[I") (List.mem_cons_of_mem _ wm1_152)
  have i0 : ∀ w ∈ u_ws RAs TAs 11, w ∈ wsAs_forgetPlaces := fun w h => List.mem_cons_of_mem _ (inAAs w h)
  have hS : va_S (c_qs q) s.heap s.heap [] := va_S.rf
  have hl := lv_entry ([.ref (q 6)]) (n := 1) (Nat.le_of_ble_eq_true rfl)
  rw [lg_entry_eq]
  generalize (lg_sl ([.ref (q 6)]) ++ List.replicate (1 - (lg_sl ([.ref (q 6)])).length) Slot.unset).toArray = ls at hl ⊢
  have hl : lv_has ls 1 [(0, .ref (q 6))] := hl
  have hR := fAs_forgetPlaces.eq_1 z0
  refine lv_aload_n hx hb dAs_forgetPlaces_0 rfl (lv_at hl 0 rfl) ?_
  refine cg6_symbolPlaces hx hb hts i0 hown hK hP w0 dAs_forgetPlaces_1 ?_
  refine lv_iconst (v := (-1)) hx hb dAs_forgetPlaces_4 (by decide) ?_
  refine cl_wr (W.runS (As := [.ref (q 20), .int ((-1))]) (rest := []) ⟨hx, hb, hml, hown, hts⟩ (kAr_fillC l D q cI cJ cZ hq z0 ((-1))) (va_cwS 2 hts (gS wm1_144 wm1_38 wm1_3 wm1_39) rfl rfl rfl (by decide +kernel) ⟨Nat.le_of_ble_eq_true rfl, Nat.le_of_ble_eq_true rfl⟩) (c_preS hK hP) rfl rfl hl.1 rfl (lv_room (Nat.le_of_ble_eq_true rfl)) dAs_forgetPlaces_5 ⟨Nat.le_refl _, Nat.le_refl _⟩) hS (fun _ h => h) (fun _ h => h) (fun H locs hP hS => ?_)
  exact W.vret hx hb hr (fun t ht _ => ⟨rfl, by rw [hR, ht]; exact hP, hS.F ht⟩) hS.2.2 dAs_forgetPlaces_8
theorem dAs_forgetAll_0 : decode ccAs_forgetAll 0 = .ok (.aload_n 0, 1) := by decide +kernel
theorem dAs_forgetAll_1 : decode ccAs_forgetAll 1 = .ok (.iconst 0, 1) := by decide +kernel
theorem dAs_forgetAll_2 : decode ccAs_forgetAll 2 = .ok (.putfield 64, 3) := by decide +kernel
theorem dAs_forgetAll_5 : decode ccAs_forgetAll 5 = .ok (.iconst 0, 1) := by decide +kernel
theorem dAs_forgetAll_6 : decode ccAs_forgetAll 6 = .ok (.istore_n 1, 1) := by decide +kernel
theorem dAs_forgetAll_7 : decode ccAs_forgetAll 7 = .ok (.iload_n 1, 1) := by decide +kernel
theorem dAs_forgetAll_8 : decode ccAs_forgetAll 8 = .ok (.sipush 200, 3) := by decide +kernel
theorem dAs_forgetAll_11 : decode ccAs_forgetAll 11 = .ok (.if_icmp .ge 16, 3) := by decide +kernel
theorem dAs_forgetAll_14 : decode ccAs_forgetAll 14 = .ok (.aload_n 0, 1) := by decide +kernel
theorem dAs_forgetAll_15 : decode ccAs_forgetAll 15 = .ok (.getfield 36, 3) := by decide +kernel
theorem dAs_forgetAll_18 : decode ccAs_forgetAll 18 = .ok (.iload_n 1, 1) := by decide +kernel
theorem dAs_forgetAll_19 : decode ccAs_forgetAll 19 = .ok (.iconst 0, 1) := by decide +kernel
theorem dAs_forgetAll_20 : decode ccAs_forgetAll 20 = .ok (.bastore, 1) := by decide +kernel
theorem dAs_forgetAll_21 : decode ccAs_forgetAll 21 = .ok (.iinc 1 1, 3) := by decide +kernel
theorem dAs_forgetAll_24 : decode ccAs_forgetAll 24 = .ok (.goto (-17), 3) := by decide +kernel
theorem dAs_forgetAll_27 : decode ccAs_forgetAll 27 = .ok (.aload_n 0, 1) := by decide +kernel
theorem dAs_forgetAll_28 : decode ccAs_forgetAll 28 = .ok (.invokevirtual 68, 3) := by decide +kernel
theorem dAs_forgetAll_31 : decode ccAs_forgetAll 31 = .ok (.return_, 1) := by decide +kernel
def fAs_forgetAll_7  : Nat → SC → Nat → SC
  | 0, z, v1 => z
  | fu + 1, z, v1 => (if 200 ≤ v1 then fAs_forgetPlaces z else fAs_forgetAll_7 fu (c_resv_s z (updB (c_resv z) ((nI (v1)).toNatClampNeg) false)) (v1 + 1))
def fAs_forgetAll (z0 : SC)  : SC :=
  fAs_forgetAll_7 201 (c_acount_s z0 0) 0
set_option maxHeartbeats 4000000 in
set_option maxRecDepth 100000 in
theorem kAs_forgetAll (l : Launch) (D : va_G) (q : Nat → Nat) (cI cJ cZ : ClassId) (hq : c_inj q) (z0 : SC)   : Met l yAs_forgetAll wsAs_forgetAll { frames := 2, cells := 0, slots := 0, locals := 43 } (va_Pc [.ref (q 6)] (c_C D q cI cJ cZ z0)) (cQw none (c_W D q cI cJ cZ (fAs_forgetAll z0)) (c_qs q)) 0 0 (c_qs q) := by
  refine Met.ofW (cc := ccAs_forgetAll) (maxL := 2) (ret := none) (by decide +kernel) rfl ?_
  intro p e s m args below meth c s₁ B hml hv
  obtain ⟨rfl, hP, hK⟩ := hv
  have hx := B.exec
  have hb := B.bytes
  have hr := B.returns
  have hts := atoms_spec (ws := wsAs_forgetAll) B.pre
  have hown : s.vm.findClass RAs = some m.cls := findClass_of_methodNamed B.named
  have hlocks := B.notSynchronized
  have w0 := hts (.fieldLink RAs 36 "DrumMachine$Assembler" "reserved" "[Z") (List.mem_cons_of_mem _ wm1_153)
  have w1 := hts (.fieldLink RAs 64 "DrumMachine$Assembler" "count" "I") (List.mem_cons_of_mem _ wm1_155)
  have i0 : ∀ w ∈ u_ws RAs TAs 11, w ∈ wsAs_forgetAll := fun w h => List.mem_cons_of_mem _ (inAAs w h)
  have hS : va_S (c_qs q) s.heap s.heap [] := va_S.rf
  have hl := lv_entry ([.ref (q 6)]) (n := 2) (Nat.le_of_ble_eq_true rfl)
  rw [lg_entry_eq]
  generalize (lg_sl ([.ref (q 6)]) ++ List.replicate (2 - (lg_sl ([.ref (q 6)])).length) Slot.unset).toArray = ls at hl ⊢
  have hl : lv_has ls 2 [(0, .ref (q 6))] := hl
  have hB7 : ∀ (n7 : Nat) (H : Heap) (locs : List Loc) (ls : Array Slot) (z : SC) (v1 : Nat), 200 - v1 < n7 → fAs_forgetAll z0 = fAs_forgetAll_7 n7 z v1 → (v1 ≤ 200) → c_W D q cI cJ cZ z H → va_S (c_qs q) s.heap H locs → lv_has ls 2 [(0, .ref (q 6)), (1, .int (nI (v1)))] → W p l e (headSpec wsAs_forgetAll { frames := 2, cells := 0, slots := 0, locals := 43 }).room s m ([.ref (q 6)] : List Value).toArray below meth c H locs 0 0 (MQ below (cQw none (c_W D q cI cJ cZ (fAs_forgetAll z0)) (c_qs q)) ([.ref (q 6)] : List Value).toArray s 0 0 (c_qs q)) (F0 m 7 ls []) := by
    intro n7
    induction n7 with
    | zero => intro H locs ls z v1 hn7; exact absurd hn7 (Nat.not_lt_zero _)
    | succ n7 ih7 =>
      intro H locs ls z v1 hn7 hR h1 hP hS hl
      rw [fAs_forgetAll_7.eq_2] at hR
      refine lv_iload_n hx hb dAs_forgetAll_7 rfl (lv_at hl 1 rfl) ?_
      refine lv_sipush (v := 200) hx hb dAs_forgetAll_8 (by decide) ?_
      refine wn_ge (x := v1) (y := 200) hx hb (by omega) (by omega) dAs_forgetAll_11 rfl (fun h11 => ?_) (fun h11 => ?_)
      · have hR := hR.trans (if_pos h11)
        refine lv_aload_n hx hb dAs_forgetAll_27 rfl (lv_at hl 0 rfl) ?_
        refine cl_wr (W.runV (As := []) (rest := []) ⟨hx, hb, hml, hown, hts⟩ (kAs_forgetPlaces l D q cI cJ cZ hq z) (cwV 0 hts (gV wm1_203 wm1_205 ws1_0 wm1_8 wm1_206) rfl rfl rfl (by decide +kernel) ⟨Nat.le_of_ble_eq_true rfl, Nat.le_of_ble_eq_true rfl⟩) (c_preV6 hK hP) rfl rfl hl.1 rfl (lv_room (Nat.le_of_ble_eq_true rfl)) dAs_forgetAll_28 ⟨Nat.le_refl _, Nat.le_refl _⟩) hS (fun _ h => h) (fun _ h => h) (fun H locs hP hS => ?_)
        exact W.vret hx hb hr (fun t ht _ => ⟨rfl, by rw [hR, ht]; exact hP, hS.F ht⟩) hS.2.2 dAs_forgetAll_31
      · have hR := hR.trans (if_neg h11)
        refine lv_aload_n hx hb dAs_forgetAll_14 rfl (lv_at hl 0 rfl) ?_
        refine cg6_reserved hx hb hts i0 hown hK hP w0 dAs_forgetAll_15 ?_
        refine lv_iload_n hx hb dAs_forgetAll_18 rfl (lv_at hl 1 rfl) ?_
        refine lv_iconst (v := 0) hx hb dAs_forgetAll_19 (by decide) ?_
        refine cs_resv false hq hS hx hb hK hP (vp_in_nI (by omega) (by decide)) dAs_forgetAll_20 (fun H locs hP hS => ?_)
        refine lv_iinc (k := 1) (lv' := [(1, .int (nI (v1 + 1))), (0, .ref (q 6))]) hx hb dAs_forgetAll_21 hl rfl (nI_1 _) (by decide) rfl (fun ls hl => ?_)
        refine lv_goto hx hb dAs_forgetAll_24 rfl ?_
        exact ih7 H locs ls (c_resv_s z (updB (c_resv z) ((nI (v1)).toNatClampNeg) false)) (v1 + 1) (by omega) hR (by first | assumption | omega) hP hS (lv_sub hl [1, 0] rfl)
  have hR := fAs_forgetAll.eq_1 z0
  refine lv_aload_n hx hb dAs_forgetAll_0 rfl (lv_at hl 0 rfl) ?_
  refine lv_iconst (v := 0) hx hb dAs_forgetAll_1 (by decide) ?_
  refine cp6_count 0 hq hS hx hb hts i0 hown hK hP w1 dAs_forgetAll_2 (fun H locs hP hS => ?_)
  refine lv_iconst (v := 0) hx hb dAs_forgetAll_5 (by decide) ?_
  refine lv_istore_n (lv' := [(1, .int (nI (0))), (0, .ref (q 6))]) hx hb dAs_forgetAll_6 rfl hl (by decide) rfl (fun ls hl => ?_)
  exact hB7 201 H locs ls (c_acount_s z0 0) 0 (by omega) hR (by first | assumption | omega) hP hS (lv_sub hl [1, 0] rfl)
theorem dAs_isLocationOfEarlierLine_0 : decode ccAs_isLocationOfEarlierLine 0 = .ok (.iconst 0, 1) := by decide +kernel
theorem dAs_isLocationOfEarlierLine_1 : decode ccAs_isLocationOfEarlierLine 1 = .ok (.istore_n 2, 1) := by decide +kernel
theorem dAs_isLocationOfEarlierLine_2 : decode ccAs_isLocationOfEarlierLine 2 = .ok (.iload_n 2, 1) := by decide +kernel
theorem dAs_isLocationOfEarlierLine_3 : decode ccAs_isLocationOfEarlierLine 3 = .ok (.iload_n 1, 1) := by decide +kernel
theorem dAs_isLocationOfEarlierLine_4 : decode ccAs_isLocationOfEarlierLine 4 = .ok (.if_icmp .ge 26, 3) := by decide +kernel
theorem dAs_isLocationOfEarlierLine_7 : decode ccAs_isLocationOfEarlierLine 7 = .ok (.aload_n 0, 1) := by decide +kernel
theorem dAs_isLocationOfEarlierLine_8 : decode ccAs_isLocationOfEarlierLine 8 = .ok (.getfield 22, 3) := by decide +kernel
theorem dAs_isLocationOfEarlierLine_11 : decode ccAs_isLocationOfEarlierLine 11 = .ok (.iload_n 2, 1) := by decide +kernel
theorem dAs_isLocationOfEarlierLine_12 : decode ccAs_isLocationOfEarlierLine 12 = .ok (.iaload, 1) := by decide +kernel
theorem dAs_isLocationOfEarlierLine_13 : decode ccAs_isLocationOfEarlierLine 13 = .ok (.aload_n 0, 1) := by decide +kernel
theorem dAs_isLocationOfEarlierLine_14 : decode ccAs_isLocationOfEarlierLine 14 = .ok (.getfield 22, 3) := by decide +kernel
theorem dAs_isLocationOfEarlierLine_17 : decode ccAs_isLocationOfEarlierLine 17 = .ok (.iload_n 1, 1) := by decide +kernel
theorem dAs_isLocationOfEarlierLine_18 : decode ccAs_isLocationOfEarlierLine 18 = .ok (.iaload, 1) := by decide +kernel
theorem dAs_isLocationOfEarlierLine_19 : decode ccAs_isLocationOfEarlierLine 19 = .ok (.if_icmp .ne 5, 3) := by decide +kernel
theorem dAs_isLocationOfEarlierLine_22 : decode ccAs_isLocationOfEarlierLine 22 = .ok (.iconst 1, 1) := by decide +kernel
theorem dAs_isLocationOfEarlierLine_23 : decode ccAs_isLocationOfEarlierLine 23 = .ok (.ireturn, 1) := by decide +kernel
theorem dAs_isLocationOfEarlierLine_24 : decode ccAs_isLocationOfEarlierLine 24 = .ok (.iinc 2 1, 3) := by decide +kernel
theorem dAs_isLocationOfEarlierLine_27 : decode ccAs_isLocationOfEarlierLine 27 = .ok (.goto (-25), 3) := by decide +kernel
theorem dAs_isLocationOfEarlierLine_30 : decode ccAs_isLocationOfEarlierLine 30 = .ok (.iconst 0, 1) := by decide +kernel
theorem dAs_isLocationOfEarlierLine_31 : decode ccAs_isLocationOfEarlierLine 31 = .ok (.ireturn, 1) := by decide +kernel
def fAs_isLocationOfEarlierLine_2  : Nat → SC → Int32 → Nat → Bool
  | 0, z0, a, v2 => false
  | fu + 1, z0, a, v2 => (if a ≤ (nI (v2)) then false else (if (c_locs z0 ((nI (v2)).toNatClampNeg)) = (c_locs z0 a.toNatClampNeg) then true else fAs_isLocationOfEarlierLine_2 fu z0 a (v2 + 1)))
def fAs_isLocationOfEarlierLine (z0 : SC) (a : Int32) : Bool :=
  fAs_isLocationOfEarlierLine_2 41 z0 a 0
set_option maxHeartbeats 4000000 in
set_option maxRecDepth 100000 in
theorem kAs_isLocationOfEarlierLine (l : Launch) (D : va_G) (q : Nat → Nat) (cI cJ cZ : ClassId) (hq : c_inj q) (z0 : SC) (a : Int32) (ha : vp_in a 40) : Met l yAs_isLocationOfEarlierLine wsAs_isLocationOfEarlierLine { frames := 0, cells := 0, slots := 0, locals := 0 } (va_Pc [.ref (q 6), .int (a)] (c_C D q cI cJ cZ z0)) (cQr (some (.int (bb (fAs_isLocationOfEarlierLine z0 a))))) 0 0 (fun _ => False) := by
  refine Met.ofW (cc := ccAs_isLocationOfEarlierLine) (maxL := 3) (ret := (some .boolean)) (by decide +kernel) rfl ?_
  intro p e s m args below meth c s₁ B hml hv
  obtain ⟨rfl, hP, hK⟩ := hv
  have hx := B.exec
  have hb := B.bytes
  have hr := B.returns
  have hts := atoms_spec (ws := wsAs_isLocationOfEarlierLine) B.pre
  have hown : s.vm.findClass RAs = some m.cls := findClass_of_methodNamed B.named
  have hlocks := B.notSynchronized
  have w0 := hts (.fieldLink RAs 22 "DrumMachine$Assembler" "locations" "[I") (List.mem_cons_of_mem _ wm1_149)
  have i0 : ∀ w ∈ u_ws RAs TAs 11, w ∈ wsAs_isLocationOfEarlierLine := fun w h => List.mem_cons_of_mem _ (inAAs w h)
  have hl := lv_entry ([.ref (q 6), .int (a)]) (n := 3) (Nat.le_of_ble_eq_true rfl)
  rw [lg_entry_eq]
  generalize (lg_sl ([.ref (q 6), .int (a)]) ++ List.replicate (3 - (lg_sl ([.ref (q 6), .int (a)])).length) Slot.unset).toArray = ls at hl ⊢
  have hl : lv_has ls 3 [(0, .ref (q 6)), (1, .int (a))] := hl
  have hB2 : ∀ (n2 : Nat) (ls : Array Slot) (v2 : Nat), 40 - v2 < n2 → fAs_isLocationOfEarlierLine z0 a = fAs_isLocationOfEarlierLine_2 n2 z0 a v2 → (v2 ≤ 40) → lv_has ls 3 [(0, .ref (q 6)), (1, .int (a)), (2, .int (nI (v2)))] → W p l e (headSpec wsAs_isLocationOfEarlierLine { frames := 0, cells := 0, slots := 0, locals := 0 }).room s m ([.ref (q 6), .int (a)] : List Value).toArray below meth c s.heap [] 0 0 (MQ below (cQr (some (.int (bb (fAs_isLocationOfEarlierLine z0 a))))) ([.ref (q 6), .int (a)] : List Value).toArray s 0 0 (fun _ => False)) (F0 m 2 ls []) := by
    intro n2
    induction n2 with
    | zero => intro ls v2 hn2; exact absurd hn2 (Nat.not_lt_zero _)
    | succ n2 ih2 =>
      intro ls v2 hn2 hR h2 hl
      rw [fAs_isLocationOfEarlierLine_2.eq_2] at hR
      refine lv_iload_n hx hb dAs_isLocationOfEarlierLine_2 rfl (lv_at hl 2 rfl) ?_
      refine lv_iload_n hx hb dAs_isLocationOfEarlierLine_3 rfl (lv_at hl 1 rfl) ?_
      refine lv_icmp_ge hx hb dAs_isLocationOfEarlierLine_4 rfl (fun h4 => ?_) (fun h4 => ?_)
      · have hR := hR.trans (if_pos h4)
        refine lv_iconst (v := 0) hx hb dAs_isLocationOfEarlierLine_30 (by decide) ?_
        exact W.zret hx hb hr rfl (fun t ht _ => ⟨by rw [hR]; first | done | rfl, ht⟩) (fun _ h => absurd h List.not_mem_nil) dAs_isLocationOfEarlierLine_31
      · have hR := hR.trans (if_neg h4)
        refine lv_aload_n hx hb dAs_isLocationOfEarlierLine_7 rfl (lv_at hl 0 rfl) ?_
        refine cg6_locations hx hb hts i0 hown hK hP w0 dAs_isLocationOfEarlierLine_8 ?_
        refine lv_iload_n hx hb dAs_isLocationOfEarlierLine_11 rfl (lv_at hl 2 rfl) ?_
        refine cl_locs hx hb hK hP (el_in ha h4 h2) dAs_isLocationOfEarlierLine_12 ?_
        refine lv_aload_n hx hb dAs_isLocationOfEarlierLine_13 rfl (lv_at hl 0 rfl) ?_
        refine cg6_locations hx hb hts i0 hown hK hP w0 dAs_isLocationOfEarlierLine_14 ?_
        refine lv_iload_n hx hb dAs_isLocationOfEarlierLine_17 rfl (lv_at hl 1 rfl) ?_
        refine cl_locs hx hb hK hP ha dAs_isLocationOfEarlierLine_18 ?_
        refine lv_icmp_ne hx hb dAs_isLocationOfEarlierLine_19 rfl (fun h19 => ?_) (fun h19 => ?_)
        · have hR := hR.trans (if_neg h19)
          refine lv_iinc (k := 2) (lv' := [(2, .int (nI (v2 + 1))), (0, .ref (q 6)), (1, .int (a))]) hx hb dAs_isLocationOfEarlierLine_24 hl rfl (nI_1 _) (by decide) rfl (fun ls hl => ?_)
          refine lv_goto hx hb dAs_isLocationOfEarlierLine_27 rfl ?_
          exact ih2 ls (v2 + 1) (el_m ha h4 h2 hn2) hR (el_b ha h4 h2) (lv_sub hl [1, 2, 0] rfl)
        · have hR := hR.trans (if_pos h19)
          refine lv_iconst (v := 1) hx hb dAs_isLocationOfEarlierLine_22 (by decide) ?_
          exact W.zret hx hb hr rfl (fun t ht _ => ⟨by rw [hR]; first | done | rfl, ht⟩) (fun _ h => absurd h List.not_mem_nil) dAs_isLocationOfEarlierLine_23
  have hR := fAs_isLocationOfEarlierLine.eq_1 z0 a
  refine lv_iconst (v := 0) hx hb dAs_isLocationOfEarlierLine_0 (by decide) ?_
  refine lv_istore_n (lv' := [(2, .int (nI (0))), (0, .ref (q 6)), (1, .int (a))]) hx hb dAs_isLocationOfEarlierLine_1 rfl hl (by decide) rfl (fun ls hl => ?_)
  exact hB2 41 ls 0 (by omega) hR (by first | assumption | omega) (lv_sub hl [1, 2, 0] rfl)
theorem dAs_markTaken_0 : decode ccAs_markTaken 0 = .ok (.iconst 0, 1) := by decide +kernel
theorem dAs_markTaken_1 : decode ccAs_markTaken 1 = .ok (.istore_n 1, 1) := by decide +kernel
theorem dAs_markTaken_2 : decode ccAs_markTaken 2 = .ok (.iload_n 1, 1) := by decide +kernel
theorem dAs_markTaken_3 : decode ccAs_markTaken 3 = .ok (.sipush 200, 3) := by decide +kernel
theorem dAs_markTaken_6 : decode ccAs_markTaken 6 = .ok (.if_icmp .ge 21, 3) := by decide +kernel
theorem dAs_markTaken_9 : decode ccAs_markTaken 9 = .ok (.aload_n 0, 1) := by decide +kernel
theorem dAs_markTaken_10 : decode ccAs_markTaken 10 = .ok (.getfield 40, 3) := by decide +kernel
theorem dAs_markTaken_13 : decode ccAs_markTaken 13 = .ok (.iload_n 1, 1) := by decide +kernel
theorem dAs_markTaken_14 : decode ccAs_markTaken 14 = .ok (.aload_n 0, 1) := by decide +kernel
theorem dAs_markTaken_15 : decode ccAs_markTaken 15 = .ok (.getfield 36, 3) := by decide +kernel
theorem dAs_markTaken_18 : decode ccAs_markTaken 18 = .ok (.iload_n 1, 1) := by decide +kernel
theorem dAs_markTaken_19 : decode ccAs_markTaken 19 = .ok (.baload, 1) := by decide +kernel
theorem dAs_markTaken_20 : decode ccAs_markTaken 20 = .ok (.bastore, 1) := by decide +kernel
theorem dAs_markTaken_21 : decode ccAs_markTaken 21 = .ok (.iinc 1 1, 3) := by decide +kernel
theorem dAs_markTaken_24 : decode ccAs_markTaken 24 = .ok (.goto (-22), 3) := by decide +kernel
theorem dAs_markTaken_27 : decode ccAs_markTaken 27 = .ok (.iconst 0, 1) := by decide +kernel
theorem dAs_markTaken_28 : decode ccAs_markTaken 28 = .ok (.istore_n 1, 1) := by decide +kernel
theorem dAs_markTaken_29 : decode ccAs_markTaken 29 = .ok (.iload_n 1, 1) := by decide +kernel
theorem dAs_markTaken_30 : decode ccAs_markTaken 30 = .ok (.aload_n 0, 1) := by decide +kernel
theorem dAs_markTaken_31 : decode ccAs_markTaken 31 = .ok (.getfield 64, 3) := by decide +kernel
theorem dAs_markTaken_34 : decode ccAs_markTaken 34 = .ok (.if_icmp .ge 51, 3) := by decide +kernel
theorem dAs_markTaken_37 : decode ccAs_markTaken 37 = .ok (.aload_n 0, 1) := by decide +kernel
theorem dAs_markTaken_38 : decode ccAs_markTaken 38 = .ok (.aload_n 0, 1) := by decide +kernel
theorem dAs_markTaken_39 : decode ccAs_markTaken 39 = .ok (.getfield 9, 3) := by decide +kernel
theorem dAs_markTaken_42 : decode ccAs_markTaken 42 = .ok (.iload_n 1, 1) := by decide +kernel
theorem dAs_markTaken_43 : decode ccAs_markTaken 43 = .ok (.iaload, 1) := by decide +kernel
theorem dAs_markTaken_44 : decode ccAs_markTaken 44 = .ok (.invokevirtual 91, 3) := by decide +kernel
theorem dAs_markTaken_47 : decode ccAs_markTaken 47 = .ok (.aload_n 0, 1) := by decide +kernel
theorem dAs_markTaken_48 : decode ccAs_markTaken 48 = .ok (.aload_n 0, 1) := by decide +kernel
theorem dAs_markTaken_49 : decode ccAs_markTaken 49 = .ok (.getfield 19, 3) := by decide +kernel
theorem dAs_markTaken_52 : decode ccAs_markTaken 52 = .ok (.iload_n 1, 1) := by decide +kernel
theorem dAs_markTaken_53 : decode ccAs_markTaken 53 = .ok (.iaload, 1) := by decide +kernel
theorem dAs_markTaken_54 : decode ccAs_markTaken 54 = .ok (.invokevirtual 91, 3) := by decide +kernel
theorem dAs_markTaken_57 : decode ccAs_markTaken 57 = .ok (.aload_n 0, 1) := by decide +kernel
theorem dAs_markTaken_58 : decode ccAs_markTaken 58 = .ok (.getfield 13, 3) := by decide +kernel
theorem dAs_markTaken_61 : decode ccAs_markTaken 61 = .ok (.iload_n 1, 1) := by decide +kernel
theorem dAs_markTaken_62 : decode ccAs_markTaken 62 = .ok (.iaload, 1) := by decide +kernel
theorem dAs_markTaken_63 : decode ccAs_markTaken 63 = .ok (.invokestatic 56, 3) := by decide +kernel
theorem dAs_markTaken_66 : decode ccAs_markTaken 66 = .ok (.ifCond .ne 13, 3) := by decide +kernel
theorem dAs_markTaken_69 : decode ccAs_markTaken 69 = .ok (.aload_n 0, 1) := by decide +kernel
theorem dAs_markTaken_70 : decode ccAs_markTaken 70 = .ok (.aload_n 0, 1) := by decide +kernel
theorem dAs_markTaken_71 : decode ccAs_markTaken 71 = .ok (.getfield 16, 3) := by decide +kernel
theorem dAs_markTaken_74 : decode ccAs_markTaken 74 = .ok (.iload_n 1, 1) := by decide +kernel
theorem dAs_markTaken_75 : decode ccAs_markTaken 75 = .ok (.iaload, 1) := by decide +kernel
theorem dAs_markTaken_76 : decode ccAs_markTaken 76 = .ok (.invokevirtual 91, 3) := by decide +kernel
theorem dAs_markTaken_79 : decode ccAs_markTaken 79 = .ok (.iinc 1 1, 3) := by decide +kernel
theorem dAs_markTaken_82 : decode ccAs_markTaken 82 = .ok (.goto (-53), 3) := by decide +kernel
theorem dAs_markTaken_85 : decode ccAs_markTaken 85 = .ok (.return_, 1) := by decide +kernel
def fAs_markTaken_29  : Nat → SC → Nat → SC
  | 0, z, v1 => z
  | fu + 1, z, v1 => (if (c_acount z) ≤ (nI (v1)) then z else (if (fOp_shifts (c_ops (fAs_takeIfAddress (fAs_takeIfAddress z (c_lparts z ((nI (v1)).toNatClampNeg))) (c_nparts (fAs_takeIfAddress z (c_lparts z ((nI (v1)).toNatClampNeg))) ((nI (v1)).toNatClampNeg))) ((nI (v1)).toNatClampNeg))) = true then fAs_markTaken_29 fu (fAs_takeIfAddress (fAs_takeIfAddress z (c_lparts z ((nI (v1)).toNatClampNeg))) (c_nparts (fAs_takeIfAddress z (c_lparts z ((nI (v1)).toNatClampNeg))) ((nI (v1)).toNatClampNeg))) (v1 + 1) else fAs_markTaken_29 fu (fAs_takeIfAddress (fAs_takeIfAddress (fAs_takeIfAddress z (c_lparts z ((nI (v1)).toNatClampNeg))) (c_nparts (fAs_takeIfAddress z (c_lparts z ((nI (v1)).toNatClampNeg))) ((nI (v1)).toNatClampNeg))) (c_dparts (fAs_takeIfAddress (fAs_takeIfAddress z (c_lparts z ((nI (v1)).toNatClampNeg))) (c_nparts (fAs_takeIfAddress z (c_lparts z ((nI (v1)).toNatClampNeg))) ((nI (v1)).toNatClampNeg))) ((nI (v1)).toNatClampNeg))) (v1 + 1)))
def fAs_markTaken_2  : Nat → SC → Nat → SC
  | 0, z, v1 => z
  | fu + 1, z, v1 => (if 200 ≤ v1 then fAs_markTaken_29 41 z 0 else fAs_markTaken_2 fu (c_taken_s z (updB (c_taken z) ((nI (v1)).toNatClampNeg) (c_resv z ((nI (v1)).toNatClampNeg)))) (v1 + 1))
def fAs_markTaken (z0 : SC)  : SC :=
  fAs_markTaken_2 201 z0 0
set_option maxHeartbeats 4000000 in
set_option maxRecDepth 100000 in
theorem kAs_markTaken (l : Launch) (D : va_G) (q : Nat → Nat) (cI cJ cZ : ClassId) (hq : c_inj q) (z0 : SC)  (hn9 : 0 ≤ (c_acount z0).toInt ∧ (c_acount z0).toInt ≤ 40) : Met l yAs_markTaken wsAs_markTaken { frames := 3, cells := 0, slots := 0, locals := 60 } (va_Pc [.ref (q 6)] (c_C D q cI cJ cZ z0)) (cQw none (c_W D q cI cJ cZ (fAs_markTaken z0)) (c_qs q)) 0 0 (c_qs q) := by
  refine Met.ofW (cc := ccAs_markTaken) (maxL := 2) (ret := none) (by decide +kernel) rfl ?_
  intro p e s m args below meth c s₁ B hml hv
  obtain ⟨rfl, hP, hK⟩ := hv
  have hx := B.exec
  have hb := B.bytes
  have hr := B.returns
  have hts := atoms_spec (ws := wsAs_markTaken) B.pre
  have hown : s.vm.findClass RAs = some m.cls := findClass_of_methodNamed B.named
  have hlocks := B.notSynchronized
  have w0 := hts (.fieldLink RAs 64 "DrumMachine$Assembler" "count" "I") (List.mem_cons_of_mem _ wm1_155)
  have w1 := hts (.fieldLink RAs 9 "DrumMachine$Assembler" "locationParts" "[I") (List.mem_cons_of_mem _ wm1_145)
  have w2 := hts (.fieldLink RAs 19 "DrumMachine$Assembler" "nextParts" "[I") (List.mem_cons_of_mem _ wm1_148)
  have w3 := hts (.fieldLink RAs 13 "DrumMachine$Assembler" "operations" "[I") (List.mem_cons_of_mem _ wm1_146)
  have w4 := hts (.fieldLink RAs 16 "DrumMachine$Assembler" "dataParts" "[I") (List.mem_cons_of_mem _ wm1_147)
  have w5 := hts (.fieldLink RAs 40 "DrumMachine$Assembler" "taken" "[Z") (List.mem_cons_of_mem _ wm1_154)
  have w6 := hts (.fieldLink RAs 36 "DrumMachine$Assembler" "reserved" "[Z") (List.mem_cons_of_mem _ wm1_153)
  have i0 : ∀ w ∈ u_ws RAs TAs 11, w ∈ wsAs_markTaken := fun w h => List.mem_cons_of_mem _ (inAAs w h)
  have hS : va_S (c_qs q) s.heap s.heap [] := va_S.rf
  have hl := lv_entry ([.ref (q 6)]) (n := 2) (Nat.le_of_ble_eq_true rfl)
  rw [lg_entry_eq]
  generalize (lg_sl ([.ref (q 6)]) ++ List.replicate (2 - (lg_sl ([.ref (q 6)])).length) Slot.unset).toArray = ls at hl ⊢
  have hl : lv_has ls 2 [(0, .ref (q 6))] := hl
  have hB29 : ∀ (n29 : Nat) (H : Heap) (locs : List Loc) (ls : Array Slot) (z : SC) (v1 : Nat), 40 - v1 < n29 → fAs_markTaken z0 = fAs_markTaken_29 n29 z v1 → (v1 ≤ 40) → (0 ≤ (c_acount z).toInt ∧ (c_acount z).toInt ≤ 40) → c_W D q cI cJ cZ z H → va_S (c_qs q) s.heap H locs → lv_has ls 2 [(0, .ref (q 6)), (1, .int (nI (v1)))] → W p l e (headSpec wsAs_markTaken { frames := 3, cells := 0, slots := 0, locals := 60 }).room s m ([.ref (q 6)] : List Value).toArray below meth c H locs 0 0 (MQ below (cQw none (c_W D q cI cJ cZ (fAs_markTaken z0)) (c_qs q)) ([.ref (q 6)] : List Value).toArray s 0 0 (c_qs q)) (F0 m 29 ls []) := by
    intro n29
    induction n29 with
    | zero => intro H locs ls z v1 hn29; exact absurd hn29 (Nat.not_lt_zero _)
    | succ n29 ih29 =>
      intro H locs ls z v1 hn29 hR h1 hn9 hP hS hl
      rw [fAs_markTaken_29.eq_2] at hR
      refine lv_iload_n hx hb dAs_markTaken_29 rfl (lv_at hl 1 rfl) ?_
      refine lv_aload_n hx hb dAs_markTaken_30 rfl (lv_at hl 0 rfl) ?_
      refine cg6_count hx hb hts i0 hown hK hP w0 dAs_markTaken_31 ?_
      refine lv_icmp_ge hx hb dAs_markTaken_34 rfl (fun h34 => ?_) (fun h34 => ?_)
      · have hR := hR.trans (if_pos h34)
        exact W.vret hx hb hr (fun t ht _ => ⟨rfl, by rw [hR, ht]; exact hP, hS.F ht⟩) hS.2.2 dAs_markTaken_85
      · have hR := hR.trans (if_neg h34)
        refine lv_aload_n hx hb dAs_markTaken_37 rfl (lv_at hl 0 rfl) ?_
        refine lv_aload_n hx hb dAs_markTaken_38 rfl (lv_at hl 0 rfl) ?_
        refine cg6_locationParts hx hb hts i0 hown hK hP w1 dAs_markTaken_39 ?_
        refine lv_iload_n hx hb dAs_markTaken_42 rfl (lv_at hl 1 rfl) ?_
        refine cl_lparts hx hb hK hP (mt_in hn9 h34 h1) dAs_markTaken_43 ?_
        refine cl_wr (W.runV (As := [.int ((c_lparts z ((nI (v1)).toNatClampNeg)))]) (rest := []) ⟨hx, hb, hml, hown, hts⟩ (kAs_takeIfAddress l D q cI cJ cZ hq z (c_lparts z ((nI (v1)).toNatClampNeg))) (cwV 1 hts (gV wm3_3 wm3_5 ws1_4 wm1_8 wm3_6) rfl rfl rfl (by decide +kernel) ⟨Nat.le_of_ble_eq_true rfl, Nat.le_of_ble_eq_true rfl⟩) (c_preV6 hK hP) rfl rfl hl.1 rfl (lv_room (Nat.le_of_ble_eq_true rfl)) dAs_markTaken_44 ⟨Nat.le_refl _, Nat.le_refl _⟩) hS (fun _ h => h) (fun _ h => h) (fun H locs hP hS => ?_)
        refine lv_aload_n hx hb dAs_markTaken_47 rfl (lv_at hl 0 rfl) ?_
        refine lv_aload_n hx hb dAs_markTaken_48 rfl (lv_at hl 0 rfl) ?_
        refine cg6_nextParts hx hb hts i0 hown hK hP w2 dAs_markTaken_49 ?_
        refine lv_iload_n hx hb dAs_markTaken_52 rfl (lv_at hl 1 rfl) ?_
        refine cl_nparts hx hb hK hP (mt_in hn9 h34 h1) dAs_markTaken_53 ?_
        refine cl_wr (W.runV (As := [.int ((c_nparts (fAs_takeIfAddress z (c_lparts z ((nI (v1)).toNatClampNeg))) ((nI (v1)).toNatClampNeg)))]) (rest := []) ⟨hx, hb, hml, hown, hts⟩ (kAs_takeIfAddress l D q cI cJ cZ hq (fAs_takeIfAddress z (c_lparts z ((nI (v1)).toNatClampNeg))) (c_nparts (fAs_takeIfAddress z (c_lparts z ((nI (v1)).toNatClampNeg))) ((nI (v1)).toNatClampNeg))) (cwV 1 hts (gV wm3_3 wm3_5 ws1_4 wm1_8 wm3_6) rfl rfl rfl (by decide +kernel) ⟨Nat.le_of_ble_eq_true rfl, Nat.le_of_ble_eq_true rfl⟩) (c_preV6 hK hP) rfl rfl hl.1 rfl (lv_room (Nat.le_of_ble_eq_true rfl)) dAs_markTaken_54 ⟨Nat.le_refl _, Nat.le_refl _⟩) hS (fun _ h => h) (fun _ h => h) (fun H locs hP hS => ?_)
        refine lv_aload_n hx hb dAs_markTaken_57 rfl (lv_at hl 0 rfl) ?_
        refine cg6_operations hx hb hts i0 hown hK hP w3 dAs_markTaken_58 ?_
        refine lv_iload_n hx hb dAs_markTaken_61 rfl (lv_at hl 1 rfl) ?_
        refine cl_ops hx hb hK hP (mt_in hn9 h34 h1) dAs_markTaken_62 ?_
        refine cl_rd (W.runS (As := [.int ((c_ops (fAs_takeIfAddress (fAs_takeIfAddress z (c_lparts z ((nI (v1)).toNatClampNeg))) (c_nparts (fAs_takeIfAddress z (c_lparts z ((nI (v1)).toNatClampNeg))) ((nI (v1)).toNatClampNeg))) ((nI (v1)).toNatClampNeg)))]) (rest := []) ⟨hx, hb, hml, hown, hts⟩ (kOp_shifts l (c_ops (fAs_takeIfAddress (fAs_takeIfAddress z (c_lparts z ((nI (v1)).toNatClampNeg))) (c_nparts (fAs_takeIfAddress z (c_lparts z ((nI (v1)).toNatClampNeg))) ((nI (v1)).toNatClampNeg))) ((nI (v1)).toNatClampNeg))) (va_cwS 1 hts (gS wm2_197 wm2_198 wm1_17 wm2_199) rfl rfl rfl (by decide +kernel) ⟨Nat.le_of_ble_eq_true rfl, Nat.le_of_ble_eq_true rfl⟩) (preT) rfl rfl hl.1 rfl (lv_room (Nat.le_of_ble_eq_true rfl)) dAs_markTaken_63 ⟨Nat.le_refl _, Nat.le_refl _⟩) ?_
        refine wz_ifne hx hb dAs_markTaken_66 rfl (fun h66 => ?_) (fun h66 => ?_)
        · have hR := hR.trans (if_pos h66)
          refine lv_iinc (k := 1) (lv' := [(1, .int (nI (v1 + 1))), (0, .ref (q 6))]) hx hb dAs_markTaken_79 hl rfl (nI_1 _) (by decide) rfl (fun ls hl => ?_)
          refine lv_goto hx hb dAs_markTaken_82 rfl ?_
          exact ih29 H locs ls (fAs_takeIfAddress (fAs_takeIfAddress z (c_lparts z ((nI (v1)).toNatClampNeg))) (c_nparts (fAs_takeIfAddress z (c_lparts z ((nI (v1)).toNatClampNeg))) ((nI (v1)).toNatClampNeg))) (v1 + 1) (mt_m hn9 h34 h1 hn29) hR (mt_b hn9 h34 h1) (by simp only [ta_n]; exact hn9) hP hS (lv_sub hl [1, 0] rfl)
        · have hR := hR.trans (if_neg h66)
          refine lv_aload_n hx hb dAs_markTaken_69 rfl (lv_at hl 0 rfl) ?_
          refine lv_aload_n hx hb dAs_markTaken_70 rfl (lv_at hl 0 rfl) ?_
          refine cg6_dataParts hx hb hts i0 hown hK hP w4 dAs_markTaken_71 ?_
          refine lv_iload_n hx hb dAs_markTaken_74 rfl (lv_at hl 1 rfl) ?_
          refine cl_dparts hx hb hK hP (mt_in hn9 h34 h1) dAs_markTaken_75 ?_
          refine cl_wr (W.runV (As := [.int ((c_dparts (fAs_takeIfAddress (fAs_takeIfAddress z (c_lparts z ((nI (v1)).toNatClampNeg))) (c_nparts (fAs_takeIfAddress z (c_lparts z ((nI (v1)).toNatClampNeg))) ((nI (v1)).toNatClampNeg))) ((nI (v1)).toNatClampNeg)))]) (rest := []) ⟨hx, hb, hml, hown, hts⟩ (kAs_takeIfAddress l D q cI cJ cZ hq (fAs_takeIfAddress (fAs_takeIfAddress z (c_lparts z ((nI (v1)).toNatClampNeg))) (c_nparts (fAs_takeIfAddress z (c_lparts z ((nI (v1)).toNatClampNeg))) ((nI (v1)).toNatClampNeg))) (c_dparts (fAs_takeIfAddress (fAs_takeIfAddress z (c_lparts z ((nI (v1)).toNatClampNeg))) (c_nparts (fAs_takeIfAddress z (c_lparts z ((nI (v1)).toNatClampNeg))) ((nI (v1)).toNatClampNeg))) ((nI (v1)).toNatClampNeg))) (cwV 1 hts (gV wm3_3 wm3_5 ws1_4 wm1_8 wm3_6) rfl rfl rfl (by decide +kernel) ⟨Nat.le_of_ble_eq_true rfl, Nat.le_of_ble_eq_true rfl⟩) (c_preV6 hK hP) rfl rfl hl.1 rfl (lv_room (Nat.le_of_ble_eq_true rfl)) dAs_markTaken_76 ⟨Nat.le_refl _, Nat.le_refl _⟩) hS (fun _ h => h) (fun _ h => h) (fun H locs hP hS => ?_)
          refine lv_iinc (k := 1) (lv' := [(1, .int (nI (v1 + 1))), (0, .ref (q 6))]) hx hb dAs_markTaken_79 hl rfl (nI_1 _) (by decide) rfl (fun ls hl => ?_)
          refine lv_goto hx hb dAs_markTaken_82 rfl ?_
          exact ih29 H locs ls (fAs_takeIfAddress (fAs_takeIfAddress (fAs_takeIfAddress z (c_lparts z ((nI (v1)).toNatClampNeg))) (c_nparts (fAs_takeIfAddress z (c_lparts z ((nI (v1)).toNatClampNeg))) ((nI (v1)).toNatClampNeg))) (c_dparts (fAs_takeIfAddress (fAs_takeIfAddress z (c_lparts z ((nI (v1)).toNatClampNeg))) (c_nparts (fAs_takeIfAddress z (c_lparts z ((nI (v1)).toNatClampNeg))) ((nI (v1)).toNatClampNeg))) ((nI (v1)).toNatClampNeg))) (v1 + 1) (mt_m hn9 h34 h1 hn29) hR (mt_b hn9 h34 h1) (by simp only [ta_n]; exact hn9) hP hS (lv_sub hl [1, 0] rfl)
  have hB2 : ∀ (n2 : Nat) (H : Heap) (locs : List Loc) (ls : Array Slot) (z : SC) (v1 : Nat), 200 - v1 < n2 → fAs_markTaken z0 = fAs_markTaken_2 n2 z v1 → (v1 ≤ 200) → (0 ≤ (c_acount z).toInt ∧ (c_acount z).toInt ≤ 40) → c_W D q cI cJ cZ z H → va_S (c_qs q) s.heap H locs → lv_has ls 2 [(0, .ref (q 6)), (1, .int (nI (v1)))] → W p l e (headSpec wsAs_markTaken { frames := 3, cells := 0, slots := 0, locals := 60 }).room s m ([.ref (q 6)] : List Value).toArray below meth c H locs 0 0 (MQ below (cQw none (c_W D q cI cJ cZ (fAs_markTaken z0)) (c_qs q)) ([.ref (q 6)] : List Value).toArray s 0 0 (c_qs q)) (F0 m 2 ls []) := by
    intro n2
    induction n2 with
    | zero => intro H locs ls z v1 hn2; exact absurd hn2 (Nat.not_lt_zero _)
    | succ n2 ih2 =>
      intro H locs ls z v1 hn2 hR h1 hn9 hP hS hl
      rw [fAs_markTaken_2.eq_2] at hR
      refine lv_iload_n hx hb dAs_markTaken_2 rfl (lv_at hl 1 rfl) ?_
      refine lv_sipush (v := 200) hx hb dAs_markTaken_3 (by decide) ?_
      refine wn_ge (x := v1) (y := 200) hx hb (by omega) (by omega) dAs_markTaken_6 rfl (fun h6 => ?_) (fun h6 => ?_)
      · have hR := hR.trans (if_pos h6)
        refine lv_iconst (v := 0) hx hb dAs_markTaken_27 (by decide) ?_
        refine lv_istore_n (lv' := [(1, .int (nI (0))), (0, .ref (q 6))]) hx hb dAs_markTaken_28 rfl hl (by decide) rfl (fun ls hl => ?_)
        exact hB29 41 H locs ls z 0 (by omega) hR (by first | assumption | omega) (by first | assumption | omega) hP hS (lv_sub hl [1, 0] rfl)
      · have hR := hR.trans (if_neg h6)
        refine lv_aload_n hx hb dAs_markTaken_9 rfl (lv_at hl 0 rfl) ?_
        refine cg6_taken hx hb hts i0 hown hK hP w5 dAs_markTaken_10 ?_
        refine lv_iload_n hx hb dAs_markTaken_13 rfl (lv_at hl 1 rfl) ?_
        refine lv_aload_n hx hb dAs_markTaken_14 rfl (lv_at hl 0 rfl) ?_
        refine cg6_reserved hx hb hts i0 hown hK hP w6 dAs_markTaken_15 ?_
        refine lv_iload_n hx hb dAs_markTaken_18 rfl (lv_at hl 1 rfl) ?_
        refine cl_resv hx hb hK hP (vp_in_nI (by omega) (by decide)) dAs_markTaken_19 ?_
        refine cs_taken (c_resv z ((nI (v1)).toNatClampNeg)) hq hS hx hb hK hP (vp_in_nI (by omega) (by decide)) dAs_markTaken_20 (fun H locs hP hS => ?_)
        refine lv_iinc (k := 1) (lv' := [(1, .int (nI (v1 + 1))), (0, .ref (q 6))]) hx hb dAs_markTaken_21 hl rfl (nI_1 _) (by decide) rfl (fun ls hl => ?_)
        refine lv_goto hx hb dAs_markTaken_24 rfl ?_
        exact ih2 H locs ls (c_taken_s z (updB (c_taken z) ((nI (v1)).toNatClampNeg) (c_resv z ((nI (v1)).toNatClampNeg)))) (v1 + 1) (by omega) hR (by first | assumption | omega) hn9 hP hS (lv_sub hl [1, 0] rfl)
  have hR := fAs_markTaken.eq_1 z0
  refine lv_iconst (v := 0) hx hb dAs_markTaken_0 (by decide) ?_
  refine lv_istore_n (lv' := [(1, .int (nI (0))), (0, .ref (q 6))]) hx hb dAs_markTaken_1 rfl hl (by decide) rfl (fun ls hl => ?_)
  exact hB2 201 s.heap [] ls z0 0 (by omega) hR (by first | assumption | omega) (by first | assumption | omega) hP hS (lv_sub hl [1, 0] rfl)
end
section
def c_A (z : SC) : Prop := (0 ≤ (c_acount z).toInt ∧ (c_acount z).toInt ≤ 40) ∧ (∀ i, i < 40 → pp (c_lparts z i)) ∧ (∀ i, i < 40 → pp (c_nparts z i)) ∧ (∀ i, i < 40 → pp (c_dparts z i) ∧ (fOp_shifts (c_ops z i) = true → pl (c_dparts z i))) ∧ (∀ i, i < 40 → pl (c_locs z i)) ∧ (∀ i, i < 40 → pl (c_dat z i)) ∧ (∀ i, i < 40 → pl (c_nexts z i)) ∧ (∀ i, i < 20 → pl (c_syms z i))
theorem ix_lt {a : Int32} {n : Nat} (h : vp_in a n) : a.toNatClampNeg < n := by
  unfold vp_in at h
  omega
theorem pp_ns {x : Int32} (h : pp x) (hs : ¬ fAs_isSymbol x = true) : pl x := by
  rcases h with h | h
  · exact h
  · exfalso
    apply hs
    have e : (1000 : Int32).toInt = 1000 := by decide
    have e2 : (1020 : Int32).toInt = 1020 := by decide
    rw [fAs_isSymbol.eq_1, if_neg (by rw [Int32.lt_iff_toInt_lt]; omega), if_neg (by rw [Int32.le_iff_toInt_le]; omega)]
theorem pd_b {z : SC} {a : Int32} (ha : vp_in a 40) (hA : c_A z) (h : 0 ≤ (c_locs z a.toNatClampNeg).toInt) : 0 ≤ (c_locs z a.toNatClampNeg + 1).toInt ∧ (c_locs z a.toNatClampNeg + 1).toInt ≤ 10000 := by
  have h1 := (hA.2.2.2.2.1 _ (ix_lt ha)).2
  rw [i_inc (by omega) h]
  omega
theorem sl_b {o d : Int32} (hd : 0 ≤ d.toInt) : 0 ≤ (fOp_shiftLength o d).toInt ∧ (fOp_shiftLength o d).toInt ≤ 10 := by
  have e : (10 : Int32).toInt = 10 := by decide
  have h1 : (d % 10).toInt = d.toInt % 10 := by rw [Kit.i32_rem_nonneg hd, e]
  unfold fOp_shiftLength
  split
  · split
    · omega
    · omega
  · omega
theorem ft28_b {s0 : Bool} {o d : Int32} (hd : 0 ≤ d.toInt) : 0 ≤ (fOp_fixedTime_28 s0 o d).toInt ∧ (fOp_fixedTime_28 s0 o d).toInt ≤ 20 := by
  have h := sl_b (o := o) hd
  have h2 : 0 ≤ (bb s0).toInt ∧ (bb s0).toInt ≤ 1 := by cases s0 <;> decide
  unfold fOp_fixedTime_28
  rw [Kit.i32_add (by omega) (by omega)]
  omega
theorem ft_b {o d : Int32} (hd : 0 ≤ d.toInt) : 0 ≤ (fOp_fixedTime o d).toInt ∧ (fOp_fixedTime o d).toInt ≤ 20 := by
  unfold fOp_fixedTime
  split
  · decide
  · split
    · split
      · exact ft28_b hd
      · exact ft28_b hd
    · split
      · decide
      · split
        · decide
        · split
          · decide
          · split
            · decide
            · decide
theorem bn29_b {z : SC} {s0 a v2 : Int32} (h0 : 0 ≤ s0.toInt ∧ s0.toInt < 200) (hd : 0 ≤ (c_dat z a.toNatClampNeg).toInt) : 0 ≤ (fAs_bestForNext_29 z s0 a v2).toInt ∧ (fAs_bestForNext_29 z s0 a v2).toInt ≤ 10000 := by
  have h := ft_b (o := v2) hd
  have e := i_inc (x := s0) (by omega) h0.1
  unfold fAs_bestForNext_29
  rw [Kit.i32_add (by omega) (by omega), e]
  omega
theorem bn_b {z : SC} {a : Int32} (ha : vp_in a 40) (hA : c_A z) (hl : 0 ≤ (c_locs z a.toNatClampNeg).toInt) (hd : 0 ≤ (c_dat z a.toNatClampNeg).toInt) : 0 ≤ (fAs_bestForNext z a).toInt ∧ (fAs_bestForNext z a).toInt ≤ 10000 := by
  have h1 := (hA.2.2.2.2.1 _ (ix_lt ha)).2
  have h2 := (hA.2.2.2.2.2.1 _ (ix_lt ha)).2
  unfold fAs_bestForNext
  split
  · exact bn29_b ⟨hd, h2⟩ hd
  · exact bn29_b ⟨hl, h1⟩ hd
theorem nx_in {z : SC} {a : Int32} (ha : vp_in a 40) (hA : c_A z) (h : ¬ c_acount z ≤ a + 1) : vp_in (a + 1) 40 := by
  obtain ⟨a1, a2⟩ := vp_in_iff.mp ha
  have h1 := lk_lt h
  have h2 := hA.1.2
  have e := i_inc (x := a) (by omega) a1
  exact vp_in_iff.mpr ⟨by omega, by omega⟩
theorem dAs_placeData_0 : decode ccAs_placeData 0 = .ok (.aload_n 0, 1) := by decide +kernel
theorem dAs_placeData_1 : decode ccAs_placeData 1 = .ok (.getfield 16, 3) := by decide +kernel
theorem dAs_placeData_4 : decode ccAs_placeData 4 = .ok (.iload_n 1, 1) := by decide +kernel
theorem dAs_placeData_5 : decode ccAs_placeData 5 = .ok (.iaload, 1) := by decide +kernel
theorem dAs_placeData_6 : decode ccAs_placeData 6 = .ok (.istore_n 3, 1) := by decide +kernel
theorem dAs_placeData_7 : decode ccAs_placeData 7 = .ok (.iload_n 3, 1) := by decide +kernel
theorem dAs_placeData_8 : decode ccAs_placeData 8 = .ok (.iconst (-1), 1) := by decide +kernel
theorem dAs_placeData_9 : decode ccAs_placeData 9 = .ok (.if_icmp .ne 5, 3) := by decide +kernel
theorem dAs_placeData_12 : decode ccAs_placeData 12 = .ok (.iconst 0, 1) := by decide +kernel
theorem dAs_placeData_13 : decode ccAs_placeData 13 = .ok (.ireturn, 1) := by decide +kernel
theorem dAs_placeData_14 : decode ccAs_placeData 14 = .ok (.aload_n 0, 1) := by decide +kernel
theorem dAs_placeData_15 : decode ccAs_placeData 15 = .ok (.getfield 13, 3) := by decide +kernel
theorem dAs_placeData_18 : decode ccAs_placeData 18 = .ok (.iload_n 1, 1) := by decide +kernel
theorem dAs_placeData_19 : decode ccAs_placeData 19 = .ok (.iaload, 1) := by decide +kernel
theorem dAs_placeData_20 : decode ccAs_placeData 20 = .ok (.invokestatic 56, 3) := by decide +kernel
theorem dAs_placeData_23 : decode ccAs_placeData 23 = .ok (.ifCond .eq 5, 3) := by decide +kernel
theorem dAs_placeData_26 : decode ccAs_placeData 26 = .ok (.iload_n 3, 1) := by decide +kernel
theorem dAs_placeData_27 : decode ccAs_placeData 27 = .ok (.ireturn, 1) := by decide +kernel
theorem dAs_placeData_28 : decode ccAs_placeData 28 = .ok (.aload_n 0, 1) := by decide +kernel
theorem dAs_placeData_29 : decode ccAs_placeData 29 = .ok (.iload_n 3, 1) := by decide +kernel
theorem dAs_placeData_30 : decode ccAs_placeData 30 = .ok (.aload_n 0, 1) := by decide +kernel
theorem dAs_placeData_31 : decode ccAs_placeData 31 = .ok (.getfield 22, 3) := by decide +kernel
theorem dAs_placeData_34 : decode ccAs_placeData 34 = .ok (.iload_n 1, 1) := by decide +kernel
theorem dAs_placeData_35 : decode ccAs_placeData 35 = .ok (.iaload, 1) := by decide +kernel
theorem dAs_placeData_36 : decode ccAs_placeData 36 = .ok (.iconst 1, 1) := by decide +kernel
theorem dAs_placeData_37 : decode ccAs_placeData 37 = .ok (.iadd, 1) := by decide +kernel
theorem dAs_placeData_38 : decode ccAs_placeData 38 = .ok (.iload_n 2, 1) := by decide +kernel
theorem dAs_placeData_39 : decode ccAs_placeData 39 = .ok (.invokevirtual 105, 3) := by decide +kernel
theorem dAs_placeData_42 : decode ccAs_placeData 42 = .ok (.ireturn, 1) := by decide +kernel
def fAs_placeData (z0 : SC) (a : Int32) (b : Bool) : Int32 × SC :=
  (if (c_dparts z0 a.toNatClampNeg) = ((-1) : Int32) then (0, z0) else (if (fOp_shifts (c_ops z0 a.toNatClampNeg)) = true then (c_dparts z0 a.toNatClampNeg, z0) else ((fAs_placePart z0 (c_dparts z0 a.toNatClampNeg) ((c_locs z0 a.toNatClampNeg) + 1) b).1, (fAs_placePart z0 (c_dparts z0 a.toNatClampNeg) ((c_locs z0 a.toNatClampNeg) + 1) b).2)))
set_option maxHeartbeats 4000000 in
set_option maxRecDepth 100000 in
theorem kAs_placeData (l : Launch) (D : va_G) (q : Nat → Nat) (cI cJ cZ : ClassId) (hq : c_inj q) (z0 : SC) (a : Int32) (b : Bool) (ha : vp_in a 40) (hA : c_A z0) (hl9 : 0 ≤ (c_locs z0 a.toNatClampNeg).toInt) : Met l yAs_placeData wsAs_placeData { frames := 3, cells := 0, slots := 0, locals := 71 } (va_Pc [.ref (q 6), .int (a), .int (bb (b))] (c_C D q cI cJ cZ z0)) (cQw (some (.int ((fAs_placeData z0 a b).1))) (c_W D q cI cJ cZ (fAs_placeData z0 a b).2) (c_qs q)) 0 0 (c_qs q) := by
  refine Met.ofW (cc := ccAs_placeData) (maxL := 4) (ret := (some .int)) (by decide +kernel) rfl ?_
  intro p e s m args below meth c s₁ B hml hv
  obtain ⟨rfl, hP, hK⟩ := hv
  have hx := B.exec
  have hb := B.bytes
  have hr := B.returns
  have hts := atoms_spec (ws := wsAs_placeData) B.pre
  have hown : s.vm.findClass RAs = some m.cls := findClass_of_methodNamed B.named
  have hlocks := B.notSynchronized
  have w0 := hts (.fieldLink RAs 16 "DrumMachine$Assembler" "dataParts" "[I") (List.mem_cons_of_mem _ wm1_147)
  have w1 := hts (.fieldLink RAs 13 "DrumMachine$Assembler" "operations" "[I") (List.mem_cons_of_mem _ wm1_146)
  have w2 := hts (.fieldLink RAs 22 "DrumMachine$Assembler" "locations" "[I") (List.mem_cons_of_mem _ wm1_149)
  have i0 : ∀ w ∈ u_ws RAs TAs 11, w ∈ wsAs_placeData := fun w h => List.mem_cons_of_mem _ (inAAs w h)
  have hS : va_S (c_qs q) s.heap s.heap [] := va_S.rf
  have hl := lv_entry ([.ref (q 6), .int (a), .int (bb (b))]) (n := 4) (Nat.le_of_ble_eq_true rfl)
  rw [lg_entry_eq]
  generalize (lg_sl ([.ref (q 6), .int (a), .int (bb (b))]) ++ List.replicate (4 - (lg_sl ([.ref (q 6), .int (a), .int (bb (b))])).length) Slot.unset).toArray = ls at hl ⊢
  have hl : lv_has ls 4 [(0, .ref (q 6)), (1, .int (a)), (2, .int (bb (b)))] := hl
  have hR := fAs_placeData.eq_1 z0 a b
  refine lv_aload_n hx hb dAs_placeData_0 rfl (lv_at hl 0 rfl) ?_
  refine cg6_dataParts hx hb hts i0 hown hK hP w0 dAs_placeData_1 ?_
  refine lv_iload_n hx hb dAs_placeData_4 rfl (lv_at hl 1 rfl) ?_
  refine cl_dparts hx hb hK hP ha dAs_placeData_5 ?_
  refine lv_istore_n (lv' := [(3, .int (c_dparts z0 a.toNatClampNeg)), (0, .ref (q 6)), (1, .int (a)), (2, .int (bb (b)))]) hx hb dAs_placeData_6 rfl hl (by decide) rfl (fun ls hl => ?_)
  refine lv_iload_n hx hb dAs_placeData_7 rfl (lv_at hl 0 rfl) ?_
  refine lv_iconst (v := (-1)) hx hb dAs_placeData_8 (by decide) ?_
  refine lv_icmp_ne hx hb dAs_placeData_9 rfl (fun h9 => ?_) (fun h9 => ?_)
  · have hR := hR.trans (if_neg h9)
    refine lv_aload_n hx hb dAs_placeData_14 rfl (lv_at hl 1 rfl) ?_
    refine cg6_operations hx hb hts i0 hown hK hP w1 dAs_placeData_15 ?_
    refine lv_iload_n hx hb dAs_placeData_18 rfl (lv_at hl 2 rfl) ?_
    refine cl_ops hx hb hK hP ha dAs_placeData_19 ?_
    refine cl_rd (W.runS (As := [.int ((c_ops z0 a.toNatClampNeg))]) (rest := []) ⟨hx, hb, hml, hown, hts⟩ (kOp_shifts l (c_ops z0 a.toNatClampNeg)) (va_cwS 1 hts (gS wm2_197 wm2_198 wm1_17 wm2_199) rfl rfl rfl (by decide +kernel) ⟨Nat.le_of_ble_eq_true rfl, Nat.le_of_ble_eq_true rfl⟩) (preT) rfl rfl hl.1 rfl (lv_room (Nat.le_of_ble_eq_true rfl)) dAs_placeData_20 ⟨Nat.le_refl _, Nat.le_refl _⟩) ?_
    refine wz_ifeq hx hb dAs_placeData_23 rfl (fun h23 => ?_) (fun h23 => ?_)
    · have hR := hR.trans (if_neg h23)
      refine lv_aload_n hx hb dAs_placeData_28 rfl (lv_at hl 1 rfl) ?_
      refine lv_iload_n hx hb dAs_placeData_29 rfl (lv_at hl 0 rfl) ?_
      refine lv_aload_n hx hb dAs_placeData_30 rfl (lv_at hl 1 rfl) ?_
      refine cg6_locations hx hb hts i0 hown hK hP w2 dAs_placeData_31 ?_
      refine lv_iload_n hx hb dAs_placeData_34 rfl (lv_at hl 2 rfl) ?_
      refine cl_locs hx hb hK hP ha dAs_placeData_35 ?_
      refine lv_iconst (v := 1) hx hb dAs_placeData_36 (by decide) ?_
      refine lv_iadd hx hb dAs_placeData_37 ?_
      refine lv_iload_n hx hb dAs_placeData_38 rfl (lv_at hl 3 rfl) ?_
      refine cl_wr (W.runV (As := [.int ((c_dparts z0 a.toNatClampNeg)), .int (((c_locs z0 a.toNatClampNeg) + 1)), .int (bb (b))]) (rest := []) ⟨hx, hb, hml, hown, hts⟩ (kAs_placePart l D q cI cJ cZ hq z0 (c_dparts z0 a.toNatClampNeg) ((c_locs z0 a.toNatClampNeg) + 1) b (pd_b ha hA hl9)) (cwV 3 hts (gV wm3_15 wm3_17 ws1_7 wm1_8 wm3_18) rfl rfl rfl (by decide +kernel) ⟨Nat.le_of_ble_eq_true rfl, Nat.le_of_ble_eq_true rfl⟩) (c_preV6 hK hP) rfl rfl hl.1 rfl (lv_room (Nat.le_of_ble_eq_true rfl)) dAs_placeData_39 ⟨Nat.le_refl _, Nat.le_refl _⟩) hS (fun _ h => h) (fun _ h => h) (fun H locs hP hS => ?_)
      exact W.iret hx hb hr (fun t ht _ => ⟨by rw [hR]; first | done | rfl, by rw [hR, ht]; exact hP, hS.F ht⟩) hS.2.2 dAs_placeData_42
    · have hR := hR.trans (if_pos h23)
      refine lv_iload_n hx hb dAs_placeData_26 rfl (lv_at hl 0 rfl) ?_
      exact W.iret hx hb hr (fun t ht _ => ⟨by rw [hR]; first | done | rfl, by rw [hR, ht]; exact hP, hS.F ht⟩) hS.2.2 dAs_placeData_27
  · have hR := hR.trans (if_pos h9)
    refine lv_iconst (v := 0) hx hb dAs_placeData_12 (by decide) ?_
    exact W.iret hx hb hr (fun t ht _ => ⟨by rw [hR]; first | done | rfl, by rw [hR, ht]; exact hP, hS.F ht⟩) hS.2.2 dAs_placeData_13
theorem dAs_placeNext_0 : decode ccAs_placeNext 0 = .ok (.aload_n 0, 1) := by decide +kernel
theorem dAs_placeNext_1 : decode ccAs_placeNext 1 = .ok (.getfield 19, 3) := by decide +kernel
theorem dAs_placeNext_4 : decode ccAs_placeNext 4 = .ok (.iload_n 1, 1) := by decide +kernel
theorem dAs_placeNext_5 : decode ccAs_placeNext 5 = .ok (.iaload, 1) := by decide +kernel
theorem dAs_placeNext_6 : decode ccAs_placeNext 6 = .ok (.istore_n 3, 1) := by decide +kernel
theorem dAs_placeNext_7 : decode ccAs_placeNext 7 = .ok (.iload_n 3, 1) := by decide +kernel
theorem dAs_placeNext_8 : decode ccAs_placeNext 8 = .ok (.iconst (-1), 1) := by decide +kernel
theorem dAs_placeNext_9 : decode ccAs_placeNext 9 = .ok (.if_icmp .eq 15, 3) := by decide +kernel
theorem dAs_placeNext_12 : decode ccAs_placeNext 12 = .ok (.aload_n 0, 1) := by decide +kernel
theorem dAs_placeNext_13 : decode ccAs_placeNext 13 = .ok (.iload_n 3, 1) := by decide +kernel
theorem dAs_placeNext_14 : decode ccAs_placeNext 14 = .ok (.aload_n 0, 1) := by decide +kernel
theorem dAs_placeNext_15 : decode ccAs_placeNext 15 = .ok (.iload_n 1, 1) := by decide +kernel
theorem dAs_placeNext_16 : decode ccAs_placeNext 16 = .ok (.invokevirtual 112, 3) := by decide +kernel
theorem dAs_placeNext_19 : decode ccAs_placeNext 19 = .ok (.iload_n 2, 1) := by decide +kernel
theorem dAs_placeNext_20 : decode ccAs_placeNext 20 = .ok (.invokevirtual 105, 3) := by decide +kernel
theorem dAs_placeNext_23 : decode ccAs_placeNext 23 = .ok (.ireturn, 1) := by decide +kernel
theorem dAs_placeNext_24 : decode ccAs_placeNext 24 = .ok (.iload_n 1, 1) := by decide +kernel
theorem dAs_placeNext_25 : decode ccAs_placeNext 25 = .ok (.iconst 1, 1) := by decide +kernel
theorem dAs_placeNext_26 : decode ccAs_placeNext 26 = .ok (.iadd, 1) := by decide +kernel
theorem dAs_placeNext_27 : decode ccAs_placeNext 27 = .ok (.aload_n 0, 1) := by decide +kernel
theorem dAs_placeNext_28 : decode ccAs_placeNext 28 = .ok (.getfield 64, 3) := by decide +kernel
theorem dAs_placeNext_31 : decode ccAs_placeNext 31 = .ok (.if_icmp .ge 19, 3) := by decide +kernel
theorem dAs_placeNext_34 : decode ccAs_placeNext 34 = .ok (.aload_n 0, 1) := by decide +kernel
theorem dAs_placeNext_35 : decode ccAs_placeNext 35 = .ok (.getfield 9, 3) := by decide +kernel
theorem dAs_placeNext_38 : decode ccAs_placeNext 38 = .ok (.iload_n 1, 1) := by decide +kernel
theorem dAs_placeNext_39 : decode ccAs_placeNext 39 = .ok (.iconst 1, 1) := by decide +kernel
theorem dAs_placeNext_40 : decode ccAs_placeNext 40 = .ok (.iadd, 1) := by decide +kernel
theorem dAs_placeNext_41 : decode ccAs_placeNext 41 = .ok (.iaload, 1) := by decide +kernel
theorem dAs_placeNext_42 : decode ccAs_placeNext 42 = .ok (.iconst (-1), 1) := by decide +kernel
theorem dAs_placeNext_43 : decode ccAs_placeNext 43 = .ok (.if_icmp .ne 7, 3) := by decide +kernel
theorem dAs_placeNext_46 : decode ccAs_placeNext 46 = .ok (.iconst 1, 1) := by decide +kernel
theorem dAs_placeNext_47 : decode ccAs_placeNext 47 = .ok (.goto 4, 3) := by decide +kernel
theorem dAs_placeNext_50 : decode ccAs_placeNext 50 = .ok (.iconst 0, 1) := by decide +kernel
theorem dAs_placeNext_51 : decode ccAs_placeNext 51 = .ok (.istore 4, 2) := by decide +kernel
theorem dAs_placeNext_53 : decode ccAs_placeNext 53 = .ok (.iload 4, 2) := by decide +kernel
theorem dAs_placeNext_55 : decode ccAs_placeNext 55 = .ok (.ifCond .eq 16, 3) := by decide +kernel
theorem dAs_placeNext_58 : decode ccAs_placeNext 58 = .ok (.aload_n 0, 1) := by decide +kernel
theorem dAs_placeNext_59 : decode ccAs_placeNext 59 = .ok (.aload_n 0, 1) := by decide +kernel
theorem dAs_placeNext_60 : decode ccAs_placeNext 60 = .ok (.iload_n 1, 1) := by decide +kernel
theorem dAs_placeNext_61 : decode ccAs_placeNext 61 = .ok (.invokevirtual 112, 3) := by decide +kernel
theorem dAs_placeNext_64 : decode ccAs_placeNext 64 = .ok (.iload_n 2, 1) := by decide +kernel
theorem dAs_placeNext_65 : decode ccAs_placeNext 65 = .ok (.invokevirtual 109, 3) := by decide +kernel
theorem dAs_placeNext_68 : decode ccAs_placeNext 68 = .ok (.goto 4, 3) := by decide +kernel
theorem dAs_placeNext_71 : decode ccAs_placeNext 71 = .ok (.iconst 0, 1) := by decide +kernel
theorem dAs_placeNext_72 : decode ccAs_placeNext 72 = .ok (.ireturn, 1) := by decide +kernel
def fAs_placeNext_53  (z : SC) (a : Int32) (b : Bool) (v4 : Bool) : Int32 × SC :=
  (if v4 = true then ((fAs_newPlace z (fAs_bestForNext z a) b).1, (fAs_newPlace z (fAs_bestForNext z a) b).2) else (0, z))
def fAs_placeNext_51  (z : SC) (s0 : Bool) (a : Int32) (b : Bool) : Int32 × SC :=
  fAs_placeNext_53 z a b s0
def fAs_placeNext_50  (z : SC) (a : Int32) (b : Bool) : Int32 × SC :=
  fAs_placeNext_51 z false a b
def fAs_placeNext (z0 : SC) (a : Int32) (b : Bool) : Int32 × SC :=
  (if (c_nparts z0 a.toNatClampNeg) = ((-1) : Int32) then (if (c_acount z0) ≤ (a + 1) then fAs_placeNext_50 z0 a b else (if (c_lparts z0 ((a + 1).toNatClampNeg)) = ((-1) : Int32) then fAs_placeNext_51 z0 true a b else fAs_placeNext_50 z0 a b)) else ((fAs_placePart z0 (c_nparts z0 a.toNatClampNeg) (fAs_bestForNext z0 a) b).1, (fAs_placePart z0 (c_nparts z0 a.toNatClampNeg) (fAs_bestForNext z0 a) b).2))
set_option maxHeartbeats 4000000 in
set_option maxRecDepth 100000 in
theorem kAs_placeNext (l : Launch) (D : va_G) (q : Nat → Nat) (cI cJ cZ : ClassId) (hq : c_inj q) (z0 : SC) (a : Int32) (b : Bool) (ha : vp_in a 40) (hA : c_A z0) (hl9 : 0 ≤ (c_locs z0 a.toNatClampNeg).toInt) (hd9 : 0 ≤ (c_dat z0 a.toNatClampNeg).toInt) : Met l yAs_placeNext wsAs_placeNext { frames := 4, cells := 0, slots := 0, locals := 86 } (va_Pc [.ref (q 6), .int (a), .int (bb (b))] (c_C D q cI cJ cZ z0)) (cQw (some (.int ((fAs_placeNext z0 a b).1))) (c_W D q cI cJ cZ (fAs_placeNext z0 a b).2) (c_qs q)) 0 0 (c_qs q) := by
  refine Met.ofW (cc := ccAs_placeNext) (maxL := 5) (ret := (some .int)) (by decide +kernel) rfl ?_
  intro p e s m args below meth c s₁ B hml hv
  obtain ⟨rfl, hP, hK⟩ := hv
  have hx := B.exec
  have hb := B.bytes
  have hr := B.returns
  have hts := atoms_spec (ws := wsAs_placeNext) B.pre
  have hown : s.vm.findClass RAs = some m.cls := findClass_of_methodNamed B.named
  have hlocks := B.notSynchronized
  have w0 := hts (.fieldLink RAs 19 "DrumMachine$Assembler" "nextParts" "[I") (List.mem_cons_of_mem _ wm1_148)
  have w1 := hts (.fieldLink RAs 64 "DrumMachine$Assembler" "count" "I") (List.mem_cons_of_mem _ wm1_155)
  have w2 := hts (.fieldLink RAs 9 "DrumMachine$Assembler" "locationParts" "[I") (List.mem_cons_of_mem _ wm1_145)
  have i0 : ∀ w ∈ u_ws RAs TAs 11, w ∈ wsAs_placeNext := fun w h => List.mem_cons_of_mem _ (inAAs w h)
  have hS : va_S (c_qs q) s.heap s.heap [] := va_S.rf
  have hl := lv_entry ([.ref (q 6), .int (a), .int (bb (b))]) (n := 5) (Nat.le_of_ble_eq_true rfl)
  rw [lg_entry_eq]
  generalize (lg_sl ([.ref (q 6), .int (a), .int (bb (b))]) ++ List.replicate (5 - (lg_sl ([.ref (q 6), .int (a), .int (bb (b))])).length) Slot.unset).toArray = ls at hl ⊢
  have hl : lv_has ls 5 [(0, .ref (q 6)), (1, .int (a)), (2, .int (bb (b)))] := hl
  have hB53 : ∀ (H : Heap) (locs : List Loc) (ls : Array Slot) (z : SC) (v4 : Bool), fAs_placeNext z0 a b = fAs_placeNext_53 z a b v4 → (0 ≤ (fAs_bestForNext z a).toInt ∧ (fAs_bestForNext z a).toInt ≤ 10000) → c_W D q cI cJ cZ z H → va_S (c_qs q) s.heap H locs → lv_has ls 5 [(0, .ref (q 6)), (1, .int (a)), (2, .int (bb (b))), (4, .int (bb (v4)))] → W p l e (headSpec wsAs_placeNext { frames := 4, cells := 0, slots := 0, locals := 86 }).room s m ([.ref (q 6), .int (a), .int (bb (b))] : List Value).toArray below meth c H locs 0 0 (MQ below (cQw (some (.int ((fAs_placeNext z0 a b).1))) (c_W D q cI cJ cZ (fAs_placeNext z0 a b).2) (c_qs q)) ([.ref (q 6), .int (a), .int (bb (b))] : List Value).toArray s 0 0 (c_qs q)) (F0 m 53 ls []) := by
    intro H locs ls z v4 hR hb9 hP hS hl
    rw [fAs_placeNext_53.eq_1] at hR
    refine lv_iload hx hb dAs_placeNext_53 (lv_at hl 3 rfl) ?_
    refine wz_ifeq hx hb dAs_placeNext_55 rfl (fun h55 => ?_) (fun h55 => ?_)
    · have hR := hR.trans (if_neg h55)
      refine lv_iconst (v := 0) hx hb dAs_placeNext_71 (by decide) ?_
      exact W.iret hx hb hr (fun t ht _ => ⟨by rw [hR]; first | done | rfl, by rw [hR, ht]; exact hP, hS.F ht⟩) hS.2.2 dAs_placeNext_72
    · have hR := hR.trans (if_pos h55)
      refine lv_aload_n hx hb dAs_placeNext_58 rfl (lv_at hl 0 rfl) ?_
      refine lv_aload_n hx hb dAs_placeNext_59 rfl (lv_at hl 0 rfl) ?_
      refine lv_iload_n hx hb dAs_placeNext_60 rfl (lv_at hl 1 rfl) ?_
      refine cl_rd (W.runV (As := [.int (a)]) (rest := [.ref (q 6)]) ⟨hx, hb, hml, hown, hts⟩ (kAs_bestForNext l D q cI cJ cZ hq z a ha) (cwV 1 hts (gV wm3_39 wm3_41 ws1_13 wm1_8 wm3_42) rfl rfl rfl (by decide +kernel) ⟨Nat.le_of_ble_eq_true rfl, Nat.le_of_ble_eq_true rfl⟩) (c_preV6 hK hP) rfl rfl hl.1 rfl (lv_room (Nat.le_of_ble_eq_true rfl)) dAs_placeNext_61 ⟨Nat.le_refl _, Nat.le_refl _⟩) ?_
      refine lv_iload_n hx hb dAs_placeNext_64 rfl (lv_at hl 2 rfl) ?_
      refine cl_wr (W.runV (As := [.int ((fAs_bestForNext z a)), .int (bb (b))]) (rest := []) ⟨hx, hb, hml, hown, hts⟩ (kAs_newPlace l D q cI cJ cZ hq z (fAs_bestForNext z a) b hb9) (cwV 2 hts (gV wm3_19 wm3_21 ws1_8 wm1_8 wm3_22) rfl rfl rfl (by decide +kernel) ⟨Nat.le_of_ble_eq_true rfl, Nat.le_of_ble_eq_true rfl⟩) (c_preV6 hK hP) rfl rfl hl.1 rfl (lv_room (Nat.le_of_ble_eq_true rfl)) dAs_placeNext_65 ⟨Nat.le_refl _, Nat.le_refl _⟩) hS (fun _ h => h) (fun _ h => h) (fun H locs hP hS => ?_)
      refine lv_goto hx hb dAs_placeNext_68 rfl ?_
      exact W.iret hx hb hr (fun t ht _ => ⟨by rw [hR]; first | done | rfl, by rw [hR, ht]; exact hP, hS.F ht⟩) hS.2.2 dAs_placeNext_72
  have hB51 : ∀ (H : Heap) (locs : List Loc) (ls : Array Slot) (z : SC) (s0 : Bool), fAs_placeNext z0 a b = fAs_placeNext_51 z s0 a b → (0 ≤ (fAs_bestForNext z a).toInt ∧ (fAs_bestForNext z a).toInt ≤ 10000) → c_W D q cI cJ cZ z H → va_S (c_qs q) s.heap H locs → lv_has ls 5 [(0, .ref (q 6)), (1, .int (a)), (2, .int (bb (b)))] → W p l e (headSpec wsAs_placeNext { frames := 4, cells := 0, slots := 0, locals := 86 }).room s m ([.ref (q 6), .int (a), .int (bb (b))] : List Value).toArray below meth c H locs 0 0 (MQ below (cQw (some (.int ((fAs_placeNext z0 a b).1))) (c_W D q cI cJ cZ (fAs_placeNext z0 a b).2) (c_qs q)) ([.ref (q 6), .int (a), .int (bb (b))] : List Value).toArray s 0 0 (c_qs q)) (F0 m 51 ls [.int (bb (s0))]) := by
    intro H locs ls z s0 hR hb9 hP hS hl
    rw [fAs_placeNext_51.eq_1] at hR
    refine lv_istore (lv' := [(4, .int (bb (s0))), (0, .ref (q 6)), (1, .int (a)), (2, .int (bb (b)))]) hx hb dAs_placeNext_51 hl (by decide) rfl (fun ls hl => ?_)
    exact hB53 H locs ls z s0 hR (by first | exact hb9 | exact bn_b ha hA hl9 hd9) hP hS (lv_sub hl [1, 2, 3, 0] rfl)
  have hB50 : ∀ (H : Heap) (locs : List Loc) (ls : Array Slot) (z : SC), fAs_placeNext z0 a b = fAs_placeNext_50 z a b → (0 ≤ (fAs_bestForNext z a).toInt ∧ (fAs_bestForNext z a).toInt ≤ 10000) → c_W D q cI cJ cZ z H → va_S (c_qs q) s.heap H locs → lv_has ls 5 [(0, .ref (q 6)), (1, .int (a)), (2, .int (bb (b)))] → W p l e (headSpec wsAs_placeNext { frames := 4, cells := 0, slots := 0, locals := 86 }).room s m ([.ref (q 6), .int (a), .int (bb (b))] : List Value).toArray below meth c H locs 0 0 (MQ below (cQw (some (.int ((fAs_placeNext z0 a b).1))) (c_W D q cI cJ cZ (fAs_placeNext z0 a b).2) (c_qs q)) ([.ref (q 6), .int (a), .int (bb (b))] : List Value).toArray s 0 0 (c_qs q)) (F0 m 50 ls []) := by
    intro H locs ls z hR hb9 hP hS hl
    rw [fAs_placeNext_50.eq_1] at hR
    refine lv_iconst (v := 0) hx hb dAs_placeNext_50 (by decide) ?_
    exact hB51 H locs ls z false hR (by first | exact hb9 | exact bn_b ha hA hl9 hd9) hP hS (lv_sub hl [0, 1, 2] rfl)
  have hR := fAs_placeNext.eq_1 z0 a b
  refine lv_aload_n hx hb dAs_placeNext_0 rfl (lv_at hl 0 rfl) ?_
  refine cg6_nextParts hx hb hts i0 hown hK hP w0 dAs_placeNext_1 ?_
  refine lv_iload_n hx hb dAs_placeNext_4 rfl (lv_at hl 1 rfl) ?_
  refine cl_nparts hx hb hK hP ha dAs_placeNext_5 ?_
  refine lv_istore_n (lv' := [(3, .int (c_nparts z0 a.toNatClampNeg)), (0, .ref (q 6)), (1, .int (a)), (2, .int (bb (b)))]) hx hb dAs_placeNext_6 rfl hl (by decide) rfl (fun ls hl => ?_)
  refine lv_iload_n hx hb dAs_placeNext_7 rfl (lv_at hl 0 rfl) ?_
  refine lv_iconst (v := (-1)) hx hb dAs_placeNext_8 (by decide) ?_
  refine lv_icmp_eq hx hb dAs_placeNext_9 rfl (fun h9 => ?_) (fun h9 => ?_)
  · have hR := hR.trans (if_pos h9)
    refine lv_iload_n hx hb dAs_placeNext_24 rfl (lv_at hl 2 rfl) ?_
    refine lv_iconst (v := 1) hx hb dAs_placeNext_25 (by decide) ?_
    refine lv_iadd hx hb dAs_placeNext_26 ?_
    refine lv_aload_n hx hb dAs_placeNext_27 rfl (lv_at hl 1 rfl) ?_
    refine cg6_count hx hb hts i0 hown hK hP w1 dAs_placeNext_28 ?_
    refine lv_icmp_ge hx hb dAs_placeNext_31 rfl (fun h31 => ?_) (fun h31 => ?_)
    · have hR := hR.trans (if_pos h31)
      exact hB50 s.heap [] ls z0 hR (by first | exact hb9 | exact bn_b ha hA hl9 hd9) hP hS (lv_sub hl [1, 2, 3] rfl)
    · have hR := hR.trans (if_neg h31)
      refine lv_aload_n hx hb dAs_placeNext_34 rfl (lv_at hl 1 rfl) ?_
      refine cg6_locationParts hx hb hts i0 hown hK hP w2 dAs_placeNext_35 ?_
      refine lv_iload_n hx hb dAs_placeNext_38 rfl (lv_at hl 2 rfl) ?_
      refine lv_iconst (v := 1) hx hb dAs_placeNext_39 (by decide) ?_
      refine lv_iadd hx hb dAs_placeNext_40 ?_
      refine cl_lparts hx hb hK hP (nx_in ha hA h31) dAs_placeNext_41 ?_
      refine lv_iconst (v := (-1)) hx hb dAs_placeNext_42 (by decide) ?_
      refine lv_icmp_ne hx hb dAs_placeNext_43 rfl (fun h43 => ?_) (fun h43 => ?_)
      · have hR := hR.trans (if_neg h43)
        exact hB50 s.heap [] ls z0 hR (by first | exact hb9 | exact bn_b ha hA hl9 hd9) hP hS (lv_sub hl [1, 2, 3] rfl)
      · have hR := hR.trans (if_pos h43)
        refine lv_iconst (v := 1) hx hb dAs_placeNext_46 (by decide) ?_
        refine lv_goto hx hb dAs_placeNext_47 rfl ?_
        exact hB51 s.heap [] ls z0 true hR (by first | exact hb9 | exact bn_b ha hA hl9 hd9) hP hS (lv_sub hl [1, 2, 3] rfl)
  · have hR := hR.trans (if_neg h9)
    refine lv_aload_n hx hb dAs_placeNext_12 rfl (lv_at hl 1 rfl) ?_
    refine lv_iload_n hx hb dAs_placeNext_13 rfl (lv_at hl 0 rfl) ?_
    refine lv_aload_n hx hb dAs_placeNext_14 rfl (lv_at hl 1 rfl) ?_
    refine lv_iload_n hx hb dAs_placeNext_15 rfl (lv_at hl 2 rfl) ?_
    refine cl_rd (W.runV (As := [.int (a)]) (rest := [.int (c_nparts z0 a.toNatClampNeg), .ref (q 6)]) ⟨hx, hb, hml, hown, hts⟩ (kAs_bestForNext l D q cI cJ cZ hq z0 a ha) (cwV 1 hts (gV wm3_39 wm3_41 ws1_13 wm1_8 wm3_42) rfl rfl rfl (by decide +kernel) ⟨Nat.le_of_ble_eq_true rfl, Nat.le_of_ble_eq_true rfl⟩) (c_preV6 hK hP) rfl rfl hl.1 rfl (lv_room (Nat.le_of_ble_eq_true rfl)) dAs_placeNext_16 ⟨Nat.le_refl _, Nat.le_refl _⟩) ?_
    refine lv_iload_n hx hb dAs_placeNext_19 rfl (lv_at hl 3 rfl) ?_
    refine cl_wr (W.runV (As := [.int ((c_nparts z0 a.toNatClampNeg)), .int ((fAs_bestForNext z0 a)), .int (bb (b))]) (rest := []) ⟨hx, hb, hml, hown, hts⟩ (kAs_placePart l D q cI cJ cZ hq z0 (c_nparts z0 a.toNatClampNeg) (fAs_bestForNext z0 a) b (bn_b ha hA hl9 hd9)) (cwV 3 hts (gV wm3_15 wm3_17 ws1_7 wm1_8 wm3_18) rfl rfl rfl (by decide +kernel) ⟨Nat.le_of_ble_eq_true rfl, Nat.le_of_ble_eq_true rfl⟩) (c_preV6 hK hP) rfl rfl hl.1 rfl (lv_room (Nat.le_of_ble_eq_true rfl)) dAs_placeNext_20 ⟨Nat.le_refl _, Nat.le_refl _⟩) hS (fun _ h => h) (fun _ h => h) (fun H locs hP hS => ?_)
    exact W.iret hx hb hr (fun t ht _ => ⟨by rw [hR]; first | done | rfl, by rw [hR, ht]; exact hP, hS.F ht⟩) hS.2.2 dAs_placeNext_23
end
section
theorem np16_pl {z : SC} {s0 : Int32} (h : pl s0) : pl (fAs_newPlace_16 z s0).1 := by
  unfold fAs_newPlace_16
  split <;> exact h
theorem np_pl {z : SC} {a : Int32} (b : Bool) (ha : 0 ≤ a.toInt ∧ a.toInt ≤ 10000) : pl (fAs_newPlace z a b).1 := by
  unfold fAs_newPlace
  split
  · exact np16_pl (ff_pl ha)
  · exact np16_pl lf_pl
/-- nothing of the lines and places is changed -/
def sA (z z' : SC) : Prop := c_acount z' = c_acount z ∧ c_lparts z' = c_lparts z ∧ c_nparts z' = c_nparts z ∧ c_dparts z' = c_dparts z ∧ c_locs z' = c_locs z ∧ c_dat z' = c_dat z ∧ c_nexts z' = c_nexts z ∧ c_ops z' = c_ops z
theorem sA_rf (z : SC) : sA z z := ⟨rfl, rfl, rfl, rfl, rfl, rfl, rfl, rfl⟩
theorem np16_s (z : SC) (s0 : Int32) : sA z (fAs_newPlace_16 z s0).2 ∧ c_syms (fAs_newPlace_16 z s0).2 = c_syms z := by
  unfold fAs_newPlace_16
  split
  · exact ⟨sA_rf z, rfl⟩
  · exact ⟨⟨rfl, rfl, rfl, rfl, rfl, rfl, rfl, rfl⟩, rfl⟩
theorem np_s (z : SC) (a : Int32) (b : Bool) : sA z (fAs_newPlace z a b).2 ∧ c_syms (fAs_newPlace z a b).2 = c_syms z := by
  unfold fAs_newPlace
  split
  · exact np16_s _ _
  · exact np16_s _ _
theorem c_A_of {z z' : SC} (hA : c_A z) (h : sA z z') (hs : ∀ i, i < 20 → pl (c_syms z' i)) : c_A z' := by
  obtain ⟨h1, h2, h3, h4, h5, h6, h7, h8⟩ := h
  unfold c_A
  rw [h1, h2, h3, h4, h5, h6, h7, h8]
  exact ⟨hA.1, hA.2.1, hA.2.2.1, hA.2.2.2.1, hA.2.2.2.2.1, hA.2.2.2.2.2.1, hA.2.2.2.2.2.2.1, hs⟩
theorem upd_all {P : Int32 → Prop} {f : Nat → Int32} {n k : Nat} {x : Int32} (h : ∀ i, i < n → P (f i)) (hx : P x) : ∀ i, i < n → P (upd f k x i) := by
  intro i hi
  unfold upd
  split
  · exact hx
  · exact h i hi
theorem pP16 {z : SC} {x : Int32} {b : Bool} {v4 : Int32} (hA : c_A z) (hx : 0 ≤ x.toInt ∧ x.toInt ≤ 10000) (hv : vp_in v4 20) : pl (fAs_placePart_16 z x b v4).1 ∧ sA z (fAs_placePart_16 z x b v4).2 ∧ ∀ i, i < 20 → pl (c_syms (fAs_placePart_16 z x b v4).2 i) := by
  have hn := np_s z x b
  have hp := np_pl (z := z) b hx
  unfold fAs_placePart_16
  generalize fAs_newPlace z x b = y at hn hp
  have hs0 := hA.2.2.2.2.2.2.2
  by_cases h : c_syms z v4.toNatClampNeg = (-1 : Int32)
  · rw [if_pos h]
    have hs : ∀ i, i < 20 → pl (upd (c_syms y.2) v4.toNatClampNeg y.1 i) := upd_all (by rw [hn.2]; exact hs0) hp
    exact ⟨hs _ (ix_lt hv), hn.1, hs⟩
  · rw [if_neg h]
    exact ⟨hs0 _ (ix_lt hv), sA_rf z, hs0⟩
theorem pP {z : SC} {a x : Int32} {b : Bool} (hA : c_A z) (ha : pp a) (hx : 0 ≤ x.toInt ∧ x.toInt ≤ 10000) : pl (fAs_placePart z a x b).1 ∧ sA z (fAs_placePart z a x b).2 ∧ ∀ i, i < 20 → pl (c_syms (fAs_placePart z a x b).2 i) := by
  unfold fAs_placePart
  by_cases h : fAs_isSymbol a = true
  · rw [if_pos h]; exact pP16 hA hx (sy_in h)
  · rw [if_neg h]; exact ⟨pp_ns ha h, sA_rf z, hA.2.2.2.2.2.2.2⟩
theorem b00 : 0 ≤ (0 : Int32).toInt ∧ (0 : Int32).toInt ≤ 10000 := by decide
theorem np3 {z : SC} {x : Int32} (b : Bool) (hA : c_A z) (hx : 0 ≤ x.toInt ∧ x.toInt ≤ 10000) : pl (fAs_newPlace z x b).1 ∧ sA z (fAs_newPlace z x b).2 ∧ ∀ i, i < 20 → pl (c_syms (fAs_newPlace z x b).2 i) := by
  have hn := np_s z x b
  exact ⟨np_pl b hx, hn.1, by rw [hn.2]; exact hA.2.2.2.2.2.2.2⟩
theorem pLoc {z : SC} {a : Int32} {b : Bool} (ha : vp_in a 40) (hA : c_A z) : pl (fAs_placeLocation z a b).1 ∧ sA z (fAs_placeLocation z a b).2 ∧ ∀ i, i < 20 → pl (c_syms (fAs_placeLocation z a b).2 i) := by
  unfold fAs_placeLocation
  split
  · by_cases h : a ≤ 0
    · rw [if_pos h]; exact np3 b hA b00
    · rw [if_neg h]
      split
      · exact ⟨hA.2.2.2.2.2.2.1 _ (ix_lt (pr_in ha h)), sA_rf z, hA.2.2.2.2.2.2.2⟩
      · exact np3 b hA b00
  · exact pP hA (hA.2.1 _ (ix_lt ha)) b00
theorem pDat {z : SC} {a : Int32} {b : Bool} (ha : vp_in a 40) (hA : c_A z) (hl : 0 ≤ (c_locs z a.toNatClampNeg).toInt) : pl (fAs_placeData z a b).1 ∧ sA z (fAs_placeData z a b).2 ∧ ∀ i, i < 20 → pl (c_syms (fAs_placeData z a b).2 i) := by
  have hd := hA.2.2.2.1 _ (ix_lt ha)
  unfold fAs_placeData
  split
  · exact ⟨pl_0, sA_rf z, hA.2.2.2.2.2.2.2⟩
  · by_cases h : fOp_shifts (c_ops z a.toNatClampNeg) = true
    · rw [if_pos h]; exact ⟨hd.2 h, sA_rf z, hA.2.2.2.2.2.2.2⟩
    · rw [if_neg h]; exact pP hA hd.1 (pd_b ha hA hl)
theorem pN53 {z : SC} {a : Int32} {b v : Bool} (hA : c_A z) (hb : 0 ≤ (fAs_bestForNext z a).toInt ∧ (fAs_bestForNext z a).toInt ≤ 10000) : pl (fAs_placeNext_53 z a b v).1 ∧ sA z (fAs_placeNext_53 z a b v).2 ∧ ∀ i, i < 20 → pl (c_syms (fAs_placeNext_53 z a b v).2 i) := by
  unfold fAs_placeNext_53
  split
  · exact np3 b hA hb
  · exact ⟨pl_0, sA_rf z, hA.2.2.2.2.2.2.2⟩
theorem pNx {z : SC} {a : Int32} {b : Bool} (ha : vp_in a 40) (hA : c_A z) (hl : 0 ≤ (c_locs z a.toNatClampNeg).toInt) (hd : 0 ≤ (c_dat z a.toNatClampNeg).toInt) : pl (fAs_placeNext z a b).1 ∧ sA z (fAs_placeNext z a b).2 ∧ ∀ i, i < 20 → pl (c_syms (fAs_placeNext z a b).2 i) := by
  have hb := bn_b ha hA hl hd
  unfold fAs_placeNext fAs_placeNext_50 fAs_placeNext_51
  split
  · split
    · exact pN53 hA hb
    · split
      · exact pN53 hA hb
      · exact pN53 hA hb
  · exact pP hA (hA.2.2.1 _ (ix_lt ha)) hb
/-- a line's location is set -/
theorem A_loc {z z' : SC} {k : Nat} {x : Int32} (hA : c_A z) (h : sA z z') (hs : ∀ i, i < 20 → pl (c_syms z' i)) (hx : pl x) : c_A (c_locs_s z' (upd (c_locs z') k x)) := by
  have h1 := c_A_of hA h hs
  exact ⟨h1.1, h1.2.1, h1.2.2.1, h1.2.2.2.1, upd_all h1.2.2.2.2.1 hx, h1.2.2.2.2.2.1, h1.2.2.2.2.2.2.1, h1.2.2.2.2.2.2.2⟩
theorem A_dat {z z' : SC} {k : Nat} {x : Int32} (hA : c_A z) (h : sA z z') (hs : ∀ i, i < 20 → pl (c_syms z' i)) (hx : pl x) : c_A (c_dat_s z' (upd (c_dat z') k x)) := by
  have h1 := c_A_of hA h hs
  exact ⟨h1.1, h1.2.1, h1.2.2.1, h1.2.2.2.1, h1.2.2.2.2.1, upd_all h1.2.2.2.2.2.1 hx, h1.2.2.2.2.2.2.1, h1.2.2.2.2.2.2.2⟩
theorem A_nxs {z z' : SC} {k : Nat} {x : Int32} (hA : c_A z) (h : sA z z') (hs : ∀ i, i < 20 → pl (c_syms z' i)) (hx : pl x) : c_A (c_nexts_s z' (upd (c_nexts z') k x)) := by
  have h1 := c_A_of hA h hs
  exact ⟨h1.1, h1.2.1, h1.2.2.1, h1.2.2.2.1, h1.2.2.2.2.1, h1.2.2.2.2.2.1, upd_all h1.2.2.2.2.2.2.1 hx, h1.2.2.2.2.2.2.2⟩
theorem pl_A1 {z : SC} {a : Int32} {b : Bool} (ha : vp_in a 40) (hA : c_A z) : c_A (c_locs_s (fAs_placeLocation z a b).2 (upd (c_locs (fAs_placeLocation z a b).2) a.toNatClampNeg (fAs_placeLocation z a b).1)) := by
  have h := pLoc (b := b) ha hA
  exact A_loc hA h.2.1 h.2.2 h.1
theorem pl_l {z : SC} {a : Int32} (ha : vp_in a 40) (hA : c_A z) (h : ¬ c_locs z a.toNatClampNeg = -1) : 0 ≤ (c_locs z a.toNatClampNeg).toInt := pl_nn (hA.2.2.2.2.1 _ (ix_lt ha)) h
theorem pl_A2 {z : SC} {a : Int32} {b : Bool} (ha : vp_in a 40) (hA : c_A z) (hl : 0 ≤ (c_locs z a.toNatClampNeg).toInt) : c_A (c_dat_s (fAs_placeData z a b).2 (upd (c_dat (fAs_placeData z a b).2) a.toNatClampNeg (fAs_placeData z a b).1)) := by
  have h := pDat (b := b) ha hA hl
  exact A_dat hA h.2.1 h.2.2 h.1
theorem pl_l2 {z : SC} {a : Int32} {b : Bool} (ha : vp_in a 40) (hA : c_A z) (hl : 0 ≤ (c_locs z a.toNatClampNeg).toInt) : 0 ≤ (c_locs (c_dat_s (fAs_placeData z a b).2 (upd (c_dat (fAs_placeData z a b).2) a.toNatClampNeg (fAs_placeData z a b).1)) a.toNatClampNeg).toInt := by
  have h := (pDat (b := b) ha hA hl).2.1.2.2.2.2.1
  show 0 ≤ (c_locs (fAs_placeData z a b).2 a.toNatClampNeg).toInt
  rw [h]
  exact hl
theorem pl_d {z : SC} {a : Int32} (ha : vp_in a 40) (hA : c_A z) (h : ¬ c_dat z a.toNatClampNeg = -1) : 0 ≤ (c_dat z a.toNatClampNeg).toInt := pl_nn (hA.2.2.2.2.2.1 _ (ix_lt ha)) h
end
section
theorem dAs_placeLine_0 : decode ccAs_placeLine 0 = .ok (.aload_n 0, 1) := by decide +kernel
theorem dAs_placeLine_1 : decode ccAs_placeLine 1 = .ok (.getfield 22, 3) := by decide +kernel
theorem dAs_placeLine_4 : decode ccAs_placeLine 4 = .ok (.iload_n 1, 1) := by decide +kernel
theorem dAs_placeLine_5 : decode ccAs_placeLine 5 = .ok (.aload_n 0, 1) := by decide +kernel
theorem dAs_placeLine_6 : decode ccAs_placeLine 6 = .ok (.iload_n 1, 1) := by decide +kernel
theorem dAs_placeLine_7 : decode ccAs_placeLine 7 = .ok (.iload_n 2, 1) := by decide +kernel
theorem dAs_placeLine_8 : decode ccAs_placeLine 8 = .ok (.invokevirtual 95, 3) := by decide +kernel
theorem dAs_placeLine_11 : decode ccAs_placeLine 11 = .ok (.iastore, 1) := by decide +kernel
theorem dAs_placeLine_12 : decode ccAs_placeLine 12 = .ok (.aload_n 0, 1) := by decide +kernel
theorem dAs_placeLine_13 : decode ccAs_placeLine 13 = .ok (.getfield 22, 3) := by decide +kernel
theorem dAs_placeLine_16 : decode ccAs_placeLine 16 = .ok (.iload_n 1, 1) := by decide +kernel
theorem dAs_placeLine_17 : decode ccAs_placeLine 17 = .ok (.iaload, 1) := by decide +kernel
theorem dAs_placeLine_18 : decode ccAs_placeLine 18 = .ok (.iconst (-1), 1) := by decide +kernel
theorem dAs_placeLine_19 : decode ccAs_placeLine 19 = .ok (.if_icmp .ne 5, 3) := by decide +kernel
theorem dAs_placeLine_22 : decode ccAs_placeLine 22 = .ok (.iconst 0, 1) := by decide +kernel
theorem dAs_placeLine_23 : decode ccAs_placeLine 23 = .ok (.ireturn, 1) := by decide +kernel
theorem dAs_placeLine_24 : decode ccAs_placeLine 24 = .ok (.aload_n 0, 1) := by decide +kernel
theorem dAs_placeLine_25 : decode ccAs_placeLine 25 = .ok (.getfield 25, 3) := by decide +kernel
theorem dAs_placeLine_28 : decode ccAs_placeLine 28 = .ok (.iload_n 1, 1) := by decide +kernel
theorem dAs_placeLine_29 : decode ccAs_placeLine 29 = .ok (.aload_n 0, 1) := by decide +kernel
theorem dAs_placeLine_30 : decode ccAs_placeLine 30 = .ok (.iload_n 1, 1) := by decide +kernel
theorem dAs_placeLine_31 : decode ccAs_placeLine 31 = .ok (.iload_n 2, 1) := by decide +kernel
theorem dAs_placeLine_32 : decode ccAs_placeLine 32 = .ok (.invokevirtual 99, 3) := by decide +kernel
theorem dAs_placeLine_35 : decode ccAs_placeLine 35 = .ok (.iastore, 1) := by decide +kernel
theorem dAs_placeLine_36 : decode ccAs_placeLine 36 = .ok (.aload_n 0, 1) := by decide +kernel
theorem dAs_placeLine_37 : decode ccAs_placeLine 37 = .ok (.getfield 25, 3) := by decide +kernel
theorem dAs_placeLine_40 : decode ccAs_placeLine 40 = .ok (.iload_n 1, 1) := by decide +kernel
theorem dAs_placeLine_41 : decode ccAs_placeLine 41 = .ok (.iaload, 1) := by decide +kernel
theorem dAs_placeLine_42 : decode ccAs_placeLine 42 = .ok (.iconst (-1), 1) := by decide +kernel
theorem dAs_placeLine_43 : decode ccAs_placeLine 43 = .ok (.if_icmp .ne 5, 3) := by decide +kernel
theorem dAs_placeLine_46 : decode ccAs_placeLine 46 = .ok (.iconst 0, 1) := by decide +kernel
theorem dAs_placeLine_47 : decode ccAs_placeLine 47 = .ok (.ireturn, 1) := by decide +kernel
theorem dAs_placeLine_48 : decode ccAs_placeLine 48 = .ok (.aload_n 0, 1) := by decide +kernel
theorem dAs_placeLine_49 : decode ccAs_placeLine 49 = .ok (.getfield 28, 3) := by decide +kernel
theorem dAs_placeLine_52 : decode ccAs_placeLine 52 = .ok (.iload_n 1, 1) := by decide +kernel
theorem dAs_placeLine_53 : decode ccAs_placeLine 53 = .ok (.aload_n 0, 1) := by decide +kernel
theorem dAs_placeLine_54 : decode ccAs_placeLine 54 = .ok (.iload_n 1, 1) := by decide +kernel
theorem dAs_placeLine_55 : decode ccAs_placeLine 55 = .ok (.iload_n 2, 1) := by decide +kernel
theorem dAs_placeLine_56 : decode ccAs_placeLine 56 = .ok (.invokevirtual 102, 3) := by decide +kernel
theorem dAs_placeLine_59 : decode ccAs_placeLine 59 = .ok (.iastore, 1) := by decide +kernel
theorem dAs_placeLine_60 : decode ccAs_placeLine 60 = .ok (.aload_n 0, 1) := by decide +kernel
theorem dAs_placeLine_61 : decode ccAs_placeLine 61 = .ok (.getfield 28, 3) := by decide +kernel
theorem dAs_placeLine_64 : decode ccAs_placeLine 64 = .ok (.iload_n 1, 1) := by decide +kernel
theorem dAs_placeLine_65 : decode ccAs_placeLine 65 = .ok (.iaload, 1) := by decide +kernel
theorem dAs_placeLine_66 : decode ccAs_placeLine 66 = .ok (.iconst (-1), 1) := by decide +kernel
theorem dAs_placeLine_67 : decode ccAs_placeLine 67 = .ok (.if_icmp .eq 7, 3) := by decide +kernel
theorem dAs_placeLine_70 : decode ccAs_placeLine 70 = .ok (.iconst 1, 1) := by decide +kernel
theorem dAs_placeLine_71 : decode ccAs_placeLine 71 = .ok (.goto 4, 3) := by decide +kernel
theorem dAs_placeLine_74 : decode ccAs_placeLine 74 = .ok (.iconst 0, 1) := by decide +kernel
theorem dAs_placeLine_75 : decode ccAs_placeLine 75 = .ok (.ireturn, 1) := by decide +kernel
def fAs_placeLine_36  (z : SC) (a : Int32) (b : Bool) : Bool × SC :=
  (if (c_dat z a.toNatClampNeg) = ((-1) : Int32) then (false, z) else (if ((upd (c_nexts ((fAs_placeNext z a b).2)) a.toNatClampNeg ((fAs_placeNext z a b).1)) a.toNatClampNeg) = ((-1) : Int32) then (false, c_nexts_s ((fAs_placeNext z a b).2) (upd (c_nexts ((fAs_placeNext z a b).2)) a.toNatClampNeg ((fAs_placeNext z a b).1))) else (true, c_nexts_s ((fAs_placeNext z a b).2) (upd (c_nexts ((fAs_placeNext z a b).2)) a.toNatClampNeg ((fAs_placeNext z a b).1)))))
def fAs_placeLine_12  (z : SC) (a : Int32) (b : Bool) : Bool × SC :=
  (if (c_locs z a.toNatClampNeg) = ((-1) : Int32) then (false, z) else fAs_placeLine_36 (c_dat_s ((fAs_placeData z a b).2) (upd (c_dat ((fAs_placeData z a b).2)) a.toNatClampNeg ((fAs_placeData z a b).1))) a b)
def fAs_placeLine (z0 : SC) (a : Int32) (b : Bool) : Bool × SC :=
  fAs_placeLine_12 (c_locs_s ((fAs_placeLocation z0 a b).2) (upd (c_locs ((fAs_placeLocation z0 a b).2)) a.toNatClampNeg ((fAs_placeLocation z0 a b).1))) a b
set_option maxHeartbeats 4000000 in
set_option maxRecDepth 100000 in
theorem kAs_placeLine (l : Launch) (D : va_G) (q : Nat → Nat) (cI cJ cZ : ClassId) (hq : c_inj q) (z0 : SC) (a : Int32) (b : Bool) (ha : vp_in a 40) (hA : c_A z0) : Met l yAs_placeLine wsAs_placeLine { frames := 5, cells := 0, slots := 0, locals := 110 } (va_Pc [.ref (q 6), .int (a), .int (bb (b))] (c_C D q cI cJ cZ z0)) (cQw (some (.int (bb ((fAs_placeLine z0 a b).1)))) (c_W D q cI cJ cZ (fAs_placeLine z0 a b).2) (c_qs q)) 0 0 (c_qs q) := by
  refine Met.ofW (cc := ccAs_placeLine) (maxL := 3) (ret := (some .boolean)) (by decide +kernel) rfl ?_
  intro p e s m args below meth c s₁ B hml hv
  obtain ⟨rfl, hP, hK⟩ := hv
  have hx := B.exec
  have hb := B.bytes
  have hr := B.returns
  have hts := atoms_spec (ws := wsAs_placeLine) B.pre
  have hown : s.vm.findClass RAs = some m.cls := findClass_of_methodNamed B.named
  have hlocks := B.notSynchronized
  have w0 := hts (.fieldLink RAs 25 "DrumMachine$Assembler" "data" "[I") (List.mem_cons_of_mem _ wm1_150)
  have w1 := hts (.fieldLink RAs 28 "DrumMachine$Assembler" "nexts" "[I") (List.mem_cons_of_mem _ wm1_151)
  have w2 := hts (.fieldLink RAs 22 "DrumMachine$Assembler" "locations" "[I") (List.mem_cons_of_mem _ wm1_149)
  have i0 : ∀ w ∈ u_ws RAs TAs 11, w ∈ wsAs_placeLine := fun w h => List.mem_cons_of_mem _ (inAAs w h)
  have hS : va_S (c_qs q) s.heap s.heap [] := va_S.rf
  have hl := lv_entry ([.ref (q 6), .int (a), .int (bb (b))]) (n := 3) (Nat.le_of_ble_eq_true rfl)
  rw [lg_entry_eq]
  generalize (lg_sl ([.ref (q 6), .int (a), .int (bb (b))]) ++ List.replicate (3 - (lg_sl ([.ref (q 6), .int (a), .int (bb (b))])).length) Slot.unset).toArray = ls at hl ⊢
  have hl : lv_has ls 3 [(0, .ref (q 6)), (1, .int (a)), (2, .int (bb (b)))] := hl
  have hB36 : ∀ (H : Heap) (locs : List Loc) (ls : Array Slot) (z : SC), fAs_placeLine z0 a b = fAs_placeLine_36 z a b → (c_A z) → (0 ≤ (c_locs z a.toNatClampNeg).toInt) → c_W D q cI cJ cZ z H → va_S (c_qs q) s.heap H locs → lv_has ls 3 [(0, .ref (q 6)), (1, .int (a)), (2, .int (bb (b)))] → W p l e (headSpec wsAs_placeLine { frames := 5, cells := 0, slots := 0, locals := 110 }).room s m ([.ref (q 6), .int (a), .int (bb (b))] : List Value).toArray below meth c H locs 0 0 (MQ below (cQw (some (.int (bb ((fAs_placeLine z0 a b).1)))) (c_W D q cI cJ cZ (fAs_placeLine z0 a b).2) (c_qs q)) ([.ref (q 6), .int (a), .int (bb (b))] : List Value).toArray s 0 0 (c_qs q)) (F0 m 36 ls []) := by
    intro H locs ls z hR hA hl9 hP hS hl
    rw [fAs_placeLine_36.eq_1] at hR
    refine lv_aload_n hx hb dAs_placeLine_36 rfl (lv_at hl 0 rfl) ?_
    refine cg6_data hx hb hts i0 hown hK hP w0 dAs_placeLine_37 ?_
    refine lv_iload_n hx hb dAs_placeLine_40 rfl (lv_at hl 1 rfl) ?_
    refine cl_dat hx hb hK hP ha dAs_placeLine_41 ?_
    refine lv_iconst (v := (-1)) hx hb dAs_placeLine_42 (by decide) ?_
    refine lv_icmp_ne hx hb dAs_placeLine_43 rfl (fun h43 => ?_) (fun h43 => ?_)
    · have hR := hR.trans (if_neg h43)
      refine lv_aload_n hx hb dAs_placeLine_48 rfl (lv_at hl 0 rfl) ?_
      refine cg6_nexts hx hb hts i0 hown hK hP w1 dAs_placeLine_49 ?_
      refine lv_iload_n hx hb dAs_placeLine_52 rfl (lv_at hl 1 rfl) ?_
      refine lv_aload_n hx hb dAs_placeLine_53 rfl (lv_at hl 0 rfl) ?_
      refine lv_iload_n hx hb dAs_placeLine_54 rfl (lv_at hl 1 rfl) ?_
      refine lv_iload_n hx hb dAs_placeLine_55 rfl (lv_at hl 2 rfl) ?_
      refine cl_wr (W.runV (As := [.int (a), .int (bb (b))]) (rest := [.int (a), .ref (q 19)]) ⟨hx, hb, hml, hown, hts⟩ (kAs_placeNext l D q cI cJ cZ hq z a b ha hA hl9 (pl_d ha hA h43)) (cwV 2 hts (gV wm3_35 wm3_37 ws1_12 wm1_8 wm3_38) rfl rfl rfl (by decide +kernel) ⟨Nat.le_of_ble_eq_true rfl, Nat.le_of_ble_eq_true rfl⟩) (c_preV6 hK hP) rfl rfl hl.1 rfl (lv_room (Nat.le_of_ble_eq_true rfl)) dAs_placeLine_56 ⟨Nat.le_refl _, Nat.le_refl _⟩) hS (fun _ h => h) (fun _ h => h) (fun H locs hP hS => ?_)
      refine cs_nexts ((fAs_placeNext z a b).1) hq hS hx hb hK hP ha dAs_placeLine_59 (fun H locs hP hS => ?_)
      refine lv_aload_n hx hb dAs_placeLine_60 rfl (lv_at hl 0 rfl) ?_
      refine cg6_nexts hx hb hts i0 hown hK hP w1 dAs_placeLine_61 ?_
      refine lv_iload_n hx hb dAs_placeLine_64 rfl (lv_at hl 1 rfl) ?_
      refine cl_nexts hx hb hK hP ha dAs_placeLine_65 ?_
      refine lv_iconst (v := (-1)) hx hb dAs_placeLine_66 (by decide) ?_
      refine lv_icmp_eq hx hb dAs_placeLine_67 rfl (fun h67 => ?_) (fun h67 => ?_)
      · have hR := hR.trans (if_pos h67)
        refine lv_iconst (v := 0) hx hb dAs_placeLine_74 (by decide) ?_
        exact W.zret hx hb hr rfl (fun t ht _ => ⟨by rw [hR]; first | done | rfl, by rw [hR, ht]; exact hP, hS.F ht⟩) hS.2.2 dAs_placeLine_75
      · have hR := hR.trans (if_neg h67)
        refine lv_iconst (v := 1) hx hb dAs_placeLine_70 (by decide) ?_
        refine lv_goto hx hb dAs_placeLine_71 rfl ?_
        exact W.zret hx hb hr rfl (fun t ht _ => ⟨by rw [hR]; first | done | rfl, by rw [hR, ht]; exact hP, hS.F ht⟩) hS.2.2 dAs_placeLine_75
    · have hR := hR.trans (if_pos h43)
      refine lv_iconst (v := 0) hx hb dAs_placeLine_46 (by decide) ?_
      exact W.zret hx hb hr rfl (fun t ht _ => ⟨by rw [hR]; first | done | rfl, by rw [hR, ht]; exact hP, hS.F ht⟩) hS.2.2 dAs_placeLine_47
  have hB12 : ∀ (H : Heap) (locs : List Loc) (ls : Array Slot) (z : SC), fAs_placeLine z0 a b = fAs_placeLine_12 z a b → (c_A z) → c_W D q cI cJ cZ z H → va_S (c_qs q) s.heap H locs → lv_has ls 3 [(0, .ref (q 6)), (1, .int (a)), (2, .int (bb (b)))] → W p l e (headSpec wsAs_placeLine { frames := 5, cells := 0, slots := 0, locals := 110 }).room s m ([.ref (q 6), .int (a), .int (bb (b))] : List Value).toArray below meth c H locs 0 0 (MQ below (cQw (some (.int (bb ((fAs_placeLine z0 a b).1)))) (c_W D q cI cJ cZ (fAs_placeLine z0 a b).2) (c_qs q)) ([.ref (q 6), .int (a), .int (bb (b))] : List Value).toArray s 0 0 (c_qs q)) (F0 m 12 ls []) := by
    intro H locs ls z hR hA hP hS hl
    rw [fAs_placeLine_12.eq_1] at hR
    refine lv_aload_n hx hb dAs_placeLine_12 rfl (lv_at hl 0 rfl) ?_
    refine cg6_locations hx hb hts i0 hown hK hP w2 dAs_placeLine_13 ?_
    refine lv_iload_n hx hb dAs_placeLine_16 rfl (lv_at hl 1 rfl) ?_
    refine cl_locs hx hb hK hP ha dAs_placeLine_17 ?_
    refine lv_iconst (v := (-1)) hx hb dAs_placeLine_18 (by decide) ?_
    refine lv_icmp_ne hx hb dAs_placeLine_19 rfl (fun h19 => ?_) (fun h19 => ?_)
    · have hR := hR.trans (if_neg h19)
      refine lv_aload_n hx hb dAs_placeLine_24 rfl (lv_at hl 0 rfl) ?_
      refine cg6_data hx hb hts i0 hown hK hP w0 dAs_placeLine_25 ?_
      refine lv_iload_n hx hb dAs_placeLine_28 rfl (lv_at hl 1 rfl) ?_
      refine lv_aload_n hx hb dAs_placeLine_29 rfl (lv_at hl 0 rfl) ?_
      refine lv_iload_n hx hb dAs_placeLine_30 rfl (lv_at hl 1 rfl) ?_
      refine lv_iload_n hx hb dAs_placeLine_31 rfl (lv_at hl 2 rfl) ?_
      refine cl_wr (W.runV (As := [.int (a), .int (bb (b))]) (rest := [.int (a), .ref (q 18)]) ⟨hx, hb, hml, hown, hts⟩ (kAs_placeData l D q cI cJ cZ hq z a b ha hA (pl_l ha hA h19)) (cwV 2 hts (gV wm3_31 wm3_33 ws1_11 wm1_8 wm3_34) rfl rfl rfl (by decide +kernel) ⟨Nat.le_of_ble_eq_true rfl, Nat.le_of_ble_eq_true rfl⟩) (c_preV6 hK hP) rfl rfl hl.1 rfl (lv_room (Nat.le_of_ble_eq_true rfl)) dAs_placeLine_32 ⟨Nat.le_refl _, Nat.le_refl _⟩) hS (fun _ h => h) (fun _ h => h) (fun H locs hP hS => ?_)
      refine cs_dat ((fAs_placeData z a b).1) hq hS hx hb hK hP ha dAs_placeLine_35 (fun H locs hP hS => ?_)
      exact hB36 H locs ls (c_dat_s ((fAs_placeData z a b).2) (upd (c_dat ((fAs_placeData z a b).2)) a.toNatClampNeg ((fAs_placeData z a b).1))) hR (pl_A2 ha hA (pl_l ha hA h19)) (pl_l2 ha hA (pl_l ha hA h19)) hP hS (lv_sub hl [0, 1, 2] rfl)
    · have hR := hR.trans (if_pos h19)
      refine lv_iconst (v := 0) hx hb dAs_placeLine_22 (by decide) ?_
      exact W.zret hx hb hr rfl (fun t ht _ => ⟨by rw [hR]; first | done | rfl, by rw [hR, ht]; exact hP, hS.F ht⟩) hS.2.2 dAs_placeLine_23
  have hR := fAs_placeLine.eq_1 z0 a b
  refine lv_aload_n hx hb dAs_placeLine_0 rfl (lv_at hl 0 rfl) ?_
  refine cg6_locations hx hb hts i0 hown hK hP w2 dAs_placeLine_1 ?_
  refine lv_iload_n hx hb dAs_placeLine_4 rfl (lv_at hl 1 rfl) ?_
  refine lv_aload_n hx hb dAs_placeLine_5 rfl (lv_at hl 0 rfl) ?_
  refine lv_iload_n hx hb dAs_placeLine_6 rfl (lv_at hl 1 rfl) ?_
  refine lv_iload_n hx hb dAs_placeLine_7 rfl (lv_at hl 2 rfl) ?_
  refine cl_wr (W.runV (As := [.int (a), .int (bb (b))]) (rest := [.int (a), .ref (q 17)]) ⟨hx, hb, hml, hown, hts⟩ (kAs_placeLocation l D q cI cJ cZ hq z0 a b ha) (cwV 2 hts (gV wm3_11 wm3_13 ws1_6 wm1_8 wm3_14) rfl rfl rfl (by decide +kernel) ⟨Nat.le_of_ble_eq_true rfl, Nat.le_of_ble_eq_true rfl⟩) (c_preV6 hK hP) rfl rfl hl.1 rfl (lv_room (Nat.le_of_ble_eq_true rfl)) dAs_placeLine_8 ⟨Nat.le_refl _, Nat.le_refl _⟩) hS (fun _ h => h) (fun _ h => h) (fun H locs hP hS => ?_)
  refine cs_locs ((fAs_placeLocation z0 a b).1) hq hS hx hb hK hP ha dAs_placeLine_11 (fun H locs hP hS => ?_)
  exact hB12 H locs ls (c_locs_s ((fAs_placeLocation z0 a b).2) (upd (c_locs ((fAs_placeLocation z0 a b).2)) a.toNatClampNeg ((fAs_placeLocation z0 a b).1))) hR (pl_A1 ha hA) hP hS (lv_sub hl [0, 1, 2] rfl)
end
section
theorem fill5_eq : ∀ (n : Nat) (z : SC) (v : Int32) (v2 : Nat), v2 ≤ 20 → 20 - v2 < n → fAr_fillC_5 n z v v2 20 = c_syms_s z (fun j => if v2 ≤ j ∧ j < 20 then v else c_syms z j) := by
  intro n
  induction n with
  | zero => intro z v v2 _ h; omega
  | succ n ih =>
    intro z v v2 h2 hn
    rw [fAr_fillC_5.eq_2]
    by_cases h : 20 ≤ v2
    · rw [if_pos h]
      have e : (fun j => if v2 ≤ j ∧ j < 20 then v else c_syms z j) = c_syms z := by
        funext j
        rw [if_neg (by omega)]
      rw [e]
      rfl
    · rw [if_neg h, ih _ _ _ (by omega) (by omega), nI_clamp (by omega)]
      have e : (fun j => if v2 + 1 ≤ j ∧ j < 20 then v else upd (c_syms z) v2 v j) = (fun j => if v2 ≤ j ∧ j < 20 then v else c_syms z j) := by
        funext j
        unfold upd
        by_cases h1 : j = v2
        · rw [if_neg (by omega), if_pos h1, if_pos (by omega)]
        · by_cases h3 : v2 + 1 ≤ j ∧ j < 20
          · rw [if_pos h3, if_pos (by omega)]
          · rw [if_neg h3, if_neg h1, if_neg (by omega)]
      exact congrArg (c_syms_s z) e
theorem fp_eq (z : SC) : fAs_forgetPlaces z = c_syms_s z (fun j => if j < 20 then -1 else c_syms z j) := by
  unfold fAs_forgetPlaces fAr_fillC
  rw [fill5_eq 21 z (-1) 0 (by omega) (by omega)]
  congr 1
  funext j
  by_cases h : j < 20
  · rw [if_pos ⟨Nat.zero_le _, h⟩, if_pos h]
  · rw [if_neg (fun q => h q.2), if_neg h]
theorem sA_tr {x y z : SC} (h1 : sA x y) (h2 : sA y z) : sA x z := ⟨h2.1.trans h1.1, h2.2.1.trans h1.2.1, h2.2.2.1.trans h1.2.2.1, h2.2.2.2.1.trans h1.2.2.2.1, h2.2.2.2.2.1.trans h1.2.2.2.2.1, h2.2.2.2.2.2.1.trans h1.2.2.2.2.2.1, h2.2.2.2.2.2.2.1.trans h1.2.2.2.2.2.2.1, h2.2.2.2.2.2.2.2.trans h1.2.2.2.2.2.2.2⟩
/-- only what is taken, or on the drum, changes -/
def sB (z z' : SC) : Prop := sA z z' ∧ c_syms z' = c_syms z
theorem sB_rf (z : SC) : sB z z := ⟨sA_rf z, rfl⟩
theorem sB_tr {x y z : SC} (h1 : sB x y) (h2 : sB y z) : sB x z := ⟨sA_tr h1.1 h2.1, h2.2.trans h1.2⟩
theorem sB_t (z : SC) (f : Nat → Bool) : sB z (c_taken_s z f) := ⟨⟨rfl, rfl, rfl, rfl, rfl, rfl, rfl, rfl⟩, rfl⟩
theorem ta_s (z : SC) (a : Int32) : sB z (fAs_takeIfAddress z a) := by
  unfold fAs_takeIfAddress
  split
  · exact sB_t _ _
  · exact sB_rf z
theorem mk29_s : ∀ (n : Nat) (z : SC) (v1 : Nat), sB z (fAs_markTaken_29 n z v1) := by
  intro n
  induction n with
  | zero => intro z v1; exact sB_rf z
  | succ n ih =>
    intro z v1
    rw [fAs_markTaken_29.eq_2]
    split
    · exact sB_rf z
    · split
      · exact sB_tr (sB_tr (ta_s _ _) (ta_s _ _)) (ih _ _)
      · exact sB_tr (sB_tr (sB_tr (ta_s _ _) (ta_s _ _)) (ta_s _ _)) (ih _ _)
theorem mk2_s : ∀ (n : Nat) (z : SC) (v1 : Nat), sB z (fAs_markTaken_2 n z v1) := by
  intro n
  induction n with
  | zero => intro z v1; exact sB_rf z
  | succ n ih =>
    intro z v1
    rw [fAs_markTaken_2.eq_2]
    split
    · exact mk29_s _ _ _
    · exact sB_tr (sB_t _ _) (ih _ _)
theorem mk_s (z : SC) : sB z (fAs_markTaken z) := mk2_s _ _ _
theorem A_sB {z z' : SC} (hA : c_A z) (h : sB z z') : c_A z' := c_A_of hA h.1 (by rw [h.2]; exact hA.2.2.2.2.2.2.2)
theorem A_fp {z : SC} (hA : c_A z) : c_A (fAs_forgetPlaces z) := by
  rw [fp_eq]
  exact ⟨hA.1, hA.2.1, hA.2.2.1, hA.2.2.2.1, hA.2.2.2.2.1, hA.2.2.2.2.2.1, hA.2.2.2.2.2.2.1, fun i hi => by
    show pl (if i < 20 then -1 else c_syms z i)
    rw [if_pos hi]
    exact pl_m1⟩
theorem pa_n {z : SC} (hA : c_A z) : 0 ≤ (c_acount (fAs_forgetPlaces z)).toInt ∧ (c_acount (fAs_forgetPlaces z)).toInt ≤ 40 := (A_fp hA).1
theorem pa_0 {z : SC} (hA : c_A z) : c_A (fAs_markTaken (fAs_forgetPlaces z)) := A_sB (A_fp hA) (mk_s _)
theorem A_36 {z : SC} {a : Int32} {b : Bool} (ha : vp_in a 40) (hA : c_A z) (hl : 0 ≤ (c_locs z a.toNatClampNeg).toInt) : c_A (fAs_placeLine_36 z a b).2 := by
  unfold fAs_placeLine_36
  by_cases h : c_dat z a.toNatClampNeg = (-1 : Int32)
  · rw [if_pos h]; exact hA
  · rw [if_neg h]
    have h1 := pNx (b := b) ha hA hl (pl_d ha hA h)
    have h2 := A_nxs (k := a.toNatClampNeg) hA h1.2.1 h1.2.2 h1.1
    split
    · exact h2
    · exact h2
theorem A_12 {z : SC} {a : Int32} {b : Bool} (ha : vp_in a 40) (hA : c_A z) : c_A (fAs_placeLine_12 z a b).2 := by
  unfold fAs_placeLine_12
  by_cases h : c_locs z a.toNatClampNeg = (-1 : Int32)
  · rw [if_pos h]; exact hA
  · rw [if_neg h]
    exact A_36 ha (pl_A2 ha hA (pl_l ha hA h)) (pl_l2 ha hA (pl_l ha hA h))
theorem pa_s {z : SC} {a : Int32} {b : Bool} (ha : vp_in a 40) (hA : c_A z) : c_A (fAs_placeLine z a b).2 := A_12 ha (pl_A1 ha hA)
theorem store6_s : ∀ (n : Nat) (z : SC) (a : Int32) (v : Int64) (b : Bool) (v5 : Int64) (v7 : Nat), sB z (fDr_store_6 n z a v b v5 v7) := by
  intro n
  induction n with
  | zero => intro z a v b v5 v7; exact sB_rf z
  | succ n ih =>
    intro z a v b v5 v7
    rw [fDr_store_6.eq_2]
    split
    · exact ⟨⟨rfl, rfl, rfl, rfl, rfl, rfl, rfl, rfl⟩, rfl⟩
    · exact sB_tr (y := c_codes_s z _) ⟨⟨rfl, rfl, rfl, rfl, rfl, rfl, rfl, rfl⟩, rfl⟩ (ih _ _ _ _ _ _)
theorem store_s (z : SC) (a : Int32) (v : Int64) (b : Bool) : sB z (fDr_store z a v b) := store6_s _ _ _ _ _ _ _
theorem wt_A {z : SC} (a : Int32) (v : Int64) {b : Bool} (hA : c_A z) : c_A (fDr_store z a v b) := A_sB hA (store_s _ _ _ _)
theorem wt_w {z : SC} (a : Int32) (v : Int64) {b : Bool} (hw : ∀ i, i < 40 → (nI i) < c_acount z → 0 ≤ (c_locs z i).toInt) : ∀ i, i < 40 → (nI i) < c_acount (fDr_store z a v b) → 0 ≤ (c_locs (fDr_store z a v b) i).toInt := by
  have h := (store_s z a v b).1
  rw [h.1, h.2.2.2.2.1]
  exact hw
theorem wt_in {z : SC} {k : Nat} (hA : c_A z) (hw : ∀ i, i < 40 → (nI i) < c_acount z → 0 ≤ (c_locs z i).toInt) (h : ¬ c_acount z ≤ nI k) (hk : k ≤ 40) : vp_in (c_locs z (nI k).toNatClampNeg) 200 := by
  have h1 := lk_lt h
  have h2 := mt_b hA.1 h hk
  rw [nI_clamp (by omega)]
  have h3 := hw k (by omega) (by rw [Int32.lt_iff_toInt_lt]; exact h1)
  exact vp_in_iff.mpr ⟨h3, (hA.2.2.2.2.1 k (by omega)).2⟩
end
section
theorem dAs_placeAll_0 : decode ccAs_placeAll 0 = .ok (.aload_n 0, 1) := by decide +kernel
theorem dAs_placeAll_1 : decode ccAs_placeAll 1 = .ok (.invokevirtual 68, 3) := by decide +kernel
theorem dAs_placeAll_4 : decode ccAs_placeAll 4 = .ok (.aload_n 0, 1) := by decide +kernel
theorem dAs_placeAll_5 : decode ccAs_placeAll 5 = .ok (.invokevirtual 71, 3) := by decide +kernel
theorem dAs_placeAll_8 : decode ccAs_placeAll 8 = .ok (.iconst 1, 1) := by decide +kernel
theorem dAs_placeAll_9 : decode ccAs_placeAll 9 = .ok (.istore_n 2, 1) := by decide +kernel
theorem dAs_placeAll_10 : decode ccAs_placeAll 10 = .ok (.iconst 0, 1) := by decide +kernel
theorem dAs_placeAll_11 : decode ccAs_placeAll 11 = .ok (.istore_n 3, 1) := by decide +kernel
theorem dAs_placeAll_12 : decode ccAs_placeAll 12 = .ok (.iload_n 3, 1) := by decide +kernel
theorem dAs_placeAll_13 : decode ccAs_placeAll 13 = .ok (.aload_n 0, 1) := by decide +kernel
theorem dAs_placeAll_14 : decode ccAs_placeAll 14 = .ok (.getfield 64, 3) := by decide +kernel
theorem dAs_placeAll_17 : decode ccAs_placeAll 17 = .ok (.if_icmp .ge 36, 3) := by decide +kernel
theorem dAs_placeAll_20 : decode ccAs_placeAll 20 = .ok (.iload_n 2, 1) := by decide +kernel
theorem dAs_placeAll_21 : decode ccAs_placeAll 21 = .ok (.ifCond .eq 32, 3) := by decide +kernel
theorem dAs_placeAll_24 : decode ccAs_placeAll 24 = .ok (.aload_n 0, 1) := by decide +kernel
theorem dAs_placeAll_25 : decode ccAs_placeAll 25 = .ok (.iload_n 3, 1) := by decide +kernel
theorem dAs_placeAll_26 : decode ccAs_placeAll 26 = .ok (.iload_n 1, 1) := by decide +kernel
theorem dAs_placeAll_27 : decode ccAs_placeAll 27 = .ok (.invokevirtual 74, 3) := by decide +kernel
theorem dAs_placeAll_30 : decode ccAs_placeAll 30 = .ok (.ifCond .eq 15, 3) := by decide +kernel
theorem dAs_placeAll_33 : decode ccAs_placeAll 33 = .ok (.aload_n 0, 1) := by decide +kernel
theorem dAs_placeAll_34 : decode ccAs_placeAll 34 = .ok (.iload_n 3, 1) := by decide +kernel
theorem dAs_placeAll_35 : decode ccAs_placeAll 35 = .ok (.invokevirtual 78, 3) := by decide +kernel
theorem dAs_placeAll_38 : decode ccAs_placeAll 38 = .ok (.ifCond .ne 7, 3) := by decide +kernel
theorem dAs_placeAll_41 : decode ccAs_placeAll 41 = .ok (.iconst 1, 1) := by decide +kernel
theorem dAs_placeAll_42 : decode ccAs_placeAll 42 = .ok (.goto 4, 3) := by decide +kernel
theorem dAs_placeAll_45 : decode ccAs_placeAll 45 = .ok (.iconst 0, 1) := by decide +kernel
theorem dAs_placeAll_46 : decode ccAs_placeAll 46 = .ok (.istore_n 2, 1) := by decide +kernel
theorem dAs_placeAll_47 : decode ccAs_placeAll 47 = .ok (.iinc 3 1, 3) := by decide +kernel
theorem dAs_placeAll_50 : decode ccAs_placeAll 50 = .ok (.goto (-38), 3) := by decide +kernel
theorem dAs_placeAll_53 : decode ccAs_placeAll 53 = .ok (.iload_n 2, 1) := by decide +kernel
theorem dAs_placeAll_54 : decode ccAs_placeAll 54 = .ok (.ifCond .ne 7, 3) := by decide +kernel
theorem dAs_placeAll_57 : decode ccAs_placeAll 57 = .ok (.aload_n 0, 1) := by decide +kernel
theorem dAs_placeAll_58 : decode ccAs_placeAll 58 = .ok (.invokevirtual 68, 3) := by decide +kernel
theorem dAs_placeAll_61 : decode ccAs_placeAll 61 = .ok (.iload_n 2, 1) := by decide +kernel
theorem dAs_placeAll_62 : decode ccAs_placeAll 62 = .ok (.ireturn, 1) := by decide +kernel
def fAs_placeAll_53  (z : SC) (v2 : Bool) : Bool × SC :=
  (if v2 = true then (v2, z) else (v2, fAs_forgetPlaces z))
def fAs_placeAll_12  : Nat → SC → Bool → Bool → Nat → Bool × SC
  | 0, z, b, v2, v3 => (false, z)
  | fu + 1, z, b, v2, v3 => (if (c_acount z) ≤ (nI (v3)) then fAs_placeAll_53 z v2 else (if v2 = true then (if ((fAs_placeLine z (nI (v3)) b).1) = true then (if (fAs_isLocationOfEarlierLine ((fAs_placeLine z (nI (v3)) b).2) (nI (v3))) = true then fAs_placeAll_12 fu ((fAs_placeLine z (nI (v3)) b).2) b false (v3 + 1) else fAs_placeAll_12 fu ((fAs_placeLine z (nI (v3)) b).2) b true (v3 + 1)) else fAs_placeAll_12 fu ((fAs_placeLine z (nI (v3)) b).2) b false (v3 + 1)) else fAs_placeAll_53 z v2))
def fAs_placeAll (z0 : SC) (b : Bool) : Bool × SC :=
  fAs_placeAll_12 41 (fAs_markTaken (fAs_forgetPlaces z0)) b true 0
set_option maxHeartbeats 4000000 in
set_option maxRecDepth 100000 in
theorem kAs_placeAll (l : Launch) (D : va_G) (q : Nat → Nat) (cI cJ cZ : ClassId) (hq : c_inj q) (z0 : SC) (b : Bool) (hA : c_A z0) : Met l yAs_placeAll wsAs_placeAll { frames := 6, cells := 0, slots := 0, locals := 132 } (va_Pc [.ref (q 6), .int (bb (b))] (c_C D q cI cJ cZ z0)) (cQw (some (.int (bb ((fAs_placeAll z0 b).1)))) (c_W D q cI cJ cZ (fAs_placeAll z0 b).2) (c_qs q)) 0 0 (c_qs q) := by
  refine Met.ofW (cc := ccAs_placeAll) (maxL := 4) (ret := (some .boolean)) (by decide +kernel) rfl ?_
  intro p e s m args below meth c s₁ B hml hv
  obtain ⟨rfl, hP, hK⟩ := hv
  have hx := B.exec
  have hb := B.bytes
  have hr := B.returns
  have hts := atoms_spec (ws := wsAs_placeAll) B.pre
  have hown : s.vm.findClass RAs = some m.cls := findClass_of_methodNamed B.named
  have hlocks := B.notSynchronized
  have w0 := hts (.fieldLink RAs 64 "DrumMachine$Assembler" "count" "I") (List.mem_cons_of_mem _ wm1_155)
  have i0 : ∀ w ∈ u_ws RAs TAs 11, w ∈ wsAs_placeAll := fun w h => List.mem_cons_of_mem _ (inAAs w h)
  have hS : va_S (c_qs q) s.heap s.heap [] := va_S.rf
  have hl := lv_entry ([.ref (q 6), .int (bb (b))]) (n := 4) (Nat.le_of_ble_eq_true rfl)
  rw [lg_entry_eq]
  generalize (lg_sl ([.ref (q 6), .int (bb (b))]) ++ List.replicate (4 - (lg_sl ([.ref (q 6), .int (bb (b))])).length) Slot.unset).toArray = ls at hl ⊢
  have hl : lv_has ls 4 [(0, .ref (q 6)), (1, .int (bb (b)))] := hl
  have hB53 : ∀ (H : Heap) (locs : List Loc) (ls : Array Slot) (z : SC) (v2 : Bool), fAs_placeAll z0 b = fAs_placeAll_53 z v2 → c_W D q cI cJ cZ z H → va_S (c_qs q) s.heap H locs → lv_has ls 4 [(0, .ref (q 6)), (2, .int (bb (v2)))] → W p l e (headSpec wsAs_placeAll { frames := 6, cells := 0, slots := 0, locals := 132 }).room s m ([.ref (q 6), .int (bb (b))] : List Value).toArray below meth c H locs 0 0 (MQ below (cQw (some (.int (bb ((fAs_placeAll z0 b).1)))) (c_W D q cI cJ cZ (fAs_placeAll z0 b).2) (c_qs q)) ([.ref (q 6), .int (bb (b))] : List Value).toArray s 0 0 (c_qs q)) (F0 m 53 ls []) := by
    intro H locs ls z v2 hR hP hS hl
    rw [fAs_placeAll_53.eq_1] at hR
    refine lv_iload_n hx hb dAs_placeAll_53 rfl (lv_at hl 1 rfl) ?_
    refine wz_ifne hx hb dAs_placeAll_54 rfl (fun h54 => ?_) (fun h54 => ?_)
    · have hR := hR.trans (if_pos h54)
      refine lv_iload_n hx hb dAs_placeAll_61 rfl (lv_at hl 1 rfl) ?_
      exact W.zret hx hb hr (nz_b _) (fun t ht _ => ⟨by rw [hR]; first | done | rfl, by rw [hR, ht]; exact hP, hS.F ht⟩) hS.2.2 dAs_placeAll_62
    · have hR := hR.trans (if_neg h54)
      refine lv_aload_n hx hb dAs_placeAll_57 rfl (lv_at hl 0 rfl) ?_
      refine cl_wr (W.runV (As := []) (rest := []) ⟨hx, hb, hml, hown, hts⟩ (kAs_forgetPlaces l D q cI cJ cZ hq z) (cwV 0 hts (gV wm1_203 wm1_205 ws1_0 wm1_8 wm1_206) rfl rfl rfl (by decide +kernel) ⟨Nat.le_of_ble_eq_true rfl, Nat.le_of_ble_eq_true rfl⟩) (c_preV6 hK hP) rfl rfl hl.1 rfl (lv_room (Nat.le_of_ble_eq_true rfl)) dAs_placeAll_58 ⟨Nat.le_refl _, Nat.le_refl _⟩) hS (fun _ h => h) (fun _ h => h) (fun H locs hP hS => ?_)
      refine lv_iload_n hx hb dAs_placeAll_61 rfl (lv_at hl 1 rfl) ?_
      exact W.zret hx hb hr (nz_b _) (fun t ht _ => ⟨by rw [hR]; first | done | rfl, by rw [hR, ht]; exact hP, hS.F ht⟩) hS.2.2 dAs_placeAll_62
  have hB12 : ∀ (n12 : Nat) (H : Heap) (locs : List Loc) (ls : Array Slot) (z : SC) (v2 : Bool) (v3 : Nat), 40 - v3 < n12 → fAs_placeAll z0 b = fAs_placeAll_12 n12 z b v2 v3 → (v3 ≤ 40) → (c_A z) → c_W D q cI cJ cZ z H → va_S (c_qs q) s.heap H locs → lv_has ls 4 [(0, .ref (q 6)), (1, .int (bb (b))), (2, .int (bb (v2))), (3, .int (nI (v3)))] → W p l e (headSpec wsAs_placeAll { frames := 6, cells := 0, slots := 0, locals := 132 }).room s m ([.ref (q 6), .int (bb (b))] : List Value).toArray below meth c H locs 0 0 (MQ below (cQw (some (.int (bb ((fAs_placeAll z0 b).1)))) (c_W D q cI cJ cZ (fAs_placeAll z0 b).2) (c_qs q)) ([.ref (q 6), .int (bb (b))] : List Value).toArray s 0 0 (c_qs q)) (F0 m 12 ls []) := by
    intro n12
    induction n12 with
    | zero => intro H locs ls z v2 v3 hn12; exact absurd hn12 (Nat.not_lt_zero _)
    | succ n12 ih12 =>
      intro H locs ls z v2 v3 hn12 hR h3 hA hP hS hl
      rw [fAs_placeAll_12.eq_2] at hR
      refine lv_iload_n hx hb dAs_placeAll_12 rfl (lv_at hl 3 rfl) ?_
      refine lv_aload_n hx hb dAs_placeAll_13 rfl (lv_at hl 0 rfl) ?_
      refine cg6_count hx hb hts i0 hown hK hP w0 dAs_placeAll_14 ?_
      refine lv_icmp_ge hx hb dAs_placeAll_17 rfl (fun h17 => ?_) (fun h17 => ?_)
      · have hR := hR.trans (if_pos h17)
        exact hB53 H locs ls z v2 hR hP hS (lv_sub hl [0, 2] rfl)
      · have hR := hR.trans (if_neg h17)
        refine lv_iload_n hx hb dAs_placeAll_20 rfl (lv_at hl 2 rfl) ?_
        refine wz_ifeq hx hb dAs_placeAll_21 rfl (fun h21 => ?_) (fun h21 => ?_)
        · have hR := hR.trans (if_neg h21)
          exact hB53 H locs ls z v2 hR hP hS (lv_sub hl [0, 2] rfl)
        · have hR := hR.trans (if_pos h21)
          refine lv_aload_n hx hb dAs_placeAll_24 rfl (lv_at hl 0 rfl) ?_
          refine lv_iload_n hx hb dAs_placeAll_25 rfl (lv_at hl 3 rfl) ?_
          refine lv_iload_n hx hb dAs_placeAll_26 rfl (lv_at hl 1 rfl) ?_
          refine cl_wr (W.runV (As := [.int ((nI (v3))), .int (bb (b))]) (rest := []) ⟨hx, hb, hml, hown, hts⟩ (kAs_placeLine l D q cI cJ cZ hq z (nI (v3)) b (mt_in hA.1 h17 h3) hA) (cwV 2 hts (gV wm3_7 wm3_9 ws1_5 wm1_8 wm3_10) rfl rfl rfl (by decide +kernel) ⟨Nat.le_of_ble_eq_true rfl, Nat.le_of_ble_eq_true rfl⟩) (c_preV6 hK hP) rfl rfl hl.1 rfl (lv_room (Nat.le_of_ble_eq_true rfl)) dAs_placeAll_27 ⟨Nat.le_refl _, Nat.le_refl _⟩) hS (fun _ h => h) (fun _ h => h) (fun H locs hP hS => ?_)
          refine wz_ifeq hx hb dAs_placeAll_30 rfl (fun h30 => ?_) (fun h30 => ?_)
          · have hR := hR.trans (if_neg h30)
            refine lv_iconst (v := 0) hx hb dAs_placeAll_45 (by decide) ?_
            refine lv_istore_n (lv' := [(2, .int (0)), (0, .ref (q 6)), (1, .int (bb (b))), (3, .int (nI (v3)))]) hx hb dAs_placeAll_46 rfl hl (by decide) rfl (fun ls hl => ?_)
            refine lv_iinc (k := 3) (lv' := [(3, .int (nI (v3 + 1))), (2, .int (0)), (0, .ref (q 6)), (1, .int (bb (b)))]) hx hb dAs_placeAll_47 hl rfl (nI_1 _) (by decide) rfl (fun ls hl => ?_)
            refine lv_goto hx hb dAs_placeAll_50 rfl ?_
            exact ih12 H locs ls ((fAs_placeLine z (nI (v3)) b).2) false (v3 + 1) (mt_m hA.1 h17 h3 hn12) hR (mt_b hA.1 h17 h3) (pa_s (mt_in hA.1 h17 h3) hA) hP hS (lv_sub hl [2, 3, 1, 0] rfl)
          · have hR := hR.trans (if_pos h30)
            refine lv_aload_n hx hb dAs_placeAll_33 rfl (lv_at hl 0 rfl) ?_
            refine lv_iload_n hx hb dAs_placeAll_34 rfl (lv_at hl 3 rfl) ?_
            refine cl_rd (W.runV (As := [.int ((nI (v3)))]) (rest := []) ⟨hx, hb, hml, hown, hts⟩ (kAs_isLocationOfEarlierLine l D q cI cJ cZ hq ((fAs_placeLine z (nI (v3)) b).2) (nI (v3)) (mt_in hA.1 h17 h3)) (cwV 1 hts (gV wm3_52 wm3_54 ws1_14 wm1_8 wm3_55) rfl rfl rfl (by decide +kernel) ⟨Nat.le_of_ble_eq_true rfl, Nat.le_of_ble_eq_true rfl⟩) (c_preV6 hK hP) rfl rfl hl.1 rfl (lv_room (Nat.le_of_ble_eq_true rfl)) dAs_placeAll_35 ⟨Nat.le_refl _, Nat.le_refl _⟩) ?_
            refine wz_ifne hx hb dAs_placeAll_38 rfl (fun h38 => ?_) (fun h38 => ?_)
            · have hR := hR.trans (if_pos h38)
              refine lv_iconst (v := 0) hx hb dAs_placeAll_45 (by decide) ?_
              refine lv_istore_n (lv' := [(2, .int (0)), (0, .ref (q 6)), (1, .int (bb (b))), (3, .int (nI (v3)))]) hx hb dAs_placeAll_46 rfl hl (by decide) rfl (fun ls hl => ?_)
              refine lv_iinc (k := 3) (lv' := [(3, .int (nI (v3 + 1))), (2, .int (0)), (0, .ref (q 6)), (1, .int (bb (b)))]) hx hb dAs_placeAll_47 hl rfl (nI_1 _) (by decide) rfl (fun ls hl => ?_)
              refine lv_goto hx hb dAs_placeAll_50 rfl ?_
              exact ih12 H locs ls ((fAs_placeLine z (nI (v3)) b).2) false (v3 + 1) (mt_m hA.1 h17 h3 hn12) hR (mt_b hA.1 h17 h3) (pa_s (mt_in hA.1 h17 h3) hA) hP hS (lv_sub hl [2, 3, 1, 0] rfl)
            · have hR := hR.trans (if_neg h38)
              refine lv_iconst (v := 1) hx hb dAs_placeAll_41 (by decide) ?_
              refine lv_goto hx hb dAs_placeAll_42 rfl ?_
              refine lv_istore_n (lv' := [(2, .int (1)), (0, .ref (q 6)), (1, .int (bb (b))), (3, .int (nI (v3)))]) hx hb dAs_placeAll_46 rfl hl (by decide) rfl (fun ls hl => ?_)
              refine lv_iinc (k := 3) (lv' := [(3, .int (nI (v3 + 1))), (2, .int (1)), (0, .ref (q 6)), (1, .int (bb (b)))]) hx hb dAs_placeAll_47 hl rfl (nI_1 _) (by decide) rfl (fun ls hl => ?_)
              refine lv_goto hx hb dAs_placeAll_50 rfl ?_
              exact ih12 H locs ls ((fAs_placeLine z (nI (v3)) b).2) true (v3 + 1) (mt_m hA.1 h17 h3 hn12) hR (mt_b hA.1 h17 h3) (pa_s (mt_in hA.1 h17 h3) hA) hP hS (lv_sub hl [2, 3, 1, 0] rfl)
  have hR := fAs_placeAll.eq_1 z0 b
  refine lv_aload_n hx hb dAs_placeAll_0 rfl (lv_at hl 0 rfl) ?_
  refine cl_wr (W.runV (As := []) (rest := []) ⟨hx, hb, hml, hown, hts⟩ (kAs_forgetPlaces l D q cI cJ cZ hq z0) (cwV 0 hts (gV wm1_203 wm1_205 ws1_0 wm1_8 wm1_206) rfl rfl rfl (by decide +kernel) ⟨Nat.le_of_ble_eq_true rfl, Nat.le_of_ble_eq_true rfl⟩) (c_preV6 hK hP) rfl rfl hl.1 rfl (lv_room (Nat.le_of_ble_eq_true rfl)) dAs_placeAll_1 ⟨Nat.le_refl _, Nat.le_refl _⟩) hS (fun _ h => h) (fun _ h => h) (fun H locs hP hS => ?_)
  refine lv_aload_n hx hb dAs_placeAll_4 rfl (lv_at hl 0 rfl) ?_
  refine cl_wr (W.runV (As := []) (rest := []) ⟨hx, hb, hml, hown, hts⟩ (kAs_markTaken l D q cI cJ cZ hq (fAs_forgetPlaces z0) (pa_n hA)) (cwV 0 hts (gV wm2_239 wm3_1 ws1_3 wm1_8 wm3_2) rfl rfl rfl (by decide +kernel) ⟨Nat.le_of_ble_eq_true rfl, Nat.le_of_ble_eq_true rfl⟩) (c_preV6 hK hP) rfl rfl hl.1 rfl (lv_room (Nat.le_of_ble_eq_true rfl)) dAs_placeAll_5 ⟨Nat.le_refl _, Nat.le_refl _⟩) hS (fun _ h => h) (fun _ h => h) (fun H locs hP hS => ?_)
  refine lv_iconst (v := 1) hx hb dAs_placeAll_8 (by decide) ?_
  refine lv_istore_n (lv' := [(2, .int (1)), (0, .ref (q 6)), (1, .int (bb (b)))]) hx hb dAs_placeAll_9 rfl hl (by decide) rfl (fun ls hl => ?_)
  refine lv_iconst (v := 0) hx hb dAs_placeAll_10 (by decide) ?_
  refine lv_istore_n (lv' := [(3, .int (nI (0))), (2, .int (1)), (0, .ref (q 6)), (1, .int (bb (b)))]) hx hb dAs_placeAll_11 rfl hl (by decide) rfl (fun ls hl => ?_)
  exact hB12 41 H locs ls (fAs_markTaken (fAs_forgetPlaces z0)) true 0 (by omega) hR (by first | assumption | omega) (pa_0 hA) hP hS (lv_sub hl [2, 3, 1, 0] rfl)
theorem dAs_writeTo_0 : decode ccAs_writeTo 0 = .ok (.iconst 0, 1) := by decide +kernel
theorem dAs_writeTo_1 : decode ccAs_writeTo 1 = .ok (.istore_n 2, 1) := by decide +kernel
theorem dAs_writeTo_2 : decode ccAs_writeTo 2 = .ok (.iload_n 2, 1) := by decide +kernel
theorem dAs_writeTo_3 : decode ccAs_writeTo 3 = .ok (.aload_n 0, 1) := by decide +kernel
theorem dAs_writeTo_4 : decode ccAs_writeTo 4 = .ok (.getfield 64, 3) := by decide +kernel
theorem dAs_writeTo_7 : decode ccAs_writeTo 7 = .ok (.if_icmp .ge 41, 3) := by decide +kernel
theorem dAs_writeTo_10 : decode ccAs_writeTo 10 = .ok (.aload_n 1, 1) := by decide +kernel
theorem dAs_writeTo_11 : decode ccAs_writeTo 11 = .ok (.aload_n 0, 1) := by decide +kernel
theorem dAs_writeTo_12 : decode ccAs_writeTo 12 = .ok (.getfield 22, 3) := by decide +kernel
theorem dAs_writeTo_15 : decode ccAs_writeTo 15 = .ok (.iload_n 2, 1) := by decide +kernel
theorem dAs_writeTo_16 : decode ccAs_writeTo 16 = .ok (.iaload, 1) := by decide +kernel
theorem dAs_writeTo_17 : decode ccAs_writeTo 17 = .ok (.aload_n 0, 1) := by decide +kernel
theorem dAs_writeTo_18 : decode ccAs_writeTo 18 = .ok (.getfield 13, 3) := by decide +kernel
theorem dAs_writeTo_21 : decode ccAs_writeTo 21 = .ok (.iload_n 2, 1) := by decide +kernel
theorem dAs_writeTo_22 : decode ccAs_writeTo 22 = .ok (.iaload, 1) := by decide +kernel
theorem dAs_writeTo_23 : decode ccAs_writeTo 23 = .ok (.aload_n 0, 1) := by decide +kernel
theorem dAs_writeTo_24 : decode ccAs_writeTo 24 = .ok (.getfield 25, 3) := by decide +kernel
theorem dAs_writeTo_27 : decode ccAs_writeTo 27 = .ok (.iload_n 2, 1) := by decide +kernel
theorem dAs_writeTo_28 : decode ccAs_writeTo 28 = .ok (.iaload, 1) := by decide +kernel
theorem dAs_writeTo_29 : decode ccAs_writeTo 29 = .ok (.aload_n 0, 1) := by decide +kernel
theorem dAs_writeTo_30 : decode ccAs_writeTo 30 = .ok (.getfield 28, 3) := by decide +kernel
theorem dAs_writeTo_33 : decode ccAs_writeTo 33 = .ok (.iload_n 2, 1) := by decide +kernel
theorem dAs_writeTo_34 : decode ccAs_writeTo 34 = .ok (.iaload, 1) := by decide +kernel
theorem dAs_writeTo_35 : decode ccAs_writeTo 35 = .ok (.invokestatic 81, 3) := by decide +kernel
theorem dAs_writeTo_38 : decode ccAs_writeTo 38 = .ok (.iconst 0, 1) := by decide +kernel
theorem dAs_writeTo_39 : decode ccAs_writeTo 39 = .ok (.invokevirtual 87, 3) := by decide +kernel
theorem dAs_writeTo_42 : decode ccAs_writeTo 42 = .ok (.iinc 2 1, 3) := by decide +kernel
theorem dAs_writeTo_45 : decode ccAs_writeTo 45 = .ok (.goto (-43), 3) := by decide +kernel
theorem dAs_writeTo_48 : decode ccAs_writeTo 48 = .ok (.return_, 1) := by decide +kernel
def fAs_writeTo_2  : Nat → SC → Nat → SC
  | 0, z, v2 => z
  | fu + 1, z, v2 => (if (c_acount z) ≤ (nI (v2)) then z else fAs_writeTo_2 fu (fDr_store z (c_locs z ((nI (v2)).toNatClampNeg)) (fDg_instruction (c_ops z ((nI (v2)).toNatClampNeg)) (c_dat z ((nI (v2)).toNatClampNeg)) (c_nexts z ((nI (v2)).toNatClampNeg))) false) (v2 + 1))
def fAs_writeTo (z0 : SC)  : SC :=
  fAs_writeTo_2 41 z0 0
set_option maxHeartbeats 4000000 in
set_option maxRecDepth 100000 in
theorem kAs_writeTo (l : Launch) (D : va_G) (q : Nat → Nat) (cI cJ cZ : ClassId) (hq : c_inj q) (z0 : SC)  (hA : c_A z0) (hw : ∀ i, i < 40 → (nI i) < c_acount z0 → 0 ≤ (c_locs z0 i).toInt) : Met l yAs_writeTo wsAs_writeTo { frames := 2, cells := 0, slots := 0, locals := 47 } (va_Pc [.ref (q 6), .ref (q 1)] (c_C D q cI cJ cZ z0)) (cQw none (c_W D q cI cJ cZ (fAs_writeTo z0)) (c_qs q)) 0 0 (c_qs q) := by
  refine Met.ofW (cc := ccAs_writeTo) (maxL := 3) (ret := none) (by decide +kernel) rfl ?_
  intro p e s m args below meth c s₁ B hml hv
  obtain ⟨rfl, hP, hK⟩ := hv
  have hx := B.exec
  have hb := B.bytes
  have hr := B.returns
  have hts := atoms_spec (ws := wsAs_writeTo) B.pre
  have hown : s.vm.findClass RAs = some m.cls := findClass_of_methodNamed B.named
  have hlocks := B.notSynchronized
  have w0 := hts (.fieldLink RAs 64 "DrumMachine$Assembler" "count" "I") (List.mem_cons_of_mem _ wm1_155)
  have w1 := hts (.fieldLink RAs 22 "DrumMachine$Assembler" "locations" "[I") (List.mem_cons_of_mem _ wm1_149)
  have w2 := hts (.fieldLink RAs 13 "DrumMachine$Assembler" "operations" "[I") (List.mem_cons_of_mem _ wm1_146)
  have w3 := hts (.fieldLink RAs 25 "DrumMachine$Assembler" "data" "[I") (List.mem_cons_of_mem _ wm1_150)
  have w4 := hts (.fieldLink RAs 28 "DrumMachine$Assembler" "nexts" "[I") (List.mem_cons_of_mem _ wm1_151)
  have i0 : ∀ w ∈ u_ws RAs TAs 11, w ∈ wsAs_writeTo := fun w h => List.mem_cons_of_mem _ (inAAs w h)
  have hS : va_S (c_qs q) s.heap s.heap [] := va_S.rf
  have hl := lv_entry ([.ref (q 6), .ref (q 1)]) (n := 3) (Nat.le_of_ble_eq_true rfl)
  rw [lg_entry_eq]
  generalize (lg_sl ([.ref (q 6), .ref (q 1)]) ++ List.replicate (3 - (lg_sl ([.ref (q 6), .ref (q 1)])).length) Slot.unset).toArray = ls at hl ⊢
  have hl : lv_has ls 3 [(0, .ref (q 6)), (1, .ref (q 1))] := hl
  have hB2 : ∀ (n2 : Nat) (H : Heap) (locs : List Loc) (ls : Array Slot) (z : SC) (v2 : Nat), 40 - v2 < n2 → fAs_writeTo z0 = fAs_writeTo_2 n2 z v2 → (v2 ≤ 40) → (c_A z) → (∀ i, i < 40 → (nI i) < c_acount z → 0 ≤ (c_locs z i).toInt) → c_W D q cI cJ cZ z H → va_S (c_qs q) s.heap H locs → lv_has ls 3 [(0, .ref (q 6)), (1, .ref (q 1)), (2, .int (nI (v2)))] → W p l e (headSpec wsAs_writeTo { frames := 2, cells := 0, slots := 0, locals := 47 }).room s m ([.ref (q 6), .ref (q 1)] : List Value).toArray below meth c H locs 0 0 (MQ below (cQw none (c_W D q cI cJ cZ (fAs_writeTo z0)) (c_qs q)) ([.ref (q 6), .ref (q 1)] : List Value).toArray s 0 0 (c_qs q)) (F0 m 2 ls []) := by
    intro n2
    induction n2 with
    | zero => intro H locs ls z v2 hn2; exact absurd hn2 (Nat.not_lt_zero _)
    | succ n2 ih2 =>
      intro H locs ls z v2 hn2 hR h2 hA hw hP hS hl
      rw [fAs_writeTo_2.eq_2] at hR
      refine lv_iload_n hx hb dAs_writeTo_2 rfl (lv_at hl 2 rfl) ?_
      refine lv_aload_n hx hb dAs_writeTo_3 rfl (lv_at hl 0 rfl) ?_
      refine cg6_count hx hb hts i0 hown hK hP w0 dAs_writeTo_4 ?_
      refine lv_icmp_ge hx hb dAs_writeTo_7 rfl (fun h7 => ?_) (fun h7 => ?_)
      · have hR := hR.trans (if_pos h7)
        exact W.vret hx hb hr (fun t ht _ => ⟨rfl, by rw [hR, ht]; exact hP, hS.F ht⟩) hS.2.2 dAs_writeTo_48
      · have hR := hR.trans (if_neg h7)
        refine lv_aload_n hx hb dAs_writeTo_10 rfl (lv_at hl 1 rfl) ?_
        refine lv_aload_n hx hb dAs_writeTo_11 rfl (lv_at hl 0 rfl) ?_
        refine cg6_locations hx hb hts i0 hown hK hP w1 dAs_writeTo_12 ?_
        refine lv_iload_n hx hb dAs_writeTo_15 rfl (lv_at hl 2 rfl) ?_
        refine cl_locs hx hb hK hP (mt_in hA.1 h7 h2) dAs_writeTo_16 ?_
        refine lv_aload_n hx hb dAs_writeTo_17 rfl (lv_at hl 0 rfl) ?_
        refine cg6_operations hx hb hts i0 hown hK hP w2 dAs_writeTo_18 ?_
        refine lv_iload_n hx hb dAs_writeTo_21 rfl (lv_at hl 2 rfl) ?_
        refine cl_ops hx hb hK hP (mt_in hA.1 h7 h2) dAs_writeTo_22 ?_
        refine lv_aload_n hx hb dAs_writeTo_23 rfl (lv_at hl 0 rfl) ?_
        refine cg6_data hx hb hts i0 hown hK hP w3 dAs_writeTo_24 ?_
        refine lv_iload_n hx hb dAs_writeTo_27 rfl (lv_at hl 2 rfl) ?_
        refine cl_dat hx hb hK hP (mt_in hA.1 h7 h2) dAs_writeTo_28 ?_
        refine lv_aload_n hx hb dAs_writeTo_29 rfl (lv_at hl 0 rfl) ?_
        refine cg6_nexts hx hb hts i0 hown hK hP w4 dAs_writeTo_30 ?_
        refine lv_iload_n hx hb dAs_writeTo_33 rfl (lv_at hl 2 rfl) ?_
        refine cl_nexts hx hb hK hP (mt_in hA.1 h7 h2) dAs_writeTo_34 ?_
        refine cl_rd (W.runS (As := [.int ((c_ops z ((nI (v2)).toNatClampNeg))), .int ((c_dat z ((nI (v2)).toNatClampNeg))), .int ((c_nexts z ((nI (v2)).toNatClampNeg)))]) (rest := [.int (c_locs z ((nI (v2)).toNatClampNeg)), .ref (q 1)]) ⟨hx, hb, hml, hown, hts⟩ (kDg_instruction l (c_ops z ((nI (v2)).toNatClampNeg)) (c_dat z ((nI (v2)).toNatClampNeg)) (c_nexts z ((nI (v2)).toNatClampNeg))) (va_cwS 3 hts (gS wm3_76 wm3_77 wm1_14 wm3_78) rfl rfl rfl (by decide +kernel) ⟨Nat.le_of_ble_eq_true rfl, Nat.le_of_ble_eq_true rfl⟩) (preT) rfl rfl hl.1 rfl (lv_room (Nat.le_of_ble_eq_true rfl)) dAs_writeTo_35 ⟨Nat.le_refl _, Nat.le_refl _⟩) ?_
        refine lv_iconst (v := 0) hx hb dAs_writeTo_38 (by decide) ?_
        refine cl_wr (W.runV (As := [.int ((c_locs z ((nI (v2)).toNatClampNeg))), .long ((fDg_instruction (c_ops z ((nI (v2)).toNatClampNeg)) (c_dat z ((nI (v2)).toNatClampNeg)) (c_nexts z ((nI (v2)).toNatClampNeg)))), .int (bb (false))]) (rest := []) ⟨hx, hb, hml, hown, hts⟩ (kDr_store l D q cI cJ cZ hq z (c_locs z ((nI (v2)).toNatClampNeg)) (fDg_instruction (c_ops z ((nI (v2)).toNatClampNeg)) (c_dat z ((nI (v2)).toNatClampNeg)) (c_nexts z ((nI (v2)).toNatClampNeg))) false (wt_in hA hw h7 h2)) (cwV 3 hts (gV wm3_81 wm2_101 wm2_102 wm1_2 wm2_103) rfl rfl rfl (by decide +kernel) ⟨Nat.le_of_ble_eq_true rfl, Nat.le_of_ble_eq_true rfl⟩) (c_preV1 hK hP) rfl rfl hl.1 rfl (lv_room (Nat.le_of_ble_eq_true rfl)) dAs_writeTo_39 ⟨Nat.le_refl _, Nat.le_refl _⟩) hS (fun _ h => h) (fun _ h => h) (fun H locs hP hS => ?_)
        refine lv_iinc (k := 2) (lv' := [(2, .int (nI (v2 + 1))), (0, .ref (q 6)), (1, .ref (q 1))]) hx hb dAs_writeTo_42 hl rfl (nI_1 _) (by decide) rfl (fun ls hl => ?_)
        refine lv_goto hx hb dAs_writeTo_45 rfl ?_
        exact ih2 H locs ls (fDr_store z (c_locs z ((nI (v2)).toNatClampNeg)) (fDg_instruction (c_ops z ((nI (v2)).toNatClampNeg)) (c_dat z ((nI (v2)).toNatClampNeg)) (c_nexts z ((nI (v2)).toNatClampNeg))) false) (v2 + 1) (mt_m hA.1 h7 h2 hn2) hR (mt_b hA.1 h7 h2) (wt_A _ _ hA) (wt_w _ _ hw) hP hS (lv_sub hl [1, 2, 0] rfl)
  have hR := fAs_writeTo.eq_1 z0
  refine lv_iconst (v := 0) hx hb dAs_writeTo_0 (by decide) ?_
  refine lv_istore_n (lv' := [(2, .int (nI (0))), (0, .ref (q 6)), (1, .ref (q 1))]) hx hb dAs_writeTo_1 rfl hl (by decide) rfl (fun ls hl => ?_)
  exact hB2 41 s.heap [] ls z0 0 (by omega) hR (by first | assumption | omega) (by first | assumption | omega) (by first | assumption | omega) hP hS (lv_sub hl [1, 2, 0] rfl)
end
