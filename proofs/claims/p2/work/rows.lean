section
-- ===== PART A: goes FIRST, ahead of the names: the tables' words, and 'selects' of the private methods out of them =====
/-- a private method of a class that the tables say can be made, by its rows of tables_1 -/
def lw_okq (q : MethodName × Nat) : Prop := (q.1.cls ≠ "java/lang/invoke/MethodHandle" ∧ q.1.cls ≠ "java/lang/invoke/VarHandle") ∧ Cond.instantiable q.1.cls q.2 ∈ tables_1 ∧ Cond.privateMethod q.1 ∈ tables_1 ∧ Cond.instanceMethod q.1 ∈ tables_1
theorem lw_p0 : lw_okq (⟨"DrumMachine", "createBlock", "(LDrumMachine$Job;I)LDrumMachine$Block;"⟩, 12) := ⟨⟨by decide +kernel, by decide +kernel⟩, List.mem_of_getElem? (i := 11) (by decide +kernel), List.mem_of_getElem? (i := 256) (by decide +kernel), List.mem_of_getElem? (i := 257) (by decide +kernel)⟩
theorem lw_p1 : lw_okq (⟨"DrumMachine", "activate", "()V"⟩, 12) := ⟨⟨by decide +kernel, by decide +kernel⟩, List.mem_of_getElem? (i := 11) (by decide +kernel), List.mem_of_getElem? (i := 324) (by decide +kernel), List.mem_of_getElem? (i := 325) (by decide +kernel)⟩
theorem lw_p2 : lw_okq (⟨"DrumMachine", "find", "(I)LDrumMachine$Job;"⟩, 12) := ⟨⟨by decide +kernel, by decide +kernel⟩, List.mem_of_getElem? (i := 11) (by decide +kernel), List.mem_of_getElem? (i := 332) (by decide +kernel), List.mem_of_getElem? (i := 333) (by decide +kernel)⟩
theorem lw_p3 : lw_okq (⟨"DrumMachine", "tick", "()V"⟩, 12) := ⟨⟨by decide +kernel, by decide +kernel⟩, List.mem_of_getElem? (i := 11) (by decide +kernel), List.mem_of_getElem? (i := 340) (by decide +kernel), List.mem_of_getElem? (i := 341) (by decide +kernel)⟩
theorem lw_p4 : lw_okq (⟨"DrumMachine", "finishTransfer", "()V"⟩, 12) := ⟨⟨by decide +kernel, by decide +kernel⟩, List.mem_of_getElem? (i := 11) (by decide +kernel), List.mem_of_getElem? (i := 344) (by decide +kernel), List.mem_of_getElem? (i := 345) (by decide +kernel)⟩
theorem lw_p5 : lw_okq (⟨"DrumMachine", "forget", "(LDrumMachine$Block;)V"⟩, 12) := ⟨⟨by decide +kernel, by decide +kernel⟩, List.mem_of_getElem? (i := 11) (by decide +kernel), List.mem_of_getElem? (i := 360) (by decide +kernel), List.mem_of_getElem? (i := 361) (by decide +kernel)⟩
theorem lw_p6 : lw_okq (⟨"DrumMachine", "chooseVictim", "()V"⟩, 12) := ⟨⟨by decide +kernel, by decide +kernel⟩, List.mem_of_getElem? (i := 11) (by decide +kernel), List.mem_of_getElem? (i := 368) (by decide +kernel), List.mem_of_getElem? (i := 369) (by decide +kernel)⟩
theorem lw_p7 : lw_okq (⟨"DrumMachine", "nextInHand", "()I"⟩, 12) := ⟨⟨by decide +kernel, by decide +kernel⟩, List.mem_of_getElem? (i := 11) (by decide +kernel), List.mem_of_getElem? (i := 422) (by decide +kernel), List.mem_of_getElem? (i := 423) (by decide +kernel)⟩
theorem lw_p8 : lw_okq (⟨"DrumMachine", "doNextOrder", "(LDrumMachine$Job;)I"⟩, 12) := ⟨⟨by decide +kernel, by decide +kernel⟩, List.mem_of_getElem? (i := 11) (by decide +kernel), List.mem_of_getElem? (i := 435) (by decide +kernel), List.mem_of_getElem? (i := 436) (by decide +kernel)⟩
theorem lw_p9 : lw_okq (⟨"DrumMachine", "reach", "(LDrumMachine$Job;I)I"⟩, 12) := ⟨⟨by decide +kernel, by decide +kernel⟩, List.mem_of_getElem? (i := 11) (by decide +kernel), List.mem_of_getElem? (i := 439) (by decide +kernel), List.mem_of_getElem? (i := 440) (by decide +kernel)⟩
theorem lw_p10 : lw_okq (⟨"DrumMachine", "reachHeld", "(LDrumMachine$Job;LDrumMachine$Block;)I"⟩, 12) := ⟨⟨by decide +kernel, by decide +kernel⟩, List.mem_of_getElem? (i := 11) (by decide +kernel), List.mem_of_getElem? (i := 451) (by decide +kernel), List.mem_of_getElem? (i := 452) (by decide +kernel)⟩
theorem lw_p11 : lw_okq (⟨"DrumMachine", "settle", "(LDrumMachine$Job;I)V"⟩, 12) := ⟨⟨by decide +kernel, by decide +kernel⟩, List.mem_of_getElem? (i := 11) (by decide +kernel), List.mem_of_getElem? (i := 568) (by decide +kernel), List.mem_of_getElem? (i := 569) (by decide +kernel)⟩
theorem lw_p12 : lw_okq (⟨"DrumMachine", "endJob", "(LDrumMachine$Job;I)V"⟩, 12) := ⟨⟨by decide +kernel, by decide +kernel⟩, List.mem_of_getElem? (i := 11) (by decide +kernel), List.mem_of_getElem? (i := 572) (by decide +kernel), List.mem_of_getElem? (i := 573) (by decide +kernel)⟩
theorem lw_p13 : lw_okq (⟨"DrumMachineModel", "exist", "(I)V"⟩, 44) := ⟨⟨by decide +kernel, by decide +kernel⟩, List.mem_of_getElem? (i := 654) (by decide +kernel), List.mem_of_getElem? (i := 813) (by decide +kernel), List.mem_of_getElem? (i := 814) (by decide +kernel)⟩
theorem lw_p14 : lw_okq (⟨"DrumMachineModel", "notEnded", "()I"⟩, 44) := ⟨⟨by decide +kernel, by decide +kernel⟩, List.mem_of_getElem? (i := 654) (by decide +kernel), List.mem_of_getElem? (i := 821) (by decide +kernel), List.mem_of_getElem? (i := 822) (by decide +kernel)⟩
theorem lw_p15 : lw_okq (⟨"DrumMachineModel", "tick", "()V"⟩, 44) := ⟨⟨by decide +kernel, by decide +kernel⟩, List.mem_of_getElem? (i := 654) (by decide +kernel), List.mem_of_getElem? (i := 825) (by decide +kernel), List.mem_of_getElem? (i := 826) (by decide +kernel)⟩
def lw_privs_1 : List (MethodName × Nat) := [(⟨"DrumMachine", "createBlock", "(LDrumMachine$Job;I)LDrumMachine$Block;"⟩, 12), (⟨"DrumMachine", "activate", "()V"⟩, 12), (⟨"DrumMachine", "find", "(I)LDrumMachine$Job;"⟩, 12), (⟨"DrumMachine", "tick", "()V"⟩, 12), (⟨"DrumMachine", "finishTransfer", "()V"⟩, 12), (⟨"DrumMachine", "forget", "(LDrumMachine$Block;)V"⟩, 12), (⟨"DrumMachine", "chooseVictim", "()V"⟩, 12), (⟨"DrumMachine", "nextInHand", "()I"⟩, 12), (⟨"DrumMachine", "doNextOrder", "(LDrumMachine$Job;)I"⟩, 12), (⟨"DrumMachine", "reach", "(LDrumMachine$Job;I)I"⟩, 12), (⟨"DrumMachine", "reachHeld", "(LDrumMachine$Job;LDrumMachine$Block;)I"⟩, 12), (⟨"DrumMachine", "settle", "(LDrumMachine$Job;I)V"⟩, 12), (⟨"DrumMachine", "endJob", "(LDrumMachine$Job;I)V"⟩, 12), (⟨"DrumMachineModel", "exist", "(I)V"⟩, 44), (⟨"DrumMachineModel", "notEnded", "()I"⟩, 44), (⟨"DrumMachineModel", "tick", "()V"⟩, 44)]
theorem lw_r1 : ∀ q ∈ lw_privs_1, lw_okq q := List.forall_mem_cons.mpr ⟨lw_p0, List.forall_mem_cons.mpr ⟨lw_p1, List.forall_mem_cons.mpr ⟨lw_p2, List.forall_mem_cons.mpr ⟨lw_p3, List.forall_mem_cons.mpr ⟨lw_p4, List.forall_mem_cons.mpr ⟨lw_p5, List.forall_mem_cons.mpr ⟨lw_p6, List.forall_mem_cons.mpr ⟨lw_p7, List.forall_mem_cons.mpr ⟨lw_p8, List.forall_mem_cons.mpr ⟨lw_p9, List.forall_mem_cons.mpr ⟨lw_p10, List.forall_mem_cons.mpr ⟨lw_p11, List.forall_mem_cons.mpr ⟨lw_p12, List.forall_mem_cons.mpr ⟨lw_p13, List.forall_mem_cons.mpr ⟨lw_p14, List.forall_mem_cons.mpr ⟨lw_p15, fun _ h => absurd h List.not_mem_nil⟩⟩⟩⟩⟩⟩⟩⟩⟩⟩⟩⟩⟩⟩⟩⟩
theorem lw_p16 : lw_okq (⟨"DrumMachineModel", "finish", "()V"⟩, 44) := ⟨⟨by decide +kernel, by decide +kernel⟩, List.mem_of_getElem? (i := 654) (by decide +kernel), List.mem_of_getElem? (i := 829) (by decide +kernel), List.mem_of_getElem? (i := 830) (by decide +kernel)⟩
theorem lw_p17 : lw_okq (⟨"DrumMachineModel", "leave", "(I)V"⟩, 44) := ⟨⟨by decide +kernel, by decide +kernel⟩, List.mem_of_getElem? (i := 654) (by decide +kernel), List.mem_of_getElem? (i := 833) (by decide +kernel), List.mem_of_getElem? (i := 834) (by decide +kernel)⟩
theorem lw_p18 : lw_okq (⟨"DrumMachineModel", "vanish", "(I)V"⟩, 44) := ⟨⟨by decide +kernel, by decide +kernel⟩, List.mem_of_getElem? (i := 654) (by decide +kernel), List.mem_of_getElem? (i := 837) (by decide +kernel), List.mem_of_getElem? (i := 838) (by decide +kernel)⟩
theorem lw_p19 : lw_okq (⟨"DrumMachineModel", "freeFrame", "()I"⟩, 44) := ⟨⟨by decide +kernel, by decide +kernel⟩, List.mem_of_getElem? (i := 654) (by decide +kernel), List.mem_of_getElem? (i := 841) (by decide +kernel), List.mem_of_getElem? (i := 842) (by decide +kernel)⟩
theorem lw_p20 : lw_okq (⟨"DrumMachineModel", "frameOf", "(I)I"⟩, 44) := ⟨⟨by decide +kernel, by decide +kernel⟩, List.mem_of_getElem? (i := 654) (by decide +kernel), List.mem_of_getElem? (i := 845) (by decide +kernel), List.mem_of_getElem? (i := 846) (by decide +kernel)⟩
theorem lw_p21 : lw_okq (⟨"DrumMachineModel", "isWriteAsked", "()Z"⟩, 44) := ⟨⟨by decide +kernel, by decide +kernel⟩, List.mem_of_getElem? (i := 654) (by decide +kernel), List.mem_of_getElem? (i := 849) (by decide +kernel), List.mem_of_getElem? (i := 850) (by decide +kernel)⟩
theorem lw_p22 : lw_okq (⟨"DrumMachineModel", "choose", "()V"⟩, 44) := ⟨⟨by decide +kernel, by decide +kernel⟩, List.mem_of_getElem? (i := 654) (by decide +kernel), List.mem_of_getElem? (i := 853) (by decide +kernel), List.mem_of_getElem? (i := 854) (by decide +kernel)⟩
theorem lw_p23 : lw_okq (⟨"DrumMachineModel", "mayGo", "(I)Z"⟩, 44) := ⟨⟨by decide +kernel, by decide +kernel⟩, List.mem_of_getElem? (i := 654) (by decide +kernel), List.mem_of_getElem? (i := 857) (by decide +kernel), List.mem_of_getElem? (i := 858) (by decide +kernel)⟩
theorem lw_p24 : lw_okq (⟨"DrumMachineModel", "isWanted", "(I)Z"⟩, 44) := ⟨⟨by decide +kernel, by decide +kernel⟩, List.mem_of_getElem? (i := 654) (by decide +kernel), List.mem_of_getElem? (i := 861) (by decide +kernel), List.mem_of_getElem? (i := 862) (by decide +kernel)⟩
theorem lw_p25 : lw_okq (⟨"DrumMachineModel", "isActive", "(I)Z"⟩, 44) := ⟨⟨by decide +kernel, by decide +kernel⟩, List.mem_of_getElem? (i := 654) (by decide +kernel), List.mem_of_getElem? (i := 865) (by decide +kernel), List.mem_of_getElem? (i := 866) (by decide +kernel)⟩
theorem lw_p26 : lw_okq (⟨"DrumMachineModel", "ask", "(II)V"⟩, 44) := ⟨⟨by decide +kernel, by decide +kernel⟩, List.mem_of_getElem? (i := 654) (by decide +kernel), List.mem_of_getElem? (i := 875) (by decide +kernel), List.mem_of_getElem? (i := 876) (by decide +kernel)⟩
theorem lw_p27 : lw_okq (⟨"DrumMachineModel", "begin", "()V"⟩, 44) := ⟨⟨by decide +kernel, by decide +kernel⟩, List.mem_of_getElem? (i := 654) (by decide +kernel), List.mem_of_getElem? (i := 879) (by decide +kernel), List.mem_of_getElem? (i := 880) (by decide +kernel)⟩
theorem lw_p28 : lw_okq (⟨"DrumMachineModel", "drop", "(I)V"⟩, 44) := ⟨⟨by decide +kernel, by decide +kernel⟩, List.mem_of_getElem? (i := 654) (by decide +kernel), List.mem_of_getElem? (i := 883) (by decide +kernel), List.mem_of_getElem? (i := 884) (by decide +kernel)⟩
theorem lw_p29 : lw_okq (⟨"DrumMachineModel", "sectorOf", "(I)I"⟩, 44) := ⟨⟨by decide +kernel, by decide +kernel⟩, List.mem_of_getElem? (i := 654) (by decide +kernel), List.mem_of_getElem? (i := 887) (by decide +kernel), List.mem_of_getElem? (i := 888) (by decide +kernel)⟩
theorem lw_p30 : lw_okq (⟨"DrumMachineModel", "passes", "(I)I"⟩, 44) := ⟨⟨by decide +kernel, by decide +kernel⟩, List.mem_of_getElem? (i := 654) (by decide +kernel), List.mem_of_getElem? (i := 891) (by decide +kernel), List.mem_of_getElem? (i := 892) (by decide +kernel)⟩
theorem lw_p31 : lw_okq (⟨"DrumMachineModel", "next", "()I"⟩, 44) := ⟨⟨by decide +kernel, by decide +kernel⟩, List.mem_of_getElem? (i := 654) (by decide +kernel), List.mem_of_getElem? (i := 895) (by decide +kernel), List.mem_of_getElem? (i := 896) (by decide +kernel)⟩
def lw_privs_2 : List (MethodName × Nat) := [(⟨"DrumMachineModel", "finish", "()V"⟩, 44), (⟨"DrumMachineModel", "leave", "(I)V"⟩, 44), (⟨"DrumMachineModel", "vanish", "(I)V"⟩, 44), (⟨"DrumMachineModel", "freeFrame", "()I"⟩, 44), (⟨"DrumMachineModel", "frameOf", "(I)I"⟩, 44), (⟨"DrumMachineModel", "isWriteAsked", "()Z"⟩, 44), (⟨"DrumMachineModel", "choose", "()V"⟩, 44), (⟨"DrumMachineModel", "mayGo", "(I)Z"⟩, 44), (⟨"DrumMachineModel", "isWanted", "(I)Z"⟩, 44), (⟨"DrumMachineModel", "isActive", "(I)Z"⟩, 44), (⟨"DrumMachineModel", "ask", "(II)V"⟩, 44), (⟨"DrumMachineModel", "begin", "()V"⟩, 44), (⟨"DrumMachineModel", "drop", "(I)V"⟩, 44), (⟨"DrumMachineModel", "sectorOf", "(I)I"⟩, 44), (⟨"DrumMachineModel", "passes", "(I)I"⟩, 44), (⟨"DrumMachineModel", "next", "()I"⟩, 44)]
theorem lw_r2 : ∀ q ∈ lw_privs_2, lw_okq q := List.forall_mem_cons.mpr ⟨lw_p16, List.forall_mem_cons.mpr ⟨lw_p17, List.forall_mem_cons.mpr ⟨lw_p18, List.forall_mem_cons.mpr ⟨lw_p19, List.forall_mem_cons.mpr ⟨lw_p20, List.forall_mem_cons.mpr ⟨lw_p21, List.forall_mem_cons.mpr ⟨lw_p22, List.forall_mem_cons.mpr ⟨lw_p23, List.forall_mem_cons.mpr ⟨lw_p24, List.forall_mem_cons.mpr ⟨lw_p25, List.forall_mem_cons.mpr ⟨lw_p26, List.forall_mem_cons.mpr ⟨lw_p27, List.forall_mem_cons.mpr ⟨lw_p28, List.forall_mem_cons.mpr ⟨lw_p29, List.forall_mem_cons.mpr ⟨lw_p30, List.forall_mem_cons.mpr ⟨lw_p31, fun _ h => absurd h List.not_mem_nil⟩⟩⟩⟩⟩⟩⟩⟩⟩⟩⟩⟩⟩⟩⟩⟩
theorem lw_p32 : lw_okq (⟨"DrumMachineModel", "isReady", "(I)Z"⟩, 44) := ⟨⟨by decide +kernel, by decide +kernel⟩, List.mem_of_getElem? (i := 654) (by decide +kernel), List.mem_of_getElem? (i := 899) (by decide +kernel), List.mem_of_getElem? (i := 900) (by decide +kernel)⟩
theorem lw_p33 : lw_okq (⟨"DrumMachineModel", "step", "(I)V"⟩, 44) := ⟨⟨by decide +kernel, by decide +kernel⟩, List.mem_of_getElem? (i := 654) (by decide +kernel), List.mem_of_getElem? (i := 903) (by decide +kernel), List.mem_of_getElem? (i := 904) (by decide +kernel)⟩
theorem lw_p34 : lw_okq (⟨"DrumMachineModel", "ends", "(II)V"⟩, 44) := ⟨⟨by decide +kernel, by decide +kernel⟩, List.mem_of_getElem? (i := 654) (by decide +kernel), List.mem_of_getElem? (i := 907) (by decide +kernel), List.mem_of_getElem? (i := 908) (by decide +kernel)⟩
theorem lw_p35 : lw_okq (⟨"DrumMachineModel", "comes", "(II)Z"⟩, 44) := ⟨⟨by decide +kernel, by decide +kernel⟩, List.mem_of_getElem? (i := 654) (by decide +kernel), List.mem_of_getElem? (i := 911) (by decide +kernel), List.mem_of_getElem? (i := 912) (by decide +kernel)⟩
theorem lw_p36 : lw_okq (⟨"DrumMachineModel", "sum", "(IIIII)I"⟩, 44) := ⟨⟨by decide +kernel, by decide +kernel⟩, List.mem_of_getElem? (i := 654) (by decide +kernel), List.mem_of_getElem? (i := 921) (by decide +kernel), List.mem_of_getElem? (i := 922) (by decide +kernel)⟩
theorem lw_p37 : lw_okq (⟨"DrumMachineModel", "why", "(III)I"⟩, 44) := ⟨⟨by decide +kernel, by decide +kernel⟩, List.mem_of_getElem? (i := 654) (by decide +kernel), List.mem_of_getElem? (i := 928) (by decide +kernel), List.mem_of_getElem? (i := 929) (by decide +kernel)⟩
theorem lw_p38 : lw_okq (⟨"DrumMachineModel", "at", "(II)J"⟩, 44) := ⟨⟨by decide +kernel, by decide +kernel⟩, List.mem_of_getElem? (i := 654) (by decide +kernel), List.mem_of_getElem? (i := 933) (by decide +kernel), List.mem_of_getElem? (i := 934) (by decide +kernel)⟩
theorem lw_p39 : lw_okq (⟨"DrumMachineModel", "writeNumber", "(II)V"⟩, 44) := ⟨⟨by decide +kernel, by decide +kernel⟩, List.mem_of_getElem? (i := 654) (by decide +kernel), List.mem_of_getElem? (i := 938) (by decide +kernel), List.mem_of_getElem? (i := 939) (by decide +kernel)⟩
theorem lw_p40 : lw_okq (⟨"DrumMachineModel", "prints", "(II)Z"⟩, 44) := ⟨⟨by decide +kernel, by decide +kernel⟩, List.mem_of_getElem? (i := 654) (by decide +kernel), List.mem_of_getElem? (i := 942) (by decide +kernel), List.mem_of_getElem? (i := 943) (by decide +kernel)⟩
theorem lw_p41 : lw_okq (⟨"DrumMachineModel", "ofRegister", "(IIIII)I"⟩, 44) := ⟨⟨by decide +kernel, by decide +kernel⟩, List.mem_of_getElem? (i := 654) (by decide +kernel), List.mem_of_getElem? (i := 947) (by decide +kernel), List.mem_of_getElem? (i := 948) (by decide +kernel)⟩
theorem lw_p42 : lw_okq (⟨"DrumMachineModel", "setB", "(IIJ)V"⟩, 44) := ⟨⟨by decide +kernel, by decide +kernel⟩, List.mem_of_getElem? (i := 654) (by decide +kernel), List.mem_of_getElem? (i := 951) (by decide +kernel), List.mem_of_getElem? (i := 952) (by decide +kernel)⟩
theorem lw_p43 : lw_okq (⟨"DrumMachineModel", "ofAccumulator", "(IIII)I"⟩, 44) := ⟨⟨by decide +kernel, by decide +kernel⟩, List.mem_of_getElem? (i := 654) (by decide +kernel), List.mem_of_getElem? (i := 955) (by decide +kernel), List.mem_of_getElem? (i := 956) (by decide +kernel)⟩
theorem lw_p44 : lw_okq (⟨"DrumMachineModel", "other", "(III)V"⟩, 44) := ⟨⟨by decide +kernel, by decide +kernel⟩, List.mem_of_getElem? (i := 654) (by decide +kernel), List.mem_of_getElem? (i := 959) (by decide +kernel), List.mem_of_getElem? (i := 960) (by decide +kernel)⟩
theorem lw_p45 : lw_okq (⟨"DrumMachineModel", "nextByte", "(I)I"⟩, 44) := ⟨⟨by decide +kernel, by decide +kernel⟩, List.mem_of_getElem? (i := 654) (by decide +kernel), List.mem_of_getElem? (i := 963) (by decide +kernel), List.mem_of_getElem? (i := 964) (by decide +kernel)⟩
theorem lw_p46 : lw_okq (⟨"DrumMachineModel", "readNumber", "(I)V"⟩, 44) := ⟨⟨by decide +kernel, by decide +kernel⟩, List.mem_of_getElem? (i := 654) (by decide +kernel), List.mem_of_getElem? (i := 967) (by decide +kernel), List.mem_of_getElem? (i := 968) (by decide +kernel)⟩
theorem lw_p47 : lw_okq (⟨"DrumMachineModel", "round", "()V"⟩, 44) := ⟨⟨by decide +kernel, by decide +kernel⟩, List.mem_of_getElem? (i := 654) (by decide +kernel), List.mem_of_getElem? (i := 976) (by decide +kernel), List.mem_of_getElem? (i := 977) (by decide +kernel)⟩
def lw_privs_3 : List (MethodName × Nat) := [(⟨"DrumMachineModel", "isReady", "(I)Z"⟩, 44), (⟨"DrumMachineModel", "step", "(I)V"⟩, 44), (⟨"DrumMachineModel", "ends", "(II)V"⟩, 44), (⟨"DrumMachineModel", "comes", "(II)Z"⟩, 44), (⟨"DrumMachineModel", "sum", "(IIIII)I"⟩, 44), (⟨"DrumMachineModel", "why", "(III)I"⟩, 44), (⟨"DrumMachineModel", "at", "(II)J"⟩, 44), (⟨"DrumMachineModel", "writeNumber", "(II)V"⟩, 44), (⟨"DrumMachineModel", "prints", "(II)Z"⟩, 44), (⟨"DrumMachineModel", "ofRegister", "(IIIII)I"⟩, 44), (⟨"DrumMachineModel", "setB", "(IIJ)V"⟩, 44), (⟨"DrumMachineModel", "ofAccumulator", "(IIII)I"⟩, 44), (⟨"DrumMachineModel", "other", "(III)V"⟩, 44), (⟨"DrumMachineModel", "nextByte", "(I)I"⟩, 44), (⟨"DrumMachineModel", "readNumber", "(I)V"⟩, 44), (⟨"DrumMachineModel", "round", "()V"⟩, 44)]
theorem lw_r3 : ∀ q ∈ lw_privs_3, lw_okq q := List.forall_mem_cons.mpr ⟨lw_p32, List.forall_mem_cons.mpr ⟨lw_p33, List.forall_mem_cons.mpr ⟨lw_p34, List.forall_mem_cons.mpr ⟨lw_p35, List.forall_mem_cons.mpr ⟨lw_p36, List.forall_mem_cons.mpr ⟨lw_p37, List.forall_mem_cons.mpr ⟨lw_p38, List.forall_mem_cons.mpr ⟨lw_p39, List.forall_mem_cons.mpr ⟨lw_p40, List.forall_mem_cons.mpr ⟨lw_p41, List.forall_mem_cons.mpr ⟨lw_p42, List.forall_mem_cons.mpr ⟨lw_p43, List.forall_mem_cons.mpr ⟨lw_p44, List.forall_mem_cons.mpr ⟨lw_p45, List.forall_mem_cons.mpr ⟨lw_p46, List.forall_mem_cons.mpr ⟨lw_p47, fun _ h => absurd h List.not_mem_nil⟩⟩⟩⟩⟩⟩⟩⟩⟩⟩⟩⟩⟩⟩⟩⟩
theorem lw_p48 : lw_okq (⟨"DrumMachineModel", "isJob", "(I)Z"⟩, 44) := ⟨⟨by decide +kernel, by decide +kernel⟩, List.mem_of_getElem? (i := 654) (by decide +kernel), List.mem_of_getElem? (i := 984) (by decide +kernel), List.mem_of_getElem? (i := 985) (by decide +kernel)⟩
def lw_privs_4 : List (MethodName × Nat) := [(⟨"DrumMachineModel", "isJob", "(I)Z"⟩, 44)]
theorem lw_r4 : ∀ q ∈ lw_privs_4, lw_okq q := List.forall_mem_cons.mpr ⟨lw_p48, fun _ h => absurd h List.not_mem_nil⟩
def lw_privs : List (MethodName × Nat) := lw_privs_1 ++ (lw_privs_2 ++ (lw_privs_3 ++ (lw_privs_4)))
def lw_tbl : List Cond := k2_sels lw_privs ++ tables_1
theorem lw_privs_ok : ∀ q ∈ lw_privs, lw_okq q := by
  show ∀ q ∈ lw_privs_1 ++ (lw_privs_2 ++ (lw_privs_3 ++ (lw_privs_4))), lw_okq q
  exact List.forall_mem_append.mpr ⟨lw_r1, List.forall_mem_append.mpr ⟨lw_r2, List.forall_mem_append.mpr ⟨lw_r3, lw_r4⟩⟩⟩
end
section
/-! ===== BEGIN words of one list among another's, by their places ===== -/
theorem goodIn_r {big : List Cond} (ws : List Cond) (ps : List Nat) (hp : ws = ps.filterMap (fun i => big[i]?)) (h : ws.all goodWord = true) : GoodIn big ws := by
  intro w hw
  have h1 := List.all_eq_true.mp h w hw
  rw [hp] at hw
  obtain ⟨i, -, hi⟩ := List.mem_filterMap.mp hw
  have hm : w ∈ big := by first | exact List.mem_of_getElem? hi | exact List.getElem?_mem hi
  exact ⟨hm, good_of_word h1⟩
theorem goodIn_app {big a b : List Cond} (ha : GoodIn big a) (hb : GoodIn big b) : GoodIn big (a ++ b) := fun w h => (List.mem_append.mp h).elim (ha w) (hb w)
theorem goodIn_ca {big a b : List Cond} {c : Cond} (ha : GoodIn big (c :: a)) (hb : GoodIn big b) : GoodIn big (c :: (a ++ b)) := fun w h => (List.mem_cons.mp h).elim (fun e => ha w (List.mem_cons.mpr (Or.inl e))) (fun h => (List.mem_append.mp h).elim (fun h => ha w (List.mem_cons.mpr (Or.inr h))) (hb w))
theorem goodIn_sub {big ws : List Cond} (hm : ∀ w ∈ ws, w ∈ big) (h : ws.all goodWord = true) : GoodIn big ws := fun w hw => ⟨hm w hw, good_of_word (List.all_eq_true.mp h w hw)⟩
/-! ===== END ===== -/

/-! ===== BEGIN printed: names, fields, word lists, decode rows ===== -/
def RX0 : String := "DrumMachine$Block"
def TX0 : u_T := fun k => match k with
  | 0 => ("DrumMachine$Block", "owner", "LDrumMachine$Job;", true)
  | 1 => ("DrumMachine$Block", "number", "I", true)
  | 2 => ("DrumMachine$Block", "frame", "I", false)
  | 3 => ("DrumMachine$Block", "sector", "I", false)
  | 4 => ("DrumMachine$Block", "locked", "Z", false)
  | 5 => ("DrumMachine$Block", "leaving", "Z", false)
  | 6 => ("DrumMachine$Block", "unusedRounds", "I", false)
  | 7 => ("DrumMachine$Block", "lastPause", "I", false)
  | 8 => ("DrumMachine$Block", "usedInRound", "I", false)
  | _ => ("DrumMachine$Block", "chosenInRound", "I", false)
def tyX0 : Nat → FieldType := fun k => match k with
  | 0 => .object "DrumMachine$Job"
  | 1 => .int
  | 2 => .int
  | 3 => .int
  | 4 => .boolean
  | 5 => .boolean
  | 6 => .int
  | 7 => .int
  | 8 => .int
  | _ => .int
theorem nmX0 : ∀ a, a < 10 → ∀ b, b < 10 → a ≠ b → (TX0 a).2.1 ≠ (TX0 b).2.1 := by decide +kernel
theorem tyX0_ok : ∀ k, k < 10 → parseFieldDescriptor (TX0 k).2.2.1 = some (tyX0 k) := by decide +kernel
abbrev cX0_init : ByteArray := prog_2_method_1_code
def yX0_init : MethodName := ⟨RX0, "<init>", "(LDrumMachine$Job;I)V"⟩
abbrev cX0_arrive : ByteArray := prog_2_method_2_code
def yX0_arrive : MethodName := ⟨RX0, "arrive", "(I)V"⟩
abbrev cX0_age : ByteArray := prog_2_method_3_code
def yX0_age : MethodName := ⟨RX0, "age", "(I)V"⟩
abbrev cX0_mayLeave : ByteArray := prog_2_method_4_code
def yX0_mayLeave : MethodName := ⟨RX0, "mayLeave", "()Z"⟩
abbrev cX0_victimClass : ByteArray := prog_2_method_5_code
def yX0_victimClass : MethodName := ⟨RX0, "victimClass", "()I"⟩
abbrev cX0_isBetterVictimThan : ByteArray := prog_2_method_6_code
def yX0_isBetterVictimThan : MethodName := ⟨RX0, "isBetterVictimThan", "(LDrumMachine$Block;)Z"⟩
def RX1 : String := "DrumMachine$Core"
def TX1 : u_T := fun k => match k with
  | 0 => ("DrumMachine$Core", "held", "[LDrumMachine$Block;", true)
  | 1 => ("DrumMachine$Core", "size", "I", false)
  | 2 => ("DrumMachine$Core", "free", "I", false)
  | _ => ("DrumMachine$Core", "rounds", "I", false)
def tyX1 : Nat → FieldType := fun k => match k with
  | 0 => .array (.object "DrumMachine$Block")
  | 1 => .int
  | 2 => .int
  | _ => .int
theorem nmX1 : ∀ a, a < 4 → ∀ b, b < 4 → a ≠ b → (TX1 a).2.1 ≠ (TX1 b).2.1 := by decide +kernel
theorem tyX1_ok : ∀ k, k < 4 → parseFieldDescriptor (TX1 k).2.2.1 = some (tyX1 k) := by decide +kernel
abbrev cX1_init : ByteArray := prog_3_method_1_code
def yX1_init : MethodName := ⟨RX1, "<init>", "()V"⟩
abbrev cX1_resize : ByteArray := prog_3_method_2_code
def yX1_resize : MethodName := ⟨RX1, "resize", "(I)V"⟩
abbrev cX1_mostActive : ByteArray := prog_3_method_3_code
def yX1_mostActive : MethodName := ⟨RX1, "mostActive", "()I"⟩
abbrev cX1_blockIn : ByteArray := prog_3_method_4_code
def yX1_blockIn : MethodName := ⟨RX1, "blockIn", "(I)LDrumMachine$Block;"⟩
abbrev cX1_lowestFree : ByteArray := prog_3_method_5_code
def yX1_lowestFree : MethodName := ⟨RX1, "lowestFree", "()I"⟩
abbrev cX1_place : ByteArray := prog_3_method_6_code
def yX1_place : MethodName := ⟨RX1, "place", "(LDrumMachine$Block;I)V"⟩
abbrev cX1_release : ByteArray := prog_3_method_7_code
def yX1_release : MethodName := ⟨RX1, "release", "(LDrumMachine$Block;)V"⟩
abbrev cX1_victim : ByteArray := prog_3_method_8_code
def yX1_victim : MethodName := ⟨RX1, "victim", "()LDrumMachine$Block;"⟩
abbrev cX1_use : ByteArray := prog_3_method_9_code
def yX1_use : MethodName := ⟨RX1, "use", "(LDrumMachine$Block;)V"⟩
abbrev cX1_holdRound : ByteArray := prog_3_method_10_code
def yX1_holdRound : MethodName := ⟨RX1, "holdRound", "()V"⟩
def RX2 : String := "DrumMachine$Drum"
def TX2 : u_T := fun k => match k with
  | 0 => ("DrumMachine$Drum", "sectors", "[LDrumMachine$Block;", true)
  | 1 => ("DrumMachine$Drum", "asked", "[LDrumMachine$Block;", true)
  | 2 => ("DrumMachine$Drum", "askedCount", "I", false)
  | 3 => ("DrumMachine$Drum", "underWay", "LDrumMachine$Block;", false)
  | 4 => ("DrumMachine$Drum", "endsAt", "I", false)
  | 5 => ("DrumMachine$Drum", "writePending", "Z", false)
  | 6 => ("DrumMachine$Drum", "reads", "I", false)
  | _ => ("DrumMachine$Drum", "writes", "I", false)
def tyX2 : Nat → FieldType := fun k => match k with
  | 0 => .array (.object "DrumMachine$Block")
  | 1 => .array (.object "DrumMachine$Block")
  | 2 => .int
  | 3 => .object "DrumMachine$Block"
  | 4 => .int
  | 5 => .boolean
  | 6 => .int
  | _ => .int
theorem nmX2 : ∀ a, a < 8 → ∀ b, b < 8 → a ≠ b → (TX2 a).2.1 ≠ (TX2 b).2.1 := by decide +kernel
theorem tyX2_ok : ∀ k, k < 8 → parseFieldDescriptor (TX2 k).2.2.1 = some (tyX2 k) := by decide +kernel
abbrev cX2_init : ByteArray := prog_4_method_1_code
def yX2_init : MethodName := ⟨RX2, "<init>", "()V"⟩
abbrev cX2_blockOn : ByteArray := prog_4_method_2_code
def yX2_blockOn : MethodName := ⟨RX2, "blockOn", "(I)LDrumMachine$Block;"⟩
abbrev cX2_load : ByteArray := prog_4_method_3_code
def yX2_load : MethodName := ⟨RX2, "load", "(LDrumMachine$Block;)V"⟩
abbrev cX2_put : ByteArray := prog_4_method_4_code
def yX2_put : MethodName := ⟨RX2, "put", "(LDrumMachine$Block;I)V"⟩
abbrev cX2_release : ByteArray := prog_4_method_5_code
def yX2_release : MethodName := ⟨RX2, "release", "(LDrumMachine$Block;)V"⟩
abbrev cX2_ask : ByteArray := prog_4_method_6_code
def yX2_ask : MethodName := ⟨RX2, "ask", "(LDrumMachine$Block;)V"⟩
abbrev cX2_cancel : ByteArray := prog_4_method_7_code
def yX2_cancel : MethodName := ⟨RX2, "cancel", "(LDrumMachine$Block;)V"⟩
abbrev cX2_dropAsked : ByteArray := prog_4_method_8_code
def yX2_dropAsked : MethodName := ⟨RX2, "dropAsked", "(I)V"⟩
abbrev cX2_begin : ByteArray := prog_4_method_9_code
def yX2_begin : MethodName := ⟨RX2, "begin", "(I)V"⟩
abbrev cX2_takeEnded : ByteArray := prog_4_method_10_code
def yX2_takeEnded : MethodName := ⟨RX2, "takeEnded", "(I)LDrumMachine$Block;"⟩
abbrev cX2_nextFreeSector : ByteArray := prog_4_method_11_code
def yX2_nextFreeSector : MethodName := ⟨RX2, "nextFreeSector", "(I)I"⟩
abbrev cX2_ticksTill : ByteArray := prog_4_method_12_code
def yX2_ticksTill : MethodName := ⟨RX2, "ticksTill", "(II)I"⟩
def RX3 : String := "DrumMachine$Job"
def TX3 : u_T := fun k => match k with
  | 0 => ("DrumMachine$Job", "number", "I", true)
  | 1 => ("DrumMachine$Job", "limit", "I", true)
  | 2 => ("DrumMachine$Job", "accumulator", "J", false)
  | 3 => ("DrumMachine$Job", "indexes", "[I", true)
  | 4 => ("DrumMachine$Job", "control", "I", false)
  | 5 => ("DrumMachine$Job", "store", "[J", true)
  | 6 => ("DrumMachine$Job", "blocks", "[LDrumMachine$Block;", true)
  | 7 => ("DrumMachine$Job", "tape", "[I", true)
  | 8 => ("DrumMachine$Job", "tapeAt", "I", false)
  | 9 => ("DrumMachine$Job", "print", "[I", true)
  | 10 => ("DrumMachine$Job", "printCount", "I", false)
  | 11 => ("DrumMachine$Job", "ordersDone", "I", false)
  | 12 => ("DrumMachine$Job", "end", "I", false)
  | 13 => ("DrumMachine$Job", "active", "Z", false)
  | 14 => ("DrumMachine$Job", "awaited", "LDrumMachine$Block;", false)
  | _ => ("DrumMachine$Job", "awaitsFrame", "Z", false)
def tyX3 : Nat → FieldType := fun k => match k with
  | 0 => .int
  | 1 => .int
  | 2 => .long
  | 3 => .array .int
  | 4 => .int
  | 5 => .array .long
  | 6 => .array (.object "DrumMachine$Block")
  | 7 => .array .int
  | 8 => .int
  | 9 => .array .int
  | 10 => .int
  | 11 => .int
  | 12 => .int
  | 13 => .boolean
  | 14 => .object "DrumMachine$Block"
  | _ => .boolean
theorem nmX3 : ∀ a, a < 16 → ∀ b, b < 16 → a ≠ b → (TX3 a).2.1 ≠ (TX3 b).2.1 := by decide +kernel
theorem tyX3_ok : ∀ k, k < 16 → parseFieldDescriptor (TX3 k).2.2.1 = some (tyX3 k) := by decide +kernel
abbrev cX3_init : ByteArray := prog_5_method_1_code
def yX3_init : MethodName := ⟨RX3, "<init>", "(IILDrumMachine$Tray;I)V"⟩
abbrev cX3_wrapWord : ByteArray := prog_5_method_2_code
def yX3_wrapWord : MethodName := ⟨RX3, "wrapWord", "(J)J"⟩
abbrev cX3_wrapIndex : ByteArray := prog_5_method_3_code
def yX3_wrapIndex : MethodName := ⟨RX3, "wrapIndex", "(I)I"⟩
abbrev cX3_isInStore : ByteArray := prog_5_method_4_code
def yX3_isInStore : MethodName := ⟨RX3, "isInStore", "(I)Z"⟩
abbrev cX3_isReady : ByteArray := prog_5_method_5_code
def yX3_isReady : MethodName := ⟨RX3, "isReady", "(Z)Z"⟩
abbrev cX3_stopWaiting : ByteArray := prog_5_method_6_code
def yX3_stopWaiting : MethodName := ⟨RX3, "stopWaiting", "()V"⟩
abbrev cX3_wants : ByteArray := prog_5_method_7_code
def yX3_wants : MethodName := ⟨RX3, "wants", "(LDrumMachine$Block;)Z"⟩
abbrev cX3_blockOf : ByteArray := prog_5_method_8_code
def yX3_blockOf : MethodName := ⟨RX3, "blockOf", "(I)LDrumMachine$Block;"⟩
abbrev cX3_setBlock : ByteArray := prog_5_method_9_code
def yX3_setBlock : MethodName := ⟨RX3, "setBlock", "(ILDrumMachine$Block;)V"⟩
abbrev cX3_load : ByteArray := prog_5_method_10_code
def yX3_load : MethodName := ⟨RX3, "load", "(I)J"⟩
abbrev cX3_keep : ByteArray := prog_5_method_11_code
def yX3_keep : MethodName := ⟨RX3, "keep", "(IJ)V"⟩
abbrev cX3_index : ByteArray := prog_5_method_12_code
def yX3_index : MethodName := ⟨RX3, "index", "(I)I"⟩
abbrev cX3_setIndex : ByteArray := prog_5_method_13_code
def yX3_setIndex : MethodName := ⟨RX3, "setIndex", "(II)V"⟩
abbrev cX3_printedByte : ByteArray := prog_5_method_14_code
def yX3_printedByte : MethodName := ⟨RX3, "printedByte", "(I)I"⟩
abbrev cX3_addressIn : ByteArray := prog_5_method_15_code
def yX3_addressIn : MethodName := ⟨RX3, "addressIn", "(J)I"⟩
abbrev cX3_obey : ByteArray := prog_5_method_16_code
def yX3_obey : MethodName := ⟨RX3, "obey", "(III)I"⟩
abbrev cX3_obeyIndexOrder : ByteArray := prog_5_method_17_code
def yX3_obeyIndexOrder : MethodName := ⟨RX3, "obeyIndexOrder", "(III)V"⟩
abbrev cX3_obeyAccumulatorOrder : ByteArray := prog_5_method_18_code
def yX3_obeyAccumulatorOrder : MethodName := ⟨RX3, "obeyAccumulatorOrder", "(II)V"⟩
abbrev cX3_goesElsewhere : ByteArray := prog_5_method_19_code
def yX3_goesElsewhere : MethodName := ⟨RX3, "goesElsewhere", "(II)Z"⟩
abbrev cX3_obeyRoutine : ByteArray := prog_5_method_20_code
def yX3_obeyRoutine : MethodName := ⟨RX3, "obeyRoutine", "(II)I"⟩
abbrev cX3_printByte : ByteArray := prog_5_method_21_code
def yX3_printByte : MethodName := ⟨RX3, "printByte", "(I)I"⟩
abbrev cX3_printNumber : ByteArray := prog_5_method_22_code
def yX3_printNumber : MethodName := ⟨RX3, "printNumber", "()I"⟩
abbrev cX3_nextByte : ByteArray := prog_5_method_23_code
def yX3_nextByte : MethodName := ⟨RX3, "nextByte", "()I"⟩
abbrev cX3_takeByte : ByteArray := prog_5_method_24_code
def yX3_takeByte : MethodName := ⟨RX3, "takeByte", "()I"⟩
abbrev cX3_takeNumber : ByteArray := prog_5_method_25_code
def yX3_takeNumber : MethodName := ⟨RX3, "takeNumber", "()J"⟩
abbrev cX3_divide : ByteArray := prog_5_method_26_code
def yX3_divide : MethodName := ⟨RX3, "divide", "(JZ)I"⟩
abbrev cX3_takeRoot : ByteArray := prog_5_method_27_code
def yX3_takeRoot : MethodName := ⟨RX3, "takeRoot", "()I"⟩
abbrev cX3_digestFrom : ByteArray := prog_5_method_28_code
def yX3_digestFrom : MethodName := ⟨RX3, "digestFrom", "(J)J"⟩
def RX4 : String := "DrumMachine$Order"
def TX4 : u_T := fun k => match k with
  | _ => ("", "", "", false)
def tyX4 : Nat → FieldType := fun k => match k with
  | _ => .int
theorem nmX4 : ∀ a, a < 0 → ∀ b, b < 0 → a ≠ b → (TX4 a).2.1 ≠ (TX4 b).2.1 := by decide +kernel
theorem tyX4_ok : ∀ k, k < 0 → parseFieldDescriptor (TX4 k).2.2.1 = some (tyX4 k) := by decide +kernel
abbrev cX4_function : ByteArray := prog_6_method_2_code
def yX4_function : MethodName := ⟨RX4, "function", "(J)I"⟩
abbrev cX4_indexRegister : ByteArray := prog_6_method_3_code
def yX4_indexRegister : MethodName := ⟨RX4, "indexRegister", "(J)I"⟩
abbrev cX4_modifier : ByteArray := prog_6_method_4_code
def yX4_modifier : MethodName := ⟨RX4, "modifier", "(J)I"⟩
abbrev cX4_isKnown : ByteArray := prog_6_method_5_code
def yX4_isKnown : MethodName := ⟨RX4, "isKnown", "(I)Z"⟩
abbrev cX4_takesWord : ByteArray := prog_6_method_6_code
def yX4_takesWord : MethodName := ⟨RX4, "takesWord", "(I)Z"⟩
def RX5 : String := "DrumMachine$Tray"
def TX5 : u_T := fun k => match k with
  | 0 => ("DrumMachine$Tray", "words", "[J", true)
  | 1 => ("DrumMachine$Tray", "bytes", "[I", true)
  | 2 => ("DrumMachine$Tray", "wordCount", "I", false)
  | _ => ("DrumMachine$Tray", "byteCount", "I", false)
def tyX5 : Nat → FieldType := fun k => match k with
  | 0 => .array .long
  | 1 => .array .int
  | 2 => .int
  | _ => .int
theorem nmX5 : ∀ a, a < 4 → ∀ b, b < 4 → a ≠ b → (TX5 a).2.1 ≠ (TX5 b).2.1 := by decide +kernel
theorem tyX5_ok : ∀ k, k < 4 → parseFieldDescriptor (TX5 k).2.2.1 = some (tyX5 k) := by decide +kernel
abbrev cX5_init : ByteArray := prog_7_method_1_code
def yX5_init : MethodName := ⟨RX5, "<init>", "()V"⟩
abbrev cX5_hasRoomForWords : ByteArray := prog_7_method_2_code
def yX5_hasRoomForWords : MethodName := ⟨RX5, "hasRoomForWords", "(I)Z"⟩
abbrev cX5_hasRoomForBytes : ByteArray := prog_7_method_3_code
def yX5_hasRoomForBytes : MethodName := ⟨RX5, "hasRoomForBytes", "(I)Z"⟩
abbrev cX5_addWord : ByteArray := prog_7_method_4_code
def yX5_addWord : MethodName := ⟨RX5, "addWord", "(J)V"⟩
abbrev cX5_addBytes : ByteArray := prog_7_method_5_code
def yX5_addBytes : MethodName := ⟨RX5, "addBytes", "(JI)V"⟩
abbrev cX5_empty : ByteArray := prog_7_method_6_code
def yX5_empty : MethodName := ⟨RX5, "empty", "()V"⟩
def RX6 : String := "DrumMachine"
def TX6 : u_T := fun k => match k with
  | 0 => ("DrumMachine", "tray", "LDrumMachine$Tray;", true)
  | 1 => ("DrumMachine", "core", "LDrumMachine$Core;", true)
  | 2 => ("DrumMachine", "drum", "LDrumMachine$Drum;", true)
  | 3 => ("DrumMachine", "jobs", "[LDrumMachine$Job;", true)
  | 4 => ("DrumMachine", "taken", "I", false)
  | 5 => ("DrumMachine", "unended", "I", false)
  | 6 => ("DrumMachine", "existing", "I", false)
  | 7 => ("DrumMachine", "inHand", "I", false)
  | 8 => ("DrumMachine", "now", "I", false)
  | 9 => ("DrumMachine", "misses", "I", false)
  | 10 => ("DrumMachine", "idleTicks", "I", false)
  | _ => ("DrumMachine", "ordersDone", "I", false)
def tyX6 : Nat → FieldType := fun k => match k with
  | 0 => .object "DrumMachine$Tray"
  | 1 => .object "DrumMachine$Core"
  | 2 => .object "DrumMachine$Drum"
  | 3 => .array (.object "DrumMachine$Job")
  | 4 => .int
  | 5 => .int
  | 6 => .int
  | 7 => .int
  | 8 => .int
  | 9 => .int
  | 10 => .int
  | _ => .int
theorem nmX6 : ∀ a, a < 12 → ∀ b, b < 12 → a ≠ b → (TX6 a).2.1 ≠ (TX6 b).2.1 := by decide +kernel
theorem tyX6_ok : ∀ k, k < 12 → parseFieldDescriptor (TX6 k).2.2.1 = some (tyX6 k) := by decide +kernel
abbrev cX6_init : ByteArray := prog_1_method_1_code
def yX6_init : MethodName := ⟨RX6, "<init>", "()V"⟩
abbrev cX6_frames : ByteArray := prog_1_method_2_code
def yX6_frames : MethodName := ⟨RX6, "frames", "(I)I"⟩
abbrev cX6_words : ByteArray := prog_1_method_3_code
def yX6_words : MethodName := ⟨RX6, "words", "(JJJJJ)I"⟩
abbrev cX6_bytes : ByteArray := prog_1_method_4_code
def yX6_bytes : MethodName := ⟨RX6, "bytes", "(JJJJI)I"⟩
abbrev cX6_job : ByteArray := prog_1_method_5_code
def yX6_job : MethodName := ⟨RX6, "job", "(II)I"⟩
abbrev cX6_run : ByteArray := prog_1_method_6_code
def yX6_run : MethodName := ⟨RX6, "run", "(I)I"⟩
abbrev cX6_ended : ByteArray := prog_1_method_7_code
def yX6_ended : MethodName := ⟨RX6, "ended", "(I)I"⟩
abbrev cX6_done : ByteArray := prog_1_method_8_code
def yX6_done : MethodName := ⟨RX6, "done", "(I)I"⟩
abbrev cX6_printed : ByteArray := prog_1_method_9_code
def yX6_printed : MethodName := ⟨RX6, "printed", "(I)I"⟩
abbrev cX6_out : ByteArray := prog_1_method_10_code
def yX6_out : MethodName := ⟨RX6, "out", "(II)I"⟩
abbrev cX6_register : ByteArray := prog_1_method_11_code
def yX6_register : MethodName := ⟨RX6, "register", "(II)J"⟩
abbrev cX6_word : ByteArray := prog_1_method_12_code
def yX6_word : MethodName := ⟨RX6, "word", "(II)J"⟩
abbrev cX6_clock : ByteArray := prog_1_method_13_code
def yX6_clock : MethodName := ⟨RX6, "clock", "()I"⟩
abbrev cX6_told : ByteArray := prog_1_method_14_code
def yX6_told : MethodName := ⟨RX6, "told", "(I)I"⟩
abbrev cX6_frame : ByteArray := prog_1_method_15_code
def yX6_frame : MethodName := ⟨RX6, "frame", "(II)I"⟩
abbrev cX6_sector : ByteArray := prog_1_method_16_code
def yX6_sector : MethodName := ⟨RX6, "sector", "(I)I"⟩
abbrev cX6_digest : ByteArray := prog_1_method_17_code
def yX6_digest : MethodName := ⟨RX6, "digest", "()J"⟩
abbrev cX6_find : ByteArray := prog_1_method_18_code
def yX6_find : MethodName := ⟨RX6, "find", "(I)LDrumMachine$Job;"⟩
abbrev cX6_activate : ByteArray := prog_1_method_19_code
def yX6_activate : MethodName := ⟨RX6, "activate", "()V"⟩
abbrev cX6_tick : ByteArray := prog_1_method_20_code
def yX6_tick : MethodName := ⟨RX6, "tick", "()V"⟩
abbrev cX6_finishTransfer : ByteArray := prog_1_method_21_code
def yX6_finishTransfer : MethodName := ⟨RX6, "finishTransfer", "()V"⟩
abbrev cX6_chooseVictim : ByteArray := prog_1_method_22_code
def yX6_chooseVictim : MethodName := ⟨RX6, "chooseVictim", "()V"⟩
abbrev cX6_nextInHand : ByteArray := prog_1_method_23_code
def yX6_nextInHand : MethodName := ⟨RX6, "nextInHand", "()I"⟩
abbrev cX6_settle : ByteArray := prog_1_method_24_code
def yX6_settle : MethodName := ⟨RX6, "settle", "(LDrumMachine$Job;I)V"⟩
abbrev cX6_isCounted : ByteArray := prog_1_method_25_code
def yX6_isCounted : MethodName := ⟨RX6, "isCounted", "(I)Z"⟩
abbrev cX6_doNextOrder : ByteArray := prog_1_method_26_code
def yX6_doNextOrder : MethodName := ⟨RX6, "doNextOrder", "(LDrumMachine$Job;)I"⟩
abbrev cX6_reach : ByteArray := prog_1_method_27_code
def yX6_reach : MethodName := ⟨RX6, "reach", "(LDrumMachine$Job;I)I"⟩
abbrev cX6_reachHeld : ByteArray := prog_1_method_28_code
def yX6_reachHeld : MethodName := ⟨RX6, "reachHeld", "(LDrumMachine$Job;LDrumMachine$Block;)I"⟩
abbrev cX6_createBlock : ByteArray := prog_1_method_29_code
def yX6_createBlock : MethodName := ⟨RX6, "createBlock", "(LDrumMachine$Job;I)LDrumMachine$Block;"⟩
abbrev cX6_endJob : ByteArray := prog_1_method_30_code
def yX6_endJob : MethodName := ⟨RX6, "endJob", "(LDrumMachine$Job;I)V"⟩
abbrev cX6_forget : ByteArray := prog_1_method_31_code
def yX6_forget : MethodName := ⟨RX6, "forget", "(LDrumMachine$Block;)V"⟩
def RX7 : String := "DrumMachineModel"
def TX7 : u_T := fun k => match k with
  | 0 => ("DrumMachineModel", "many", "I", false)
  | 1 => ("DrumMachineModel", "tray", "[J", true)
  | 2 => ("DrumMachineModel", "trayed", "I", false)
  | 3 => ("DrumMachineModel", "bytes", "[I", true)
  | 4 => ("DrumMachineModel", "taped", "I", false)
  | 5 => ("DrumMachineModel", "jobs", "I", false)
  | 6 => ("DrumMachineModel", "limit", "[I", true)
  | 7 => ("DrumMachineModel", "done", "[I", true)
  | 8 => ("DrumMachineModel", "end", "[I", true)
  | 9 => ("DrumMachineModel", "control", "[I", true)
  | 10 => ("DrumMachineModel", "acc", "[J", true)
  | 11 => ("DrumMachineModel", "b", "[I", true)
  | 12 => ("DrumMachineModel", "store", "[J", true)
  | 13 => ("DrumMachineModel", "tape", "[I", true)
  | 14 => ("DrumMachineModel", "tapeSize", "[I", true)
  | 15 => ("DrumMachineModel", "tapeAt", "[I", true)
  | 16 => ("DrumMachineModel", "print", "[I", true)
  | 17 => ("DrumMachineModel", "printed", "[I", true)
  | 18 => ("DrumMachineModel", "wait", "[I", true)
  | 19 => ("DrumMachineModel", "waitBlock", "[I", true)
  | 20 => ("DrumMachineModel", "exists", "[Z", true)
  | 21 => ("DrumMachineModel", "gone", "[I", true)
  | 22 => ("DrumMachineModel", "existing", "I", false)
  | 23 => ("DrumMachineModel", "inFrame", "[I", true)
  | 24 => ("DrumMachineModel", "idle", "[I", true)
  | 25 => ("DrumMachineModel", "before", "[I", true)
  | 26 => ("DrumMachineModel", "isLocked", "[Z", true)
  | 27 => ("DrumMachineModel", "isUsed", "[Z", true)
  | 28 => ("DrumMachineModel", "onSector", "[I", true)
  | 29 => ("DrumMachineModel", "askedWhat", "[I", true)
  | 30 => ("DrumMachineModel", "askedFrame", "[I", true)
  | 31 => ("DrumMachineModel", "asked", "I", false)
  | 32 => ("DrumMachineModel", "underWay", "I", false)
  | 33 => ("DrumMachineModel", "wayFrame", "I", false)
  | 34 => ("DrumMachineModel", "waySector", "I", false)
  | 35 => ("DrumMachineModel", "wayEnd", "I", false)
  | 36 => ("DrumMachineModel", "clock", "I", false)
  | 37 => ("DrumMachineModel", "hand", "I", false)
  | 38 => ("DrumMachineModel", "reads", "I", false)
  | 39 => ("DrumMachineModel", "writes", "I", false)
  | 40 => ("DrumMachineModel", "misses", "I", false)
  | 41 => ("DrumMachineModel", "idles", "I", false)
  | 42 => ("DrumMachineModel", "rounds", "I", false)
  | _ => ("DrumMachineModel", "steps", "I", false)
def tyX7 : Nat → FieldType := fun k => match k with
  | 0 => .int
  | 1 => .array .long
  | 2 => .int
  | 3 => .array .int
  | 4 => .int
  | 5 => .int
  | 6 => .array .int
  | 7 => .array .int
  | 8 => .array .int
  | 9 => .array .int
  | 10 => .array .long
  | 11 => .array .int
  | 12 => .array .long
  | 13 => .array .int
  | 14 => .array .int
  | 15 => .array .int
  | 16 => .array .int
  | 17 => .array .int
  | 18 => .array .int
  | 19 => .array .int
  | 20 => .array .boolean
  | 21 => .array .int
  | 22 => .int
  | 23 => .array .int
  | 24 => .array .int
  | 25 => .array .int
  | 26 => .array .boolean
  | 27 => .array .boolean
  | 28 => .array .int
  | 29 => .array .int
  | 30 => .array .int
  | 31 => .int
  | 32 => .int
  | 33 => .int
  | 34 => .int
  | 35 => .int
  | 36 => .int
  | 37 => .int
  | 38 => .int
  | 39 => .int
  | 40 => .int
  | 41 => .int
  | 42 => .int
  | _ => .int
theorem nmX7 : ∀ a, a < 44 → ∀ b, b < 44 → a ≠ b → (TX7 a).2.1 ≠ (TX7 b).2.1 := by decide +kernel
theorem tyX7_ok : ∀ k, k < 44 → parseFieldDescriptor (TX7 k).2.2.1 = some (tyX7 k) := by decide +kernel
abbrev cX7_init : ByteArray := prog_9_method_1_code
def yX7_init : MethodName := ⟨RX7, "<init>", "()V"⟩
abbrev cX7_word48 : ByteArray := prog_9_method_2_code
def yX7_word48 : MethodName := ⟨RX7, "word48", "(J)J"⟩
abbrev cX7_word24 : ByteArray := prog_9_method_3_code
def yX7_word24 : MethodName := ⟨RX7, "word24", "(J)I"⟩
abbrev cX7_frames : ByteArray := prog_9_method_4_code
def yX7_frames : MethodName := ⟨RX7, "frames", "(I)I"⟩
abbrev cX7_words : ByteArray := prog_9_method_5_code
def yX7_words : MethodName := ⟨RX7, "words", "(JJJJJ)I"⟩
abbrev cX7_bytes : ByteArray := prog_9_method_6_code
def yX7_bytes : MethodName := ⟨RX7, "bytes", "(JJJJI)I"⟩
abbrev cX7_job : ByteArray := prog_9_method_7_code
def yX7_job : MethodName := ⟨RX7, "job", "(II)I"⟩
abbrev cX7_exist : ByteArray := prog_9_method_8_code
def yX7_exist : MethodName := ⟨RX7, "exist", "(I)V"⟩
abbrev cX7_frameOf : ByteArray := prog_9_method_9_code
def yX7_frameOf : MethodName := ⟨RX7, "frameOf", "(I)I"⟩
abbrev cX7_sectorOf : ByteArray := prog_9_method_10_code
def yX7_sectorOf : MethodName := ⟨RX7, "sectorOf", "(I)I"⟩
abbrev cX7_freeFrame : ByteArray := prog_9_method_11_code
def yX7_freeFrame : MethodName := ⟨RX7, "freeFrame", "()I"⟩
abbrev cX7_notEnded : ByteArray := prog_9_method_12_code
def yX7_notEnded : MethodName := ⟨RX7, "notEnded", "()I"⟩
abbrev cX7_isActive : ByteArray := prog_9_method_13_code
def yX7_isActive : MethodName := ⟨RX7, "isActive", "(I)Z"⟩
abbrev cX7_isReady : ByteArray := prog_9_method_14_code
def yX7_isReady : MethodName := ⟨RX7, "isReady", "(I)Z"⟩
abbrev cX7_isAddress : ByteArray := prog_9_method_15_code
def yX7_isAddress : MethodName := ⟨RX7, "isAddress", "(I)Z"⟩
abbrev cX7_blockOf : ByteArray := prog_9_method_16_code
def yX7_blockOf : MethodName := ⟨RX7, "blockOf", "(II)I"⟩
abbrev cX7_isWanted : ByteArray := prog_9_method_17_code
def yX7_isWanted : MethodName := ⟨RX7, "isWanted", "(I)Z"⟩
abbrev cX7_run : ByteArray := prog_9_method_18_code
def yX7_run : MethodName := ⟨RX7, "run", "(I)I"⟩
abbrev cX7_tick : ByteArray := prog_9_method_19_code
def yX7_tick : MethodName := ⟨RX7, "tick", "()V"⟩
abbrev cX7_isWriteAsked : ByteArray := prog_9_method_20_code
def yX7_isWriteAsked : MethodName := ⟨RX7, "isWriteAsked", "()Z"⟩
abbrev cX7_leave : ByteArray := prog_9_method_21_code
def yX7_leave : MethodName := ⟨RX7, "leave", "(I)V"⟩
abbrev cX7_finish : ByteArray := prog_9_method_22_code
def yX7_finish : MethodName := ⟨RX7, "finish", "()V"⟩
abbrev cX7_vanish : ByteArray := prog_9_method_23_code
def yX7_vanish : MethodName := ⟨RX7, "vanish", "(I)V"⟩
abbrev cX7_mayGo : ByteArray := prog_9_method_24_code
def yX7_mayGo : MethodName := ⟨RX7, "mayGo", "(I)Z"⟩
abbrev cX7_choose : ByteArray := prog_9_method_25_code
def yX7_choose : MethodName := ⟨RX7, "choose", "()V"⟩
abbrev cX7_ask : ByteArray := prog_9_method_26_code
def yX7_ask : MethodName := ⟨RX7, "ask", "(II)V"⟩
abbrev cX7_drop : ByteArray := prog_9_method_27_code
def yX7_drop : MethodName := ⟨RX7, "drop", "(I)V"⟩
abbrev cX7_passes : ByteArray := prog_9_method_28_code
def yX7_passes : MethodName := ⟨RX7, "passes", "(I)I"⟩
abbrev cX7_begin : ByteArray := prog_9_method_29_code
def yX7_begin : MethodName := ⟨RX7, "begin", "()V"⟩
abbrev cX7_next : ByteArray := prog_9_method_30_code
def yX7_next : MethodName := ⟨RX7, "next", "()I"⟩
abbrev cX7_ends : ByteArray := prog_9_method_31_code
def yX7_ends : MethodName := ⟨RX7, "ends", "(II)V"⟩
abbrev cX7_comes : ByteArray := prog_9_method_32_code
def yX7_comes : MethodName := ⟨RX7, "comes", "(II)Z"⟩
abbrev cX7_isOrder : ByteArray := prog_9_method_33_code
def yX7_isOrder : MethodName := ⟨RX7, "isOrder", "(I)Z"⟩
abbrev cX7_isWithWord : ByteArray := prog_9_method_34_code
def yX7_isWithWord : MethodName := ⟨RX7, "isWithWord", "(I)Z"⟩
abbrev cX7_sum : ByteArray := prog_9_method_35_code
def yX7_sum : MethodName := ⟨RX7, "sum", "(IIIII)I"⟩
abbrev cX7_step : ByteArray := prog_9_method_36_code
def yX7_step : MethodName := ⟨RX7, "step", "(I)V"⟩
abbrev cX7_at : ByteArray := prog_9_method_37_code
def yX7_at : MethodName := ⟨RX7, "at", "(II)J"⟩
abbrev cX7_why : ByteArray := prog_9_method_38_code
def yX7_why : MethodName := ⟨RX7, "why", "(III)I"⟩
abbrev cX7_prints : ByteArray := prog_9_method_39_code
def yX7_prints : MethodName := ⟨RX7, "prints", "(II)Z"⟩
abbrev cX7_writeNumber : ByteArray := prog_9_method_40_code
def yX7_writeNumber : MethodName := ⟨RX7, "writeNumber", "(II)V"⟩
abbrev cX7_setB : ByteArray := prog_9_method_41_code
def yX7_setB : MethodName := ⟨RX7, "setB", "(IIJ)V"⟩
abbrev cX7_ofRegister : ByteArray := prog_9_method_42_code
def yX7_ofRegister : MethodName := ⟨RX7, "ofRegister", "(IIIII)I"⟩
abbrev cX7_ofAccumulator : ByteArray := prog_9_method_43_code
def yX7_ofAccumulator : MethodName := ⟨RX7, "ofAccumulator", "(IIII)I"⟩
abbrev cX7_nextByte : ByteArray := prog_9_method_44_code
def yX7_nextByte : MethodName := ⟨RX7, "nextByte", "(I)I"⟩
abbrev cX7_other : ByteArray := prog_9_method_45_code
def yX7_other : MethodName := ⟨RX7, "other", "(III)V"⟩
abbrev cX7_readNumber : ByteArray := prog_9_method_46_code
def yX7_readNumber : MethodName := ⟨RX7, "readNumber", "(I)V"⟩
abbrev cX7_root : ByteArray := prog_9_method_47_code
def yX7_root : MethodName := ⟨RX7, "root", "(J)J"⟩
abbrev cX7_round : ByteArray := prog_9_method_48_code
def yX7_round : MethodName := ⟨RX7, "round", "()V"⟩
abbrev cX7_isJob : ByteArray := prog_9_method_49_code
def yX7_isJob : MethodName := ⟨RX7, "isJob", "(I)Z"⟩
abbrev cX7_ended : ByteArray := prog_9_method_50_code
def yX7_ended : MethodName := ⟨RX7, "ended", "(I)I"⟩
abbrev cX7_done : ByteArray := prog_9_method_51_code
def yX7_done : MethodName := ⟨RX7, "done", "(I)I"⟩
abbrev cX7_printed : ByteArray := prog_9_method_52_code
def yX7_printed : MethodName := ⟨RX7, "printed", "(I)I"⟩
abbrev cX7_out : ByteArray := prog_9_method_53_code
def yX7_out : MethodName := ⟨RX7, "out", "(II)I"⟩
abbrev cX7_register : ByteArray := prog_9_method_54_code
def yX7_register : MethodName := ⟨RX7, "register", "(II)J"⟩
abbrev cX7_word : ByteArray := prog_9_method_55_code
def yX7_word : MethodName := ⟨RX7, "word", "(II)J"⟩
abbrev cX7_clock : ByteArray := prog_9_method_56_code
def yX7_clock : MethodName := ⟨RX7, "clock", "()I"⟩
abbrev cX7_told : ByteArray := prog_9_method_57_code
def yX7_told : MethodName := ⟨RX7, "told", "(I)I"⟩
abbrev cX7_frame : ByteArray := prog_9_method_58_code
def yX7_frame : MethodName := ⟨RX7, "frame", "(II)I"⟩
abbrev cX7_sector : ByteArray := prog_9_method_59_code
def yX7_sector : MethodName := ⟨RX7, "sector", "(I)I"⟩
abbrev cX7_digest : ByteArray := prog_9_method_60_code
def yX7_digest : MethodName := ⟨RX7, "digest", "()J"⟩
def RJ9 : String := "java/lang/Math"
def TJ9 : u_T := fun k => match k with
  | _ => ("", "", "", false)
def tyJ9 : Nat → FieldType := fun k => match k with
  | _ => .int
theorem nmJ9 : ∀ a, a < 0 → ∀ b, b < 0 → a ≠ b → (TJ9 a).2.1 ≠ (TJ9 b).2.1 := by decide +kernel
theorem tyJ9_ok : ∀ k, k < 0 → parseFieldDescriptor (TJ9 k).2.2.1 = some (tyJ9 k) := by decide +kernel
abbrev cJ9_floorDiv_7cf53 : ByteArray := prog_10_method_47_code
def yJ9_floorDiv_7cf53 : MethodName := ⟨RJ9, "floorDiv", "(II)I"⟩
abbrev cJ9_floorMod_7cf53 : ByteArray := prog_10_method_50_code
def yJ9_floorMod_7cf53 : MethodName := ⟨RJ9, "floorMod", "(II)I"⟩
abbrev cJ9_abs_067f4 : ByteArray := prog_10_method_61_code
def yJ9_abs_067f4 : MethodName := ⟨RJ9, "abs", "(J)J"⟩
abbrev cJ9_max_7cf53 : ByteArray := prog_10_method_65_code
def yJ9_max_7cf53 : MethodName := ⟨RJ9, "max", "(II)I"⟩
abbrev cJ9_min_7cf53 : ByteArray := prog_10_method_69_code
def yJ9_min_7cf53 : MethodName := ⟨RJ9, "min", "(II)I"⟩
def RL : String := "DrumMachineLaw"
abbrev cL_law : ByteArray := code
def yL_law : MethodName := ⟨RL, "law", "([I)Z"⟩
end
section
/-! my tables: class numbers, method numbers, and what each pool number of a class means (written by wip/gen/tables.py) -/
def jt_cl : List vw_C := [(RX7, TX7, 44), (RX0, TX0, 10), (RX1, TX1, 4), (RX2, TX2, 8), (RX3, TX3, 16), (RX5, TX5, 4), (RX6, TX6, 12)]
def jt_tf : List (Nat → FieldType) := [tyX7, tyX0, tyX1, tyX2, tyX3, tyX5, tyX6]
def jt_on : List String := [RX7, RX0, RX1, RX2, RX3, RX5, RX6, RL, RJ9, RX4]
/-- a method: its name, its bytes, its locals, its answer's type, its class's number, how many parameters, its kind (0 instance, 1 static, 2 constructor, 3 the law) -/
abbrev jt_M : Type := MethodName × ByteArray × Nat × Option FieldType × Nat × Nat × Nat
def jt_ms0 : List jt_M := [(yX7_init, cX7_init, 2, none, 0, 0, 2),
  (yX7_word48, cX7_word48, 2, (some .long), 0, 1, 1),
  (yX7_word24, cX7_word24, 2, (some .int), 0, 1, 1),
  (yX7_frames, cX7_frames, 2, (some .int), 0, 1, 0),
  (yX7_words, cX7_words, 11, (some .int), 0, 5, 0),
  (yX7_bytes, cX7_bytes, 13, (some .int), 0, 5, 0),
  (yX7_job, cX7_job, 7, (some .int), 0, 2, 0),
  (yX7_exist, cX7_exist, 2, none, 0, 1, 0),
  (yX7_frameOf, cX7_frameOf, 3, (some .int), 0, 1, 0),
  (yX7_sectorOf, cX7_sectorOf, 3, (some .int), 0, 1, 0),
  (yX7_freeFrame, cX7_freeFrame, 1, (some .int), 0, 0, 0),
  (yX7_notEnded, cX7_notEnded, 3, (some .int), 0, 0, 0),
  (yX7_isActive, cX7_isActive, 4, (some .boolean), 0, 1, 0),
  (yX7_isReady, cX7_isReady, 3, (some .boolean), 0, 1, 0),
  (yX7_isAddress, cX7_isAddress, 1, (some .boolean), 0, 1, 1),
  (yX7_blockOf, cX7_blockOf, 2, (some .int), 0, 2, 1),
  (yX7_isWanted, cX7_isWanted, 3, (some .boolean), 0, 1, 0),
  (yX7_run, cX7_run, 3, (some .int), 0, 1, 0),
  (yX7_tick, cX7_tick, 2, none, 0, 0, 0),
  (yX7_isWriteAsked, cX7_isWriteAsked, 2, (some .boolean), 0, 0, 0)]
def jt_ms1 : List jt_M := [(yX7_leave, cX7_leave, 2, none, 0, 1, 0),
  (yX7_finish, cX7_finish, 2, none, 0, 0, 0),
  (yX7_vanish, cX7_vanish, 2, none, 0, 1, 0),
  (yX7_mayGo, cX7_mayGo, 2, (some .boolean), 0, 1, 0),
  (yX7_choose, cX7_choose, 3, none, 0, 0, 0),
  (yX7_ask, cX7_ask, 3, none, 0, 2, 0),
  (yX7_drop, cX7_drop, 3, none, 0, 1, 0),
  (yX7_passes, cX7_passes, 3, (some .int), 0, 1, 0),
  (yX7_begin, cX7_begin, 3, none, 0, 0, 0),
  (yX7_next, cX7_next, 3, (some .int), 0, 0, 0),
  (yX7_ends, cX7_ends, 5, none, 0, 2, 0),
  (yX7_comes, cX7_comes, 6, (some .boolean), 0, 2, 0),
  (yX7_isOrder, cX7_isOrder, 1, (some .boolean), 0, 1, 1),
  (yX7_isWithWord, cX7_isWithWord, 1, (some .boolean), 0, 1, 1),
  (yX7_sum, cX7_sum, 6, (some .int), 0, 5, 0),
  (yX7_step, cX7_step, 12, none, 0, 1, 0),
  (yX7_at, cX7_at, 3, (some .long), 0, 2, 0),
  (yX7_why, cX7_why, 7, (some .int), 0, 3, 0),
  (yX7_prints, cX7_prints, 3, (some .boolean), 0, 2, 0),
  (yX7_writeNumber, cX7_writeNumber, 9, none, 0, 2, 0)]
def jt_ms2 : List jt_M := [(yX7_setB, cX7_setB, 5, none, 0, 3, 0),
  (yX7_ofRegister, cX7_ofRegister, 7, (some .int), 0, 5, 0),
  (yX7_ofAccumulator, cX7_ofAccumulator, 7, (some .int), 0, 4, 0),
  (yX7_nextByte, cX7_nextByte, 2, (some .int), 0, 1, 0),
  (yX7_other, cX7_other, 7, none, 0, 3, 0),
  (yX7_readNumber, cX7_readNumber, 5, none, 0, 1, 0),
  (yX7_root, cX7_root, 6, (some .long), 0, 1, 1),
  (yX7_round, cX7_round, 2, none, 0, 0, 0),
  (yX7_isJob, cX7_isJob, 2, (some .boolean), 0, 1, 0),
  (yX7_ended, cX7_ended, 2, (some .int), 0, 1, 0),
  (yX7_done, cX7_done, 2, (some .int), 0, 1, 0),
  (yX7_printed, cX7_printed, 2, (some .int), 0, 1, 0),
  (yX7_out, cX7_out, 3, (some .int), 0, 2, 0),
  (yX7_register, cX7_register, 3, (some .long), 0, 2, 0),
  (yX7_word, cX7_word, 3, (some .long), 0, 2, 0),
  (yX7_clock, cX7_clock, 1, (some .int), 0, 0, 0),
  (yX7_told, cX7_told, 4, (some .int), 0, 1, 0),
  (yX7_frame, cX7_frame, 4, (some .int), 0, 2, 0),
  (yX7_sector, cX7_sector, 2, (some .int), 0, 1, 0),
  (yX7_digest, cX7_digest, 5, (some .long), 0, 0, 0)]
def jt_ms3 : List jt_M := [(yX0_init, cX0_init, 3, none, 1, 2, 2),
  (yX0_arrive, cX0_arrive, 2, none, 1, 1, 0),
  (yX0_age, cX0_age, 2, none, 1, 1, 0),
  (yX0_mayLeave, cX0_mayLeave, 1, (some .boolean), 1, 0, 0),
  (yX0_victimClass, cX0_victimClass, 1, (some .int), 1, 0, 0),
  (yX0_isBetterVictimThan, cX0_isBetterVictimThan, 4, (some .boolean), 1, 1, 0),
  (yX1_init, cX1_init, 1, none, 2, 0, 2),
  (yX1_resize, cX1_resize, 2, none, 2, 1, 0),
  (yX1_mostActive, cX1_mostActive, 1, (some .int), 2, 0, 0),
  (yX1_blockIn, cX1_blockIn, 2, (some (.object "DrumMachine$Block")), 2, 1, 0),
  (yX1_lowestFree, cX1_lowestFree, 2, (some .int), 2, 0, 0),
  (yX1_place, cX1_place, 3, none, 2, 2, 0),
  (yX1_release, cX1_release, 3, none, 2, 1, 0),
  (yX1_victim, cX1_victim, 4, (some (.object "DrumMachine$Block")), 2, 0, 0),
  (yX1_use, cX1_use, 2, none, 2, 1, 0),
  (yX1_holdRound, cX1_holdRound, 3, none, 2, 0, 0),
  (yX2_init, cX2_init, 1, none, 3, 0, 2),
  (yX2_blockOn, cX2_blockOn, 2, (some (.object "DrumMachine$Block")), 3, 1, 0),
  (yX2_load, cX2_load, 3, none, 3, 1, 0),
  (yX2_put, cX2_put, 3, none, 3, 2, 0)]
def jt_ms4 : List jt_M := [(yX2_release, cX2_release, 3, none, 3, 1, 0),
  (yX2_ask, cX2_ask, 2, none, 3, 1, 0),
  (yX2_cancel, cX2_cancel, 3, none, 3, 1, 0),
  (yX2_dropAsked, cX2_dropAsked, 3, none, 3, 1, 0),
  (yX2_begin, cX2_begin, 4, none, 3, 1, 0),
  (yX2_takeEnded, cX2_takeEnded, 3, (some (.object "DrumMachine$Block")), 3, 1, 0),
  (yX2_nextFreeSector, cX2_nextFreeSector, 6, (some .int), 3, 1, 0),
  (yX2_ticksTill, cX2_ticksTill, 2, (some .int), 3, 2, 1),
  (yX3_init, cX3_init, 6, none, 4, 4, 2),
  (yX3_wrapWord, cX3_wrapWord, 2, (some .long), 4, 1, 1),
  (yX3_wrapIndex, cX3_wrapIndex, 1, (some .int), 4, 1, 1),
  (yX3_isInStore, cX3_isInStore, 1, (some .boolean), 4, 1, 1),
  (yX3_isReady, cX3_isReady, 2, (some .boolean), 4, 1, 0),
  (yX3_stopWaiting, cX3_stopWaiting, 1, none, 4, 0, 0),
  (yX3_wants, cX3_wants, 2, (some .boolean), 4, 1, 0),
  (yX3_blockOf, cX3_blockOf, 2, (some (.object "DrumMachine$Block")), 4, 1, 0),
  (yX3_setBlock, cX3_setBlock, 3, none, 4, 2, 0),
  (yX3_load, cX3_load, 2, (some .long), 4, 1, 0),
  (yX3_keep, cX3_keep, 4, none, 4, 2, 0),
  (yX3_index, cX3_index, 2, (some .int), 4, 1, 0)]
def jt_ms5 : List jt_M := [(yX3_setIndex, cX3_setIndex, 3, none, 4, 2, 0),
  (yX3_printedByte, cX3_printedByte, 2, (some .int), 4, 1, 0),
  (yX3_addressIn, cX3_addressIn, 4, (some .int), 4, 1, 0),
  (yX3_obey, cX3_obey, 5, (some .int), 4, 3, 0),
  (yX3_obeyIndexOrder, cX3_obeyIndexOrder, 4, none, 4, 3, 0),
  (yX3_obeyAccumulatorOrder, cX3_obeyAccumulatorOrder, 3, none, 4, 2, 0),
  (yX3_goesElsewhere, cX3_goesElsewhere, 3, (some .boolean), 4, 2, 0),
  (yX3_obeyRoutine, cX3_obeyRoutine, 3, (some .int), 4, 2, 0),
  (yX3_printByte, cX3_printByte, 2, (some .int), 4, 1, 0),
  (yX3_printNumber, cX3_printNumber, 7, (some .int), 4, 0, 0),
  (yX3_nextByte, cX3_nextByte, 1, (some .int), 4, 0, 0),
  (yX3_takeByte, cX3_takeByte, 2, (some .int), 4, 0, 0),
  (yX3_takeNumber, cX3_takeNumber, 5, (some .long), 4, 0, 0),
  (yX3_divide, cX3_divide, 6, (some .int), 4, 2, 0),
  (yX3_takeRoot, cX3_takeRoot, 7, (some .int), 4, 0, 0),
  (yX3_digestFrom, cX3_digestFrom, 6, (some .long), 4, 1, 0),
  (yX5_init, cX5_init, 1, none, 5, 0, 2),
  (yX5_hasRoomForWords, cX5_hasRoomForWords, 2, (some .boolean), 5, 1, 0),
  (yX5_hasRoomForBytes, cX5_hasRoomForBytes, 2, (some .boolean), 5, 1, 0),
  (yX5_addWord, cX5_addWord, 3, none, 5, 1, 0)]
def jt_ms6 : List jt_M := [(yX5_addBytes, cX5_addBytes, 5, none, 5, 2, 0),
  (yX5_empty, cX5_empty, 1, none, 5, 0, 0),
  (yX6_init, cX6_init, 1, none, 6, 0, 2),
  (yX6_frames, cX6_frames, 2, (some .int), 6, 1, 0),
  (yX6_words, cX6_words, 11, (some .int), 6, 5, 0),
  (yX6_bytes, cX6_bytes, 10, (some .int), 6, 5, 0),
  (yX6_job, cX6_job, 6, (some .int), 6, 2, 0),
  (yX6_run, cX6_run, 3, (some .int), 6, 1, 0),
  (yX6_ended, cX6_ended, 3, (some .int), 6, 1, 0),
  (yX6_done, cX6_done, 3, (some .int), 6, 1, 0),
  (yX6_printed, cX6_printed, 3, (some .int), 6, 1, 0),
  (yX6_out, cX6_out, 4, (some .int), 6, 2, 0),
  (yX6_register, cX6_register, 4, (some .long), 6, 2, 0),
  (yX6_word, cX6_word, 4, (some .long), 6, 2, 0),
  (yX6_clock, cX6_clock, 1, (some .int), 6, 0, 0),
  (yX6_told, cX6_told, 2, (some .int), 6, 1, 0),
  (yX6_frame, cX6_frame, 4, (some .int), 6, 2, 0),
  (yX6_sector, cX6_sector, 3, (some .int), 6, 1, 0),
  (yX6_digest, cX6_digest, 5, (some .long), 6, 0, 0),
  (yX6_find, cX6_find, 2, (some (.object "DrumMachine$Job")), 6, 1, 0)]
def jt_ms7 : List jt_M := [(yX6_activate, cX6_activate, 4, none, 6, 0, 0),
  (yX6_tick, cX6_tick, 3, none, 6, 0, 0),
  (yX6_finishTransfer, cX6_finishTransfer, 2, none, 6, 0, 0),
  (yX6_chooseVictim, cX6_chooseVictim, 2, none, 6, 0, 0),
  (yX6_nextInHand, cX6_nextInHand, 5, (some .int), 6, 0, 0),
  (yX6_settle, cX6_settle, 3, none, 6, 2, 0),
  (yX6_isCounted, cX6_isCounted, 1, (some .boolean), 6, 1, 1),
  (yX6_doNextOrder, cX6_doNextOrder, 10, (some .int), 6, 1, 0),
  (yX6_reach, cX6_reach, 5, (some .int), 6, 2, 0),
  (yX6_reachHeld, cX6_reachHeld, 3, (some .int), 6, 2, 0),
  (yX6_createBlock, cX6_createBlock, 4, (some (.object "DrumMachine$Block")), 6, 2, 0),
  (yX6_endJob, cX6_endJob, 5, none, 6, 2, 0),
  (yX6_forget, cX6_forget, 2, none, 6, 1, 0),
  (yJ9_floorDiv_7cf53, cJ9_floorDiv_7cf53, 3, (some .int), 8, 2, 1),
  (yJ9_floorMod_7cf53, cJ9_floorMod_7cf53, 3, (some .int), 8, 2, 1),
  (yJ9_abs_067f4, cJ9_abs_067f4, 2, (some .long), 8, 1, 1),
  (yJ9_max_7cf53, cJ9_max_7cf53, 2, (some .int), 8, 2, 1),
  (yJ9_min_7cf53, cJ9_min_7cf53, 2, (some .int), 8, 2, 1),
  (yX4_function, cX4_function, 2, (some .int), 9, 1, 1),
  (yX4_indexRegister, cX4_indexRegister, 2, (some .int), 9, 1, 1)]
def jt_ms8 : List jt_M := [(yX4_modifier, cX4_modifier, 2, (some .int), 9, 1, 1),
  (yX4_isKnown, cX4_isKnown, 1, (some .boolean), 9, 1, 1),
  (yX4_takesWord, cX4_takesWord, 1, (some .boolean), 9, 1, 1)]
def jt_msL : List jt_M := [(yL_law, cL_law, 4, some .boolean, 7, 1, 3)]
def jt_mc : List jt_M := jt_ms0 ++ (jt_ms1 ++ (jt_ms2 ++ (jt_ms3 ++ (jt_ms4 ++ (jt_ms5 ++ (jt_ms6 ++ (jt_ms7 ++ (jt_ms8))))))))
def jt_ms : List jt_M := jt_mc ++ jt_msL
def jt_fl : List (Nat × Nat × Nat × Nat) := [(5, 9, 5, 0), (4, 65, 5, 0), (5, 15, 5, 1), (4, 82, 5, 1), (5, 19, 5, 2), (6, 73, 5, 2), (5, 23, 5, 3), (4, 70, 5, 3),
  (6, 83, 5, 3), (2, 11, 2, 0), (2, 17, 2, 1), (6, 156, 2, 1), (2, 21, 2, 2), (6, 238, 2, 2), (2, 24, 2, 3), (6, 143, 2, 3),
  (3, 11, 3, 0), (3, 17, 3, 1), (3, 20, 3, 2), (3, 24, 3, 3), (6, 338, 3, 3), (3, 28, 3, 4), (3, 31, 3, 5), (6, 241, 3, 5),
  (3, 35, 3, 6), (6, 137, 3, 6), (3, 38, 3, 7), (6, 140, 3, 7), (6, 12, 6, 0), (6, 19, 6, 1), (6, 26, 6, 2), (6, 32, 6, 3),
  (6, 36, 6, 4), (6, 40, 6, 5), (6, 43, 6, 6), (6, 46, 6, 7), (6, 49, 6, 8), (6, 52, 6, 9), (6, 55, 6, 10), (6, 58, 6, 11),
  (4, 59, 4, 0), (6, 103, 4, 0), (4, 62, 4, 1), (6, 270, 4, 1), (4, 9, 4, 2), (6, 124, 4, 2), (4, 15, 4, 3), (4, 19, 4, 4),
  (6, 128, 4, 4), (4, 23, 4, 5), (4, 29, 4, 6), (6, 334, 4, 6), (4, 79, 4, 7), (4, 33, 4, 8), (4, 36, 4, 9), (4, 39, 4, 10),
  (6, 117, 4, 10), (4, 42, 4, 11), (6, 116, 4, 11), (4, 45, 4, 12), (6, 113, 4, 12), (4, 48, 4, 13), (6, 197, 4, 13), (4, 52, 4, 14),
  (6, 324, 4, 14), (4, 56, 4, 15), (6, 317, 4, 15), (1, 37, 1, 0), (6, 163, 1, 0), (1, 41, 1, 1), (4, 91, 1, 1), (6, 169, 1, 1),
  (1, 9, 1, 2), (2, 31, 1, 2), (6, 308, 1, 2), (1, 15, 1, 3), (3, 45, 1, 3), (1, 18, 1, 4), (4, 85, 1, 4), (2, 45, 1, 4),
  (6, 170, 1, 4), (1, 22, 1, 5), (3, 48, 1, 5), (6, 226, 1, 5), (1, 25, 1, 6), (6, 174, 1, 6), (1, 28, 1, 7), (6, 177, 1, 7),
  (1, 31, 1, 8), (2, 42, 1, 8), (1, 34, 1, 9), (6, 248, 1, 9), (0, 7, 0, 0), (0, 13, 0, 1), (0, 100, 0, 2), (0, 17, 0, 3),
  (0, 107, 0, 4), (0, 97, 0, 5), (0, 21, 0, 6), (0, 24, 0, 7), (0, 27, 0, 8), (0, 30, 0, 9), (0, 33, 0, 10), (0, 36, 0, 11),
  (0, 39, 0, 12), (0, 42, 0, 13), (0, 45, 0, 14), (0, 48, 0, 15), (0, 51, 0, 16), (0, 54, 0, 17), (0, 57, 0, 18), (0, 60, 0, 19),
  (0, 63, 0, 20), (0, 67, 0, 21), (0, 110, 0, 22), (0, 70, 0, 23), (0, 73, 0, 24), (0, 76, 0, 25), (0, 79, 0, 26), (0, 82, 0, 27),
  (0, 85, 0, 28), (0, 88, 0, 29), (0, 91, 0, 30), (0, 161, 0, 31), (0, 142, 0, 32), (0, 176, 0, 33), (0, 182, 0, 34), (0, 145, 0, 35),
  (0, 148, 0, 36), (0, 94, 0, 37), (0, 207, 0, 38), (0, 213, 0, 39), (0, 222, 0, 40), (0, 170, 0, 41), (0, 188, 0, 42), (0, 258, 0, 43)]
def jt_ml : List (Nat × Nat × Nat) := [(7, 9, 122), (7, 13, 123), (6, 61, 67), (7, 20, 124), (6, 65, 117), (6, 69, 119), (5, 26, 89), (7, 25, 125),
  (6, 76, 118), (6, 79, 120), (7, 30, 126), (6, 86, 88), (4, 73, 156), (6, 89, 121), (6, 92, 150), (6, 328, 60),
  (6, 330, 96), (6, 96, 78), (3, 41, 79), (6, 100, 140), (6, 146, 68), (6, 109, 139), (7, 35, 127), (6, 106, 141),
  (6, 200, 142), (6, 223, 85), (6, 229, 61), (6, 232, 72), (6, 235, 152), (6, 344, 80), (6, 203, 143), (6, 244, 73),
  (2, 27, 69), (2, 34, 63), (1, 44, 94), (4, 88, 153), (2, 38, 65), (1, 50, 64), (6, 251, 81), (6, 206, 84),
  (3, 55, 86), (3, 63, 87), (3, 67, 154), (3, 59, 80), (3, 51, 83), (6, 209, 144), (6, 254, 156), (6, 257, 92),
  (6, 212, 93), (6, 215, 147), (6, 273, 148), (6, 305, 91), (6, 277, 95), (4, 92, 91), (6, 310, 149), (6, 314, 70),
  (6, 320, 71), (6, 134, 97), (6, 280, 158), (6, 286, 161), (6, 289, 102), (4, 100, 160), (4, 106, 99), (4, 109, 158),
  (4, 112, 159), (4, 96, 90), (6, 292, 162), (6, 295, 159), (6, 298, 103), (4, 115, 104), (4, 133, 100), (4, 136, 97),
  (4, 140, 98), (4, 119, 105), (4, 144, 89), (4, 123, 107), (4, 148, 108), (4, 151, 111), (4, 176, 110), (4, 155, 113),
  (4, 159, 109), (4, 169, 155), (4, 162, 112), (4, 166, 114), (4, 129, 106), (6, 264, 146), (6, 302, 74), (6, 219, 145),
  (6, 261, 151), (6, 341, 82), (6, 267, 75), (2, 49, 62), (7, 39, 128), (7, 43, 129), (7, 47, 130), (7, 51, 131),
  (6, 120, 101), (7, 55, 132), (6, 131, 99), (7, 60, 133), (7, 64, 134), (7, 69, 135), (6, 150, 157), (7, 73, 136),
  (6, 159, 69), (7, 77, 137), (6, 180, 77), (7, 81, 138), (6, 185, 115), (6, 191, 135), (6, 194, 136), (7, 12, 0),
  (7, 17, 3), (7, 24, 4), (0, 103, 1), (7, 29, 5), (7, 34, 6), (0, 113, 7), (7, 38, 17), (0, 136, 11),
  (0, 139, 18), (0, 151, 21), (0, 179, 20), (0, 185, 22), (0, 121, 10), (0, 117, 8), (0, 154, 19), (0, 158, 24),
  (0, 194, 23), (0, 191, 16), (0, 125, 12), (0, 129, 14), (0, 132, 15), (0, 197, 25), (0, 164, 28), (0, 201, 26),
  (0, 204, 9), (0, 210, 27), (0, 167, 29), (0, 216, 13), (0, 173, 35), (0, 219, 30), (0, 229, 31), (0, 233, 32),
  (0, 225, 2), (0, 236, 34), (0, 240, 33), (0, 243, 37), (0, 266, 36), (0, 272, 39), (0, 275, 38), (0, 247, 41),
  (0, 280, 40), (0, 250, 42), (0, 254, 44), (0, 284, 43), (0, 287, 45), (0, 290, 46), (0, 261, 47), (7, 42, 49),
  (0, 297, 48), (7, 46, 50), (7, 50, 51), (7, 54, 52), (7, 59, 53), (7, 63, 54), (7, 68, 55), (7, 72, 56),
  (7, 76, 57), (7, 80, 58), (7, 85, 59), (0, 304, 56), (0, 307, 57)]
def jt_mn : List (Nat × Nat × Nat × Nat) := [(6, 11, 116, 6), (6, 18, 66, 6), (6, 25, 76, 6), (4, 126, 146, 6)]
def jt_ob : List (Nat × Nat) := [(6, 3), (5, 3), (2, 3), (3, 3), (4, 3), (1, 3), (0, 1)]
def jt_nl : List (Nat × Nat × Nat) := [(7, 7, 6), (6, 9, 5), (6, 16, 2), (2, 9, 1), (6, 23, 3), (3, 9, 1), (6, 30, 4), (4, 27, 1),
  (6, 164, 1), (7, 10, 0)]
def jt_ki : List (Nat × Nat × Int32) := []
def jt_kj : List (Nat × Nat × Int64) := [(4, 179, (-140737488355328)), (4, 172, 10), (4, 174, 48), (4, 181, 8388608), (6, 183, 7), (4, 183, 31), (6, 189, 31), (0, 264, (-140737488355328)),
  (0, 270, 10), (0, 278, 48), (0, 293, 8388608), (0, 295, 2), (0, 300, 7), (0, 302, 31), (7, 18, 4294967295)]
/-- the kinds of arrays; the last one is the script (read only) -/
def jt_at : List FieldType := [.int, .long, .boolean, .object RX0, .object RX3, .int]
def jt_scr : Nat := 5
def jt_law : Nat := 163
def jt_m (M : Nat) : jt_M := jt_ms.getD M (⟨"", "", ""⟩, ⟨#[]⟩, 0, none, 0, 0, 9)
def jt_cn (k : Nat) : String := jt_on.getD k ""
def jt_wfl (q : Nat × Nat × Nat × Nat) : Cond := match jt_cl[q.2.2.1]? with | some r => .fieldLink (jt_cn q.1) q.2.1 (r.2.1 q.2.2.2).1 (r.2.1 q.2.2.2).2.1 (r.2.1 q.2.2.2).2.2.1 | none => .tt
def jt_wml (q : Nat × Nat × Nat) : Cond := .methodLink (jt_cn q.1) q.2.1 (jt_m q.2.2).1
def jt_wmn (q : Nat × Nat × Nat × Nat) : Cond := .methodLinkNest (jt_cn q.1) q.2.1 (jt_m q.2.2.1).1 (jt_cn q.2.2.2)
def jt_wob (q : Nat × Nat) : Cond := .methodLink (jt_cn q.1) q.2 objectInit
def jt_wnl (q : Nat × Nat × Nat) : Cond := .classLink (jt_cn q.1) q.2.1 (jt_cn q.2.2)
def jt_wki (q : Nat × Nat × Int32) : Cond := .constant (jt_cn q.1) q.2.1 q.2.2
def jt_wkj (q : Nat × Nat × Int64) : Cond := .constantLong (jt_cn q.1) q.2.1 q.2.2
def jt_wm (q : jt_M) : List Cond := .code q.1 q.2.1 q.2.2.1 q.2.2.2.1 :: .initialized q.1.cls :: (if q.2.2.2.2.2.2 = 1 then [.static q.1] else if q.2.2.2.2.2.2 = 2 then [.instanceMethod q.1] else [.instanceMethod q.1, .selects q.1.cls q.1 q.1])
def jt_wc (r : vw_C) : List Cond := .instantiable r.1 r.2.2 :: .initialized r.1 :: u_ws r.1 r.2.1 r.2.2
theorem jt_in {α : Type} {L : List α} {f : α → Cond} (ps : List Nat) (h : L.map f = ps.filterMap (fun i => lw_tbl[i]?)) : ∀ q ∈ L, f q ∈ lw_tbl := by
  intro q hq
  have h1 : f q ∈ L.map f := List.mem_map_of_mem hq
  rw [h] at h1
  obtain ⟨i, -, hi⟩ := List.mem_filterMap.mp h1
  exact List.mem_of_getElem? hi
theorem jt_inL {α : Type} {L : List α} {f : α → List Cond} (ps : List Nat) (h : L.flatMap f = ps.filterMap (fun i => lw_tbl[i]?)) : ∀ q ∈ L, ∀ w ∈ f q, w ∈ lw_tbl := by
  intro q hq w hw
  have h1 : w ∈ L.flatMap f := List.mem_flatMap.mpr ⟨q, hq, hw⟩
  rw [h] at h1
  obtain ⟨i, -, hi⟩ := List.mem_filterMap.mp h1
  exact List.mem_of_getElem? hi
set_option maxRecDepth 100000 in
theorem jt_fl_in : ∀ q ∈ jt_fl, jt_wfl q ∈ lw_tbl := jt_in [73, 74, 75, 76, 77, 78, 79, 80, 81, 101, 102, 103, 104, 105, 106, 107, 124, 125, 126, 127, 128, 129, 130, 131, 132, 133, 134, 135, 155, 156, 157, 158, 159, 160, 161, 162, 163, 164, 165, 166, 240, 241, 242, 243, 244, 245, 246, 247, 248, 249, 250, 251, 252, 253, 254, 255, 256, 257, 258, 259, 260, 261, 262, 263, 264, 265, 266, 314, 315, 316, 317, 318, 319, 320, 321, 322, 323, 324, 325, 326, 327, 328, 329, 330, 331, 332, 333, 334, 335, 336, 337, 338, 708, 709, 710, 711, 712, 713, 714, 715, 716, 717, 718, 719, 720, 721, 722, 723, 724, 725, 726, 727, 728, 729, 730, 731, 732, 733, 734, 735, 736, 737, 738, 739, 740, 741, 742, 743, 744, 745, 746, 747, 748, 749, 750, 751] rfl
set_option maxRecDepth 100000 in
theorem jt_ml_in : ∀ q ∈ jt_ml, jt_wml q ∈ lw_tbl := jt_in [61, 192, 196, 200, 204, 208, 212, 215, 219, 223, 227, 232, 237, 300, 304, 310, 360, 364, 368, 372, 376, 380, 384, 388, 392, 396, 400, 404, 408, 412, 416, 420, 424, 428, 432, 436, 439, 443, 447, 451, 455, 459, 462, 465, 466, 470, 474, 475, 479, 483, 487, 491, 494, 498, 499, 503, 507, 511, 515, 518, 521, 525, 528, 532, 533, 536, 539, 542, 543, 547, 551, 555, 556, 560, 564, 565, 569, 573, 577, 581, 586, 590, 595, 599, 607, 611, 612, 616, 620, 624, 628, 632, 636, 640, 644, 648, 652, 656, 660, 661, 665, 669, 673, 676, 680, 681, 685, 689, 694, 700, 701, 704, 842, 846, 850, 853, 857, 861, 865, 869, 873, 877, 881, 885, 889, 893, 897, 901, 905, 909, 913, 917, 920, 923, 927, 931, 935, 939, 943, 947, 951, 955, 959, 963, 966, 969, 973, 976, 981, 986, 990, 995, 999, 1003, 1007, 1011, 1015, 1019, 1024, 1028, 1032, 1036, 1040, 1044, 1048, 1052, 1056, 1060, 1064, 1068, 1072, 1078, 1079] rfl
set_option maxRecDepth 100000 in
theorem jt_mn_in : ∀ q ∈ jt_mn, jt_wmn q ∈ lw_tbl := jt_in [69, 95, 119, 604] rfl
set_option maxRecDepth 100000 in
theorem jt_ob_in : ∀ q ∈ jt_ob, jt_wob q ∈ lw_tbl := jt_in [64, 72, 98, 122, 235, 313, 707] rfl
set_option maxRecDepth 100000 in
theorem jt_nl_in : ∀ q ∈ jt_nl, jt_wnl q ∈ lw_tbl := jt_in [59, 67, 93, 99, 117, 123, 153, 236, 308, 702] rfl
set_option maxRecDepth 100000 in
theorem jt_ki_in : ∀ q ∈ jt_ki, jt_wki q ∈ lw_tbl := jt_in [] rfl
set_option maxRecDepth 100000 in
theorem jt_kj_in : ∀ q ∈ jt_kj, jt_wkj q ∈ lw_tbl := jt_in [585, 593, 594, 603, 693, 698, 699, 980, 985, 994, 1022, 1023, 1076, 1077, 1080] rfl
set_option maxRecDepth 100000 in
theorem jt_ms0_in : ∀ q ∈ jt_ms0, ∀ w ∈ jt_wm q, w ∈ lw_tbl := jt_inL [706, 54, 705, 852, 54, 851, 968, 54, 967, 845, 54, 843, 844, 849, 54, 847, 848, 856, 54, 854, 855, 860, 54, 858, 859, 864, 54, 863, 13, 896, 54, 895, 20, 938, 54, 937, 29, 892, 54, 891, 19, 872, 54, 871, 14, 916, 54, 915, 25, 950, 54, 949, 32, 919, 54, 918, 922, 54, 921, 912, 54, 911, 24, 868, 54, 866, 867, 876, 54, 875, 15, 900, 54, 899, 21] rfl
set_option maxRecDepth 100000 in
theorem jt_ms1_in : ∀ q ∈ jt_ms1, ∀ w ∈ jt_wm q, w ∈ lw_tbl := jt_inL [884, 54, 883, 17, 880, 54, 879, 16, 888, 54, 887, 18, 908, 54, 907, 23, 904, 54, 903, 22, 926, 54, 925, 26, 934, 54, 933, 28, 942, 54, 941, 30, 930, 54, 929, 27, 946, 54, 945, 31, 958, 54, 957, 34, 962, 54, 961, 35, 965, 54, 964, 975, 54, 974, 972, 54, 971, 36, 954, 54, 953, 33, 984, 54, 983, 38, 979, 54, 978, 37, 993, 54, 992, 40, 989, 54, 988, 39] rfl
set_option maxRecDepth 100000 in
theorem jt_ms2_in : ∀ q ∈ jt_ms2, ∀ w ∈ jt_wm q, w ∈ lw_tbl := jt_inL [1002, 54, 1001, 42, 998, 54, 997, 41, 1006, 54, 1005, 43, 1014, 54, 1013, 45, 1010, 54, 1009, 44, 1018, 54, 1017, 46, 1021, 54, 1020, 1027, 54, 1026, 47, 1035, 54, 1034, 48, 1031, 54, 1029, 1030, 1039, 54, 1037, 1038, 1043, 54, 1041, 1042, 1047, 54, 1045, 1046, 1051, 54, 1049, 1050, 1055, 54, 1053, 1054, 1059, 54, 1057, 1058, 1063, 54, 1061, 1062, 1067, 54, 1065, 1066, 1071, 54, 1069, 1070, 1075, 54, 1073, 1074] rfl
set_option maxRecDepth 100000 in
theorem jt_ms3_in : ∀ q ∈ jt_ms3, ∀ w ∈ jt_wm q, w ∈ lw_tbl := jt_inL [312, 57, 311, 403, 57, 401, 402, 635, 57, 633, 634, 431, 57, 429, 430, 446, 57, 444, 445, 442, 57, 440, 441, 97, 52, 96, 199, 52, 197, 198, 379, 52, 377, 378, 427, 52, 425, 426, 506, 52, 504, 505, 510, 52, 508, 509, 407, 52, 405, 406, 423, 52, 421, 422, 615, 52, 613, 614, 631, 52, 629, 630, 121, 53, 120, 688, 53, 686, 687, 367, 53, 365, 366, 371, 53, 369, 370] rfl
set_option maxRecDepth 100000 in
theorem jt_ms4_in : ∀ q ∈ jt_ms4, ∀ w ∈ jt_wm q, w ∈ lw_tbl := jt_inL [415, 53, 413, 414, 450, 53, 448, 449, 627, 53, 625, 626, 469, 53, 467, 468, 454, 53, 452, 453, 399, 53, 397, 398, 458, 53, 456, 457, 461, 53, 460, 234, 55, 233, 214, 55, 213, 538, 55, 537, 493, 55, 492, 478, 55, 476, 477, 482, 55, 480, 481, 435, 55, 433, 434, 497, 55, 495, 496, 363, 55, 361, 362, 514, 55, 512, 513, 559, 55, 557, 558, 531, 55, 529, 530] rfl
set_option maxRecDepth 100000 in
theorem jt_ms5_in : ∀ q ∈ jt_ms5, ∀ w ∈ jt_wm q, w ∈ lw_tbl := jt_inL [554, 55, 552, 553, 655, 55, 653, 654, 524, 55, 522, 523, 546, 55, 544, 545, 550, 55, 548, 549, 563, 55, 561, 562, 610, 55, 608, 609, 568, 55, 566, 567, 572, 55, 570, 571, 589, 55, 587, 588, 580, 55, 578, 579, 576, 55, 574, 575, 598, 55, 596, 597, 584, 55, 582, 583, 602, 55, 600, 601, 697, 55, 695, 696, 71, 51, 70, 207, 51, 205, 206, 222, 51, 220, 221, 211, 51, 209, 210] rfl
set_option maxRecDepth 100000 in
theorem jt_ms6_in : ∀ q ∈ jt_ms6, ∀ w ∈ jt_wm q, w ∈ lw_tbl := jt_inL [226, 51, 224, 225, 303, 51, 301, 302, 63, 50, 62, 195, 50, 193, 194, 203, 50, 201, 202, 218, 50, 216, 217, 230, 50, 228, 229, 387, 50, 385, 386, 639, 50, 637, 638, 643, 50, 641, 642, 647, 50, 645, 646, 651, 50, 649, 650, 659, 50, 657, 658, 664, 50, 662, 663, 668, 50, 666, 667, 672, 50, 670, 671, 679, 50, 677, 678, 684, 50, 682, 683, 692, 50, 690, 691, 383, 50, 382, 2] rfl
set_option maxRecDepth 100000 in
theorem jt_ms7_in : ∀ q ∈ jt_ms7, ∀ w ∈ jt_wm q, w ∈ lw_tbl := jt_inL [375, 50, 374, 1, 391, 50, 390, 3, 395, 50, 394, 4, 419, 50, 418, 6, 473, 50, 472, 7, 619, 50, 618, 11, 606, 50, 605, 486, 50, 485, 8, 490, 50, 489, 9, 502, 50, 501, 10, 307, 50, 306, 0, 623, 50, 622, 12, 411, 50, 410, 5, 438, 56, 437, 464, 56, 463, 592, 56, 591, 239, 56, 238, 675, 56, 674, 517, 58, 516, 535, 58, 534] rfl
set_option maxRecDepth 100000 in
theorem jt_ms8_in : ∀ q ∈ jt_ms8, ∀ w ∈ jt_wm q, w ∈ lw_tbl := jt_inL [527, 58, 526, 520, 58, 519, 541, 58, 540] rfl
theorem jt_mc_in : ∀ q ∈ jt_mc, ∀ w ∈ jt_wm q, w ∈ lw_tbl := by
  intro q hq
  simp only [jt_mc, List.mem_append] at hq
  rcases hq with h | h | h | h | h | h | h | h | h
  · exact jt_ms0_in q h
  · exact jt_ms1_in q h
  · exact jt_ms2_in q h
  · exact jt_ms3_in q h
  · exact jt_ms4_in q h
  · exact jt_ms5_in q h
  · exact jt_ms6_in q h
  · exact jt_ms7_in q h
  · exact jt_ms8_in q h
set_option maxRecDepth 100000 in
theorem jt_cl_in : ∀ q ∈ jt_cl, ∀ w ∈ jt_wc q, w ∈ lw_tbl := jt_inL [703, 54, 752, 754, 756, 758, 760, 762, 764, 766, 768, 770, 772, 774, 776, 778, 780, 782, 784, 786, 788, 790, 792, 794, 796, 798, 800, 802, 804, 806, 808, 810, 812, 814, 816, 818, 820, 822, 824, 826, 828, 830, 832, 834, 836, 838, 309, 57, 339, 341, 343, 345, 347, 349, 351, 353, 355, 357, 94, 52, 108, 110, 112, 114, 118, 53, 136, 138, 140, 142, 144, 146, 148, 150, 231, 55, 267, 269, 271, 273, 275, 277, 279, 281, 283, 285, 287, 289, 291, 293, 295, 297, 68, 51, 82, 84, 86, 88, 60, 50, 167, 169, 171, 173, 175, 177, 179, 181, 183, 185, 187, 189] rfl
def jt_ap : List (Nat) := [92, 91, 841]
theorem jt_ac0 : Cond.arrayClass .int ∈ lw_tbl := List.mem_of_getElem? (i := 92) (by decide +kernel)
theorem jt_ac1 : Cond.arrayClass .long ∈ lw_tbl := List.mem_of_getElem? (i := 91) (by decide +kernel)
theorem jt_ac2 : Cond.arrayClass .boolean ∈ lw_tbl := List.mem_of_getElem? (i := 841) (by decide +kernel)
theorem jt_ao0 : Cond.arrayOver (.object RX0) ∈ lw_tbl := List.mem_of_getElem? (i := 100) (by decide +kernel)
theorem jt_ao1 : Cond.arrayOver (.object RX3) ∈ lw_tbl := List.mem_of_getElem? (i := 154) (by decide +kernel)
theorem jt_obc : Cond.code objectInit ⟨#[0xb1]⟩ 1 none ∈ lw_tbl := List.mem_of_getElem? (i := 66) (by decide +kernel)
theorem jt_obi : Cond.instanceMethod objectInit ∈ lw_tbl := List.mem_of_getElem? (i := 65) (by decide +kernel)
theorem jt_cl_ty : ∀ (ci : Nat) (r : vw_C), jt_cl[ci]? = some r → (∀ k, k < r.2.2 → parseFieldDescriptor (r.2.1 k).2.2.1 = some ((jt_tf.getD ci (fun _ => .int)) k)) ∧ ∀ a, a < r.2.2 → ∀ b, b < r.2.2 → a ≠ b → (r.2.1 a).2.1 ≠ (r.2.1 b).2.1 := by
  intro ci r h
  match ci, h with
  | 0, h => cases h; exact ⟨tyX7_ok, nmX7⟩
  | 1, h => cases h; exact ⟨tyX0_ok, nmX0⟩
  | 2, h => cases h; exact ⟨tyX1_ok, nmX1⟩
  | 3, h => cases h; exact ⟨tyX2_ok, nmX2⟩
  | 4, h => cases h; exact ⟨tyX3_ok, nmX3⟩
  | 5, h => cases h; exact ⟨tyX5_ok, nmX5⟩
  | 6, h => cases h; exact ⟨tyX6_ok, nmX6⟩
  | n + 7, h => simp [jt_cl] at h
theorem jt_cl_cn : ∀ (ci : Nat) (r : vw_C), jt_cl[ci]? = some r → jt_cn ci = r.1 := by
  intro ci r h
  match ci, h with
  | 0, h => cases h; rfl
  | 1, h => cases h; rfl
  | 2, h => cases h; rfl
  | 3, h => cases h; rfl
  | 4, h => cases h; rfl
  | 5, h => cases h; rfl
  | 6, h => cases h; rfl
  | n + 7, h => simp [jt_cl] at h
theorem jt_cl_decl : ∀ (ci : Nat) (r : vw_C), jt_cl[ci]? = some r → ∀ f, f < r.2.2 → (r.2.1 f).1 = jt_cn ci := by
  intro ci r h
  match ci, h with
  | 0, h => cases h; decide +kernel
  | 1, h => cases h; decide +kernel
  | 2, h => cases h; decide +kernel
  | 3, h => cases h; decide +kernel
  | 4, h => cases h; decide +kernel
  | 5, h => cases h; decide +kernel
  | 6, h => cases h; decide +kernel
  | n + 7, h => simp [jt_cl] at h
def jt_prim (t : FieldType) : Bool := match t with | .object _ => false | .array _ => false | _ => true
theorem jt_ac_in : ∀ (k : Nat) (t : FieldType), jt_at[k]? = some t → jt_prim t = true → Cond.arrayClass t ∈ lw_tbl := by
  intro k t h hp
  match k, h with
  | 0, h => cases h; exact jt_ac0
  | 1, h => cases h; exact jt_ac1
  | 2, h => cases h; exact jt_ac2
  | 3, h => cases h; cases hp
  | 4, h => cases h; cases hp
  | 5, h => cases h; exact jt_ac0
  | n + 6, h => simp [jt_at] at h
theorem jt_ob_of : ∀ (k : Nat) (t : FieldType), jt_at[k]? = some t → jt_prim t = false → ∃ C, t = .object C := by
  intro k t h hp
  match k, h with
  | 0, h => cases h; cases hp
  | 1, h => cases h; cases hp
  | 2, h => cases h; cases hp
  | 3, h => cases h; exact ⟨_, rfl⟩
  | 4, h => cases h; exact ⟨_, rfl⟩
  | 5, h => cases h; cases hp
  | n + 6, h => simp [jt_at] at h
theorem jt_ao_in : ∀ (k : Nat) (C : String), jt_at[k]? = some (.object C) → Cond.arrayOver (.object C) ∈ lw_tbl := by
  intro k t h
  match k, h with
  | 0, h => cases h
  | 1, h => cases h
  | 2, h => cases h
  | 3, h => cases h; exact jt_ao0
  | 4, h => cases h; exact jt_ao1
  | 5, h => cases h
  | n + 6, h => simp [jt_at] at h
end
section
/-! A small machine over an abstract heap: what the bytecode of the claim's methods does, as a function. Part 05 proves that the real machine does the same. -/
/-- a cell: an object (its class's number, its fields) or an array (its kind's number, its length, its contents) -/
abbrev jv_C : Type := (Nat × List Value) ⊕ (Nat × Nat × (Nat → Value))
/-- a heap: what is known of its cells, how many cells there are, how many slots were made -/
abbrev jv_H : Type := (Nat → Option jv_C) × Nat × Nat
abbrev jv_L : Type := List (Option Value)
abbrev jv_Z : Type := Option Value × jv_H
abbrev jv_S : Type := Nat × jv_L × List Value × jv_H
abbrev jv_F : Type := Nat → List Value → jv_H → Option jv_Z
def jt_code (M : Nat) : ByteArray := (jt_m M).2.1
def jt_maxL (M : Nat) : Nat := (jt_m M).2.2.1
def jt_ret (M : Nat) : Option FieldType := (jt_m M).2.2.2.1
def jt_own (M : Nat) : Nat := (jt_m M).2.2.2.2.1
def jt_np (M : Nat) : Nat := (jt_m M).2.2.2.2.2.1
def jt_kd (M : Nat) : Nat := (jt_m M).2.2.2.2.2.2
def jt_f4 (l : List (Nat × Nat × Nat × Nat)) (o i : Nat) : Option (Nat × Nat) := (l.find? (fun q => q.1 == o && q.2.1 == i)).map (fun q => q.2.2)
def jt_f3 {α : Type} (l : List (Nat × Nat × α)) (o i : Nat) : Option α := (l.find? (fun q => q.1 == o && q.2.1 == i)).map (fun q => q.2.2)
def jt_fty (ci k : Nat) : FieldType := (jt_tf.getD ci (fun _ => .int)) k
def jt_ffin (ci k : Nat) : Bool := match jt_cl[ci]? with
  | some r => (r.2.1 k).2.2.2
  | none => true
def jt_dfl (ci : Nat) : List Value := match jt_cl[ci]? with
  | some r => (List.range r.2.2).map (fun k => defaultValue (jt_fty ci k))
  | none => []
def jv_up (m : Nat → Option jv_C) (a : Nat) (c : jv_C) : Nat → Option jv_C := fun q => if q = a then some c else m q
def jv_n (pc : Nat) (ls : jv_L) (st : List Value) (h : jv_H) : Option (jv_S ⊕ jv_Z) := some (.inl (pc, ls, st, h))
def jv_len {α : Type} (n k : Nat) (x : Option α) : Option α := if n = k then x else none
def jv_gf (h : jv_H) (a ci k : Nat) : Option Value := match h.1 a with
  | some (.inl (c, fs)) => if c = ci then fs[k]? else none
  | _ => none
def jv_pf (h : jv_H) (a ci k : Nat) (v : Value) : Option jv_H := match h.1 a with
  | some (.inl (c, fs)) => if c = ci ∧ k < fs.length ∧ narrow (jt_fty ci k) v = v ∧ fits (jt_fty ci k) v = true then some (jv_up h.1 a (.inl (c, fs.set k v)), h.2) else none
  | _ => none
def jv_al (h : jv_H) (a : Nat) (ty : FieldType) (i : Int32) : Option Value := match h.1 a with
  | some (.inr (k, n, f)) => if jt_at[k]? = some ty ∧ ¬ (i < 0 ∨ n ≤ i.toNatClampNeg) then some (f i.toNatClampNeg) else none
  | _ => none
def jv_as (h : jv_H) (a : Nat) (ty : FieldType) (i : Int32) (v : Value) : Option jv_H := match h.1 a with
  | some (.inr (k, n, f)) => if ¬ k = jt_scr ∧ jt_at[k]? = some ty ∧ ¬ (i < 0 ∨ n ≤ i.toNatClampNeg) then some (jv_up h.1 a (.inr (k, n, updV f i.toNatClampNeg v)), h.2) else none
  | _ => none
def jv_ln (h : jv_H) (a : Nat) : Option Nat := match h.1 a with
  | some (.inr (_, n, _)) => some n
  | _ => none
def jv_ob (ty : FieldType) : Option String := match ty with
  | .object C => some C
  | _ => none
def jv_kn (h : jv_H) (a : Nat) : Option String := match h.1 a with
  | some (.inr (k, _, _)) => if k = jt_scr then none else (jt_at[k]?).bind jv_ob
  | _ => none
def jv_cl (h : jv_H) (a : Nat) : Option Nat := match h.1 a with
  | some (.inl (c, _)) => some c
  | _ => none
def jv_isA (h : jv_H) (C : String) (v : Value) : Bool := match v with
  | .null => true
  | .ref q => match jv_cl h q with
    | some ci => match jt_cl[ci]? with
      | some r => decide (r.1 = C)
      | none => false
    | none => false
  | _ => false
def jv_new (h : jv_H) (ci : Nat) : jv_H := (jv_up h.1 h.2.1 (.inl (ci, jt_dfl ci)), h.2.1 + 1, h.2.2 + (jt_dfl ci).length)
def jv_newa (h : jv_H) (k n : Nat) (v : Value) : jv_H := (jv_up h.1 h.2.1 (.inr (k, n, fun _ => v)), h.2.1 + 1, h.2.2 + n)
def jv_cmp (c : ClassFile.Cond) (x y : Int32) : Bool := match c with
  | .eq => decide (x = y)
  | .ne => decide (¬ x = y)
  | .lt => decide (x < y)
  | .ge => decide (y ≤ x)
  | .gt => decide (y < x)
  | .le => decide (x ≤ y)
def jv_to (pc : Nat) (off : Int) : Option Nat := if 0 ≤ (pc : Int) + off then some ((pc : Int) + off).toNat else none
def jv_go (pc : Nat) (off : Int) (b : Bool) (ls : jv_L) (st : List Value) (h : jv_H) : Option (jv_S ⊕ jv_Z) := match jv_to pc off with
  | some t => jv_n (if b then t else pc + 3) ls st h
  | none => none
def jv_is2 (o : Option (Option Value)) : Bool := match o with
  | some (some v) => decide (v.category = 2)
  | _ => false
/-- the long that a store to place i spoils -/
def jv_kill (ls : jv_L) (i : Nat) : jv_L := match i with
  | 0 => ls
  | j + 1 => if jv_is2 ls[j]? then ls.set j none else ls
def jv_st1 (ls : jv_L) (i : Nat) (v : Value) : jv_L := (jv_kill ls i).set i (some v)
def jv_st2 (ls : jv_L) (i : Nat) (v : Value) : jv_L := ((jv_kill ls i).set i (some v)).set (i + 1) none
def jv_ldi (n k pc : Nat) (ls : jv_L) (i : Nat) (st : List Value) (h : jv_H) : Option (jv_S ⊕ jv_Z) := match ls[i]? with
  | some (some (.int x)) => jv_len n k (jv_n (pc + k) ls (.int x :: st) h)
  | _ => none
def jv_ldl (n k pc : Nat) (ls : jv_L) (i : Nat) (st : List Value) (h : jv_H) : Option (jv_S ⊕ jv_Z) := match ls[i]? with
  | some (some (.long x)) => jv_len n k (jv_n (pc + k) ls (.long x :: st) h)
  | _ => none
def jv_lda (n k pc : Nat) (ls : jv_L) (i : Nat) (st : List Value) (h : jv_H) : Option (jv_S ⊕ jv_Z) := match ls[i]? with
  | some (some (.ref x)) => jv_len n k (jv_n (pc + k) ls (.ref x :: st) h)
  | some (some .null) => jv_len n k (jv_n (pc + k) ls (.null :: st) h)
  | _ => none
def jv_sti (n k pc : Nat) (ls : jv_L) (i : Nat) (st : List Value) (h : jv_H) : Option (jv_S ⊕ jv_Z) := match st with
  | .int x :: st => if i < ls.length then jv_len n k (jv_n (pc + k) (jv_st1 ls i (.int x)) st h) else none
  | _ => none
def jv_stl (n k pc : Nat) (ls : jv_L) (i : Nat) (st : List Value) (h : jv_H) : Option (jv_S ⊕ jv_Z) := match st with
  | .long x :: st => if i + 1 < ls.length then jv_len n k (jv_n (pc + k) (jv_st2 ls i (.long x)) st h) else none
  | _ => none
def jv_sta (n k pc : Nat) (ls : jv_L) (i : Nat) (st : List Value) (h : jv_H) : Option (jv_S ⊕ jv_Z) := match st with
  | .ref x :: st => if i < ls.length then jv_len n k (jv_n (pc + k) (jv_st1 ls i (.ref x)) st h) else none
  | .null :: st => if i < ls.length then jv_len n k (jv_n (pc + k) (jv_st1 ls i .null) st h) else none
  | _ => none
def jv_b2 (f : Int32 → Int32 → Int32) (n pc : Nat) (ls : jv_L) (st : List Value) (h : jv_H) : Option (jv_S ⊕ jv_Z) := match st with
  | .int y :: .int x :: st => jv_len n 1 (jv_n (pc + 1) ls (.int (f x y) :: st) h)
  | _ => none
def jv_l2 (f : Int64 → Int64 → Int64) (n pc : Nat) (ls : jv_L) (st : List Value) (h : jv_H) : Option (jv_S ⊕ jv_Z) := match st with
  | .long y :: .long x :: st => jv_len n 1 (jv_n (pc + 1) ls (.long (f x y) :: st) h)
  | _ => none
def jv_wide (st : List Value) : Bool := decide ((st.map fun v => v.category).sum ≤ 8)
def jv_inv (call : jv_F) (y n pc : Nat) (ls : jv_L) (as rest : List Value) (h : jv_H) : Option (jv_S ⊕ jv_Z) :=
  if n = 3 ∧ jv_wide rest = true then match call y as h with
    | some (r, h') => jv_n (pc + 3) ls (r.toList ++ rest) h'
    | none => none
  else none
/-- the method that a pool number names, and whether it is named as a nest mate's -/
def jt_inv (o i : Nat) : Option Nat := match jt_f3 jt_ml o i with
  | some y => some y
  | none => (jt_f4 jt_mn o i).map (fun q => q.1)
def jv_ins (call : jv_F) (M : Nat) (i : Instr) (n pc : Nat) (ls : jv_L) (st : List Value) (h : jv_H) : Option (jv_S ⊕ jv_Z) :=
  match i with
  | .aconst_null => jv_len n 1 (jv_n (pc + 1) ls (.null :: st) h)
  | .iconst v => jv_len n 1 (jv_n (pc + 1) ls (.int (Int32.ofInt v) :: st) h)
  | .bipush v => jv_len n 2 (jv_n (pc + 2) ls (.int (Int8.ofInt v).toInt32 :: st) h)
  | .sipush v => jv_len n 3 (jv_n (pc + 3) ls (.int (Int16.ofInt v).toInt32 :: st) h)
  | .lconst v => jv_len n 1 (jv_n (pc + 1) ls (.long (Int64.ofNat (v : Nat)) :: st) h)
  | .ldc k => match jt_f3 jt_ki (jt_own M) k with
    | some v => jv_len n 2 (jv_n (pc + 2) ls (.int v :: st) h)
    | none => none
  | .ldc2_w k => match jt_f3 jt_kj (jt_own M) k with
    | some v => jv_len n 3 (jv_n (pc + 3) ls (.long v :: st) h)
    | none => none
  | .iload k => jv_ldi n 2 pc ls k st h
  | .iload_n k => jv_ldi n 1 pc ls k st h
  | .lload k => jv_ldl n 2 pc ls k st h
  | .lload_n k => jv_ldl n 1 pc ls k st h
  | .aload k => jv_lda n 2 pc ls k st h
  | .aload_n k => jv_lda n 1 pc ls k st h
  | .istore k => jv_sti n 2 pc ls k st h
  | .istore_n k => jv_sti n 1 pc ls k st h
  | .lstore k => jv_stl n 2 pc ls k st h
  | .lstore_n k => jv_stl n 1 pc ls k st h
  | .astore k => jv_sta n 2 pc ls k st h
  | .astore_n k => jv_sta n 1 pc ls k st h
  | .iinc k c => match ls[k]? with
    | some (some (.int x)) => if k < ls.length then jv_len n 3 (jv_n (pc + 3) (jv_st1 ls k (.int (x + Int32.ofInt c))) st h) else none
    | _ => none
  | .iadd => jv_b2 (fun x y => x + y) n pc ls st h
  | .isub => jv_b2 (fun x y => x - y) n pc ls st h
  | .imul => jv_b2 (fun x y => x * y) n pc ls st h
  | .iand => jv_b2 (fun x y => x &&& y) n pc ls st h
  | .ixor => jv_b2 (fun x y => x ^^^ y) n pc ls st h
  | .ishl => jv_b2 (fun x y => x <<< (y &&& 31)) n pc ls st h
  | .ishr => jv_b2 (fun x y => x >>> (y &&& 31)) n pc ls st h
  | .idiv => match st with
    | .int y :: .int x :: st => if y = 0 then none else jv_len n 1 (jv_n (pc + 1) ls (.int (x / y) :: st) h)
    | _ => none
  | .irem => match st with
    | .int y :: .int x :: st => if y = 0 then none else jv_len n 1 (jv_n (pc + 1) ls (.int (x - x / y * y) :: st) h)
    | _ => none
  | .ladd => jv_l2 (fun x y => x + y) n pc ls st h
  | .lsub => jv_l2 (fun x y => x - y) n pc ls st h
  | .lmul => jv_l2 (fun x y => x * y) n pc ls st h
  | .land => jv_l2 (fun x y => x &&& y) n pc ls st h
  | .lor => jv_l2 (fun x y => x ||| y) n pc ls st h
  | .ldiv => match st with
    | .long y :: .long x :: st => if y = 0 then none else jv_len n 1 (jv_n (pc + 1) ls (.long (x / y) :: st) h)
    | _ => none
  | .lrem => match st with
    | .long y :: .long x :: st => if y = 0 then none else jv_len n 1 (jv_n (pc + 1) ls (.long (x - x / y * y) :: st) h)
    | _ => none
  | .lneg => match st with
    | .long x :: st => jv_len n 1 (jv_n (pc + 1) ls (.long (-x) :: st) h)
    | _ => none
  | .lshl => match st with
    | .int y :: .long x :: st => jv_len n 1 (jv_n (pc + 1) ls (.long (x <<< (y.toInt64 &&& 63)) :: st) h)
    | _ => none
  | .lshr => match st with
    | .int y :: .long x :: st => jv_len n 1 (jv_n (pc + 1) ls (.long (x >>> (y.toInt64 &&& 63)) :: st) h)
    | _ => none
  | .lcmp => match st with
    | .long y :: .long x :: st => jv_len n 1 (jv_n (pc + 1) ls (.int (lg_cmp x y) :: st) h)
    | _ => none
  | .i2l => match st with
    | .int x :: st => jv_len n 1 (jv_n (pc + 1) ls (.long x.toInt64 :: st) h)
    | _ => none
  | .l2i => match st with
    | .long x :: st => jv_len n 1 (jv_n (pc + 1) ls (.int x.toInt32 :: st) h)
    | _ => none
  | .dup => match st with
    | v :: st => if v.category = 1 then jv_len n 1 (jv_n (pc + 1) ls (v :: v :: st) h) else none
    | _ => none
  | .dup2 => match st with
    | v :: w :: st => if v.category = 1 ∧ w.category = 1 then jv_len n 1 (jv_n (pc + 1) ls (v :: w :: v :: w :: st) h) else none
    | _ => none
  | .pop => match st with
    | v :: st => if v.category = 1 then jv_len n 1 (jv_n (pc + 1) ls st h) else none
    | _ => none
  | .pop2 => match st with
    | v :: st => if v.category = 2 then jv_len n 1 (jv_n (pc + 1) ls st h) else none
    | _ => none
  | .goto off => jv_len n 3 (jv_go pc off true ls st h)
  | .if_icmp c off => match st with
    | .int y :: .int x :: st => jv_len n 3 (jv_go pc off (jv_cmp c x y) ls st h)
    | _ => none
  | .ifCond c off => match st with
    | .int x :: st => jv_len n 3 (jv_go pc off (jv_cmp c x 0) ls st h)
    | _ => none
  | .if_acmp c off => match st with
    | .ref y :: .ref x :: st => jv_len n 3 (jv_go pc off (match c with | .eq => decide (x = y) | .ne => decide (¬ x = y)) ls st h)
    | .null :: .ref _ :: st => jv_len n 3 (jv_go pc off (match c with | .eq => false | .ne => true) ls st h)
    | .ref _ :: .null :: st => jv_len n 3 (jv_go pc off (match c with | .eq => false | .ne => true) ls st h)
    | .null :: .null :: st => jv_len n 3 (jv_go pc off (match c with | .eq => true | .ne => false) ls st h)
    | _ => none
  | .ifnull off => match st with
    | .ref _ :: st => jv_len n 3 (jv_n (pc + 3) ls st h)
    | .null :: st => jv_len n 3 (jv_go pc off true ls st h)
    | _ => none
  | .ifnonnull off => match st with
    | .ref _ :: st => jv_len n 3 (jv_go pc off true ls st h)
    | .null :: st => jv_len n 3 (jv_n (pc + 3) ls st h)
    | _ => none
  | .tableswitch dflt lo hi offs => match st with
    | .int x :: st => if x.toInt < lo ∨ hi < x.toInt then jv_go pc dflt true ls st h else match offs[(x.toInt - lo).toNat]? with
      | some off => jv_go pc off true ls st h
      | none => none
    | _ => none
  | .lookupswitch dflt ps => match st with
    | .int x :: st => if (ps.toList.zip (ps.toList.drop 1)).all (fun (a, next) => a.1 < next.1) = true then jv_go pc (Op.lookupswitch.offset ps.toList dflt x.toInt) true ls st h else none
    | _ => none
  | .getfield k => match st, jt_f4 jt_fl (jt_own M) k with
    | .ref a :: st, some (ci, f) => match jv_gf h a ci f with
      | some v => jv_len n 3 (jv_n (pc + 3) ls (v :: st) h)
      | none => none
    | _, _ => none
  | .putfield k => match st, jt_f4 jt_fl (jt_own M) k with
    | v :: .ref a :: st, some (ci, f) => if jt_ffin ci f = false ∨ (jt_kd M = 2 ∧ jt_own M = ci) then match jv_pf h a ci f v with
        | some h' => jv_len n 3 (jv_n (pc + 3) ls st h')
        | none => none
      else none
    | _, _ => none
  | .new k => match jt_f3 jt_nl (jt_own M) k with
    | some ci => if ci < jt_cl.length then jv_len n 3 (jv_n (pc + 3) ls (.ref h.2.1 :: st) (jv_new h ci)) else none
    | none => none
  | .newarray t => match st with
    | .int x :: st => match jt_at.idxOf? (newarray.typeOf t) with
      | some k => if ¬ k = jt_scr ∧ ¬ x < 0 ∧ x.toNatClampNeg ≤ 100000 then jv_len n 2 (jv_n (pc + 2) ls (.ref h.2.1 :: st) (jv_newa h k x.toNatClampNeg (defaultValue (newarray.typeOf t)))) else none
      | none => none
    | _ => none
  | .anewarray k => match st, jt_f3 jt_nl (jt_own M) k with
    | .int x :: st, some ci => match jt_at.idxOf? (.object (jt_cn ci)) with
      | some k => if ¬ k = jt_scr ∧ ¬ x < 0 ∧ x.toNatClampNeg ≤ 100000 then jv_len n 3 (jv_n (pc + 3) ls (.ref h.2.1 :: st) (jv_newa h k x.toNatClampNeg .null)) else none
      | none => none
    | _, _ => none
  | .arraylength => match st with
    | .ref a :: st => match jv_ln h a with
      | some z => jv_len n 1 (jv_n (pc + 1) ls (.int (Int32.ofNat z) :: st) h)
      | none => none
    | _ => none
  | .iaload => match st with
    | .int j :: .ref a :: st => match jv_al h a .int j with
      | some v => jv_len n 1 (jv_n (pc + 1) ls (v :: st) h)
      | none => none
    | _ => none
  | .laload => match st with
    | .int j :: .ref a :: st => match jv_al h a .long j with
      | some v => jv_len n 1 (jv_n (pc + 1) ls (v :: st) h)
      | none => none
    | _ => none
  | .baload => match st with
    | .int j :: .ref a :: st => match jv_al h a .boolean j with
      | some v => jv_len n 1 (jv_n (pc + 1) ls (v :: st) h)
      | none => none
    | _ => none
  | .aaload => match st with
    | .int j :: .ref a :: st => match jv_kn h a with
      | some C => match jv_al h a (.object C) j with
        | some v => jv_len n 1 (jv_n (pc + 1) ls (v :: st) h)
        | none => none
      | none => none
    | _ => none
  | .iastore => match st with
    | .int x :: .int j :: .ref a :: st => match jv_as h a .int j (.int x) with
      | some h' => jv_len n 1 (jv_n (pc + 1) ls st h')
      | none => none
    | _ => none
  | .lastore => match st with
    | .long x :: .int j :: .ref a :: st => match jv_as h a .long j (.long x) with
      | some h' => jv_len n 1 (jv_n (pc + 1) ls st h')
      | none => none
    | _ => none
  | .bastore => match st with
    | .int x :: .int j :: .ref a :: st => match jv_as h a .boolean j (narrow .boolean (.int x)) with
      | some h' => jv_len n 1 (jv_n (pc + 1) ls st h')
      | none => none
    | _ => none
  | .aastore => match st with
    | v :: .int j :: .ref a :: st => match jv_kn h a with
      | some C => if jv_isA h C v = true then match jv_as h a (.object C) j v with
          | some h' => jv_len n 1 (jv_n (pc + 1) ls st h')
          | none => none
        else none
      | none => none
    | _ => none
  | .invokevirtual k => match jt_inv (jt_own M) k with
    | some y => match st.drop (jt_np y) with
      | .ref b :: rest => if jt_kd y = 0 ∧ jv_cl h b = some (jt_own y) ∧ jt_np y ≤ st.length then jv_inv call y n pc ls (.ref b :: (st.take (jt_np y)).reverse) rest h else none
      | _ => none
    | none => none
  | .invokestatic k => match jt_inv (jt_own M) k with
    | some y => if jt_kd y = 1 ∧ jt_np y ≤ st.length then jv_inv call y n pc ls (st.take (jt_np y)).reverse (st.drop (jt_np y)) h else none
    | none => none
  | .invokespecial k => if jt_ob.contains (jt_own M, k) then match st with
      | .ref _ :: rest => if jv_wide rest = true then jv_len n 3 (jv_n (pc + 3) ls rest h) else none
      | _ => none
    else match jt_inv (jt_own M) k with
      | some y => match st.drop (jt_np y) with
        | .ref b :: rest => if jt_kd y = 2 ∧ jt_np y ≤ st.length then jv_inv call y n pc ls (.ref b :: (st.take (jt_np y)).reverse) rest h else none
        | _ => none
      | none => none
  | .ireturn => match st, jt_ret M with
    | [.int v], some ty => if n = 1 ∧ narrow ty (.int v) = .int v ∧ fits ty (.int v) = true then some (.inr (some (.int v), h)) else none
    | _, _ => none
  | .lreturn => match st, jt_ret M with
    | [.long v], some .long => if n = 1 then some (.inr (some (.long v), h)) else none
    | _, _ => none
  | .areturn => match st, jt_ret M with
    | [.ref v], some (.object _) => if n = 1 then some (.inr (some (.ref v), h)) else none
    | [.null], some (.object _) => if n = 1 then some (.inr (some .null, h)) else none
    | _, _ => none
  | .return_ => match st, jt_ret M with
    | [], none => if n = 1 then some (.inr (none, h)) else none
    | _, _ => none
  | _ => none
def jv_step (call : jv_F) (M : Nat) (pc : Nat) (ls : jv_L) (st : List Value) (h : jv_H) : Option (jv_S ⊕ jv_Z) := match decode (jt_code M) pc with
  | .ok (i, n) => jv_ins call M i n pc ls st h
  | .error _ => none
def jv_loop (call : jv_F) (M : Nat) : Nat → Nat → jv_L → List Value → jv_H → Option jv_Z
  | 0, _, _, _, _ => none
  | n + 1, pc, ls, st, h => match jv_step call M pc ls st h with
    | none => none
    | some (.inr z) => some z
    | some (.inl (pc', ls', st', h')) => jv_loop call M n pc' ls' st' h'
theorem jv_loop_mono (call : jv_F) (M : Nat) : ∀ (n k pc : Nat) (ls : jv_L) (st : List Value) (h : jv_H) (z : jv_Z), jv_loop call M n pc ls st h = some z → jv_loop call M (n + k) pc ls st h = some z
  | 0, _, _, _, _, _, _, hz => by simp [jv_loop] at hz
  | n + 1, k, pc, ls, st, h, z, hz => by
    rw [show n + 1 + k = (n + k) + 1 by omega]
    unfold jv_loop at hz ⊢
    cases hs : jv_step call M pc ls st h with
    | none => rw [hs] at hz; simp at hz
    | some o =>
      rw [hs] at hz
      cases o with
      | inr y => simpa using hz
      | inl y =>
        obtain ⟨pc', ls', st', h'⟩ := y
        simp only at hz ⊢
        exact jv_loop_mono call M n k pc' ls' st' h' z hz

noncomputable def jv_ev (call : jv_F) (M : Nat) (pc : Nat) (ls : jv_L) (st : List Value) (h : jv_H) : Option jv_Z :=
  @dite _ (∃ z : jv_Z, ∃ n, jv_loop call M n pc ls st h = some z) (Classical.propDecidable _) (fun hz => some (Classical.choose hz)) (fun _ => none)
end
section
/-! the fixed point, the relation between the abstract heap and the real one -/
theorem jv_loop_det {call : jv_F} {M n k pc : Nat} {ls : jv_L} {st : List Value} {h : jv_H} {z y : jv_Z} (h1 : jv_loop call M n pc ls st h = some z) (h2 : jv_loop call M k pc ls st h = some y) : z = y := by
  have e1 := jv_loop_mono call M n k pc ls st h z h1
  have e2 := jv_loop_mono call M k n pc ls st h y h2
  rw [Nat.add_comm k n] at e2
  rw [e1] at e2
  exact Option.some.inj e2
theorem jv_ev_some {call : jv_F} {M pc : Nat} {ls : jv_L} {st : List Value} {h : jv_H} {z : jv_Z} : jv_ev call M pc ls st h = some z ↔ ∃ n, jv_loop call M n pc ls st h = some z := by
  unfold jv_ev
  by_cases hz : ∃ z : jv_Z, ∃ n, jv_loop call M n pc ls st h = some z
  · rw [dif_pos hz]
    obtain ⟨k, hk⟩ := Classical.choose_spec hz
    constructor
    · intro e
      exact ⟨k, by rw [hk]; exact e⟩
    · rintro ⟨n, hn⟩
      rw [jv_loop_det hk hn]
  · rw [dif_neg hz]
    constructor
    · intro e
      cases e
    · rintro ⟨n, hn⟩
      exact absurd ⟨z, n, hn⟩ hz
theorem jv_ev_none {call : jv_F} {M pc : Nat} {ls : jv_L} {st : List Value} {h : jv_H} : jv_ev call M pc ls st h = none ↔ ∀ n, jv_loop call M n pc ls st h = none := by
  constructor
  · intro e n
    cases hn : jv_loop call M n pc ls st h with
    | none => rfl
    | some z => rw [jv_ev_some.mpr ⟨n, hn⟩] at e; cases e
  · intro e
    cases hz : jv_ev call M pc ls st h with
    | none => rfl
    | some z =>
      obtain ⟨n, hn⟩ := jv_ev_some.mp hz
      rw [e n] at hn
      cases hn
theorem jv_ev_eq (call : jv_F) (M pc : Nat) (ls : jv_L) (st : List Value) (h : jv_H) : jv_ev call M pc ls st h = match jv_step call M pc ls st h with
    | none => none
    | some (.inr z) => some z
    | some (.inl (pc', ls', st', h')) => jv_ev call M pc' ls' st' h' := by
  cases hs : jv_step call M pc ls st h with
  | none =>
    refine jv_ev_none.mpr (fun n => ?_)
    cases n with
    | zero => rfl
    | succ n => unfold jv_loop; rw [hs]
  | some o =>
    cases o with
    | inr z => exact jv_ev_some.mpr ⟨1, by unfold jv_loop; rw [hs]⟩
    | inl y =>
      obtain ⟨pc', ls', st', h'⟩ := y
      show _ = jv_ev call M pc' ls' st' h'
      have key : ∀ n, jv_loop call M (n + 1) pc ls st h = jv_loop call M n pc' ls' st' h' := fun n => by
        rw [jv_loop.eq_def]
        simp only [hs]
      cases he : jv_ev call M pc' ls' st' h' with
      | none =>
        have h1 := jv_ev_none.mp he
        refine jv_ev_none.mpr (fun n => ?_)
        cases n with
        | zero => rfl
        | succ n => rw [key]; exact h1 n
      | some z =>
        obtain ⟨n, hn⟩ := jv_ev_some.mp he
        exact jv_ev_some.mpr ⟨n + 1, by rw [key]; exact hn⟩
def jv_sl (as : List Value) : jv_L := as.flatMap fun v => if v.category = 2 then [some v, none] else [some v]
def jv_ent (y : Nat) (as : List Value) : jv_L := jv_sl as ++ List.replicate (jt_maxL y - (jv_sl as).length) none
noncomputable def jv_run : Nat → jv_F
  | 0 => fun _ _ _ => none
  | d + 1 => fun y as h => if (jv_sl as).length ≤ jt_maxL y then jv_ev (jv_run d) y 0 (jv_ent y as) [] h else none
/-! the heap grows -/
def jv_scr (x : jv_C) : Bool := match x with
  | .inr (k, _, _) => decide (k = jt_scr)
  | _ => false
def jv_G (h h' : jv_H) : Prop := h.2.1 ≤ h'.2.1 ∧ h.2.2 ≤ h'.2.2 ∧ ∀ a x, h'.1 a = some x → jv_scr x = false → (∃ y, h.1 a = some y ∧ jv_scr y = false) ∨ h.2.1 ≤ a
theorem jv_G.rf {h : jv_H} : jv_G h h := ⟨Nat.le_refl _, Nat.le_refl _, fun _ x e f => Or.inl ⟨x, e, f⟩⟩
theorem jv_G.tr {h h1 h2 : jv_H} (a : jv_G h h1) (b : jv_G h1 h2) : jv_G h h2 := by
  refine ⟨Nat.le_trans a.1 b.1, Nat.le_trans a.2.1 b.2.1, fun q x e f => ?_⟩
  rcases b.2.2 q x e f with ⟨y, e1, f1⟩ | h3
  · exact a.2.2 q y e1 f1
  · exact Or.inr (Nat.le_trans a.1 h3)
theorem jv_G.up {h : jv_H} {a : Nat} {x y : jv_C} (hx : h.1 a = some x) (hs : jv_scr x = false) : jv_G h (jv_up h.1 a y, h.2) := by
  refine ⟨Nat.le_refl _, Nat.le_refl _, fun q z e f => ?_⟩
  by_cases hq : q = a
  · subst hq
    exact Or.inl ⟨x, hx, hs⟩
  · simp only [jv_up, if_neg hq] at e
    exact Or.inl ⟨z, e, f⟩
theorem jv_G.push {h : jv_H} {y : jv_C} {n : Nat} : jv_G h (jv_up h.1 h.2.1 y, h.2.1 + 1, h.2.2 + n) := by
  refine ⟨Nat.le_succ _, Nat.le_add_right _ _, fun q z e f => ?_⟩
  by_cases hq : q = h.2.1
  · exact Or.inr (Nat.le_of_eq hq.symm)
  · simp only [jv_up, if_neg hq] at e
    exact Or.inl ⟨z, e, f⟩
/-! the relation -/
def jv_K (D : va_G) (dA : Nat → ClassId) (U : State) : Prop :=
  (∀ (c : Nat) (q : vw_C), jt_cl[c]? = some q → u_Kn U q.1 q.2.1 q.2.2 (D.1 c) (D.2 c)) ∧
  (∀ (k : Nat) (ty : FieldType), ¬ k = jt_scr → jt_at[k]? = some ty → ArrOfT U (dA k) ty ∧ va_RA U (dA k) ty) ∧
  (∀ C : String, FieldType.object C ∈ jt_at → va_AO C U) ∧ ∀ q ∈ jt_mn, va_Nw (jt_wmn q) U
def jv_at (D : va_G) (dA : Nat → ClassId) (U : State) (a : Nat) (x : jv_C) (H : Heap) : Prop := match x with
  | .inl (ci, fs) => ∃ r : vw_C, jt_cl[ci]? = some r ∧ fs.length = r.2.2 ∧ t_OB a (D.1 ci) r.2.2 (D.2 ci) H (vp_V fs)
  | .inr (k, n, f) => if k = jt_scr then ∃ cell : Cell, H[a]? = some cell ∧ U.isArrayOf cell .int ∧ cell.vm ≠ .unknown ∧ cell.slots.size = n ∧ ∀ j : Nat, j < n → cell.slots[j]? = some (f j)
    else (∃ ty, jt_at[k]? = some ty) ∧ H[a]? = some (arrV (dA k) n f)
def jv_R (D : va_G) (dA : Nat → ClassId) (U : State) (h : jv_H) (H : Heap) : Prop := H.size = h.2.1 ∧ ∀ a x, h.1 a = some x → jv_at D dA U a x H
theorem jv_at.kept {D : va_G} {dA : Nat → ClassId} {U : State} {a : Nat} {x : jv_C} {H H1 : Heap} (h : jv_at D dA U a x H) (e : H1[a]? = H[a]?) : jv_at D dA U a x H1 := by
  cases x with
  | inl o =>
    obtain ⟨r, h1, h2, h3⟩ := h
    exact ⟨r, h1, h2, h3.kept e⟩
  | inr o =>
    obtain ⟨k, n, f⟩ := o
    unfold jv_at at h ⊢
    simp only at h ⊢
    split at h
    · rw [if_pos ‹_›]
      obtain ⟨cell, h1, h2⟩ := h
      exact ⟨cell, e.trans h1, h2⟩
    · rw [if_neg ‹_›]
      exact ⟨h.1, e.trans h.2⟩
theorem jv_at.lt {D : va_G} {dA : Nat → ClassId} {U : State} {a : Nat} {x : jv_C} {H : Heap} (h : jv_at D dA U a x H) : a < H.size := by
  cases x with
  | inl o =>
    obtain ⟨r, -, -, cell, h3, -⟩ := h
    exact (Array.getElem?_eq_some_iff.mp h3).1
  | inr o =>
    obtain ⟨k, n, f⟩ := o
    unfold jv_at at h
    simp only at h
    split at h
    · obtain ⟨cell, h1, h2⟩ := h
      exact (Array.getElem?_eq_some_iff.mp h1).1
    · exact (Array.getElem?_eq_some_iff.mp h.2).1
theorem jv_at.moved {D : va_G} {dA : Nat → ClassId} {U V : State} {a : Nat} {x : jv_C} {H : Heap} (hvm : U.vm.Alike V.vm) (h : jv_at D dA U a x H) : jv_at D dA V a x H := by
  cases x with
  | inl o => exact h
  | inr o =>
    obtain ⟨k, n, f⟩ := o
    unfold jv_at at h ⊢
    simp only at h ⊢
    split at h
    · rw [if_pos ‹_›]
      obtain ⟨cell, h1, h2, h3⟩ := h
      exact ⟨cell, h1, State.isArrayOf_alike hvm h2, h3⟩
    · rw [if_neg ‹_›]
      exact h
theorem jv_R.moved {D : va_G} {dA : Nat → ClassId} {U V : State} {h : jv_H} {H : Heap} (hvm : U.vm.Alike V.vm) (hR : jv_R D dA U h H) : jv_R D dA V h H := ⟨hR.1, fun a x e => (hR.2 a x e).moved hvm⟩
theorem jv_R.put {D : va_G} {dA : Nat → ClassId} {U : State} {h : jv_H} {H H1 : Heap} {a : Nat} {y : jv_C} (hR : jv_R D dA U h H) (z : H1.size = H.size) (oq : ∀ q : Nat, q ≠ a → H1[q]? = H[q]?) (hy : jv_at D dA U a y H1) : jv_R D dA U (jv_up h.1 a y, h.2) H1 := by
  refine ⟨z.trans hR.1, fun q x e => ?_⟩
  by_cases hq : q = a
  · subst hq
    simp only [jv_up, if_pos] at e
    cases e
    exact hy
  · simp only [jv_up, if_neg hq] at e
    exact (hR.2 q x e).kept (oq q hq)
theorem jv_R.push {D : va_G} {dA : Nat → ClassId} {U : State} {h : jv_H} {H H1 : Heap} {y : jv_C} {n : Nat} (hR : jv_R D dA U h H) (z : H1.size = h.2.1 + 1) (oq : ∀ q : Nat, q < h.2.1 → H1[q]? = H[q]?) (hy : jv_at D dA U h.2.1 y H1) : jv_R D dA U (jv_up h.1 h.2.1 y, h.2.1 + 1, h.2.2 + n) H1 := by
  refine ⟨z, fun q x e => ?_⟩
  by_cases hq : q = h.2.1
  · subst hq
    simp only [jv_up, if_pos] at e
    cases e
    exact hy
  · simp only [jv_up, if_neg hq] at e
    have hl : q < h.2.1 := by rw [← hR.1]; exact (hR.2 q x e).lt
    exact (hR.2 q x e).kept (oq q hl)
theorem jv_K.warm {D : va_G} {dA : Nat → ClassId} {s U : State} (hW : s.WarmedH U.vm) (h : jv_K D dA s) : jv_K D dA U := by
  obtain ⟨h1, h2, h3, h4⟩ := h
  refine ⟨fun c q e => u_Kn_moved hW.alike (h1 c q e), fun k ty e f => ⟨arrOfT_moved hW.alike (h2 k ty e f).1, (h2 k ty e f).2.moved hW.alike⟩, fun C e => (h3 C e).moved hW.alike, fun q e => va_Nw.warmM hW (h4 q e)⟩
theorem jv_K.same {D : va_G} {dA : Nat → ClassId} {s U : State} (hv : s.vm = U.vm) (h : jv_K D dA s) : jv_K D dA U := by
  obtain ⟨h1, h2, h3, h4⟩ := h
  have hA : s.vm.Alike U.vm := by rw [hv]; exact Vm.Alike.refl _
  refine ⟨fun c q e => u_Kn_moved hA (h1 c q e), fun k ty e f => ⟨arrOfT_moved hA (h2 k ty e f).1, (h2 k ty e f).2.moved hA⟩, fun C e => (h3 C e).moved hA, fun q e => va_Nw.same rfl hv (h4 q e)⟩
/-! locals -/
def jv_lp (ls : jv_L) : List (Nat × Value) := (List.range ls.length).filterMap (fun k => (ls[k]?).join.map (fun v => (k, v)))
theorem jv_lp_mem {ls : jv_L} {k : Nat} {v : Value} : (k, v) ∈ jv_lp ls ↔ ls[k]? = some (some v) := by
  unfold jv_lp
  rw [List.mem_filterMap]
  constructor
  · rintro ⟨i, hi, e⟩
    cases hj : ls[i]? with
    | none => rw [hj] at e; cases e
    | some o =>
      rw [hj] at e
      cases o with
      | none => cases e
      | some w => cases e; exact hj
  · intro e
    refine ⟨k, List.mem_range.mpr (List.getElem?_eq_some_iff.mp e).1, ?_⟩
    rw [e]
    rfl
def jv_Lr (ls : jv_L) (la : Array Slot) : Prop := lv_has la ls.length (jv_lp ls)
theorem jv_Lr.at {ls : jv_L} {la : Array Slot} (h : jv_Lr ls la) {i : Nat} {v : Value} (e : ls[i]? = some (some v)) : la[i]? = some (.val v) := h.2.2 (i, v) (jv_lp_mem.mpr e)
theorem jv_kill_len (ls : jv_L) (i : Nat) : (jv_kill ls i).length = ls.length := by
  cases i with
  | zero => rfl
  | succ j => unfold jv_kill; simp only; split <;> simp
theorem jv_st1_len (ls : jv_L) (i : Nat) (v : Value) : (jv_st1 ls i v).length = ls.length := by simp [jv_st1, jv_kill_len]
theorem jv_st2_len (ls : jv_L) (i : Nat) (v : Value) : (jv_st2 ls i v).length = ls.length := by simp [jv_st2, jv_kill_len]
theorem jv_kill_get {ls : jv_L} {i k : Nat} {w : Value} (h : (jv_kill ls i)[k]? = some (some w)) : ls[k]? = some (some w) ∧ ¬ (k + 1 = i ∧ w.category = 2) := by
  cases i with
  | zero => exact ⟨h, fun q => absurd q.1 (by omega)⟩
  | succ j =>
    unfold jv_kill at h
    simp only at h
    split at h
    · by_cases hk : k = j
      · subst hk
        rw [List.getElem?_set_self'] at h
        cases hj : ls[k]? with
        | none => rw [hj] at h; cases h
        | some o => rw [hj] at h; simp at h
      · rw [List.getElem?_set_ne (Ne.symm hk)] at h
        exact ⟨h, fun q => hk (by omega)⟩
    · rename_i hb
      refine ⟨h, fun q => hb ?_⟩
      have hk : k = j := by omega
      subst hk
      simp [jv_is2, h, q.2]
theorem jv_st1_get {ls : jv_L} {i k : Nat} {v w : Value} (h : (jv_st1 ls i v)[k]? = some (some w)) : (k = i ∧ w = v) ∨ (¬ k = i ∧ ls[k]? = some (some w) ∧ ¬ (k + 1 = i ∧ w.category = 2)) := by
  unfold jv_st1 at h
  by_cases hk : k = i
  · subst hk
    rw [List.getElem?_set_self'] at h
    cases hj : (jv_kill ls k)[k]? with
    | none => rw [hj] at h; cases h
    | some o => rw [hj] at h; simp at h; exact Or.inl ⟨rfl, h.symm⟩
  · rw [List.getElem?_set_ne (Ne.symm hk)] at h
    exact Or.inr ⟨hk, jv_kill_get h⟩
theorem jv_st2_get {ls : jv_L} {i k : Nat} {v w : Value} (h : (jv_st2 ls i v)[k]? = some (some w)) : (k = i ∧ w = v) ∨ (¬ k = i ∧ ¬ k = i + 1 ∧ ls[k]? = some (some w) ∧ ¬ (k + 1 = i ∧ w.category = 2)) := by
  unfold jv_st2 at h
  by_cases hk : k = i + 1
  · subst hk
    rw [List.getElem?_set_self'] at h
    cases hj : ((jv_kill ls i).set i (some v))[i + 1]? with
    | none => rw [hj] at h; cases h
    | some o => rw [hj] at h; simp at h
  · rw [List.getElem?_set_ne (Ne.symm hk)] at h
    rcases jv_st1_get (ls := ls) (i := i) (v := v) h with e | ⟨e1, e2, e3⟩
    · exact Or.inl e
    · exact Or.inr ⟨e1, hk, e2, e3⟩
theorem jv_Lr.st1 {ls : jv_L} {la : Array Slot} {i : Nat} {v : Value} (h : lv_has la ls.length ((i, v) :: (jv_lp ls).filter (fun q => !(q.1 == i) && !(q.1 + 1 == i && q.2.category == 2)))) : jv_Lr (jv_st1 ls i v) la := by
  refine ⟨h.1.trans (jv_st1_len ls i v).symm, h.2.1, ?_⟩
  rintro ⟨k, w⟩ hq
  rcases jv_st1_get (jv_lp_mem.mp hq) with ⟨rfl, rfl⟩ | ⟨e1, e2, e3⟩
  · exact h.2.2 _ List.mem_cons_self
  · refine h.2.2 (k, w) (List.mem_cons_of_mem _ (List.mem_filter.mpr ⟨jv_lp_mem.mpr e2, ?_⟩))
    by_cases h1 : k + 1 = i
    · have h2 : ¬ w.category = 2 := fun q => e3 ⟨h1, q⟩
      simp [e1, h2]
    · simp [e1, h1]
theorem jv_Lr.st2 {ls : jv_L} {la : Array Slot} {i : Nat} {v : Value} (h : lv_has la ls.length ((i, v) :: (jv_lp ls).filter (fun q => !(q.1 == i) && (!(q.1 == i + 1) && !(q.1 + 1 == i && q.2.category == 2))))) : jv_Lr (jv_st2 ls i v) la := by
  refine ⟨h.1.trans (jv_st2_len ls i v).symm, h.2.1, ?_⟩
  rintro ⟨k, w⟩ hq
  rcases jv_st2_get (jv_lp_mem.mp hq) with ⟨rfl, rfl⟩ | ⟨e1, e0, e2, e3⟩
  · exact h.2.2 _ List.mem_cons_self
  · refine h.2.2 (k, w) (List.mem_cons_of_mem _ (List.mem_filter.mpr ⟨jv_lp_mem.mpr e2, ?_⟩))
    by_cases h1 : k + 1 = i
    · have h2 : ¬ w.category = 2 := fun q => e3 ⟨h1, q⟩
      simp [e1, e0, h2]
    · simp [e1, e0, h1]
end
section
/-! one equation an instruction: how the abstract machine goes on -/
section JE
variable {call : jv_F} {M pc pc' : Nat} {ls : jv_L} {st : List Value} {h : jv_H}
theorem je_of {i : Instr} {n : Nat} (hd : decode (jt_code M) pc = .ok (i, n)) : jv_ev call M pc ls st h = match jv_ins call M i n pc ls st h with
    | none => none
    | some (.inr z) => some z
    | some (.inl (pc', ls', st', h')) => jv_ev call M pc' ls' st' h' := by
  rw [jv_ev_eq]
  unfold jv_step
  rw [hd]
  rfl
theorem je_next {i : Instr} {n : Nat} {ls' : jv_L} {st' : List Value} {h' : jv_H} (hd : decode (jt_code M) pc = .ok (i, n)) (hs : jv_ins call M i n pc ls st h = some (.inl (pc', ls', st', h'))) : jv_ev call M pc ls st h = jv_ev call M pc' ls' st' h' := by
  rw [je_of hd, hs]
theorem je_end {i : Instr} {n : Nat} {z : jv_Z} (hd : decode (jt_code M) pc = .ok (i, n)) (hs : jv_ins call M i n pc ls st h = some (.inr z)) : jv_ev call M pc ls st h = some z := by
  rw [je_of hd, hs]
theorem je_null (hd : decode (jt_code M) pc = .ok (.aconst_null, 1)) (hp : pc + 1 = pc') : jv_ev call M pc ls st h = jv_ev call M pc' ls (.null :: st) h := by subst hp; exact je_next hd rfl
theorem je_iconst {n : Int} {v : Int32} (hd : decode (jt_code M) pc = .ok (.iconst n, 1)) (hp : pc + 1 = pc') (hv : Int32.ofInt n = v) : jv_ev call M pc ls st h = jv_ev call M pc' ls (.int v :: st) h := by subst hp; subst hv; exact je_next hd rfl
theorem je_bipush {n : Int} {v : Int32} (hd : decode (jt_code M) pc = .ok (.bipush n, 2)) (hp : pc + 2 = pc') (hv : (Int8.ofInt n).toInt32 = v) : jv_ev call M pc ls st h = jv_ev call M pc' ls (.int v :: st) h := by subst hp; subst hv; exact je_next hd rfl
theorem je_sipush {n : Int} {v : Int32} (hd : decode (jt_code M) pc = .ok (.sipush n, 3)) (hp : pc + 3 = pc') (hv : (Int16.ofInt n).toInt32 = v) : jv_ev call M pc ls st h = jv_ev call M pc' ls (.int v :: st) h := by subst hp; subst hv; exact je_next hd rfl
theorem je_lconst {n : Fin 2} {v : Int64} (hd : decode (jt_code M) pc = .ok (.lconst n, 1)) (hp : pc + 1 = pc') (hv : Int64.ofNat (n : Nat) = v) : jv_ev call M pc ls st h = jv_ev call M pc' ls (.long v :: st) h := by subst hp; subst hv; exact je_next hd rfl
theorem je_ldc {k : Nat} {v : Int32} (hd : decode (jt_code M) pc = .ok (.ldc k, 2)) (hp : pc + 2 = pc') (hv : jt_f3 jt_ki (jt_own M) k = some v) : jv_ev call M pc ls st h = jv_ev call M pc' ls (.int v :: st) h := by subst hp; exact je_next hd (by simp only [jv_ins, hv]; rfl)
theorem je_ldc2 {k : Nat} {v : Int64} (hd : decode (jt_code M) pc = .ok (.ldc2_w k, 3)) (hp : pc + 3 = pc') (hv : jt_f3 jt_kj (jt_own M) k = some v) : jv_ev call M pc ls st h = jv_ev call M pc' ls (.long v :: st) h := by subst hp; exact je_next hd (by simp only [jv_ins, hv]; rfl)
theorem je_iload {k : Nat} {x : Int32} (hd : decode (jt_code M) pc = .ok (.iload k, 2)) (hp : pc + 2 = pc') (hl : ls[k]? = some (some (.int x))) : jv_ev call M pc ls st h = jv_ev call M pc' ls (.int x :: st) h := by subst hp; exact je_next hd (by simp only [jv_ins, jv_ldi, hl]; rfl)
theorem je_iload_n {k : Fin 4} {x : Int32} (hd : decode (jt_code M) pc = .ok (.iload_n k, 1)) (hp : pc + 1 = pc') (hl : ls[(k : Nat)]? = some (some (.int x))) : jv_ev call M pc ls st h = jv_ev call M pc' ls (.int x :: st) h := by subst hp; exact je_next hd (by simp only [jv_ins, jv_ldi, hl]; rfl)
theorem je_lload {k : Nat} {x : Int64} (hd : decode (jt_code M) pc = .ok (.lload k, 2)) (hp : pc + 2 = pc') (hl : ls[k]? = some (some (.long x))) : jv_ev call M pc ls st h = jv_ev call M pc' ls (.long x :: st) h := by subst hp; exact je_next hd (by simp only [jv_ins, jv_ldl, hl]; rfl)
theorem je_lload_n {k : Fin 4} {x : Int64} (hd : decode (jt_code M) pc = .ok (.lload_n k, 1)) (hp : pc + 1 = pc') (hl : ls[(k : Nat)]? = some (some (.long x))) : jv_ev call M pc ls st h = jv_ev call M pc' ls (.long x :: st) h := by subst hp; exact je_next hd (by simp only [jv_ins, jv_ldl, hl]; rfl)
theorem je_aload {k : Nat} {r : Option Nat} (hd : decode (jt_code M) pc = .ok (.aload k, 2)) (hp : pc + 2 = pc') (hl : ls[k]? = some (some (va_rf r))) : jv_ev call M pc ls st h = jv_ev call M pc' ls (va_rf r :: st) h := by
  subst hp
  cases r <;> exact je_next hd (by simp only [jv_ins, jv_lda, hl, va_rf]; rfl)
theorem je_aload_n {k : Fin 4} {r : Option Nat} (hd : decode (jt_code M) pc = .ok (.aload_n k, 1)) (hp : pc + 1 = pc') (hl : ls[(k : Nat)]? = some (some (va_rf r))) : jv_ev call M pc ls st h = jv_ev call M pc' ls (va_rf r :: st) h := by
  subst hp
  cases r <;> exact je_next hd (by simp only [jv_ins, jv_lda, hl, va_rf]; rfl)
theorem je_istore {k : Nat} {x : Int32} {ls' : jv_L} (hd : decode (jt_code M) pc = .ok (.istore k, 2)) (hp : pc + 2 = pc') (hk : k < ls.length) (hl : jv_st1 ls k (.int x) = ls') : jv_ev call M pc ls (.int x :: st) h = jv_ev call M pc' ls' st h := by subst hp; subst hl; exact je_next hd (by simp only [jv_ins, jv_sti, if_pos hk]; rfl)
theorem je_istore_n {k : Fin 4} {x : Int32} {ls' : jv_L} (hd : decode (jt_code M) pc = .ok (.istore_n k, 1)) (hp : pc + 1 = pc') (hk : (k : Nat) < ls.length) (hl : jv_st1 ls k (.int x) = ls') : jv_ev call M pc ls (.int x :: st) h = jv_ev call M pc' ls' st h := by subst hp; subst hl; exact je_next hd (by simp only [jv_ins, jv_sti, if_pos hk]; rfl)
theorem je_lstore {k : Nat} {x : Int64} {ls' : jv_L} (hd : decode (jt_code M) pc = .ok (.lstore k, 2)) (hp : pc + 2 = pc') (hk : k + 1 < ls.length) (hl : jv_st2 ls k (.long x) = ls') : jv_ev call M pc ls (.long x :: st) h = jv_ev call M pc' ls' st h := by subst hp; subst hl; exact je_next hd (by simp only [jv_ins, jv_stl, if_pos hk]; rfl)
theorem je_lstore_n {k : Fin 4} {x : Int64} {ls' : jv_L} (hd : decode (jt_code M) pc = .ok (.lstore_n k, 1)) (hp : pc + 1 = pc') (hk : (k : Nat) + 1 < ls.length) (hl : jv_st2 ls k (.long x) = ls') : jv_ev call M pc ls (.long x :: st) h = jv_ev call M pc' ls' st h := by subst hp; subst hl; exact je_next hd (by simp only [jv_ins, jv_stl, if_pos hk]; rfl)
theorem je_astore {k : Nat} {r : Option Nat} {ls' : jv_L} (hd : decode (jt_code M) pc = .ok (.astore k, 2)) (hp : pc + 2 = pc') (hk : k < ls.length) (hl : jv_st1 ls k (va_rf r) = ls') : jv_ev call M pc ls (va_rf r :: st) h = jv_ev call M pc' ls' st h := by
  subst hp; subst hl
  cases r <;> exact je_next hd (by simp only [jv_ins, jv_sta, if_pos hk, va_rf]; rfl)
theorem je_astore_n {k : Fin 4} {r : Option Nat} {ls' : jv_L} (hd : decode (jt_code M) pc = .ok (.astore_n k, 1)) (hp : pc + 1 = pc') (hk : (k : Nat) < ls.length) (hl : jv_st1 ls k (va_rf r) = ls') : jv_ev call M pc ls (va_rf r :: st) h = jv_ev call M pc' ls' st h := by
  subst hp; subst hl
  cases r <;> exact je_next hd (by simp only [jv_ins, jv_sta, if_pos hk, va_rf]; rfl)
theorem je_iinc {k : Nat} {n : Int} {x v : Int32} {ls' : jv_L} (hd : decode (jt_code M) pc = .ok (.iinc k n, 3)) (hp : pc + 3 = pc') (hx : ls[k]? = some (some (.int x))) (hv : x + Int32.ofInt n = v) (hl : jv_st1 ls k (.int v) = ls') : jv_ev call M pc ls st h = jv_ev call M pc' ls' st h := by
  subst hp; subst hv; subst hl
  have hk : k < ls.length := (List.getElem?_eq_some_iff.mp hx).1
  exact je_next hd (by simp only [jv_ins, hx, if_pos hk]; rfl)
theorem je_b2 {i : Instr} {f : Int32 → Int32 → Int32} {x y : Int32} (hd : decode (jt_code M) pc = .ok (i, 1)) (hp : pc + 1 = pc') (hi : ∀ st, jv_ins call M i 1 pc ls st h = jv_b2 f 1 pc ls st h) : jv_ev call M pc ls (.int y :: .int x :: st) h = jv_ev call M pc' ls (.int (f x y) :: st) h := by subst hp; exact je_next hd (by rw [hi]; rfl)
theorem je_l2 {i : Instr} {f : Int64 → Int64 → Int64} {x y : Int64} (hd : decode (jt_code M) pc = .ok (i, 1)) (hp : pc + 1 = pc') (hi : ∀ st, jv_ins call M i 1 pc ls st h = jv_l2 f 1 pc ls st h) : jv_ev call M pc ls (.long y :: .long x :: st) h = jv_ev call M pc' ls (.long (f x y) :: st) h := by subst hp; exact je_next hd (by rw [hi]; rfl)
theorem je_idiv {x y : Int32} (hd : decode (jt_code M) pc = .ok (.idiv, 1)) (hp : pc + 1 = pc') (hy : ¬ y = 0) : jv_ev call M pc ls (.int y :: .int x :: st) h = jv_ev call M pc' ls (.int (x / y) :: st) h := by subst hp; exact je_next hd (by simp only [jv_ins, if_neg hy]; rfl)
theorem je_irem {x y : Int32} (hd : decode (jt_code M) pc = .ok (.irem, 1)) (hp : pc + 1 = pc') (hy : ¬ y = 0) : jv_ev call M pc ls (.int y :: .int x :: st) h = jv_ev call M pc' ls (.int (x - x / y * y) :: st) h := by subst hp; exact je_next hd (by simp only [jv_ins, if_neg hy]; rfl)
theorem je_ldiv {x y : Int64} (hd : decode (jt_code M) pc = .ok (.ldiv, 1)) (hp : pc + 1 = pc') (hy : ¬ y = 0) : jv_ev call M pc ls (.long y :: .long x :: st) h = jv_ev call M pc' ls (.long (x / y) :: st) h := by subst hp; exact je_next hd (by simp only [jv_ins, if_neg hy]; rfl)
theorem je_lrem {x y : Int64} (hd : decode (jt_code M) pc = .ok (.lrem, 1)) (hp : pc + 1 = pc') (hy : ¬ y = 0) : jv_ev call M pc ls (.long y :: .long x :: st) h = jv_ev call M pc' ls (.long (x - x / y * y) :: st) h := by subst hp; exact je_next hd (by simp only [jv_ins, if_neg hy]; rfl)
theorem je_lneg {x : Int64} (hd : decode (jt_code M) pc = .ok (.lneg, 1)) (hp : pc + 1 = pc') : jv_ev call M pc ls (.long x :: st) h = jv_ev call M pc' ls (.long (-x) :: st) h := by subst hp; exact je_next hd rfl
theorem je_lshl {x : Int64} {y : Int32} (hd : decode (jt_code M) pc = .ok (.lshl, 1)) (hp : pc + 1 = pc') : jv_ev call M pc ls (.int y :: .long x :: st) h = jv_ev call M pc' ls (.long (x <<< (y.toInt64 &&& 63)) :: st) h := by subst hp; exact je_next hd rfl
theorem je_lshr {x : Int64} {y : Int32} (hd : decode (jt_code M) pc = .ok (.lshr, 1)) (hp : pc + 1 = pc') : jv_ev call M pc ls (.int y :: .long x :: st) h = jv_ev call M pc' ls (.long (x >>> (y.toInt64 &&& 63)) :: st) h := by subst hp; exact je_next hd rfl
theorem je_lcmp {x y : Int64} (hd : decode (jt_code M) pc = .ok (.lcmp, 1)) (hp : pc + 1 = pc') : jv_ev call M pc ls (.long y :: .long x :: st) h = jv_ev call M pc' ls (.int (lg_cmp x y) :: st) h := by subst hp; exact je_next hd rfl
theorem je_i2l {x : Int32} (hd : decode (jt_code M) pc = .ok (.i2l, 1)) (hp : pc + 1 = pc') : jv_ev call M pc ls (.int x :: st) h = jv_ev call M pc' ls (.long x.toInt64 :: st) h := by subst hp; exact je_next hd rfl
theorem je_l2i {x : Int64} (hd : decode (jt_code M) pc = .ok (.l2i, 1)) (hp : pc + 1 = pc') : jv_ev call M pc ls (.long x :: st) h = jv_ev call M pc' ls (.int x.toInt32 :: st) h := by subst hp; exact je_next hd rfl
theorem je_dup {v : Value} (hd : decode (jt_code M) pc = .ok (.dup, 1)) (hp : pc + 1 = pc') (hv : v.category = 1) : jv_ev call M pc ls (v :: st) h = jv_ev call M pc' ls (v :: v :: st) h := by subst hp; exact je_next hd (by simp only [jv_ins, if_pos hv]; rfl)
theorem je_dup2 {v w : Value} (hd : decode (jt_code M) pc = .ok (.dup2, 1)) (hp : pc + 1 = pc') (hv : v.category = 1) (hw : w.category = 1) : jv_ev call M pc ls (v :: w :: st) h = jv_ev call M pc' ls (v :: w :: v :: w :: st) h := by subst hp; exact je_next hd (by simp only [jv_ins, if_pos (And.intro hv hw)]; rfl)
theorem je_pop {v : Value} (hd : decode (jt_code M) pc = .ok (.pop, 1)) (hp : pc + 1 = pc') (hv : v.category = 1) : jv_ev call M pc ls (v :: st) h = jv_ev call M pc' ls st h := by subst hp; exact je_next hd (by simp only [jv_ins, if_pos hv]; rfl)
theorem je_pop2 {x : Int64} (hd : decode (jt_code M) pc = .ok (.pop2, 1)) (hp : pc + 1 = pc') : jv_ev call M pc ls (.long x :: st) h = jv_ev call M pc' ls st h := by subst hp; exact je_next hd rfl
theorem jv_go_eq {off : Int} {b : Bool} {t : Nat} (ht : (pc : Int) + off = (t : Int)) : jv_go pc off b ls st h = some (.inl (if b then t else pc + 3, ls, st, h)) := by
  have h1 : jv_to pc off = some t := by
    unfold jv_to
    rw [ht, if_pos (by omega)]
    rfl
  unfold jv_go
  rw [h1]
  rfl
theorem je_goto {off : Int} (hd : decode (jt_code M) pc = .ok (.goto off, 3)) (ht : (pc : Int) + off = (pc' : Int)) : jv_ev call M pc ls st h = jv_ev call M pc' ls st h := je_next hd (by
  show jv_len 3 3 (jv_go pc off true ls st h) = _
  rw [jv_go_eq ht]
  rfl)
theorem je_if {c : Prop} [Decidable c] {b : Bool} {t : Nat} (hb : b = decide c) : jv_ev call M (if b then t else pc') ls st h = if c then jv_ev call M t ls st h else jv_ev call M pc' ls st h := by
  subst hb
  by_cases hc : c <;> simp [hc]
theorem je_icmp {cd : ClassFile.Cond} {off : Int} {t : Nat} {x y : Int32} {c : Prop} [Decidable c] (hd : decode (jt_code M) pc = .ok (.if_icmp cd off, 3)) (ht : (pc : Int) + off = (t : Int)) (hp : pc + 3 = pc') (hb : jv_cmp cd x y = decide c) : jv_ev call M pc ls (.int y :: .int x :: st) h = if c then jv_ev call M t ls st h else jv_ev call M pc' ls st h := by
  subst hp
  rw [← je_if hb]
  refine je_next hd ?_
  show jv_len 3 3 (jv_go pc off (jv_cmp cd x y) ls st h) = _
  rw [jv_go_eq ht]
  rfl
theorem je_ifc {cd : ClassFile.Cond} {off : Int} {t : Nat} {x : Int32} {c : Prop} [Decidable c] (hd : decode (jt_code M) pc = .ok (.ifCond cd off, 3)) (ht : (pc : Int) + off = (t : Int)) (hp : pc + 3 = pc') (hb : jv_cmp cd x 0 = decide c) : jv_ev call M pc ls (.int x :: st) h = if c then jv_ev call M t ls st h else jv_ev call M pc' ls st h := by
  subst hp
  rw [← je_if hb]
  refine je_next hd ?_
  show jv_len 3 3 (jv_go pc off (jv_cmp cd x 0) ls st h) = _
  rw [jv_go_eq ht]
  rfl
theorem je_acmp_eq {off : Int} {t : Nat} {x y : Option Nat} (hd : decode (jt_code M) pc = .ok (.if_acmp .eq off, 3)) (ht : (pc : Int) + off = (t : Int)) (hp : pc + 3 = pc') : jv_ev call M pc ls (va_rf y :: va_rf x :: st) h = if x = y then jv_ev call M t ls st h else jv_ev call M pc' ls st h := by
  subst hp
  cases x with
  | none =>
    cases y with
    | none => rw [if_pos rfl]; exact je_next hd (by show jv_len 3 3 (jv_go pc off true ls st h) = _; rw [jv_go_eq ht]; rfl)
    | some y => rw [if_neg (by simp)]; exact je_next hd (by show jv_len 3 3 (jv_go pc off false ls st h) = _; rw [jv_go_eq ht]; rfl)
  | some x =>
    cases y with
    | none => rw [if_neg (by simp)]; exact je_next hd (by show jv_len 3 3 (jv_go pc off false ls st h) = _; rw [jv_go_eq ht]; rfl)
    | some y =>
      have h1 : jv_ev call M (if decide (x = y) = true then t else pc + 3) ls st h = if some x = some y then jv_ev call M t ls st h else jv_ev call M (pc + 3) ls st h := by
        by_cases hc : x = y <;> simp [hc]
      rw [← h1]
      exact je_next hd (by show jv_len 3 3 (jv_go pc off (decide (x = y)) ls st h) = _; rw [jv_go_eq ht]; rfl)
theorem je_acmp_ne {off : Int} {t : Nat} {x y : Option Nat} (hd : decode (jt_code M) pc = .ok (.if_acmp .ne off, 3)) (ht : (pc : Int) + off = (t : Int)) (hp : pc + 3 = pc') : jv_ev call M pc ls (va_rf y :: va_rf x :: st) h = if x = y then jv_ev call M pc' ls st h else jv_ev call M t ls st h := by
  subst hp
  cases x with
  | none =>
    cases y with
    | none => rw [if_pos rfl]; exact je_next hd (by show jv_len 3 3 (jv_go pc off false ls st h) = _; rw [jv_go_eq ht]; rfl)
    | some y => rw [if_neg (by simp)]; exact je_next hd (by show jv_len 3 3 (jv_go pc off true ls st h) = _; rw [jv_go_eq ht]; rfl)
  | some x =>
    cases y with
    | none => rw [if_neg (by simp)]; exact je_next hd (by show jv_len 3 3 (jv_go pc off true ls st h) = _; rw [jv_go_eq ht]; rfl)
    | some y =>
      have h1 : jv_ev call M (if decide (¬ x = y) = true then t else pc + 3) ls st h = if some x = some y then jv_ev call M (pc + 3) ls st h else jv_ev call M t ls st h := by
        by_cases hc : x = y <;> simp [hc]
      rw [← h1]
      exact je_next hd (by show jv_len 3 3 (jv_go pc off (decide (¬ x = y)) ls st h) = _; rw [jv_go_eq ht]; rfl)
theorem je_ifnull {off : Int} {t : Nat} {x : Option Nat} (hd : decode (jt_code M) pc = .ok (.ifnull off, 3)) (ht : (pc : Int) + off = (t : Int)) (hp : pc + 3 = pc') : jv_ev call M pc ls (va_rf x :: st) h = if x = none then jv_ev call M t ls st h else jv_ev call M pc' ls st h := by
  subst hp
  cases x with
  | none => rw [if_pos rfl]; exact je_next hd (by show jv_len 3 3 (jv_go pc off true ls st h) = _; rw [jv_go_eq ht]; rfl)
  | some y => rw [if_neg (by simp)]; exact je_next hd rfl
theorem je_ifnonnull {off : Int} {t : Nat} {x : Option Nat} (hd : decode (jt_code M) pc = .ok (.ifnonnull off, 3)) (ht : (pc : Int) + off = (t : Int)) (hp : pc + 3 = pc') : jv_ev call M pc ls (va_rf x :: st) h = if x = none then jv_ev call M pc' ls st h else jv_ev call M t ls st h := by
  subst hp
  cases x with
  | none => rw [if_pos rfl]; exact je_next hd rfl
  | some y => rw [if_neg (by simp)]; exact je_next hd (by show jv_len 3 3 (jv_go pc off true ls st h) = _; rw [jv_go_eq ht]; rfl)
theorem je_get {k ci f a : Nat} {v : Value} (hd : decode (jt_code M) pc = .ok (.getfield k, 3)) (hp : pc + 3 = pc') (hf : jt_f4 jt_fl (jt_own M) k = some (ci, f)) (hv : jv_gf h a ci f = some v) : jv_ev call M pc ls (.ref a :: st) h = jv_ev call M pc' ls (v :: st) h := by
  subst hp
  exact je_next hd (by simp only [jv_ins, hf, hv]; rfl)
theorem je_put {k ci f a : Nat} {v : Value} {h' : jv_H} (hd : decode (jt_code M) pc = .ok (.putfield k, 3)) (hp : pc + 3 = pc') (hf : jt_f4 jt_fl (jt_own M) k = some (ci, f)) (hfin : jt_ffin ci f = false ∨ (jt_kd M = 2 ∧ jt_own M = ci)) (hv : jv_pf h a ci f v = some h') : jv_ev call M pc ls (v :: .ref a :: st) h = jv_ev call M pc' ls st h' := by
  subst hp
  exact je_next hd (by simp only [jv_ins, hf, if_pos hfin, hv]; rfl)
theorem je_new {k ci : Nat} (hd : decode (jt_code M) pc = .ok (.new k, 3)) (hp : pc + 3 = pc') (hf : jt_f3 jt_nl (jt_own M) k = some ci) (hc : ci < jt_cl.length) : jv_ev call M pc ls st h = jv_ev call M pc' ls (.ref h.2.1 :: st) (jv_new h ci) := by
  subst hp
  exact je_next hd (by simp only [jv_ins, hf, if_pos hc]; rfl)
theorem je_newarray {t : ArrayType} {k n : Nat} {x : Int32} {v : Value} (hd : decode (jt_code M) pc = .ok (.newarray t, 2)) (hp : pc + 2 = pc') (hf : jt_at.idxOf? (newarray.typeOf t) = some k) (hk : ¬ k = jt_scr) (hx : ¬ x < 0) (hn : x.toNatClampNeg = n) (hl : n ≤ 100000) (hv : defaultValue (newarray.typeOf t) = v) : jv_ev call M pc ls (.int x :: st) h = jv_ev call M pc' ls (.ref h.2.1 :: st) (jv_newa h k n v) := by
  subst hp; subst hn; subst hv
  exact je_next hd (by simp only [jv_ins, hf, if_pos (And.intro hk (And.intro hx hl))]; rfl)
theorem je_anewarray {i ci k n : Nat} {x : Int32} (hd : decode (jt_code M) pc = .ok (.anewarray i, 3)) (hp : pc + 3 = pc') (hi : jt_f3 jt_nl (jt_own M) i = some ci) (hf : jt_at.idxOf? (.object (jt_cn ci)) = some k) (hk : ¬ k = jt_scr) (hx : ¬ x < 0) (hn : x.toNatClampNeg = n) (hl : n ≤ 100000) : jv_ev call M pc ls (.int x :: st) h = jv_ev call M pc' ls (.ref h.2.1 :: st) (jv_newa h k n .null) := by
  subst hp; subst hn
  exact je_next hd (by simp only [jv_ins, hi, hf, if_pos (And.intro hk (And.intro hx hl))]; rfl)
theorem je_alen {a n : Nat} (hd : decode (jt_code M) pc = .ok (.arraylength, 1)) (hp : pc + 1 = pc') (hn : jv_ln h a = some n) : jv_ev call M pc ls (.ref a :: st) h = jv_ev call M pc' ls (.int (Int32.ofNat n) :: st) h := by
  subst hp
  exact je_next hd (by simp only [jv_ins, hn]; rfl)
theorem je_iald {a : Nat} {j : Int32} {v : Value} (hd : decode (jt_code M) pc = .ok (.iaload, 1)) (hp : pc + 1 = pc') (hv : jv_al h a .int j = some v) : jv_ev call M pc ls (.int j :: .ref a :: st) h = jv_ev call M pc' ls (v :: st) h := by
  subst hp
  exact je_next hd (by simp only [jv_ins, hv]; rfl)
theorem je_lald {a : Nat} {j : Int32} {v : Value} (hd : decode (jt_code M) pc = .ok (.laload, 1)) (hp : pc + 1 = pc') (hv : jv_al h a .long j = some v) : jv_ev call M pc ls (.int j :: .ref a :: st) h = jv_ev call M pc' ls (v :: st) h := by
  subst hp
  exact je_next hd (by simp only [jv_ins, hv]; rfl)
theorem je_bald {a : Nat} {j : Int32} {v : Value} (hd : decode (jt_code M) pc = .ok (.baload, 1)) (hp : pc + 1 = pc') (hv : jv_al h a .boolean j = some v) : jv_ev call M pc ls (.int j :: .ref a :: st) h = jv_ev call M pc' ls (v :: st) h := by
  subst hp
  exact je_next hd (by simp only [jv_ins, hv]; rfl)
theorem je_aald {a : Nat} {j : Int32} {C : String} {v : Value} (hd : decode (jt_code M) pc = .ok (.aaload, 1)) (hp : pc + 1 = pc') (hk : jv_kn h a = some C) (hv : jv_al h a (.object C) j = some v) : jv_ev call M pc ls (.int j :: .ref a :: st) h = jv_ev call M pc' ls (v :: st) h := by
  subst hp
  exact je_next hd (by simp only [jv_ins, hk, hv]; rfl)
theorem je_iast {a : Nat} {j x : Int32} {h' : jv_H} (hd : decode (jt_code M) pc = .ok (.iastore, 1)) (hp : pc + 1 = pc') (hv : jv_as h a .int j (.int x) = some h') : jv_ev call M pc ls (.int x :: .int j :: .ref a :: st) h = jv_ev call M pc' ls st h' := by
  subst hp
  exact je_next hd (by simp only [jv_ins, hv]; rfl)
theorem je_last {a : Nat} {j : Int32} {x : Int64} {h' : jv_H} (hd : decode (jt_code M) pc = .ok (.lastore, 1)) (hp : pc + 1 = pc') (hv : jv_as h a .long j (.long x) = some h') : jv_ev call M pc ls (.long x :: .int j :: .ref a :: st) h = jv_ev call M pc' ls st h' := by
  subst hp
  exact je_next hd (by simp only [jv_ins, hv]; rfl)
theorem je_bast {a : Nat} {j x : Int32} {h' : jv_H} (hd : decode (jt_code M) pc = .ok (.bastore, 1)) (hp : pc + 1 = pc') (hv : jv_as h a .boolean j (narrow .boolean (.int x)) = some h') : jv_ev call M pc ls (.int x :: .int j :: .ref a :: st) h = jv_ev call M pc' ls st h' := by
  subst hp
  exact je_next hd (by simp only [jv_ins, hv]; rfl)
theorem je_aast {a : Nat} {j : Int32} {v : Value} {C : String} {h' : jv_H} (hd : decode (jt_code M) pc = .ok (.aastore, 1)) (hp : pc + 1 = pc') (hk : jv_kn h a = some C) (hA : jv_isA h C v = true) (hv : jv_as h a (.object C) j v = some h') : jv_ev call M pc ls (v :: .int j :: .ref a :: st) h = jv_ev call M pc' ls st h' := by
  subst hp
  exact je_next hd (by simp only [jv_ins, hk, if_pos hA, hv]; rfl)
theorem je_inv {y : Nat} {as rest : List Value} {r : Option Value} {h' : jv_H} (hw : jv_wide rest = true) (hc : call y as h = some (r, h')) : jv_inv call y 3 pc ls as rest h = some (.inl (pc + 3, ls, r.toList ++ rest, h')) := by
  unfold jv_inv
  rw [if_pos ⟨rfl, hw⟩, hc]
  rfl
theorem je_virt {k y b : Nat} {as rest : List Value} {r : Option Value} {h' : jv_H} (hd : decode (jt_code M) pc = .ok (.invokevirtual k, 3)) (hp : pc + 3 = pc') (hy : jt_inv (jt_own M) k = some y) (hk : jt_kd y = 0) (hn : as.length = jt_np y) (hcl : jv_cl h b = some (jt_own y)) (hw : jv_wide rest = true) (hc : call y (.ref b :: as) h = some (r, h')) : jv_ev call M pc ls (as.reverse ++ .ref b :: rest) h = jv_ev call M pc' ls (r.toList ++ rest) h' := by
  subst hp
  refine je_next hd ?_
  have h1 : (as.reverse ++ Value.ref b :: rest).drop (jt_np y) = .ref b :: rest := by rw [← hn, ← List.length_reverse, List.drop_left]
  have h2 : (as.reverse ++ Value.ref b :: rest).take (jt_np y) = as.reverse := by rw [← hn, ← List.length_reverse, List.take_left]
  simp only [jv_ins, hy, h1, h2, List.reverse_reverse]
  rw [if_pos ⟨hk, hcl, by simp [← hn]⟩]
  exact je_inv hw hc
theorem je_stat {k y : Nat} {as rest : List Value} {r : Option Value} {h' : jv_H} (hd : decode (jt_code M) pc = .ok (.invokestatic k, 3)) (hp : pc + 3 = pc') (hy : jt_inv (jt_own M) k = some y) (hk : jt_kd y = 1) (hn : as.length = jt_np y) (hw : jv_wide rest = true) (hc : call y as h = some (r, h')) : jv_ev call M pc ls (as.reverse ++ rest) h = jv_ev call M pc' ls (r.toList ++ rest) h' := by
  subst hp
  refine je_next hd ?_
  have h1 : (as.reverse ++ rest).drop (jt_np y) = rest := by rw [← hn, ← List.length_reverse, List.drop_left]
  have h2 : (as.reverse ++ rest).take (jt_np y) = as.reverse := by rw [← hn, ← List.length_reverse, List.take_left]
  simp only [jv_ins, hy, h1, h2, List.reverse_reverse]
  rw [if_pos ⟨hk, by simp [← hn]⟩]
  exact je_inv hw hc
theorem je_spec {k y b : Nat} {as rest : List Value} {r : Option Value} {h' : jv_H} (hd : decode (jt_code M) pc = .ok (.invokespecial k, 3)) (hp : pc + 3 = pc') (ho : jt_ob.contains (jt_own M, k) = false) (hy : jt_inv (jt_own M) k = some y) (hk : jt_kd y = 2) (hn : as.length = jt_np y) (hw : jv_wide rest = true) (hc : call y (.ref b :: as) h = some (r, h')) : jv_ev call M pc ls (as.reverse ++ .ref b :: rest) h = jv_ev call M pc' ls (r.toList ++ rest) h' := by
  subst hp
  refine je_next hd ?_
  have h1 : (as.reverse ++ Value.ref b :: rest).drop (jt_np y) = .ref b :: rest := by rw [← hn, ← List.length_reverse, List.drop_left]
  have h2 : (as.reverse ++ Value.ref b :: rest).take (jt_np y) = as.reverse := by rw [← hn, ← List.length_reverse, List.take_left]
  simp only [jv_ins, ho, hy, h1, h2, List.reverse_reverse, Bool.false_eq_true, if_false]
  rw [if_pos ⟨hk, by simp [← hn]⟩]
  exact je_inv hw hc
theorem je_obj {k b : Nat} {rest : List Value} (hd : decode (jt_code M) pc = .ok (.invokespecial k, 3)) (hp : pc + 3 = pc') (ho : jt_ob.contains (jt_own M, k) = true) (hw : jv_wide rest = true) : jv_ev call M pc ls (.ref b :: rest) h = jv_ev call M pc' ls rest h := by
  subst hp
  refine je_next hd ?_
  simp only [jv_ins, ho, hw, if_true]
  rfl
theorem je_iret {v : Int32} {ty : FieldType} (hd : decode (jt_code M) pc = .ok (.ireturn, 1)) (hr : jt_ret M = some ty) (hn : narrow ty (.int v) = .int v) (hf : fits ty (.int v) = true) : jv_ev call M pc ls [.int v] h = some (some (.int v), h) := je_end hd (by simp only [jv_ins, hr]; rw [if_pos ⟨trivial, hn, hf⟩])
theorem je_lret {v : Int64} (hd : decode (jt_code M) pc = .ok (.lreturn, 1)) (hr : jt_ret M = some .long) : jv_ev call M pc ls [.long v] h = some (some (.long v), h) := je_end hd (by simp only [jv_ins, hr]; rfl)
theorem je_aret {r : Option Nat} {C : String} (hd : decode (jt_code M) pc = .ok (.areturn, 1)) (hr : jt_ret M = some (.object C)) : jv_ev call M pc ls [va_rf r] h = some (some (va_rf r), h) := by
  cases r <;> exact je_end hd (by simp only [jv_ins, hr, va_rf]; rfl)
theorem je_ret (hd : decode (jt_code M) pc = .ok (.return_, 1)) (hr : jt_ret M = none) : jv_ev call M pc ls [] h = some (none, h) := je_end hd (by simp only [jv_ins, hr]; rfl)
end JE
theorem jv_run_eq {d y : Nat} {as : List Value} {h : jv_H} {ls : jv_L} (hl : (jv_sl as).length ≤ jt_maxL y) (he : jv_ent y as = ls) : jv_run (d + 1) y as h = jv_ev (jv_run d) y 0 ls [] h := by
  subst he
  exact if_pos hl
theorem jv_is2_i {x : Int32} : jv_is2 (some (some (.int x))) = false := rfl
theorem jv_is2_r {a : Nat} : jv_is2 (some (some (.ref a))) = false := rfl
theorem jv_is2_n : jv_is2 (some none) = false := rfl
theorem jv_tab {x : Int32} {lo hi : Nat} (h : ∀ k : Nat, lo ≤ k → k ≤ hi → ¬ x = nI k) (hh : hi < 2 ^ 31) : x.toInt < (lo : Int) ∨ (hi : Int) < x.toInt := by
  rcases Int.lt_or_le x.toInt lo with q | q
  · exact Or.inl q
  · rcases Int.lt_or_le hi x.toInt with r | r
    · exact Or.inr r
    · obtain ⟨j, hj, rfl⟩ := nI_of (x := x) (fun hx => by
        have h1 : x.toInt < (0 : Int32).toInt := Int32.lt_iff_toInt_lt.mp hx
        have h2 : (0 : Int32).toInt = 0 := by decide
        omega)
      rw [nI_toInt hj] at q r
      exact absurd rfl (h j (by omega) (by omega))
theorem jd_i {x : Int32} : ¬ jv_is2 (some (some (Value.int x))) = true := Bool.false_ne_true
theorem jd_r {x : Nat} : ¬ jv_is2 (some (some (Value.ref x))) = true := Bool.false_ne_true
theorem jd_f {r : Option Nat} : ¬ jv_is2 (some (some (va_rf r))) = true := by cases r <;> exact Bool.false_ne_true
theorem jd_n : ¬ jv_is2 (some none) = true := Bool.false_ne_true
end
section
/-! a checker of types over the abstract machine's code: where it says yes, a method returns in every heap whose cells have their types -/
/-- a type: ints between two bounds; longs (true) or null alone (false); references to cells of a role (true: never null) -/
abbrev jk_T : Type := (Int × Int) ⊕ (Bool ⊕ (Nat × Bool))
/-- a role: objects of a class with their fields' types; arrays of a kind, of at least so many elements of a type -/
abbrev jk_D : Type := (Nat × List jk_T) ⊕ (Nat × Nat × jk_T)
abbrev jk_R : Type := Nat → Option Nat
abbrev jk_AL : Type := List (Option (jk_T × Option Int))
abbrev jk_AS : Type := List (jk_T × Option Nat)
abbrev jk_A : Type := Nat × jk_AL × jk_AS
def jk_V (ρ : jk_R) (t : jk_T) (v : Value) : Prop := match t with
  | .inl b => ∃ x : Int32, v = .int x ∧ b.1 ≤ x.toInt ∧ x.toInt ≤ b.2
  | .inr (.inl true) => ∃ x : Int64, v = .long x
  | .inr (.inl false) => v = .null
  | .inr (.inr r) => (r.2 = false ∧ v = .null) ∨ ∃ a, v = .ref a ∧ ρ a = some r.1
def jk_Vs (ρ : jk_R) : List jk_T → List Value → Prop
  | [], [] => True
  | t :: ts, v :: vs => jk_V ρ t v ∧ jk_Vs ρ ts vs
  | _, _ => False
def jk_C (ρ : jk_R) (d : jk_D) (c : jv_C) : Prop := match d, c with
  | .inl (ci, ts), .inl (ci', fs) => ci' = ci ∧ jk_Vs ρ ts fs
  | .inr (kd, lo, t), .inr (kd', n, f) => kd' = kd ∧ lo ≤ n ∧ n ≤ 100000 ∧ ∀ i, jk_V ρ t (f i)
  | _, _ => False
def jk_Ok (RT : List jk_D) (ρ : jk_R) (h : jv_H) : Prop := ∀ a q, ρ a = some q → ∃ d c, RT[q]? = some d ∧ h.1 a = some c ∧ jk_C ρ d c
def jk_sm (p : Nat → Bool) (c c' : jv_C) : Prop := match c, c' with
  | .inl (ci, fs), .inl (ci', fs') => ci' = ci ∧ fs'.length = fs.length ∧ ∀ k, p k = true → fs'[k]? = fs[k]?
  | .inr (kd, n, f), .inr (kd', n', f') => kd' = kd ∧ n' = n ∧ (p 0 = true → f' = f)
  | _, _ => False
/-- nothing is made, nothing without a role is touched, nothing that is kept is changed -/
def jk_Fr (pr : Nat → Nat → Bool) (ρ : jk_R) (h h' : jv_H) : Prop := h'.2 = h.2 ∧ (∀ a, ρ a = none → h'.1 a = h.1 a) ∧ ∀ a q c, ρ a = some q → h.1 a = some c → ∃ c', h'.1 a = some c' ∧ jk_sm (pr q) c c'
theorem jk_sm_rf {p : Nat → Bool} (c : jv_C) : jk_sm p c c := by
  rcases c with ⟨ci, fs⟩ | ⟨kd, n, f⟩
  · exact ⟨rfl, rfl, fun _ _ => rfl⟩
  · exact ⟨rfl, rfl, fun _ => rfl⟩
theorem jk_sm_tr {p : Nat → Bool} {a b c : jv_C} (h1 : jk_sm p a b) (h2 : jk_sm p b c) : jk_sm p a c := by
  rcases a with ⟨ci, fs⟩ | ⟨kd, n, f⟩ <;> rcases b with ⟨ci', fs'⟩ | ⟨kd', n', f'⟩ <;> rcases c with ⟨ci2, fs2⟩ | ⟨kd2, n2, f2⟩ <;> simp only [jk_sm] at h1 h2 ⊢
  · exact ⟨h2.1.trans h1.1, h2.2.1.trans h1.2.1, fun k hk => (h2.2.2 k hk).trans (h1.2.2 k hk)⟩
  · exact ⟨h2.1.trans h1.1, h2.2.1.trans h1.2.1, fun hk => (h2.2.2 hk).trans (h1.2.2 hk)⟩
theorem jk_Fr_rf {pr : Nat → Nat → Bool} {ρ : jk_R} (h : jv_H) : jk_Fr pr ρ h h := ⟨rfl, fun _ _ => rfl, fun _ _ c _ hc => ⟨c, hc, jk_sm_rf c⟩⟩
theorem jk_Fr_tr {pr : Nat → Nat → Bool} {ρ : jk_R} {a b c : jv_H} (h1 : jk_Fr pr ρ a b) (h2 : jk_Fr pr ρ b c) : jk_Fr pr ρ a c := by
  refine ⟨h2.1.trans h1.1, fun q hq => (h2.2.1 q hq).trans (h1.2.1 q hq), fun q r x hq hx => ?_⟩
  obtain ⟨x1, e1, s1⟩ := h1.2.2 q r x hq hx
  obtain ⟨x2, e2, s2⟩ := h2.2.2 q r x1 hq e1
  exact ⟨x2, e2, jk_sm_tr s1 s2⟩
def jk_x (ls : jv_L) (i : Nat) : Int := match ls[i]? with
  | some (some (.int x)) => x.toInt
  | _ => 0
/-- locals that have their types; δ: how much more than at the start -/
def jk_L (ρ : jk_R) (l0 : jv_L) (al : jk_AL) (ls : jv_L) : Prop := ls.length = al.length ∧ ∀ i t δ, al[i]? = some (some (t, δ)) → ∃ v, ls[i]? = some (some v) ∧ jk_V ρ t v ∧ ∀ d, δ = some d → jk_x ls i = jk_x l0 i + d
def jk_S (ρ : jk_R) (ls : jv_L) : jk_AS → List Value → Prop
  | [], [] => True
  | a :: as, v :: vs => jk_V ρ a.1 v ∧ (∀ i, a.2 = some i → ls[i]? = some (some v)) ∧ jk_S ρ ls as vs
  | _, _ => False
def jk_Rt (ρ : jk_R) (rt : Option jk_T) (r : Option Value) : Prop := match rt, r with
  | none, none => True
  | some t, some v => jk_V ρ t v
  | _, _ => False
def jk_Gd (RT : List jk_D) (pr : Nat → Nat → Bool) (rt : Option jk_T) (ρ : jk_R) (h : jv_H) (o : Option jv_Z) : Prop := ∃ r h', o = some (r, h') ∧ jk_Ok RT ρ h' ∧ jk_Fr pr ρ h h' ∧ jk_Rt ρ rt r
abbrev jk_G : Type := Nat → Option (List jk_T × Option jk_T)
/-- a method keeps its types: called with arguments of its types, it returns, with an answer of its type, and the heap keeps its types -/
def jk_Sp (RT : List jk_D) (pr : Nat → Nat → Bool) (sg : jk_G) (call : jv_F) (y : Nat) : Prop := ∀ ats rt, sg y = some (ats, rt) → ∀ (ρ : jk_R) (h : jv_H) (as : List Value), jk_Ok RT ρ h → jk_Vs ρ ats as → jk_Gd RT pr rt ρ h (call y as h)
/-! the checker -/
def jk_top : jk_T := .inl (-2147483648, 2147483647)
def jk_lg : jk_T := .inr (.inl true)
def jk_nu : jk_T := .inr (.inl false)
def jk_rg (lo hi : Int) : jk_T := if decide (-2147483648 ≤ lo) && decide (hi ≤ 2147483647) then .inl (lo, hi) else jk_top
def jk_sub (s t : jk_T) : Bool := match s, t with
  | .inl a, .inl b => decide (b.1 ≤ a.1) && decide (a.2 ≤ b.2)
  | .inr (.inl a), .inr (.inl b) => a == b
  | .inr (.inl false), .inr (.inr b) => !b.2
  | .inr (.inr a), .inr (.inr b) => a.1 == b.1 && (a.2 || !b.2)
  | _, _ => false
def jk_subs : List jk_T → List jk_T → Bool
  | [], [] => true
  | s :: ss, t :: ts => jk_sub s t && jk_subs ss ts
  | _, _ => false
def jk_kd (t : jk_T) : Nat := match t with
  | .inl _ => 0
  | .inr (.inl true) => 1
  | _ => 2
def jk_w (t : jk_T) : Nat := match t with
  | .inr (.inl true) => 2
  | _ => 1
def jk_fit (f : FieldType) (t : jk_T) : Bool := match f, t with
  | .int, .inl _ => true
  | .boolean, .inl b => decide (0 ≤ b.1) && decide (b.2 ≤ 1)
  | .long, .inr (.inl true) => true
  | .object _, .inr (.inl false) => true
  | .object _, .inr (.inr _) => true
  | .array _, .inr (.inl false) => true
  | .array _, .inr (.inr _) => true
  | _, _ => false
def jk_ps (n k pc : Nat) (al : jk_AL) (as : jk_AS) (t : jk_T) (s : Option Nat) : Option (List jk_A) := if n == k then some [(pc + k, al, (t, s) :: as)] else none
def jk_ld (w n k pc : Nat) (al : jk_AL) (i : Nat) (as : jk_AS) : Option (List jk_A) := match al[i]? with
  | some (some (t, _)) => if jk_kd t == w then jk_ps n k pc al as t (some i) else none
  | _ => none
def jk_ns (as : jk_AS) : jk_AS := as.map fun a => (a.1, none)
def jk_is2 (o : Option (Option (jk_T × Option Int))) : Bool := match o with
  | some (some (.inr (.inl true), _)) => true
  | _ => false
def jk_kl (al : jk_AL) (i : Nat) : jk_AL := match i with
  | 0 => al
  | j + 1 => if jk_is2 al[j]? then al.set j none else al
def jk_so (w n k pc : Nat) (al : jk_AL) (i : Nat) (as : jk_AS) : Option (List jk_A) := match as with
  | (t, _) :: as => if jk_kd t == w && decide (i < al.length) && n == k then some [(pc + k, (jk_kl al i).set i (some (t, none)), jk_ns as)] else none
  | _ => none
def jk_so2 (n k pc : Nat) (al : jk_AL) (i : Nat) (as : jk_AS) : Option (List jk_A) := match as with
  | (t, _) :: as => if jk_kd t == 1 && decide (i + 1 < al.length) && n == k then some [(pc + k, ((jk_kl al i).set i (some (t, none))).set (i + 1) none, jk_ns as)] else none
  | _ => none
def jk_o2 (f : Int × Int → Int × Int → Option jk_T) (n pc : Nat) (al : jk_AL) (as : jk_AS) : Option (List jk_A) := match as with
  | (.inl y, _) :: (.inl x, _) :: as => match f x y with
    | some t => jk_ps n 1 pc al as t none
    | none => none
  | _ => none
def jk_l2 (n pc : Nat) (al : jk_AL) (as : jk_AS) : Option (List jk_A) := match as with
  | (.inr (.inl true), _) :: (.inr (.inl true), _) :: as => jk_ps n 1 pc al as jk_lg none
  | _ => none
def jk_fadd (x y : Int × Int) : Option jk_T := some (jk_rg (x.1 + y.1) (x.2 + y.2))
def jk_fsub (x y : Int × Int) : Option jk_T := some (jk_rg (x.1 - y.2) (x.2 - y.1))
def jk_fmul (x y : Int × Int) : Option jk_T := if decide (0 ≤ x.1) && decide (0 ≤ y.1) then some (jk_rg (x.1 * y.1) (x.2 * y.2)) else some jk_top
def jk_fand (x y : Int × Int) : Option jk_T := if decide (0 ≤ y.1) then some (.inl (0, y.2)) else if decide (0 ≤ x.1) then some (.inl (0, x.2)) else some jk_top
def jk_fany (_ _ : Int × Int) : Option jk_T := some jk_top
def jk_fdiv (x y : Int × Int) : Option jk_T := if y.1 == y.2 && decide (0 < y.1) && decide (0 ≤ x.1) then some (.inl (x.1 / y.1, x.2 / y.1)) else if decide (0 < y.1) then some jk_top else none
def jk_frem (_ y : Int × Int) : Option jk_T := if decide (0 < y.1) then some jk_top else none
def jk_cut (c : ClassFile.Cond) (x y : Int × Int) : Int × Int := match c with
  | .eq => (max x.1 y.1, min x.2 y.2)
  | .ne => if y.1 == y.2 then (if x.1 == y.1 then (x.1 + 1, x.2) else if x.2 == y.1 then (x.1, x.2 - 1) else x) else x
  | .lt => (x.1, min x.2 (y.2 - 1))
  | .ge => (max x.1 y.1, x.2)
  | .gt => (max x.1 (y.1 + 1), x.2)
  | .le => (x.1, min x.2 y.2)
def jk_flip (c : ClassFile.Cond) : ClassFile.Cond := match c with
  | .eq => .eq
  | .ne => .ne
  | .lt => .gt
  | .ge => .le
  | .gt => .lt
  | .le => .ge
def jk_neg (c : ClassFile.Cond) : ClassFile.Cond := match c with
  | .eq => .ne
  | .ne => .eq
  | .lt => .ge
  | .ge => .lt
  | .gt => .le
  | .le => .gt
def jk_nar (al : jk_AL) (s : Option Nat) (t : jk_T) : jk_AL := match s with
  | some i => match al[i]? with
    | some (some (_, δ)) => al.set i (some (t, δ))
    | _ => al
  | none => al
def jk_bs (c : ClassFile.Cond) (t : Nat) (al : jk_AL) (as : jk_AS) (x : Int × Int) (sx : Option Nat) (y : Int × Int) (sy : Option Nat) : List jk_A :=
  if decide ((jk_cut c x y).2 < (jk_cut c x y).1) || decide ((jk_cut (jk_flip c) y x).2 < (jk_cut (jk_flip c) y x).1) then [] else [(t, jk_nar (jk_nar al sx (.inl (jk_cut c x y))) sy (.inl (jk_cut (jk_flip c) y x)), as)]
def jk_cj (c : ClassFile.Cond) (n pc : Nat) (off : Int) (al : jk_AL) (as : jk_AS) (x : Int × Int) (sx : Option Nat) (y : Int × Int) (sy : Option Nat) : Option (List jk_A) := if n == 3 then match jv_to pc off with
    | some t => some (jk_bs c t al as x sx y sy ++ jk_bs (jk_neg c) (pc + 3) al as x sx y sy)
    | none => none
  else none
def jk_gt (pc : Nat) (off : Int) (al : jk_AL) (as : jk_AS) : List jk_A := match jv_to pc off with
  | some t => [(t, al, as)]
  | none => []
def jk_ob (RT : List jk_D) (t : jk_T) : Option (Nat × Nat × List jk_T) := match t with
  | .inr (.inr (q, true)) => match RT[q]? with
    | some (.inl (ci, ts)) => some (q, ci, ts)
    | _ => none
  | _ => none
def jk_ar (RT : List jk_D) (t : jk_T) : Option (Nat × Nat × Nat × jk_T) := match t with
  | .inr (.inr (q, true)) => match RT[q]? with
    | some (.inr (kd, lo, e)) => some (q, kd, lo, e)
    | _ => none
  | _ => none
def jk_isA (RT : List jk_D) (C : String) (t : jk_T) : Bool := match t with
  | .inr (.inl false) => true
  | .inr (.inr (q, _)) => match RT[q]? with
    | some (.inl (ci, _)) => match jt_cl[ci]? with
      | some r => decide (r.1 = C)
      | none => false
    | _ => false
  | _ => false
def jk_oA (RT : List jk_D) (ty : FieldType) (v : jk_T) : Bool := match ty with
  | .object C => jk_isA RT C v
  | _ => true
/-- an element is read: the row's element's type must be that of the instruction -/
def jk_al (RT : List jk_D) (p : FieldType → Bool) (w n pc : Nat) (al : jk_AL) (as : jk_AS) : Option (List jk_A) := match as with
  | (.inl j, _) :: (a, _) :: as => match jk_ar RT a with
    | some (_, kd, lo, e) => match jt_at[kd]? with
      | some ty => if p ty && jk_kd e == w && !(kd == jt_scr) && decide (0 ≤ j.1) && decide (j.2 < lo) then jk_ps n 1 pc al as e none else none
      | none => none
    | none => none
  | _ => none
def jk_as (RT : List jk_D) (pr : Nat → Nat → Bool) (p : FieldType → Bool) (n pc : Nat) (al : jk_AL) (as : jk_AS) : Option (List jk_A) := match as with
  | (v, _) :: (.inl j, _) :: (a, _) :: as => match jk_ar RT a with
    | some (q, kd, lo, e) => match jt_at[kd]? with
      | some ty => if p ty && jk_sub v e && jk_fit ty v && !(kd == jt_scr) && !(pr q 0) && decide (0 ≤ j.1) && decide (j.2 < lo) && jk_oA RT ty v && n == 1 then some [(pc + 1, al, as)] else none
      | none => none
    | none => none
  | _ => none
/-- a call: y's arguments, first on the bottom -/
def jk_cl (sg : jk_G) (n pc y : Nat) (al : jk_AL) (args rest : jk_AS) : Option (List jk_A) := match sg y with
  | some (ats, rt) => if n == 3 && jk_subs ((args.map fun a => a.1)) ats && decide (((rest.map fun a => jk_w a.1).sum) ≤ 8) then match rt with
      | some t => some [(pc + 3, al, (t, none) :: rest)]
      | none => some [(pc + 3, al, rest)]
    else none
  | none => none
def jk_isI (t : FieldType) : Bool := match t with | .int => true | _ => false
def jk_isJ (t : FieldType) : Bool := match t with | .long => true | _ => false
def jk_isZ (t : FieldType) : Bool := match t with | .boolean => true | _ => false
def jk_isO (t : FieldType) : Bool := match t with | .object _ => true | _ => false
def jk_ins (RT : List jk_D) (pr : Nat → Nat → Bool) (sg : jk_G) (rt : Option jk_T) (M : Nat) (i : Instr) (n pc : Nat) (al : jk_AL) (as : jk_AS) : Option (List jk_A) :=
  match i with
  | .aconst_null => jk_ps n 1 pc al as jk_nu none
  | .iconst v => jk_ps n 1 pc al as (.inl ((Int32.ofInt v).toInt, (Int32.ofInt v).toInt)) none
  | .bipush v => jk_ps n 2 pc al as (.inl ((Int8.ofInt v).toInt32.toInt, (Int8.ofInt v).toInt32.toInt)) none
  | .sipush v => jk_ps n 3 pc al as (.inl ((Int16.ofInt v).toInt32.toInt, (Int16.ofInt v).toInt32.toInt)) none
  | .lconst _ => jk_ps n 1 pc al as jk_lg none
  | .ldc k => match jt_f3 jt_ki (jt_own M) k with
    | some v => jk_ps n 2 pc al as (.inl (v.toInt, v.toInt)) none
    | none => none
  | .ldc2_w k => match jt_f3 jt_kj (jt_own M) k with
    | some _ => jk_ps n 3 pc al as jk_lg none
    | none => none
  | .iload k => jk_ld 0 n 2 pc al k as
  | .iload_n k => jk_ld 0 n 1 pc al k as
  | .lload k => jk_ld 1 n 2 pc al k as
  | .lload_n k => jk_ld 1 n 1 pc al k as
  | .aload k => jk_ld 2 n 2 pc al k as
  | .aload_n k => jk_ld 2 n 1 pc al k as
  | .istore k => jk_so 0 n 2 pc al k as
  | .istore_n k => jk_so 0 n 1 pc al k as
  | .lstore k => jk_so2 n 2 pc al k as
  | .lstore_n k => jk_so2 n 1 pc al k as
  | .astore k => jk_so 2 n 2 pc al k as
  | .astore_n k => jk_so 2 n 1 pc al k as
  | .iinc k c => match al[k]? with
    | some (some (.inl b, δ)) => if n == 3 && decide (-1000 ≤ c) && decide (c ≤ 1000) then (if decide (-2147483648 ≤ b.1 + c) && decide (b.2 + c ≤ 2147483647) then some [(pc + 3, (jk_kl al k).set k (some (.inl (b.1 + c, b.2 + c), δ.map fun d => d + c)), jk_ns as)] else some [(pc + 3, (jk_kl al k).set k (some (jk_top, none)), jk_ns as)]) else none
    | _ => none
  | .iadd => jk_o2 jk_fadd n pc al as
  | .isub => jk_o2 jk_fsub n pc al as
  | .imul => jk_o2 jk_fmul n pc al as
  | .iand => jk_o2 jk_fand n pc al as
  | .ixor => jk_o2 jk_fany n pc al as
  | .ishl => jk_o2 jk_fany n pc al as
  | .ishr => jk_o2 jk_fany n pc al as
  | .idiv => jk_o2 jk_fdiv n pc al as
  | .irem => jk_o2 jk_frem n pc al as
  | .ladd => jk_l2 n pc al as
  | .lsub => jk_l2 n pc al as
  | .lmul => jk_l2 n pc al as
  | .land => jk_l2 n pc al as
  | .lor => jk_l2 n pc al as
  | .lneg => match as with
    | (.inr (.inl true), _) :: as => jk_ps n 1 pc al as jk_lg none
    | _ => none
  | .lshl => match as with
    | (.inl _, _) :: (.inr (.inl true), _) :: as => jk_ps n 1 pc al as jk_lg none
    | _ => none
  | .lshr => match as with
    | (.inl _, _) :: (.inr (.inl true), _) :: as => jk_ps n 1 pc al as jk_lg none
    | _ => none
  | .lcmp => match as with
    | (.inr (.inl true), _) :: (.inr (.inl true), _) :: as => jk_ps n 1 pc al as jk_top none
    | _ => none
  | .i2l => match as with
    | (.inl _, _) :: as => jk_ps n 1 pc al as jk_lg none
    | _ => none
  | .l2i => match as with
    | (.inr (.inl true), _) :: as => jk_ps n 1 pc al as jk_top none
    | _ => none
  | .dup => match as with
    | (t, s) :: as => if jk_w t == 1 then jk_ps n 1 pc al ((t, s) :: as) t s else none
    | _ => none
  | .dup2 => match as with
    | (t, s) :: (u, r) :: as => if jk_w t == 1 && jk_w u == 1 && n == 1 then some [(pc + 1, al, (t, s) :: (u, r) :: (t, s) :: (u, r) :: as)] else none
    | _ => none
  | .pop => match as with
    | (t, _) :: as => if jk_w t == 1 && n == 1 then some [(pc + 1, al, as)] else none
    | _ => none
  | .goto off => match jv_to pc off with
    | some t => if n == 3 then some [(t, al, as)] else none
    | none => none
  | .if_icmp c off => match as with
    | (.inl y, sy) :: (.inl x, sx) :: as => jk_cj c n pc off al as x sx y sy
    | _ => none
  | .ifCond c off => match as with
    | (.inl x, sx) :: as => jk_cj c n pc off al as x sx (0, 0) none
    | _ => none
  | .if_acmp _ off => match as with
    | (y, _) :: (x, _) :: as => if jk_kd y == 2 && jk_kd x == 2 && n == 3 then match jv_to pc off with
        | some t => some [(t, al, as), (pc + 3, al, as)]
        | none => none
      else none
    | _ => none
  | .ifnull off => match as with
    | (.inr (.inl false), _) :: as => match jv_to pc off with
      | some t => if n == 3 then some [(t, al, as)] else none
      | none => none
    | (.inr (.inr (q, nn)), s) :: as => match jv_to pc off with
      | some t => if n == 3 then some ((if nn then [] else [(t, al, as)]) ++ [(pc + 3, jk_nar al s (.inr (.inr (q, true))), as)]) else none
      | none => none
    | _ => none
  | .ifnonnull off => match as with
    | (.inr (.inl false), _) :: as => if n == 3 then some [(pc + 3, al, as)] else none
    | (.inr (.inr (q, nn)), s) :: as => match jv_to pc off with
      | some t => if n == 3 then some ((if nn then [] else [(pc + 3, al, as)]) ++ [(t, jk_nar al s (.inr (.inr (q, true))), as)]) else none
      | none => none
    | _ => none
  | .tableswitch dflt lo hi offs => match as with
    | (.inl x, _) :: as => if decide ((offs.size : Int) = hi - lo + 1) && (jv_to pc dflt).isSome && offs.toList.all (fun off => (jv_to pc off).isSome) then some ((if decide (x.1 < lo) || decide (hi < x.2) then jk_gt pc dflt al as else []) ++ offs.toList.zipIdx.flatMap fun q => if decide (x.1 ≤ lo + q.2) && decide (lo + q.2 ≤ x.2) then jk_gt pc q.1 al as else []) else none
    | _ => none
  | .lookupswitch dflt ps => match as with
    | (.inl x, _) :: as => if (ps.toList.zip (ps.toList.drop 1)).all (fun (a, next) => a.1 < next.1) && (jv_to pc dflt).isSome && ps.toList.all (fun q => (jv_to pc q.2).isSome) then some (jk_gt pc dflt al as ++ ps.toList.flatMap fun q => if decide (x.1 ≤ q.1) && decide (q.1 ≤ x.2) then jk_gt pc q.2 al as else []) else none
    | _ => none
  | .getfield k => match as with
    | (a, _) :: as => match jk_ob RT a, jt_f4 jt_fl (jt_own M) k with
      | some (_, ci, ts), some (ci', f) => match ts[f]? with
        | some t => if ci == ci' then jk_ps n 3 pc al as t none else none
        | none => none
      | _, _ => none
    | _ => none
  | .putfield k => match as with
    | (v, _) :: (a, _) :: as => match jk_ob RT a, jt_f4 jt_fl (jt_own M) k with
      | some (q, ci, ts), some (ci', f) => match ts[f]? with
        | some t => if ci == ci' && jk_sub v t && jk_fit (jt_fty ci f) v && !(pr q f) && !(jt_ffin ci f) && n == 3 then some [(pc + 3, al, as)] else none
        | none => none
      | _, _ => none
    | _ => none
  | .arraylength => match as with
    | (a, _) :: as => match jk_ar RT a with
      | some (_, _, lo, _) => jk_ps n 1 pc al as (.inl ((lo : Int), 100000)) none
      | none => none
    | _ => none
  | .iaload => jk_al RT jk_isI 0 n pc al as
  | .laload => jk_al RT jk_isJ 1 n pc al as
  | .baload => jk_al RT jk_isZ 0 n pc al as
  | .aaload => jk_al RT jk_isO 2 n pc al as
  | .iastore => jk_as RT pr jk_isI n pc al as
  | .lastore => jk_as RT pr jk_isJ n pc al as
  | .bastore => jk_as RT pr jk_isZ n pc al as
  | .aastore => jk_as RT pr jk_isO n pc al as
  | .invokevirtual k => match jt_inv (jt_own M) k with
    | some y => match as.drop (jt_np y) with
      | (b, s) :: rest => match jk_ob RT b with
        | some (_, ci, _) => if jt_kd y == 0 && ci == jt_own y then jk_cl sg n pc y al ((b, s) :: (as.take (jt_np y)).reverse) rest else none
        | none => none
      | _ => none
    | none => none
  | .invokestatic k => match jt_inv (jt_own M) k with
    | some y => if jt_kd y == 1 && decide (jt_np y ≤ as.length) then jk_cl sg n pc y al (as.take (jt_np y)).reverse (as.drop (jt_np y)) else none
    | none => none
  | .ireturn => match as, jt_ret M, rt with
    | [(v, _)], some ty, some t => if n == 1 && jk_kd v == 0 && jk_sub v t && jk_fit ty v then some [] else none
    | _, _, _ => none
  | .lreturn => match as, jt_ret M, rt with
    | [(v, _)], some ty, some t => if n == 1 && jk_kd v == 1 && jk_sub v t && jk_isJ ty then some [] else none
    | _, _, _ => none
  | .areturn => match as, jt_ret M, rt with
    | [(v, _)], some ty, some t => if n == 1 && jk_kd v == 2 && jk_sub v t && jk_isO ty then some [] else none
    | _, _, _ => none
  | .return_ => match as, jt_ret M, rt with
    | [], none, none => if n == 1 then some [] else none
    | _, _, _ => none
  | _ => none
/-! where a way comes back to: a place, its locals' types, and a number that falls (c less a sum of locals) -/
abbrev jk_N : Type := Nat × List (Option jk_T) × Int × List (Nat × Int)
def jk_0 (ts : List (Option jk_T)) : jk_AL := ts.map fun o => o.map fun t => (t, some 0)
def jk_sL : jk_AL → List (Option jk_T) → Bool
  | [], [] => true
  | _ :: al, none :: ts => jk_sL al ts
  | some (s, _) :: al, some t :: ts => jk_sub s t && jk_sL al ts
  | _, _ => false
def jk_tm (ts : List (Option jk_T)) (al : jk_AL) (k : Nat) (a a' : Int) : Option Int :=
  if a == 0 && a' == 0 then some 0 else
  match al[k]? with
  | some (some (.inl b', some d)) => if a == a' then some (a * d) else match ts[k]? with
    | some (some (.inl b)) => if decide (0 ≤ a) && decide (0 ≤ a') then some (a' * b'.1 - a * b.2) else none
    | _ => if a == 0 && decide (0 ≤ a') then some (a' * b'.1) else none
  | some (some (.inl b', none)) => match ts[k]? with
    | some (some (.inl b)) => if decide (0 ≤ a) && decide (0 ≤ a') then some (a' * b'.1 - a * b.2) else none
    | _ => if a == 0 && decide (0 ≤ a') then some (a' * b'.1) else none
  | _ => match ts[k]? with
    | some (some (.inl b)) => if a' == 0 && decide (0 ≤ a) then some (- a * b.2) else none
    | _ => none
def jk_lw (ts : List (Option jk_T)) (al : jk_AL) : List (Nat × Int) → List (Nat × Int) → Option Int
  | [], [] => some 0
  | (k, a) :: s, (k', a') :: t => if k == k' then match jk_tm ts al k a a', jk_lw ts al s t with
      | some x, some y => some (x + y)
      | _, _ => none
    else none
  | _, _ => none
/-- the number falls -/
def jk_fall (e : jk_N) (al : jk_AL) (e' : jk_N) : Bool := match jk_lw e.2.1 al e.2.2.2 e'.2.2.2 with
  | some x => decide (1 ≤ e.2.2.1 - e'.2.2.1 + x)
  | none => false
/-- the number is not below 0 -/
def jk_pos (e : jk_N) : Bool := match jk_lw e.2.1 [] e.2.2.2 (e.2.2.2.map fun q => (q.1, 0)) with
  | some x => decide (0 ≤ e.2.2.1 + x)
  | none => false
def jk_go (RT : List jk_D) (pr : Nat → Nat → Bool) (sg : jk_G) (rt : Option jk_T) (M : Nat) (an : List jk_N) (e : jk_N) : Nat → jk_A → Bool
  | 0, _ => false
  | f + 1, (pc, al, as) => match decode (jt_code M) pc with
    | .ok (i, n) => match jk_ins RT pr sg rt M i n pc al as with
      | some su => su.all fun s => match an.find? (fun e' => e'.1 == s.1) with
        | some e' => s.2.2.isEmpty && jk_sL s.2.1 e'.2.1 && jk_fall e s.2.1 e'
        | none => jk_go RT pr sg rt M an e f s
      | none => false
    | .error _ => false
end
section
/-! the checker's words hold: values, locals, stacks, heaps -/
section JK
variable {RT : List jk_D} {pr : Nat → Nat → Bool} {ρ : jk_R} {l0 ls ls' : jv_L} {al : jk_AL} {as : jk_AS} {st : List Value} {h : jv_H} {v : Value}
theorem jk_len {n k : Nat} {α : Type} {x : Option α} (hn : n = k) : jv_len n k x = x := if_pos hn
theorem jk_V_sub {s t : jk_T} (hs : jk_sub s t = true) (hv : jk_V ρ s v) : jk_V ρ t v := by
  rcases s with a | a | a <;> rcases t with b | b | b
  · simp only [jk_sub, Bool.and_eq_true, decide_eq_true_eq] at hs
    obtain ⟨x, rfl, h1, h2⟩ := hv
    exact ⟨x, rfl, by omega, by omega⟩
  · simp [jk_sub] at hs
  · simp [jk_sub] at hs
  · simp [jk_sub] at hs
  · simp only [jk_sub, beq_iff_eq] at hs
    subst hs
    exact hv
  · cases a
    · simp only [jk_sub, Bool.not_eq_true'] at hs
      exact Or.inl ⟨hs, hv⟩
    · simp [jk_sub] at hs
  · simp [jk_sub] at hs
  · simp [jk_sub] at hs
  · simp only [jk_sub, Bool.and_eq_true, beq_iff_eq, Bool.or_eq_true, Bool.not_eq_true'] at hs
    rcases hv with ⟨e, rfl⟩ | ⟨q, rfl, hq⟩
    · rcases hs.2 with q | q
      · rw [e] at q; cases q
      · exact Or.inl ⟨q, rfl⟩
    · exact Or.inr ⟨q, rfl, by rw [← hs.1]; exact hq⟩
theorem jk_Vs_sub : ∀ {ss ts : List jk_T} {vs : List Value}, jk_subs ss ts = true → jk_Vs ρ ss vs → jk_Vs ρ ts vs
  | [], [], [], _, _ => True.intro
  | [], [], _ :: _, _, hv => hv.elim
  | [], _ :: _, _, hs, _ => by simp [jk_subs] at hs
  | _ :: _, [], _, hs, _ => by simp [jk_subs] at hs
  | _ :: _, _ :: _, [], _, hv => hv.elim
  | s :: ss, t :: ts, v :: vs, hs, hv => by
    simp only [jk_subs, Bool.and_eq_true] at hs
    exact ⟨jk_V_sub hs.1 hv.1, jk_Vs_sub hs.2 hv.2⟩
theorem jk_Vs_len : ∀ {ts : List jk_T} {vs : List Value}, jk_Vs ρ ts vs → vs.length = ts.length
  | [], [], _ => rfl
  | [], _ :: _, hv => hv.elim
  | _ :: _, [], hv => hv.elim
  | t :: ts, v :: vs, hv => by simp [jk_Vs_len hv.2]
theorem jk_Vs_get : ∀ {ts : List jk_T} {vs : List Value} {k : Nat} {t : jk_T}, jk_Vs ρ ts vs → ts[k]? = some t → ∃ v, vs[k]? = some v ∧ jk_V ρ t v
  | [], _, _, _, _, e => by simp at e
  | _ :: _, [], _, _, hv, _ => hv.elim
  | t :: ts, v :: vs, 0, t', hv, e => by
    simp only [List.getElem?_cons_zero, Option.some.injEq] at e
    subst e
    exact ⟨v, rfl, hv.1⟩
  | t :: ts, v :: vs, k + 1, t', hv, e => by
    simp only [List.getElem?_cons_succ] at e ⊢
    exact jk_Vs_get hv.2 e
theorem jk_Vs_set : ∀ {ts : List jk_T} {vs : List Value} {k : Nat} {t : jk_T}, jk_Vs ρ ts vs → ts[k]? = some t → jk_V ρ t v → jk_Vs ρ ts (vs.set k v)
  | [], _, _, _, _, e, _ => by simp at e
  | _ :: _, [], _, _, hv, _, _ => hv.elim
  | t :: ts, v :: vs, 0, t', hv, e, hn => by
    simp only [List.getElem?_cons_zero, Option.some.injEq] at e
    subst e
    exact ⟨hn, hv.2⟩
  | t :: ts, v :: vs, k + 1, t', hv, e, hn => by
    simp only [List.getElem?_cons_succ] at e
    exact ⟨hv.1, jk_Vs_set hv.2 e hn⟩
theorem jk_Vs_app : ∀ {ts us : List jk_T} {vs ws : List Value}, jk_Vs ρ ts vs → jk_Vs ρ us ws → jk_Vs ρ (ts ++ us) (vs ++ ws)
  | [], _, [], _, _, hw => hw
  | [], _, _ :: _, _, hv, _ => hv.elim
  | _ :: _, _, [], _, hv, _ => hv.elim
  | t :: ts, us, v :: vs, ws, hv, hw => ⟨hv.1, jk_Vs_app hv.2 hw⟩
theorem jk_Vs_rev : ∀ {ts : List jk_T} {vs : List Value}, jk_Vs ρ ts vs → jk_Vs ρ ts.reverse vs.reverse
  | [], [], _ => True.intro
  | [], _ :: _, hv => hv.elim
  | _ :: _, [], hv => hv.elim
  | t :: ts, v :: vs, hv => by
    rw [List.reverse_cons, List.reverse_cons]
    exact jk_Vs_app (jk_Vs_rev hv.2) ⟨hv.1, True.intro⟩
theorem jk_V_w {t : jk_T} (hv : jk_V ρ t v) : v.category = jk_w t := by
  rcases t with a | a | a
  · obtain ⟨x, rfl, _⟩ := hv; rfl
  · cases a
    · have e : v = .null := hv
      subst e; rfl
    · obtain ⟨x, rfl⟩ := hv; rfl
  · rcases hv with ⟨_, rfl⟩ | ⟨q, rfl, _⟩ <;> rfl
theorem jk_V_top {x : Int32} : jk_V ρ jk_top (.int x) := ⟨x, rfl, by have := x.le_toInt; show (-2147483648 : Int) ≤ _; omega, by have := x.toInt_lt; show _ ≤ (2147483647 : Int); omega⟩
theorem jk_V_rg {x : Int32} {lo hi : Int} (h1 : lo ≤ x.toInt) (h2 : x.toInt ≤ hi) : jk_V ρ (jk_rg lo hi) (.int x) := by
  unfold jk_rg
  split
  · exact ⟨x, rfl, h1, h2⟩
  · exact jk_V_top
theorem jk_V_ps {x : Int32} {i : Int} (hi : x.toInt = i) : jk_V ρ (.inl (i, i)) (.int x) := ⟨x, rfl, Int.le_of_eq hi.symm, Int.le_of_eq hi⟩
theorem jk_x_c {i : Nat} (e : ls'[i]? = ls[i]?) : jk_x ls' i = jk_x ls i := by unfold jk_x; rw [e]
theorem jk_L_ne (hL : jk_L ρ l0 al ls) {i j : Nat} (hij : ¬ j = i) {o : Option (jk_T × Option Int)} {w : Option Value} {t : jk_T} {δ : Option Int} (e : (al.set j o)[i]? = some (some (t, δ))) : ∃ v, (ls.set j w)[i]? = some (some v) ∧ jk_V ρ t v ∧ ∀ d, δ = some d → jk_x (ls.set j w) i = jk_x l0 i + d := by
  rw [List.getElem?_set_ne hij] at e
  obtain ⟨v, e1, hv, hd⟩ := hL.2 i t δ e
  have e2 : (ls.set j w)[i]? = ls[i]? := List.getElem?_set_ne hij
  exact ⟨v, e2.trans e1, hv, fun d q => (jk_x_c e2).trans (hd d q)⟩
theorem jk_no {j : Nat} {t : jk_T} {δ : Option Int} (e : (al.set j none)[j]? = some (some (t, δ))) : False := by
  rw [List.getElem?_set] at e
  simp only [if_true] at e
  split at e <;> cases e
theorem jk_setn (hL : jk_L ρ l0 al ls) (j : Nat) : jk_L ρ l0 (al.set j none) (ls.set j none) := by
  refine ⟨by simp [hL.1], fun i t δ e => ?_⟩
  by_cases hij : j = i
  · subst hij; exact (jk_no e).elim
  · exact jk_L_ne hL hij e
theorem jk_setm (hL : jk_L ρ l0 al ls) (j : Nat) : jk_L ρ l0 (al.set j none) ls := by
  refine ⟨by simp [hL.1], fun i t δ e => ?_⟩
  by_cases hij : j = i
  · subst hij; exact (jk_no e).elim
  · rw [List.getElem?_set_ne hij] at e
    exact hL.2 i t δ e
theorem jk_set (hL : jk_L ρ l0 al ls) {j : Nat} {t : jk_T} {δ : Option Int} (hj : j < al.length) (hv : jk_V ρ t v) (hd : ∀ d, δ = some d → ∃ x : Int32, v = .int x ∧ x.toInt = jk_x l0 j + d) : jk_L ρ l0 (al.set j (some (t, δ))) (ls.set j (some v)) := by
  refine ⟨by simp [hL.1], fun i t' δ' e => ?_⟩
  by_cases hij : j = i
  · subst hij
    have hj2 : j < ls.length := by rw [hL.1]; exact hj
    rw [List.getElem?_set_self hj] at e
    cases e
    have e2 : (ls.set j (some v))[j]? = some (some v) := List.getElem?_set_self hj2
    refine ⟨v, e2, hv, fun d q => ?_⟩
    obtain ⟨x, rfl, hx⟩ := hd d q
    have e3 : jk_x (ls.set j (some (.int x))) j = x.toInt := by unfold jk_x; rw [e2]
    exact e3.trans hx
  · exact jk_L_ne hL hij e
theorem jk_kl_ok (hL : jk_L ρ l0 al ls) (i : Nat) : jk_L ρ l0 (jk_kl al i) (jv_kill ls i) := by
  cases i with
  | zero => exact hL
  | succ j =>
    show jk_L ρ l0 (if jk_is2 al[j]? = true then al.set j none else al) (if jv_is2 ls[j]? = true then ls.set j none else ls)
    by_cases ha : jk_is2 al[j]? = true
    · rw [if_pos ha]
      by_cases hb : jv_is2 ls[j]? = true
      · rw [if_pos hb]; exact jk_setn hL j
      · rw [if_neg hb]; exact jk_setm hL j
    · rw [if_neg ha]
      by_cases hb : jv_is2 ls[j]? = true
      · rw [if_pos hb]
        refine ⟨by simp [hL.1], fun i t δ e => ?_⟩
        by_cases hij : j = i
        · subst hij
          exfalso
          obtain ⟨v, e1, hv, _⟩ := hL.2 j t δ e
          rw [e1] at hb
          have hc : v.category = 2 := by simpa [jv_is2] using hb
          rw [jk_V_w hv] at hc
          apply ha
          rw [e]
          rcases t with a | a | a
          · cases hc
          · cases a
            · cases hc
            · rfl
          · cases hc
        · have e' : (al.set j none)[i]? = some (some (t, δ)) := by rw [List.getElem?_set_ne hij]; exact e
          exact jk_L_ne hL hij e'
      · rw [if_neg hb]; exact hL
theorem jk_kl_len (i : Nat) : (jk_kl al i).length = al.length := by
  unfold jk_kl
  split
  · rfl
  · split <;> simp
theorem jk_S_ns : ∀ {as : jk_AS} {st : List Value}, jk_S ρ ls as st → jk_S ρ ls' (jk_ns as) st
  | [], [], _ => True.intro
  | [], _ :: _, hS => hS.elim
  | _ :: _, [], hS => hS.elim
  | a :: as, v :: vs, hS => ⟨hS.1, fun i e => (by cases e), jk_S_ns hS.2.2⟩
theorem jk_S_drop : ∀ {k : Nat} {as : jk_AS} {st : List Value}, jk_S ρ ls as st → jk_S ρ ls (as.drop k) (st.drop k)
  | 0, _, _, hS => hS
  | _ + 1, [], [], _ => True.intro
  | _ + 1, [], _ :: _, hS => hS.elim
  | _ + 1, _ :: _, [], hS => hS.elim
  | k + 1, _ :: _, _ :: _, hS => jk_S_drop (k := k) hS.2.2
theorem jk_S_take : ∀ {k : Nat} {as : jk_AS} {st : List Value}, jk_S ρ ls as st → jk_Vs ρ ((as.take k).map fun a => a.1) (st.take k)
  | 0, _, _, _ => by simp only [List.take_zero, List.map_nil]; exact True.intro
  | _ + 1, [], [], _ => True.intro
  | _ + 1, [], _ :: _, hS => hS.elim
  | _ + 1, _ :: _, [], hS => hS.elim
  | k + 1, _ :: _, _ :: _, hS => ⟨hS.1, jk_S_take (k := k) hS.2.2⟩
theorem jk_S_len : ∀ {as : jk_AS} {st : List Value}, jk_S ρ ls as st → st.length = as.length
  | [], [], _ => rfl
  | [], _ :: _, hS => hS.elim
  | _ :: _, [], hS => hS.elim
  | _ :: _, _ :: _, hS => by simp [jk_S_len hS.2.2]
theorem jk_S_w : ∀ {as : jk_AS} {st : List Value}, jk_S ρ ls as st → (st.map fun v => v.category) = as.map fun a => jk_w a.1
  | [], [], _ => rfl
  | [], _ :: _, hS => hS.elim
  | _ :: _, [], hS => hS.elim
  | _ :: _, _ :: _, hS => by simp [jk_V_w hS.1, jk_S_w hS.2.2]
theorem jk_S_nil {st : List Value} (hS : jk_S ρ ls [] st) : st = [] := by
  cases st with
  | nil => rfl
  | cons v vs => exact hS.elim
theorem jk_S_cons {a : jk_T × Option Nat} {as : jk_AS} {st : List Value} (hS : jk_S ρ ls (a :: as) st) : ∃ v vs, st = v :: vs ∧ jk_V ρ a.1 v ∧ (∀ i, a.2 = some i → ls[i]? = some (some v)) ∧ jk_S ρ ls as vs := by
  cases st with
  | nil => exact hS.elim
  | cons v vs => exact ⟨v, vs, rfl, hS.1, hS.2.1, hS.2.2⟩
theorem jk_nar_ok {s : Option Nat} {t : jk_T} (hL : jk_L ρ l0 al ls) (hs : ∀ i, s = some i → ls[i]? = some (some v)) (hv : jk_V ρ t v) : jk_L ρ l0 (jk_nar al s t) ls := by
  unfold jk_nar
  cases s with
  | none => exact hL
  | some i =>
    simp only
    split
    · rename_i t' δ e
      refine ⟨by simp [hL.1], fun k t2 δ2 e2 => ?_⟩
      by_cases hik : i = k
      · subst hik
        rw [List.getElem?_set_self (List.getElem?_eq_some_iff.mp e).1] at e2
        cases e2
        obtain ⟨v', e1, _, hd⟩ := hL.2 i t' δ e
        exact ⟨v, hs i rfl, hv, hd⟩
      · rw [List.getElem?_set_ne hik] at e2
        exact hL.2 k t2 δ2 e2
    · exact hL
theorem jk_cut_ok {c : ClassFile.Cond} {x y : Int32} {X Y : Int × Int} (hx : X.1 ≤ x.toInt ∧ x.toInt ≤ X.2) (hy : Y.1 ≤ y.toInt ∧ y.toInt ≤ Y.2) (hc : jv_cmp c x y = true) : (jk_cut c X Y).1 ≤ x.toInt ∧ x.toInt ≤ (jk_cut c X Y).2 := by
  cases c
  · have e : x = y := of_decide_eq_true hc
    subst e
    simp only [jk_cut]
    omega
  · have e : ¬ x = y := of_decide_eq_true hc
    have e2 : ¬ x.toInt = y.toInt := fun q => e (Int32.toInt_inj.mp q)
    simp only [jk_cut, beq_iff_eq]
    split
    · split
      · simp only; omega
      · split
        · simp only; omega
        · exact hx
    · exact hx
  · have e := Int32.lt_iff_toInt_lt.mp (of_decide_eq_true hc : x < y)
    simp only [jk_cut]
    omega
  · have e := Int32.le_iff_toInt_le.mp (of_decide_eq_true hc : y ≤ x)
    simp only [jk_cut]
    omega
  · have e := Int32.lt_iff_toInt_lt.mp (of_decide_eq_true hc : y < x)
    simp only [jk_cut]
    omega
  · have e := Int32.le_iff_toInt_le.mp (of_decide_eq_true hc : x ≤ y)
    simp only [jk_cut]
    omega
theorem jk_flip_ok {c : ClassFile.Cond} {x y : Int32} (hc : jv_cmp c x y = true) : jv_cmp (jk_flip c) y x = true := by
  cases c
  · exact decide_eq_true (of_decide_eq_true hc : x = y).symm
  · exact decide_eq_true (fun q => (of_decide_eq_true hc : ¬ x = y) q.symm)
  · exact hc
  · exact hc
  · exact hc
  · exact hc
theorem jk_neg_ok {c : ClassFile.Cond} {x y : Int32} (hc : ¬ jv_cmp c x y = true) : jv_cmp (jk_neg c) x y = true := by
  cases c
  · exact decide_eq_true (fun q => hc (decide_eq_true q))
  · exact decide_eq_true (Decidable.byContradiction fun q => hc (decide_eq_true q))
  · exact decide_eq_true (Int32.not_lt.mp fun q => hc (decide_eq_true q))
  · exact decide_eq_true (Int32.not_le.mp fun q => hc (decide_eq_true q))
  · exact decide_eq_true (Int32.not_lt.mp fun q => hc (decide_eq_true q))
  · exact decide_eq_true (Int32.not_le.mp fun q => hc (decide_eq_true q))
theorem jk_bs_ok {c : ClassFile.Cond} {t : Nat} {x y : Int32} {X Y : Int × Int} {sx sy : Option Nat} (hx : X.1 ≤ x.toInt ∧ x.toInt ≤ X.2) (hy : Y.1 ≤ y.toInt ∧ y.toInt ≤ Y.2) (hsx : ∀ i, sx = some i → ls[i]? = some (some (.int x))) (hsy : ∀ i, sy = some i → ls[i]? = some (some (.int y))) (hc : jv_cmp c x y = true) (hL : jk_L ρ l0 al ls) : ∃ al', (t, al', as) ∈ jk_bs c t al as X sx Y sy ∧ jk_L ρ l0 al' ls := by
  have h1 := jk_cut_ok hx hy hc
  have h2 := jk_cut_ok hy hx (jk_flip_ok hc)
  unfold jk_bs
  rw [if_neg (by simp only [Bool.or_eq_true, decide_eq_true_eq]; omega)]
  exact ⟨_, List.mem_singleton.mpr rfl, jk_nar_ok (jk_nar_ok hL hsx ⟨x, rfl, h1.1, h1.2⟩) hsy ⟨y, rfl, h2.1, h2.2⟩⟩
theorem jk_ob_ok {t : jk_T} {q ci : Nat} {ts : List jk_T} (e : jk_ob RT t = some (q, ci, ts)) (hv : jk_V ρ t v) (hO : jk_Ok RT ρ h) : ∃ a fs, v = .ref a ∧ ρ a = some q ∧ RT[q]? = some (.inl (ci, ts)) ∧ h.1 a = some (.inl (ci, fs)) ∧ jk_Vs ρ ts fs := by
  unfold jk_ob at e
  split at e
  · rename_i q'
    split at e
    · rename_i ci' ts' hr
      cases e
      rcases hv with ⟨e1, _⟩ | ⟨a, rfl, ha⟩
      · cases e1
      · obtain ⟨d, c, h1, h2, h3⟩ := hO a q ha
        rw [hr] at h1
        cases h1
        rcases c with ⟨ci2, fs⟩ | ⟨kd, n, f⟩
        · obtain ⟨rfl, h5⟩ := h3
          exact ⟨a, fs, rfl, ha, hr, h2, h5⟩
        · exact h3.elim
    · cases e
  · cases e
theorem jk_ar_ok {t e' : jk_T} {q kd lo : Nat} (e : jk_ar RT t = some (q, kd, lo, e')) (hv : jk_V ρ t v) (hO : jk_Ok RT ρ h) : ∃ a n f, v = .ref a ∧ ρ a = some q ∧ RT[q]? = some (.inr (kd, lo, e')) ∧ h.1 a = some (.inr (kd, n, f)) ∧ lo ≤ n ∧ n ≤ 100000 ∧ ∀ i, jk_V ρ e' (f i) := by
  unfold jk_ar at e
  split at e
  · rename_i q'
    split at e
    · rename_i kd' lo' e2 hr
      cases e
      rcases hv with ⟨e1, _⟩ | ⟨a, rfl, ha⟩
      · cases e1
      · obtain ⟨d, c, h1, h2, h3⟩ := hO a q ha
        rw [hr] at h1
        cases h1
        rcases c with ⟨ci2, fs⟩ | ⟨kd2, n, f⟩
        · exact h3.elim
        · obtain ⟨rfl, h5, h6, h7⟩ := h3
          exact ⟨a, n, f, rfl, ha, hr, h2, h5, h6, h7⟩
    · cases e
  · cases e
theorem jk_Ok_up {a q : Nat} {d : jk_D} {c : jv_C} (hO : jk_Ok RT ρ h) (ha : ρ a = some q) (hd : RT[q]? = some d) (hc : jk_C ρ d c) : jk_Ok RT ρ (jv_up h.1 a c, h.2) := by
  intro b r hr
  by_cases hb : b = a
  · subst hb
    rw [ha] at hr
    cases hr
    exact ⟨d, c, hd, if_pos rfl, hc⟩
  · obtain ⟨d', c', h1, h2, h3⟩ := hO b r hr
    exact ⟨d', c', h1, (if_neg hb).trans h2, h3⟩
theorem jk_Fr_up {a q : Nat} {c c' : jv_C} (ha : ρ a = some q) (hc : h.1 a = some c) (hs : jk_sm (pr q) c c') : jk_Fr pr ρ h (jv_up h.1 a c', h.2) := by
  refine ⟨rfl, fun b hb => ?_, fun b r x hb hx => ?_⟩
  · exact if_neg (fun e => by rw [e, ha] at hb; cases hb)
  · by_cases e : b = a
    · subst e
      rw [ha] at hb
      cases hb
      rw [hc] at hx
      cases hx
      exact ⟨c', if_pos rfl, hs⟩
    · exact ⟨x, (if_neg e).trans hx, jk_sm_rf x⟩
theorem jk_bit {x : Int32} (h0 : 0 ≤ x.toInt) (h1 : x.toInt ≤ 1) : x = 0 ∨ x = 1 := by
  by_cases h : x.toInt = 0
  · exact Or.inl (Int32.toInt_inj.mp (h.trans (by decide)))
  · exact Or.inr (Int32.toInt_inj.mp ((show x.toInt = 1 by omega).trans (by decide)))
theorem jk_fit_ok {f : FieldType} {t : jk_T} (hf : jk_fit f t = true) (hv : jk_V ρ t v) : narrow f v = v ∧ fits f v = true := by
  rcases t with a | a | a
  · obtain ⟨x, rfl, h1, h2⟩ := hv
    cases f <;> first | (simp [jk_fit] at hf; done) | exact ⟨rfl, rfl⟩ | skip
    simp only [jk_fit, Bool.and_eq_true, decide_eq_true_eq] at hf
    rcases jk_bit (x := x) (by omega) (by omega) with rfl | rfl <;> exact ⟨rfl, rfl⟩
  · cases a
    · have e : v = .null := hv
      subst e
      cases f <;> first | (simp [jk_fit] at hf; done) | exact ⟨rfl, rfl⟩
    · obtain ⟨x, rfl⟩ := hv
      cases f <;> first | (simp [jk_fit] at hf; done) | exact ⟨rfl, rfl⟩
  · rcases hv with ⟨_, rfl⟩ | ⟨q, rfl, _⟩ <;> cases f <;> first | (simp [jk_fit] at hf; done) | exact ⟨rfl, rfl⟩
theorem jk_V_add {x y : Int32} {X Y : Int × Int} (hx : X.1 ≤ x.toInt ∧ x.toInt ≤ X.2) (hy : Y.1 ≤ y.toInt ∧ y.toInt ≤ Y.2) : jk_V ρ (jk_rg (X.1 + Y.1) (X.2 + Y.2)) (.int (x + y)) := by
  unfold jk_rg
  split
  · rename_i hb
    simp only [Bool.and_eq_true, decide_eq_true_eq] at hb
    have e : (x + y).toInt = x.toInt + y.toInt := by
      rw [Int32.toInt_add]
      exact Int.bmod_eq_of_le (by omega) (by omega)
    exact ⟨_, rfl, by rw [e]; omega, by rw [e]; omega⟩
  · exact jk_V_top
theorem jk_V_subt {x y : Int32} {X Y : Int × Int} (hx : X.1 ≤ x.toInt ∧ x.toInt ≤ X.2) (hy : Y.1 ≤ y.toInt ∧ y.toInt ≤ Y.2) : jk_V ρ (jk_rg (X.1 - Y.2) (X.2 - Y.1)) (.int (x - y)) := by
  unfold jk_rg
  split
  · rename_i hb
    simp only [Bool.and_eq_true, decide_eq_true_eq] at hb
    have e : (x - y).toInt = x.toInt - y.toInt := by
      rw [Int32.toInt_sub]
      exact Int.bmod_eq_of_le (by omega) (by omega)
    exact ⟨_, rfl, by rw [e]; omega, by rw [e]; omega⟩
  · exact jk_V_top
theorem jk_V_mul {x y : Int32} {X Y : Int × Int} {t : jk_T} (hx : X.1 ≤ x.toInt ∧ x.toInt ≤ X.2) (hy : Y.1 ≤ y.toInt ∧ y.toInt ≤ Y.2) (ht : jk_fmul X Y = some t) : jk_V ρ t (.int (x * y)) := by
  unfold jk_fmul at ht
  split at ht
  · rename_i h0
    simp only [Bool.and_eq_true, decide_eq_true_eq] at h0
    cases ht
    have a1 : X.1 * Y.1 ≤ x.toInt * y.toInt := Int.mul_le_mul hx.1 hy.1 h0.2 (by omega)
    have a2 : x.toInt * y.toInt ≤ X.2 * Y.2 := Int.mul_le_mul hx.2 hy.2 (by omega) (by omega)
    unfold jk_rg
    split
    · rename_i hb
      simp only [Bool.and_eq_true, decide_eq_true_eq] at hb
      have e : (x * y).toInt = x.toInt * y.toInt := by
        rw [Int32.toInt_mul]
        exact Int.bmod_eq_of_le (by omega) (by omega)
      exact ⟨_, rfl, by rw [e]; exact a1, by rw [e]; exact a2⟩
    · exact jk_V_top
  · cases ht
    exact jk_V_top
theorem jk_and_le {x y : Int32} (hy : 0 ≤ y.toInt) : 0 ≤ (x &&& y).toInt ∧ (x &&& y).toInt ≤ y.toInt := by
  have m : y.toBitVec.msb = false := by
    rw [BitVec.msb_eq_false_iff_two_mul_lt]
    have := BitVec.toInt_eq_toNat_cond y.toBitVec
    have e : y.toInt = y.toBitVec.toInt := rfl
    have := y.toBitVec.isLt
    split at * <;> omega
  have e1 : (x &&& y).toInt = ((x.toBitVec &&& y.toBitVec).toNat : Int) := by
    show (x.toBitVec &&& y.toBitVec).toInt = _
    exact BitVec.toInt_eq_toNat_of_msb (by rw [BitVec.msb_and, m, Bool.and_false])
  have e2 : y.toInt = (y.toBitVec.toNat : Int) := BitVec.toInt_eq_toNat_of_msb m
  rw [e1, e2, BitVec.toNat_and]
  have := Nat.and_le_right (n := x.toBitVec.toNat) (m := y.toBitVec.toNat)
  omega
theorem jk_V_and {x y : Int32} {X Y : Int × Int} {t : jk_T} (hx : X.1 ≤ x.toInt ∧ x.toInt ≤ X.2) (hy : Y.1 ≤ y.toInt ∧ y.toInt ≤ Y.2) (ht : jk_fand X Y = some t) : jk_V ρ t (.int (x &&& y)) := by
  unfold jk_fand at ht
  split at ht
  · rename_i h0
    cases ht
    have h1 := of_decide_eq_true h0
    have := jk_and_le (x := x) (y := y) (by omega)
    exact ⟨_, rfl, this.1, by show _ ≤ Y.2; omega⟩
  · split at ht
    · rename_i h0
      cases ht
      have h1 := of_decide_eq_true h0
      have := jk_and_le (x := y) (y := x) (by omega)
      rw [Int32.and_comm] at this
      exact ⟨_, rfl, this.1, by show _ ≤ X.2; omega⟩
    · cases ht
      exact jk_V_top
theorem jk_V_div {x y : Int32} {X Y : Int × Int} {t : jk_T} (hx : X.1 ≤ x.toInt ∧ x.toInt ≤ X.2) (hy : Y.1 ≤ y.toInt ∧ y.toInt ≤ Y.2) (ht : jk_fdiv X Y = some t) : ¬ y = 0 ∧ jk_V ρ t (.int (x / y)) := by
  unfold jk_fdiv at ht
  have hn : 0 < Y.1 → ¬ y = 0 := fun q e => by
    rw [e] at hy
    have : (0 : Int32).toInt = 0 := by decide
    omega
  split at ht
  · rename_i h0
    simp only [Bool.and_eq_true, beq_iff_eq, decide_eq_true_eq] at h0
    cases ht
    refine ⟨hn h0.1.2, _, rfl, ?_, ?_⟩
    all_goals rw [lg_idiv_nonneg (by omega) (by omega), show y.toInt = Y.1 by omega]
    · exact Int.ediv_le_ediv h0.1.2 hx.1
    · exact Int.ediv_le_ediv h0.1.2 hx.2
  · split at ht
    · rename_i h0
      cases ht
      exact ⟨hn (of_decide_eq_true h0), jk_V_top⟩
    · cases ht
theorem jk_V_rem {y z : Int32} {X Y : Int × Int} {t : jk_T} (hy : Y.1 ≤ y.toInt ∧ y.toInt ≤ Y.2) (ht : jk_frem X Y = some t) : ¬ y = 0 ∧ jk_V ρ t (.int z) := by
  unfold jk_frem at ht
  split at ht
  · rename_i h0
    cases ht
    have h1 := of_decide_eq_true h0
    refine ⟨fun e => ?_, jk_V_top⟩
    rw [e] at hy
    have : (0 : Int32).toInt = 0 := by decide
    omega
  · cases ht
end JK
end
section
/-! the checker's step holds for every instruction -/
section JK
variable {RT : List jk_D} {pr : Nat → Nat → Bool} {sg : jk_G} {rt : Option jk_T} {ρ : jk_R} {M n pc : Nat} {l0 ls : jv_L} {al : jk_AL} {as : jk_AS} {st : List Value} {h : jv_H} {call : jv_F} {su : List jk_A} {v : Value}
def jk_Nx (RT : List jk_D) (pr : Nat → Nat → Bool) (rt : Option jk_T) (ρ : jk_R) (l0 : jv_L) (h : jv_H) (su : List jk_A) (o : Option (jv_S ⊕ jv_Z)) : Prop :=
  (∃ pc' ls' st' h' al' as', o = some (.inl (pc', ls', st', h')) ∧ (pc', al', as') ∈ su ∧ jk_Ok RT ρ h' ∧ jk_Fr pr ρ h h' ∧ jk_L ρ l0 al' ls' ∧ jk_S ρ ls' as' st') ∨ ∃ r, o = some (.inr (r, h)) ∧ jk_Rt ρ rt r
theorem jk_one {ls' : jv_L} {al' : jk_AL} {as' : jk_AS} {st' : List Value} {h' : jv_H} {pc' : Nat} (hm : (pc', al', as') ∈ su) (hL : jk_L ρ l0 al' ls') (hS : jk_S ρ ls' as' st') (hO : jk_Ok RT ρ h') (hF : jk_Fr pr ρ h h') : jk_Nx RT pr rt ρ l0 h su (jv_n pc' ls' st' h') := Or.inl ⟨pc', ls', st', h', al', as', rfl, hm, hO, hF, hL, hS⟩
theorem jk_ps_ok {k : Nat} {t : jk_T} {s : Option Nat} (hs : jk_ps n k pc al as t s = some su) (hv : jk_V ρ t v) (hsrc : ∀ i, s = some i → ls[i]? = some (some v)) (hL : jk_L ρ l0 al ls) (hS : jk_S ρ ls as st) (hO : jk_Ok RT ρ h) : jk_Nx RT pr rt ρ l0 h su (jv_len n k (jv_n (pc + k) ls (v :: st) h)) := by
  unfold jk_ps at hs
  split at hs
  · rename_i hn
    cases hs
    rw [jk_len (eq_of_beq hn)]
    exact jk_one (List.mem_singleton.mpr rfl) hL ⟨hv, hsrc, hS⟩ hO (jk_Fr_rf h)
  · cases hs
theorem jk_ld_inv {w k i : Nat} (hs : jk_ld w n k pc al i as = some su) (hL : jk_L ρ l0 al ls) : ∃ t v, jk_kd t = w ∧ ls[i]? = some (some v) ∧ jk_V ρ t v ∧ jk_ps n k pc al as t (some i) = some su := by
  unfold jk_ld at hs
  split at hs
  · rename_i t δ e
    split at hs
    · rename_i hk
      obtain ⟨v, e1, hv, _⟩ := hL.2 i t δ e
      exact ⟨t, v, eq_of_beq hk, e1, hv, hs⟩
    · cases hs
  · cases hs
theorem jk_kd0 {t : jk_T} (hk : jk_kd t = 0) (hv : jk_V ρ t v) : ∃ X : Int × Int, ∃ x : Int32, t = .inl X ∧ v = .int x ∧ X.1 ≤ x.toInt ∧ x.toInt ≤ X.2 := by
  rcases t with a | a | a
  · obtain ⟨x, e, h1, h2⟩ := hv
    exact ⟨a, x, rfl, e, h1, h2⟩
  · cases a <;> cases hk
  · cases hk
theorem jk_kd1 {t : jk_T} (hk : jk_kd t = 1) (hv : jk_V ρ t v) : ∃ x : Int64, t = jk_lg ∧ v = .long x := by
  rcases t with a | a | a
  · cases hk
  · cases a
    · cases hk
    · obtain ⟨x, e⟩ := hv
      exact ⟨x, rfl, e⟩
  · cases hk
theorem jk_kd2 {t : jk_T} (hk : jk_kd t = 2) (hv : jk_V ρ t v) : v = .null ∨ ∃ a, v = .ref a := by
  rcases t with a | a | a
  · cases hk
  · cases a
    · exact Or.inl hv
    · cases hk
  · rcases hv with ⟨_, e⟩ | ⟨q, e, _⟩
    · exact Or.inl e
    · exact Or.inr ⟨q, e⟩
theorem jk_ldi_ok {k i : Nat} (hs : jk_ld 0 n k pc al i as = some su) (hL : jk_L ρ l0 al ls) (hS : jk_S ρ ls as st) (hO : jk_Ok RT ρ h) : jk_Nx RT pr rt ρ l0 h su (jv_ldi n k pc ls i st h) := by
  obtain ⟨t, v, hk, e1, hv, hp⟩ := jk_ld_inv hs hL
  obtain ⟨X, x, rfl, rfl, _⟩ := jk_kd0 hk hv
  unfold jv_ldi
  rw [e1]
  exact jk_ps_ok hp hv (fun j hj => by cases hj; exact e1) hL hS hO
theorem jk_ldl_ok {k i : Nat} (hs : jk_ld 1 n k pc al i as = some su) (hL : jk_L ρ l0 al ls) (hS : jk_S ρ ls as st) (hO : jk_Ok RT ρ h) : jk_Nx RT pr rt ρ l0 h su (jv_ldl n k pc ls i st h) := by
  obtain ⟨t, v, hk, e1, hv, hp⟩ := jk_ld_inv hs hL
  obtain ⟨x, rfl, rfl⟩ := jk_kd1 hk hv
  unfold jv_ldl
  rw [e1]
  exact jk_ps_ok hp hv (fun j hj => by cases hj; exact e1) hL hS hO
theorem jk_lda_ok {k i : Nat} (hs : jk_ld 2 n k pc al i as = some su) (hL : jk_L ρ l0 al ls) (hS : jk_S ρ ls as st) (hO : jk_Ok RT ρ h) : jk_Nx RT pr rt ρ l0 h su (jv_lda n k pc ls i st h) := by
  obtain ⟨t, v, hk, e1, hv, hp⟩ := jk_ld_inv hs hL
  unfold jv_lda
  rcases jk_kd2 hk hv with rfl | ⟨a, rfl⟩
  · rw [e1]
    exact jk_ps_ok hp hv (fun j hj => by cases hj; exact e1) hL hS hO
  · rw [e1]
    exact jk_ps_ok hp hv (fun j hj => by cases hj; exact e1) hL hS hO
theorem jk_so_inv {w k i : Nat} (hs : jk_so w n k pc al i as = some su) (hL : jk_L ρ l0 al ls) (hS : jk_S ρ ls as st) : ∃ t v vs al' as', st = v :: vs ∧ jk_kd t = w ∧ jk_V ρ t v ∧ n = k ∧ i < ls.length ∧ su = [(pc + k, al', as')] ∧ jk_L ρ l0 al' (jv_st1 ls i v) ∧ jk_S ρ (jv_st1 ls i v) as' vs := by
  unfold jk_so at hs
  split at hs
  · rename_i t s as'
    split at hs
    · rename_i hb
      simp only [Bool.and_eq_true, beq_iff_eq, decide_eq_true_eq] at hb
      cases hs
      obtain ⟨v, vs, rfl, hv, _, hS'⟩ := jk_S_cons hS
      refine ⟨t, v, vs, _, _, rfl, hb.1.1, hv, hb.2, by rw [hL.1]; exact hb.1.2, rfl, ?_, jk_S_ns hS'⟩
      exact jk_set (jk_kl_ok hL i) (by rw [jk_kl_len]; exact hb.1.2) hv (fun d e => by cases e)
    · cases hs
  · cases hs
theorem jk_sti_ok {k i : Nat} (hs : jk_so 0 n k pc al i as = some su) (hL : jk_L ρ l0 al ls) (hS : jk_S ρ ls as st) (hO : jk_Ok RT ρ h) : jk_Nx RT pr rt ρ l0 h su (jv_sti n k pc ls i st h) := by
  obtain ⟨t, v, vs, al', as', rfl, hk, hv, hn, hi, rfl, hL', hS'⟩ := jk_so_inv hs hL hS
  obtain ⟨X, x, rfl, rfl, _⟩ := jk_kd0 hk hv
  unfold jv_sti
  simp only
  rw [if_pos hi, jk_len hn]
  exact jk_one (List.mem_singleton.mpr rfl) hL' hS' hO (jk_Fr_rf h)
theorem jk_sta_ok {k i : Nat} (hs : jk_so 2 n k pc al i as = some su) (hL : jk_L ρ l0 al ls) (hS : jk_S ρ ls as st) (hO : jk_Ok RT ρ h) : jk_Nx RT pr rt ρ l0 h su (jv_sta n k pc ls i st h) := by
  obtain ⟨t, v, vs, al', as', rfl, hk, hv, hn, hi, rfl, hL', hS'⟩ := jk_so_inv hs hL hS
  unfold jv_sta
  rcases jk_kd2 hk hv with rfl | ⟨a, rfl⟩
  · simp only
    rw [if_pos hi, jk_len hn]
    exact jk_one (List.mem_singleton.mpr rfl) hL' hS' hO (jk_Fr_rf h)
  · simp only
    rw [if_pos hi, jk_len hn]
    exact jk_one (List.mem_singleton.mpr rfl) hL' hS' hO (jk_Fr_rf h)
theorem jk_stl_ok {k i : Nat} (hs : jk_so2 n k pc al i as = some su) (hL : jk_L ρ l0 al ls) (hS : jk_S ρ ls as st) (hO : jk_Ok RT ρ h) : jk_Nx RT pr rt ρ l0 h su (jv_stl n k pc ls i st h) := by
  unfold jk_so2 at hs
  split at hs
  · rename_i t s as'
    split at hs
    · rename_i hb
      simp only [Bool.and_eq_true, beq_iff_eq, decide_eq_true_eq] at hb
      cases hs
      obtain ⟨v, vs, rfl, hv, _, hS'⟩ := jk_S_cons hS
      obtain ⟨x, e, rfl⟩ := jk_kd1 hb.1.1 hv
      have e : t = jk_lg := e
      subst e
      unfold jv_stl
      simp only
      rw [if_pos (by rw [hL.1]; exact hb.1.2), jk_len hb.2]
      refine jk_one (List.mem_singleton.mpr rfl) ?_ (jk_S_ns hS') hO (jk_Fr_rf h)
      exact jk_setn (jk_set (jk_kl_ok hL i) (by rw [jk_kl_len]; omega) hv (fun d e => by cases e)) (i + 1)
    · cases hs
  · cases hs
theorem jk_o2_inv {f : Int × Int → Int × Int → Option jk_T} (hs : jk_o2 f n pc al as = some su) (hS : jk_S ρ ls as st) : ∃ (X Y : Int × Int) (x y : Int32) (as' : jk_AS) (vs : List Value) (t : jk_T), st = .int y :: .int x :: vs ∧ (X.1 ≤ x.toInt ∧ x.toInt ≤ X.2) ∧ (Y.1 ≤ y.toInt ∧ y.toInt ≤ Y.2) ∧ f X Y = some t ∧ jk_ps n 1 pc al as' t none = some su ∧ jk_S ρ ls as' vs := by
  unfold jk_o2 at hs
  split at hs
  · rename_i Y _ X _ as'
    split at hs
    · rename_i t e
      obtain ⟨v, vs, rfl, hv, _, hS'⟩ := jk_S_cons hS
      obtain ⟨w, ws, rfl, hw, _, hS2⟩ := jk_S_cons hS'
      obtain ⟨y, rfl, y1, y2⟩ := hv
      obtain ⟨x, rfl, x1, x2⟩ := hw
      exact ⟨X, Y, x, y, as', ws, t, rfl, ⟨x1, x2⟩, ⟨y1, y2⟩, e, hs, hS2⟩
    · cases hs
  · cases hs
theorem jk_b2_ok {f : Int × Int → Int × Int → Option jk_T} {g : Int32 → Int32 → Int32} (hg : ∀ (X Y : Int × Int) (x y : Int32) (t : jk_T), X.1 ≤ x.toInt ∧ x.toInt ≤ X.2 → Y.1 ≤ y.toInt ∧ y.toInt ≤ Y.2 → f X Y = some t → jk_V ρ t (.int (g x y))) (hs : jk_o2 f n pc al as = some su) (hL : jk_L ρ l0 al ls) (hS : jk_S ρ ls as st) (hO : jk_Ok RT ρ h) : jk_Nx RT pr rt ρ l0 h su (jv_b2 g n pc ls st h) := by
  obtain ⟨X, Y, x, y, as', vs, t, rfl, hx, hy, hf, hp, hS'⟩ := jk_o2_inv hs hS
  unfold jv_b2
  exact jk_ps_ok hp (hg X Y x y t hx hy hf) (fun i e => by cases e) hL hS' hO
theorem jk_l2_ok {g : Int64 → Int64 → Int64} (hs : jk_l2 n pc al as = some su) (hL : jk_L ρ l0 al ls) (hS : jk_S ρ ls as st) (hO : jk_Ok RT ρ h) : jk_Nx RT pr rt ρ l0 h su (jv_l2 g n pc ls st h) := by
  unfold jk_l2 at hs
  split at hs
  · obtain ⟨v, vs, rfl, hv, _, hS'⟩ := jk_S_cons hS
    obtain ⟨w, ws, rfl, hw, _, hS2⟩ := jk_S_cons hS'
    obtain ⟨y, rfl⟩ := hv
    obtain ⟨x, rfl⟩ := hw
    unfold jv_l2
    exact jk_ps_ok hs ⟨_, rfl⟩ (fun i e => by cases e) hL hS2 hO
  · cases hs
theorem jk_cj_ok {c : ClassFile.Cond} {off : Int} {x y : Int32} {X Y : Int × Int} {sx sy : Option Nat} (hs : jk_cj c n pc off al as X sx Y sy = some su) (hx : X.1 ≤ x.toInt ∧ x.toInt ≤ X.2) (hy : Y.1 ≤ y.toInt ∧ y.toInt ≤ Y.2) (hsx : ∀ i, sx = some i → ls[i]? = some (some (.int x))) (hsy : ∀ i, sy = some i → ls[i]? = some (some (.int y))) (hL : jk_L ρ l0 al ls) (hS : jk_S ρ ls as st) (hO : jk_Ok RT ρ h) : jk_Nx RT pr rt ρ l0 h su (jv_len n 3 (jv_go pc off (jv_cmp c x y) ls st h)) := by
  unfold jk_cj at hs
  split at hs
  · rename_i hn
    split at hs
    · rename_i t e
      cases hs
      rw [jk_len (eq_of_beq hn)]
      unfold jv_go
      rw [e]
      by_cases b : jv_cmp c x y = true
      · obtain ⟨al', m, l⟩ := jk_bs_ok (t := t) (as := as) hx hy hsx hsy b hL
        simp only [b, if_true]
        exact jk_one (List.mem_append_left _ m) l hS hO (jk_Fr_rf h)
      · obtain ⟨al', m, l⟩ := jk_bs_ok (t := pc + 3) (as := as) hx hy hsx hsy (jk_neg_ok b) hL
        simp only [b, if_false, Bool.false_eq_true]
        exact jk_one (List.mem_append_right _ m) l hS hO (jk_Fr_rf h)
    · cases hs
  · cases hs
theorem jk_idx {n lo : Nat} {j : Int × Int} {x : Int32} (h0 : 0 ≤ j.1) (h1 : j.2 < (lo : Int)) (hx : j.1 ≤ x.toInt ∧ x.toInt ≤ j.2) (hn : lo ≤ n) : ¬ (x < 0 ∨ n ≤ x.toNatClampNeg) := by
  have e : (0 : Int32).toInt = 0 := by decide
  rw [Int32.lt_iff_toInt_lt, e]
  unfold Int32.toNatClampNeg
  omega
theorem jk_al_ok {p : FieldType → Bool} {w : Nat} (hs : jk_al RT p w n pc al as = some su) (hL : jk_L ρ l0 al ls) (hS : jk_S ρ ls as st) (hO : jk_Ok RT ρ h) : ∃ (j : Int32) (a : Nat) (vs : List Value) (ty : FieldType) (kd : Nat) (v : Value), st = .int j :: .ref a :: vs ∧ p ty = true ∧ jt_at[kd]? = some ty ∧ ¬ kd = jt_scr ∧ (∃ n f, h.1 a = some (.inr (kd, n, f))) ∧ jv_al h a ty j = some v ∧ jk_Nx RT pr rt ρ l0 h su (jv_len n 1 (jv_n (pc + 1) ls (v :: vs) h)) := by
  unfold jk_al at hs
  split at hs
  · rename_i J _ A _ as'
    split at hs
    · rename_i q kd lo e he
      split at hs
      · rename_i ty hty
        split at hs
        · rename_i hb
          simp only [Bool.and_eq_true, beq_iff_eq, decide_eq_true_eq, Bool.not_eq_true', beq_eq_false_iff_ne, ne_eq] at hb
          obtain ⟨v, vs, rfl, hv, _, hS'⟩ := jk_S_cons hS
          obtain ⟨w', ws, rfl, hw, _, hS2⟩ := jk_S_cons hS'
          obtain ⟨j, rfl, j1, j2⟩ := hv
          obtain ⟨a, len, f, rfl, ha, hr, hc, hlo, hle, hf⟩ := jk_ar_ok he hw hO
          have hi := jk_idx hb.1.2 hb.2 ⟨j1, j2⟩ hlo
          refine ⟨j, a, ws, ty, kd, f j.toNatClampNeg, rfl, hb.1.1.1.1, hty, hb.1.1.2, ⟨len, f, hc⟩, ?_, jk_ps_ok hs (hf _) (fun i e => by cases e) hL hS2 hO⟩
          unfold jv_al
          rw [hc]
          exact if_pos ⟨hty, hi⟩
        · cases hs
      · cases hs
    · cases hs
  · cases hs
theorem jk_as_ok {p : FieldType → Bool} (hs : jk_as RT pr p n pc al as = some su) (hL : jk_L ρ l0 al ls) (hS : jk_S ρ ls as st) (hO : jk_Ok RT ρ h) : ∃ (v : Value) (j : Int32) (a : Nat) (vs : List Value) (ty : FieldType) (kd : Nat) (tv : jk_T) (h' : jv_H), st = v :: .int j :: .ref a :: vs ∧ jk_V ρ tv v ∧ jk_fit ty tv = true ∧ p ty = true ∧ jt_at[kd]? = some ty ∧ ¬ kd = jt_scr ∧ (∃ n f, h.1 a = some (.inr (kd, n, f))) ∧ jv_as h a ty j v = some h' ∧ (∀ C, ty = .object C → jk_isA RT C tv = true) ∧ jk_Nx RT pr rt ρ l0 h su (jv_len n 1 (jv_n (pc + 1) ls vs h')) := by
  unfold jk_as at hs
  split at hs
  · rename_i tv _ J _ A _ as'
    split at hs
    · rename_i q kd lo e he
      split at hs
      · rename_i ty hty
        split at hs
        · rename_i hb
          rw [Bool.and_eq_true, Bool.and_eq_true] at hb
          obtain ⟨⟨hb, hC⟩, hn⟩ := hb
          simp only [Bool.and_eq_true, beq_iff_eq, decide_eq_true_eq, Bool.not_eq_true', beq_eq_false_iff_ne, ne_eq] at hb
          cases hs
          obtain ⟨u, us, rfl, hu, _, hS0⟩ := jk_S_cons hS
          obtain ⟨v, vs, rfl, hv, _, hS'⟩ := jk_S_cons hS0
          obtain ⟨w', ws, rfl, hw, _, hS2⟩ := jk_S_cons hS'
          obtain ⟨j, rfl, j1, j2⟩ := hv
          obtain ⟨a, len, f, rfl, ha, hr, hc, hlo, hle, hf⟩ := jk_ar_ok he hw hO
          have hi := jk_idx hb.1.2 hb.2 ⟨j1, j2⟩ hlo
          refine ⟨u, j, a, ws, ty, kd, tv, (jv_up h.1 a (.inr (kd, len, updV f j.toNatClampNeg u)), h.2), rfl, hu, hb.1.1.1.1.2, hb.1.1.1.1.1.1, hty, hb.1.1.1.2, ⟨len, f, hc⟩, ?_, fun C hC' => ?_, ?_⟩
          · unfold jv_as
            rw [hc]
            exact if_pos ⟨hb.1.1.1.2, hty, hi⟩
          · subst hC'
            exact hC
          · rw [jk_len (eq_of_beq hn)]
            refine jk_one (List.mem_singleton.mpr rfl) hL hS2 ?_ ?_
            · refine jk_Ok_up hO ha hr ⟨rfl, hlo, hle, fun i => ?_⟩
              unfold updV
              split
              · exact jk_V_sub hb.1.1.1.1.1.2 hu
              · exact hf i
            · refine jk_Fr_up ha hc ⟨rfl, rfl, fun z => ?_⟩
              rw [hb.1.1.2] at z
              cases z
        · cases hs
      · cases hs
    · cases hs
  · cases hs
theorem jk_isA_ok {C : String} {t : jk_T} (hA : jk_isA RT C t = true) (hv : jk_V ρ t v) (hO : jk_Ok RT ρ h) : jv_isA h C v = true := by
  unfold jk_isA at hA
  split at hA
  · have e : v = .null := hv
    subst e
    rfl
  · rename_i q nn
    split at hA
    · rename_i ci ts hr
      rcases hv with ⟨_, rfl⟩ | ⟨a, rfl, ha⟩
      · rfl
      · obtain ⟨d, c, h1, h2, h3⟩ := hO a q ha
        rw [hr] at h1
        cases h1
        rcases c with ⟨ci2, fs⟩ | ⟨kd, n, f⟩
        · obtain ⟨rfl, _⟩ := h3
          simp only [jv_isA, jv_cl, h2]
          exact hA
        · exact h3.elim
    · cases hA
  · cases hA
theorem jk_cl_ok (hc : ∀ y, jk_Sp RT pr sg call y) {y : Nat} {args rest : jk_AS} {vs ws : List Value} (hs : jk_cl sg n pc y al args rest = some su) (hV : jk_Vs ρ (args.map fun a => a.1) vs) (hL : jk_L ρ l0 al ls) (hS : jk_S ρ ls rest ws) (hO : jk_Ok RT ρ h) : jk_Nx RT pr rt ρ l0 h su (jv_inv call y n pc ls vs ws h) := by
  unfold jk_cl at hs
  split at hs
  · rename_i ats rty hsg
    split at hs
    · rename_i hb
      simp only [Bool.and_eq_true, beq_iff_eq, decide_eq_true_eq] at hb
      obtain ⟨r, h', e, hO', hF, hR⟩ := hc y ats rty hsg ρ h vs hO (jk_Vs_sub hb.1.2 hV)
      have hw : jv_wide ws = true := by
        unfold jv_wide
        rw [jk_S_w hS]
        exact decide_eq_true hb.2
      unfold jv_inv
      rw [if_pos ⟨hb.1.1, hw⟩, e]
      cases rty with
      | none =>
        cases hs
        cases r with
        | none => exact jk_one (List.mem_singleton.mpr rfl) hL hS hO' hF
        | some v => exact hR.elim
      | some t =>
        cases hs
        cases r with
        | none => exact hR.elim
        | some v => exact jk_one (List.mem_singleton.mpr rfl) hL ⟨hR, fun i e => (by cases e), hS⟩ hO' hF
    · cases hs
  · cases hs
end JK
end
section
/-! every instruction that the checker takes -/
section JK
variable {RT : List jk_D} {pr : Nat → Nat → Bool} {sg : jk_G} {rt : Option jk_T} {ρ : jk_R} {M n pc : Nat} {l0 ls : jv_L} {al : jk_AL} {as : jk_AS} {st : List Value} {h : jv_H} {call : jv_F} {su : List jk_A} {v : Value}
theorem jk_two {off : Int} {t : Nat} {b : Bool} (hn : n = 3) (e : jv_to pc off = some t) (h1 : (t, al, as) ∈ su) (h2 : (pc + 3, al, as) ∈ su) (hL : jk_L ρ l0 al ls) (hS : jk_S ρ ls as st) (hO : jk_Ok RT ρ h) : jk_Nx RT pr rt ρ l0 h su (jv_len n 3 (jv_go pc off b ls st h)) := by
  rw [jk_len hn]
  unfold jv_go
  rw [e]
  cases b
  · exact jk_one h2 hL hS hO (jk_Fr_rf h)
  · exact jk_one h1 hL hS hO (jk_Fr_rf h)
theorem jk_goto {off : Int} {t : Nat} (e : jv_to pc off = some t) (h1 : (t, al, as) ∈ su) (hL : jk_L ρ l0 al ls) (hS : jk_S ρ ls as st) (hO : jk_Ok RT ρ h) : jk_Nx RT pr rt ρ l0 h su (jv_go pc off true ls st h) := by
  unfold jv_go
  rw [e]
  exact jk_one h1 hL hS hO (jk_Fr_rf h)
theorem jk_gt_mem {off : Int} {t : Nat} (e : jv_to pc off = some t) : (t, al, as) ∈ jk_gt pc off al as := by
  unfold jk_gt
  rw [e]
  exact List.mem_singleton.mpr rfl
theorem jk_i_iinc {k : Nat} {c : Int} (hs : jk_ins RT pr sg rt M (.iinc k c) n pc al as = some su) (hL : jk_L ρ l0 al ls) (hS : jk_S ρ ls as st) (hO : jk_Ok RT ρ h) : jk_Nx RT pr rt ρ l0 h su (jv_ins call M (.iinc k c) n pc ls st h) := by
  simp only [jk_ins] at hs
  split at hs
  · rename_i b δ e
    obtain ⟨v, e1, hv, hd⟩ := hL.2 k _ δ e
    obtain ⟨x, rfl, x1, x2⟩ := hv
    split at hs
    · rename_i hb
      simp only [Bool.and_eq_true, beq_iff_eq, decide_eq_true_eq] at hb
      have hk : k < ls.length := (List.getElem?_eq_some_iff.mp e1).1
      have hka : k < (jk_kl al k).length := by rw [jk_kl_len, ← hL.1]; exact hk
      have ec : (Int32.ofInt c).toInt = c := by
        rw [Int32.toInt_ofInt]
        exact Int.bmod_eq_of_le (by simp only [Int32.size]; omega) (by simp only [Int32.size]; omega)
      have ex : jk_x ls k = x.toInt := by unfold jk_x; rw [e1]
      simp only [jv_ins, e1, if_pos hk]
      rw [jk_len hb.1.1]
      split at hs
      · rename_i hr
        simp only [Bool.and_eq_true, decide_eq_true_eq] at hr
        cases hs
        have ea : (x + Int32.ofInt c).toInt = x.toInt + c := by
          rw [Int32.toInt_add, ec]
          exact Int.bmod_eq_of_le (by omega) (by omega)
        refine jk_one (List.mem_singleton.mpr rfl) (jk_set (jk_kl_ok hL k) hka ⟨_, rfl, by rw [ea]; show b.1 + c ≤ _; omega, by rw [ea]; show _ ≤ b.2 + c; omega⟩ (fun d q => ?_)) (jk_S_ns hS) hO (jk_Fr_rf h)
        cases δ with
        | none => cases q
        | some d0 =>
          cases q
          have := hd d0 rfl
          exact ⟨_, rfl, by rw [ea]; show _ = _ + (d0 + c); omega⟩
      · cases hs
        exact jk_one (List.mem_singleton.mpr rfl) (jk_set (jk_kl_ok hL k) hka jk_V_top (fun d q => by cases q)) (jk_S_ns hS) hO (jk_Fr_rf h)
    · cases hs
  · cases hs
theorem jk_i_acmp {cd : ACond} {off : Int} (hs : jk_ins RT pr sg rt M (.if_acmp cd off) n pc al as = some su) (hL : jk_L ρ l0 al ls) (hS : jk_S ρ ls as st) (hO : jk_Ok RT ρ h) : jk_Nx RT pr rt ρ l0 h su (jv_ins call M (.if_acmp cd off) n pc ls st h) := by
  simp only [jk_ins] at hs
  split at hs
  · rename_i y _ x _ as'
    split at hs
    · rename_i hb
      simp only [Bool.and_eq_true, beq_iff_eq] at hb
      split at hs
      · rename_i t e
        cases hs
        obtain ⟨v, vs, rfl, hv, _, hS'⟩ := jk_S_cons hS
        obtain ⟨w, ws, rfl, hw, _, hS2⟩ := jk_S_cons hS'
        have m1 : (t, al, as') ∈ [(t, al, as'), (pc + 3, al, as')] := List.mem_cons_self
        have m2 : (pc + 3, al, as') ∈ [(t, al, as'), (pc + 3, al, as')] := List.mem_cons_of_mem _ List.mem_cons_self
        rcases jk_kd2 hb.1.1 hv with rfl | ⟨a, rfl⟩ <;> rcases jk_kd2 hb.1.2 hw with rfl | ⟨a', rfl⟩ <;> exact jk_two hb.2 e m1 m2 hL hS2 hO
      · cases hs
    · cases hs
  · cases hs
theorem jk_i_null {off : Int} (hs : jk_ins RT pr sg rt M (.ifnull off) n pc al as = some su) (hL : jk_L ρ l0 al ls) (hS : jk_S ρ ls as st) (hO : jk_Ok RT ρ h) : jk_Nx RT pr rt ρ l0 h su (jv_ins call M (.ifnull off) n pc ls st h) := by
  simp only [jk_ins] at hs
  split at hs
  · rename_i s as'
    split at hs
    · rename_i t e
      split at hs
      · rename_i hn
        cases hs
        obtain ⟨v, vs, rfl, hv, _, hS'⟩ := jk_S_cons hS
        have q : v = .null := hv
        subst q
        show jk_Nx RT pr rt ρ l0 h _ (jv_len n 3 (jv_go pc off true ls vs h))
        rw [jk_len (eq_of_beq hn)]
        exact jk_goto e (List.mem_singleton.mpr rfl) hL hS' hO
      · cases hs
    · cases hs
  · rename_i q nn s as'
    split at hs
    · rename_i t e
      split at hs
      · rename_i hn
        cases hs
        obtain ⟨v, vs, rfl, hv, hsrc, hS'⟩ := jk_S_cons hS
        rcases hv with ⟨e1, rfl⟩ | ⟨a, rfl, ha⟩
        · show jk_Nx RT pr rt ρ l0 h _ (jv_len n 3 (jv_go pc off true ls vs h))
          rw [jk_len (eq_of_beq hn)]
          have e1 : nn = false := e1
          subst e1
          exact jk_goto e (List.mem_append_left _ (List.mem_singleton.mpr rfl)) hL hS' hO
        · show jk_Nx RT pr rt ρ l0 h _ (jv_len n 3 (jv_n (pc + 3) ls vs h))
          rw [jk_len (eq_of_beq hn)]
          exact jk_one (List.mem_append_right _ (List.mem_singleton.mpr rfl)) (jk_nar_ok hL hsrc (Or.inr ⟨a, rfl, ha⟩)) hS' hO (jk_Fr_rf h)
      · cases hs
    · cases hs
  · cases hs
theorem jk_i_nonnull {off : Int} (hs : jk_ins RT pr sg rt M (.ifnonnull off) n pc al as = some su) (hL : jk_L ρ l0 al ls) (hS : jk_S ρ ls as st) (hO : jk_Ok RT ρ h) : jk_Nx RT pr rt ρ l0 h su (jv_ins call M (.ifnonnull off) n pc ls st h) := by
  simp only [jk_ins] at hs
  split at hs
  · rename_i s as'
    split at hs
    · rename_i hn
      cases hs
      obtain ⟨v, vs, rfl, hv, _, hS'⟩ := jk_S_cons hS
      have q : v = .null := hv
      subst q
      show jk_Nx RT pr rt ρ l0 h _ (jv_len n 3 (jv_n (pc + 3) ls vs h))
      rw [jk_len (eq_of_beq hn)]
      exact jk_one (List.mem_singleton.mpr rfl) hL hS' hO (jk_Fr_rf h)
    · cases hs
  · rename_i q nn s as'
    split at hs
    · rename_i t e
      split at hs
      · rename_i hn
        cases hs
        obtain ⟨v, vs, rfl, hv, hsrc, hS'⟩ := jk_S_cons hS
        rcases hv with ⟨e1, rfl⟩ | ⟨a, rfl, ha⟩
        · show jk_Nx RT pr rt ρ l0 h _ (jv_len n 3 (jv_n (pc + 3) ls vs h))
          rw [jk_len (eq_of_beq hn)]
          have e1 : nn = false := e1
          subst e1
          exact jk_one (List.mem_append_left _ (List.mem_singleton.mpr rfl)) hL hS' hO (jk_Fr_rf h)
        · show jk_Nx RT pr rt ρ l0 h _ (jv_len n 3 (jv_go pc off true ls vs h))
          rw [jk_len (eq_of_beq hn)]
          exact jk_goto e (List.mem_append_right _ (List.mem_singleton.mpr rfl)) (jk_nar_ok hL hsrc (Or.inr ⟨a, rfl, ha⟩)) hS' hO
      · cases hs
    · cases hs
  · cases hs
theorem jk_i_table {dflt lo hi : Int} {offs : Array Int} (hs : jk_ins RT pr sg rt M (.tableswitch dflt lo hi offs) n pc al as = some su) (hL : jk_L ρ l0 al ls) (hS : jk_S ρ ls as st) (hO : jk_Ok RT ρ h) : jk_Nx RT pr rt ρ l0 h su (jv_ins call M (.tableswitch dflt lo hi offs) n pc ls st h) := by
  simp only [jk_ins] at hs
  split at hs
  · rename_i X s as'
    split at hs
    · rename_i hb
      simp only [Bool.and_eq_true, decide_eq_true_eq, List.all_eq_true] at hb
      cases hs
      obtain ⟨v, vs, rfl, hv, _, hS'⟩ := jk_S_cons hS
      obtain ⟨x, rfl, x1, x2⟩ := hv
      simp only [jv_ins]
      by_cases hr : x.toInt < lo ∨ hi < x.toInt
      · rw [if_pos hr]
        obtain ⟨t, e⟩ := Option.isSome_iff_exists.mp hb.1.2
        refine jk_goto e (List.mem_append_left _ ?_) hL hS' hO
        rw [if_pos (by simp only [Bool.or_eq_true, decide_eq_true_eq]; omega)]
        exact jk_gt_mem e
      · rw [if_neg hr]
        have hr1 : lo ≤ x.toInt := by omega
        have hr2 : x.toInt ≤ hi := by omega
        have hlt : (x.toInt - lo).toNat < offs.size := by omega
        rw [Array.getElem?_eq_getElem hlt]
        have hm : offs[(x.toInt - lo).toNat] ∈ offs.toList := by simp
        obtain ⟨t, e⟩ := Option.isSome_iff_exists.mp (hb.2 _ hm)
        refine jk_goto e (List.mem_append_right _ (List.mem_flatMap.mpr ⟨(offs[(x.toInt - lo).toNat], (x.toInt - lo).toNat), ?_, ?_⟩)) hL hS' hO
        · rw [List.mk_mem_zipIdx_iff_getElem?]
          simp
        · simp only
          rw [if_pos (by simp only [Bool.and_eq_true, decide_eq_true_eq]; omega)]
          exact jk_gt_mem e
    · cases hs
  · cases hs
theorem jk_off (ps : List (Int × Int)) (d k : Int) : Op.lookupswitch.offset ps d k = d ∨ ∃ q ∈ ps, q.1 = k ∧ Op.lookupswitch.offset ps d k = q.2 := by
  induction ps with
  | nil => exact Or.inl rfl
  | cons p r ih =>
    obtain ⟨a, o⟩ := p
    unfold Op.lookupswitch.offset
    split
    · rename_i e
      exact Or.inr ⟨(a, o), List.mem_cons_self, e, rfl⟩
    · rcases ih with q | ⟨q, m, e⟩
      · exact Or.inl q
      · exact Or.inr ⟨q, List.mem_cons_of_mem _ m, e⟩
theorem jk_i_lookup {dflt : Int} {ps : Array (Int × Int)} (hs : jk_ins RT pr sg rt M (.lookupswitch dflt ps) n pc al as = some su) (hL : jk_L ρ l0 al ls) (hS : jk_S ρ ls as st) (hO : jk_Ok RT ρ h) : jk_Nx RT pr rt ρ l0 h su (jv_ins call M (.lookupswitch dflt ps) n pc ls st h) := by
  simp only [jk_ins] at hs
  split at hs
  · rename_i X s as'
    split at hs
    · rename_i hb
      rw [Bool.and_eq_true, Bool.and_eq_true] at hb
      obtain ⟨⟨hb1, hb2⟩, hb3⟩ := hb
      cases hs
      obtain ⟨v, vs, rfl, hv, _, hS'⟩ := jk_S_cons hS
      obtain ⟨x, rfl, x1, x2⟩ := hv
      simp only [jv_ins]
      rw [if_pos hb1]
      rcases jk_off ps.toList dflt x.toInt with q | ⟨q, m, eq, e0⟩
      · rw [q]
        obtain ⟨t, e⟩ := Option.isSome_iff_exists.mp hb2
        exact jk_goto e (List.mem_append_left _ (jk_gt_mem e)) hL hS' hO
      · rw [e0]
        obtain ⟨t, e⟩ := Option.isSome_iff_exists.mp (List.all_eq_true.mp hb3 q m)
        refine jk_goto e (List.mem_append_right _ (List.mem_flatMap.mpr ⟨q, m, ?_⟩)) hL hS' hO
        rw [if_pos (by simp only [Bool.and_eq_true, decide_eq_true_eq]; omega)]
        exact jk_gt_mem e
    · cases hs
  · cases hs
theorem jk_i_get {k : Nat} (hs : jk_ins RT pr sg rt M (.getfield k) n pc al as = some su) (hL : jk_L ρ l0 al ls) (hS : jk_S ρ ls as st) (hO : jk_Ok RT ρ h) : jk_Nx RT pr rt ρ l0 h su (jv_ins call M (.getfield k) n pc ls st h) := by
  simp only [jk_ins] at hs
  split at hs
  · rename_i a s as'
    split at hs
    · rename_i q ci ts ci' f hob hf
      split at hs
      · rename_i t ht
        split at hs
        · rename_i hb
          have hb := eq_of_beq hb
          subst hb
          obtain ⟨v, vs, rfl, hv, _, hS'⟩ := jk_S_cons hS
          obtain ⟨a, fs, rfl, ha, hr, hc, hV⟩ := jk_ob_ok hob hv hO
          obtain ⟨w, hw, hwv⟩ := jk_Vs_get hV ht
          have hg : jv_gf h a ci f = some w := by
            unfold jv_gf
            rw [hc]
            exact (if_pos rfl).trans hw
          simp only [jv_ins, hf, hg]
          exact jk_ps_ok hs hwv (fun i e => by cases e) hL hS' hO
        · cases hs
      · cases hs
    · cases hs
  · cases hs
theorem jk_i_put {k : Nat} (hs : jk_ins RT pr sg rt M (.putfield k) n pc al as = some su) (hL : jk_L ρ l0 al ls) (hS : jk_S ρ ls as st) (hO : jk_Ok RT ρ h) : jk_Nx RT pr rt ρ l0 h su (jv_ins call M (.putfield k) n pc ls st h) := by
  simp only [jk_ins] at hs
  split at hs
  · rename_i tv _ a s as'
    split at hs
    · rename_i q ci ts ci' f hob hf
      split at hs
      · rename_i t ht
        split at hs
        · rename_i hb
          simp only [Bool.and_eq_true, beq_iff_eq, Bool.not_eq_true'] at hb
          obtain ⟨⟨⟨⟨⟨rfl, b2⟩, b3⟩, b4⟩, b5⟩, b6⟩ := hb
          cases hs
          obtain ⟨w, ws, rfl, hw, _, hS0⟩ := jk_S_cons hS
          obtain ⟨v, vs, rfl, hv, _, hS'⟩ := jk_S_cons hS0
          obtain ⟨a, fs, rfl, ha, hr, hc, hV⟩ := jk_ob_ok hob hv hO
          have hfl : f < fs.length := by rw [jk_Vs_len hV]; exact (List.getElem?_eq_some_iff.mp ht).1
          have hfit := jk_fit_ok b3 hw
          have hp : jv_pf h a ci f w = some (jv_up h.1 a (.inl (ci, fs.set f w)), h.2) := by
            unfold jv_pf
            rw [hc]
            exact if_pos ⟨rfl, hfl, hfit.1, hfit.2⟩
          simp only [jv_ins, hf, hp]
          rw [if_pos (Or.inl b5), jk_len b6]
          refine jk_one (List.mem_singleton.mpr rfl) hL hS' (jk_Ok_up hO ha hr ⟨rfl, jk_Vs_set hV ht (jk_V_sub b2 hw)⟩) (jk_Fr_up ha hc ⟨rfl, by simp, fun k hk => ?_⟩)
          have hne : ¬ f = k := fun e => by rw [← e, b4] at hk; cases hk
          exact List.getElem?_set_ne hne
        · cases hs
      · cases hs
    · cases hs
  · cases hs
theorem jk_isO_inv {ty : FieldType} (hp : jk_isO ty = true) : ∃ C, ty = .object C := by
  cases ty <;> first | exact ⟨_, rfl⟩ | cases hp
theorem jk_kn_ok {a kd : Nat} {C : String} (hc : ∃ n f, h.1 a = some (.inr (kd, n, f))) (hs : ¬ kd = jt_scr) (ht : jt_at[kd]? = some (.object C)) : jv_kn h a = some C := by
  obtain ⟨n, f, hc⟩ := hc
  unfold jv_kn
  rw [hc]
  simp only
  rw [if_neg hs, ht]
  rfl
theorem jk_i_virt (hc : ∀ y, jk_Sp RT pr sg call y) {k : Nat} (hs : jk_ins RT pr sg rt M (.invokevirtual k) n pc al as = some su) (hL : jk_L ρ l0 al ls) (hS : jk_S ρ ls as st) (hO : jk_Ok RT ρ h) : jk_Nx RT pr rt ρ l0 h su (jv_ins call M (.invokevirtual k) n pc ls st h) := by
  simp only [jk_ins] at hs
  split at hs
  · rename_i y hy
    split at hs
    · rename_i b s rest hdr
      split at hs
      · rename_i q ci ts hob
        split at hs
        · rename_i hb
          simp only [Bool.and_eq_true, beq_iff_eq] at hb
          have hS' := jk_S_drop (k := jt_np y) hS
          rw [hdr] at hS'
          obtain ⟨v, vs, hst, hv, hsrc, hS2⟩ := jk_S_cons hS'
          obtain ⟨a, fs, rfl, ha, hr, hcell, hV⟩ := jk_ob_ok hob hv hO
          have hcl : jv_cl h a = some (jt_own y) := by
            unfold jv_cl
            rw [hcell, ← hb.2]
          have hlen : jt_np y ≤ st.length := by
            have := congrArg List.length hst
            simp at this
            omega
          simp only [jv_ins, hy, hst]
          rw [if_pos ⟨hb.1, hcl, hlen⟩]
          refine jk_cl_ok hc hs ?_ hL hS2 hO
          rw [List.map_cons, List.map_reverse]
          exact ⟨hv, jk_Vs_rev (jk_S_take hS)⟩
        · cases hs
      · cases hs
    · cases hs
  · cases hs
theorem jk_i_stat (hc : ∀ y, jk_Sp RT pr sg call y) {k : Nat} (hs : jk_ins RT pr sg rt M (.invokestatic k) n pc al as = some su) (hL : jk_L ρ l0 al ls) (hS : jk_S ρ ls as st) (hO : jk_Ok RT ρ h) : jk_Nx RT pr rt ρ l0 h su (jv_ins call M (.invokestatic k) n pc ls st h) := by
  simp only [jk_ins] at hs
  split at hs
  · rename_i y hy
    split at hs
    · rename_i hb
      simp only [Bool.and_eq_true, beq_iff_eq, decide_eq_true_eq] at hb
      simp only [jv_ins, hy]
      rw [if_pos ⟨hb.1, by rw [jk_S_len hS]; exact hb.2⟩]
      refine jk_cl_ok hc hs ?_ hL (jk_S_drop hS) hO
      rw [List.map_reverse]
      exact jk_Vs_rev (jk_S_take hS)
    · cases hs
  · cases hs
theorem jk_i_iret (hs : jk_ins RT pr sg rt M .ireturn n pc al as = some su) (hS : jk_S ρ ls as st) : jk_Nx RT pr rt ρ l0 h su (jv_ins call M .ireturn n pc ls st h) := by
  simp only [jk_ins] at hs
  split at hs
  · rename_i v s ty t hret
    split at hs
    · rename_i hb
      simp only [Bool.and_eq_true, beq_iff_eq] at hb
      obtain ⟨w, ws, rfl, hw, _, hS'⟩ := jk_S_cons hS
      have e := jk_S_nil hS'
      subst e
      obtain ⟨X, x, _, rfl, _⟩ := jk_kd0 hb.1.1.2 hw
      have hfit := jk_fit_ok hb.2 hw
      simp only [jv_ins, hret]
      rw [if_pos ⟨hb.1.1.1, hfit.1, hfit.2⟩]
      exact Or.inr ⟨_, rfl, jk_V_sub hb.1.2 hw⟩
    · cases hs
  · cases hs
theorem jk_i_lret (hs : jk_ins RT pr sg rt M .lreturn n pc al as = some su) (hS : jk_S ρ ls as st) : jk_Nx RT pr rt ρ l0 h su (jv_ins call M .lreturn n pc ls st h) := by
  simp only [jk_ins] at hs
  split at hs
  · rename_i v s ty t hret
    split at hs
    · rename_i hb
      simp only [Bool.and_eq_true, beq_iff_eq] at hb
      obtain ⟨w, ws, rfl, hw, _, hS'⟩ := jk_S_cons hS
      have e := jk_S_nil hS'
      subst e
      obtain ⟨x, _, rfl⟩ := jk_kd1 hb.1.1.2 hw
      have ety : ty = .long := by cases ty <;> first | rfl | cases hb.2
      subst ety
      simp only [jv_ins, hret]
      rw [if_pos hb.1.1.1]
      exact Or.inr ⟨_, rfl, jk_V_sub hb.1.2 hw⟩
    · cases hs
  · cases hs
theorem jk_i_aret (hs : jk_ins RT pr sg rt M .areturn n pc al as = some su) (hS : jk_S ρ ls as st) : jk_Nx RT pr rt ρ l0 h su (jv_ins call M .areturn n pc ls st h) := by
  simp only [jk_ins] at hs
  split at hs
  · rename_i v s ty t hret
    split at hs
    · rename_i hb
      simp only [Bool.and_eq_true, beq_iff_eq] at hb
      obtain ⟨w, ws, rfl, hw, _, hS'⟩ := jk_S_cons hS
      have e := jk_S_nil hS'
      subst e
      obtain ⟨C, rfl⟩ := jk_isO_inv hb.2
      rcases jk_kd2 hb.1.1.2 hw with rfl | ⟨a, rfl⟩
      · simp only [jv_ins, hret]
        rw [if_pos hb.1.1.1]
        exact Or.inr ⟨_, rfl, jk_V_sub hb.1.2 hw⟩
      · simp only [jv_ins, hret]
        rw [if_pos hb.1.1.1]
        exact Or.inr ⟨_, rfl, jk_V_sub hb.1.2 hw⟩
    · cases hs
  · cases hs
theorem jk_i_ret (hs : jk_ins RT pr sg rt M .return_ n pc al as = some su) (hS : jk_S ρ ls as st) : jk_Nx RT pr rt ρ l0 h su (jv_ins call M .return_ n pc ls st h) := by
  simp only [jk_ins] at hs
  split at hs
  · rename_i hret
    split at hs
    · rename_i hb
      have e := jk_S_nil hS
      subst e
      simp only [jv_ins, hret]
      rw [if_pos (eq_of_beq hb)]
      exact Or.inr ⟨_, rfl, True.intro⟩
    · cases hs
  · cases hs
theorem jk_nos {ls : jv_L} {v : Value} : ∀ i, (none : Option Nat) = some i → ls[i]? = some (some v) := fun i e => by cases e
end JK
end
section
/-! a method that the checker takes keeps its types -/
section JK
variable {RT : List jk_D} {pr : Nat → Nat → Bool} {sg : jk_G} {rt : Option jk_T} {ρ : jk_R} {M n pc : Nat} {l0 ls : jv_L} {al : jk_AL} {as : jk_AS} {st : List Value} {h : jv_H} {call : jv_F} {su : List jk_A} {v : Value}
theorem jk_ins_ok (hc : ∀ y, jk_Sp RT pr sg call y) {i : Instr} (hs : jk_ins RT pr sg rt M i n pc al as = some su) (hL : jk_L ρ l0 al ls) (hS : jk_S ρ ls as st) (hO : jk_Ok RT ρ h) : jk_Nx RT pr rt ρ l0 h su (jv_ins call M i n pc ls st h) := by
  cases i
  case aconst_null => exact jk_ps_ok hs rfl jk_nos hL hS hO
  case iconst v => exact jk_ps_ok hs (jk_V_ps rfl) jk_nos hL hS hO
  case bipush v => exact jk_ps_ok hs (jk_V_ps rfl) jk_nos hL hS hO
  case sipush v => exact jk_ps_ok hs (jk_V_ps rfl) jk_nos hL hS hO
  case lconst v => exact jk_ps_ok hs ⟨_, rfl⟩ jk_nos hL hS hO
  case ldc k =>
    simp only [jk_ins] at hs
    split at hs
    · rename_i v e
      simp only [jv_ins, e]
      exact jk_ps_ok hs (jk_V_ps rfl) jk_nos hL hS hO
    · cases hs
  case ldc2_w k =>
    simp only [jk_ins] at hs
    split at hs
    · rename_i v e
      simp only [jv_ins, e]
      exact jk_ps_ok hs ⟨_, rfl⟩ jk_nos hL hS hO
    · cases hs
  case iload k => exact jk_ldi_ok hs hL hS hO
  case iload_n k => exact jk_ldi_ok hs hL hS hO
  case lload k => exact jk_ldl_ok hs hL hS hO
  case lload_n k => exact jk_ldl_ok hs hL hS hO
  case aload k => exact jk_lda_ok hs hL hS hO
  case aload_n k => exact jk_lda_ok hs hL hS hO
  case istore k => exact jk_sti_ok hs hL hS hO
  case istore_n k => exact jk_sti_ok hs hL hS hO
  case lstore k => exact jk_stl_ok hs hL hS hO
  case lstore_n k => exact jk_stl_ok hs hL hS hO
  case astore k => exact jk_sta_ok hs hL hS hO
  case astore_n k => exact jk_sta_ok hs hL hS hO
  case iinc k c => exact jk_i_iinc hs hL hS hO
  case iadd => exact jk_b2_ok (f := jk_fadd) (g := fun x y => x + y) (fun X Y x y t hx hy e => by unfold jk_fadd at e; cases e; exact jk_V_add hx hy) hs hL hS hO
  case isub => exact jk_b2_ok (f := jk_fsub) (g := fun x y => x - y) (fun X Y x y t hx hy e => by unfold jk_fsub at e; cases e; exact jk_V_subt hx hy) hs hL hS hO
  case imul => exact jk_b2_ok (f := jk_fmul) (g := fun x y => x * y) (fun X Y x y t hx hy e => jk_V_mul hx hy e) hs hL hS hO
  case iand => exact jk_b2_ok (f := jk_fand) (g := fun x y => x &&& y) (fun X Y x y t hx hy e => jk_V_and hx hy e) hs hL hS hO
  case ixor => exact jk_b2_ok (f := jk_fany) (g := fun x y => x ^^^ y) (fun X Y x y t hx hy e => by unfold jk_fany at e; cases e; exact jk_V_top) hs hL hS hO
  case ishl => exact jk_b2_ok (f := jk_fany) (g := fun x y => x <<< (y &&& 31)) (fun X Y x y t hx hy e => by unfold jk_fany at e; cases e; exact jk_V_top) hs hL hS hO
  case ishr => exact jk_b2_ok (f := jk_fany) (g := fun x y => x >>> (y &&& 31)) (fun X Y x y t hx hy e => by unfold jk_fany at e; cases e; exact jk_V_top) hs hL hS hO
  case idiv =>
    obtain ⟨X, Y, x, y, as', vs, t, rfl, hx, hy, hf, hp, hS'⟩ := jk_o2_inv hs hS
    have hd := jk_V_div (ρ := ρ) hx hy hf
    simp only [jv_ins]
    rw [if_neg hd.1]
    exact jk_ps_ok hp hd.2 jk_nos hL hS' hO
  case irem =>
    obtain ⟨X, Y, x, y, as', vs, t, rfl, hx, hy, hf, hp, hS'⟩ := jk_o2_inv hs hS
    have hd := jk_V_rem (ρ := ρ) (z := x - x / y * y) hy hf
    simp only [jv_ins]
    rw [if_neg hd.1]
    exact jk_ps_ok hp hd.2 jk_nos hL hS' hO
  case ladd => exact jk_l2_ok hs hL hS hO
  case lsub => exact jk_l2_ok hs hL hS hO
  case lmul => exact jk_l2_ok hs hL hS hO
  case land => exact jk_l2_ok hs hL hS hO
  case lor => exact jk_l2_ok hs hL hS hO
  case lneg =>
    simp only [jk_ins] at hs
    split at hs
    · obtain ⟨v, vs, rfl, hv, _, hS'⟩ := jk_S_cons hS
      obtain ⟨y, rfl⟩ := hv
      exact jk_ps_ok hs ⟨_, rfl⟩ jk_nos hL hS' hO
    · cases hs
  case lshl =>
    simp only [jk_ins] at hs
    split at hs
    · obtain ⟨v, vs, rfl, hv, _, hS'⟩ := jk_S_cons hS
      obtain ⟨w, ws, rfl, hw, _, hS2⟩ := jk_S_cons hS'
      obtain ⟨y, rfl, _⟩ := hv
      obtain ⟨x, rfl⟩ := hw
      exact jk_ps_ok hs ⟨_, rfl⟩ jk_nos hL hS2 hO
    · cases hs
  case lshr =>
    simp only [jk_ins] at hs
    split at hs
    · obtain ⟨v, vs, rfl, hv, _, hS'⟩ := jk_S_cons hS
      obtain ⟨w, ws, rfl, hw, _, hS2⟩ := jk_S_cons hS'
      obtain ⟨y, rfl, _⟩ := hv
      obtain ⟨x, rfl⟩ := hw
      exact jk_ps_ok hs ⟨_, rfl⟩ jk_nos hL hS2 hO
    · cases hs
  case lcmp =>
    simp only [jk_ins] at hs
    split at hs
    · obtain ⟨v, vs, rfl, hv, _, hS'⟩ := jk_S_cons hS
      obtain ⟨w, ws, rfl, hw, _, hS2⟩ := jk_S_cons hS'
      obtain ⟨y, rfl⟩ := hv
      obtain ⟨x, rfl⟩ := hw
      exact jk_ps_ok hs jk_V_top jk_nos hL hS2 hO
    · cases hs
  case i2l =>
    simp only [jk_ins] at hs
    split at hs
    · obtain ⟨v, vs, rfl, hv, _, hS'⟩ := jk_S_cons hS
      obtain ⟨y, rfl, _⟩ := hv
      exact jk_ps_ok hs ⟨_, rfl⟩ jk_nos hL hS' hO
    · cases hs
  case l2i =>
    simp only [jk_ins] at hs
    split at hs
    · obtain ⟨v, vs, rfl, hv, _, hS'⟩ := jk_S_cons hS
      obtain ⟨y, rfl⟩ := hv
      exact jk_ps_ok hs jk_V_top jk_nos hL hS' hO
    · cases hs
  case dup =>
    simp only [jk_ins] at hs
    split at hs
    · split at hs
      · rename_i hw
        obtain ⟨v, vs, rfl, hv, hsrc, hS'⟩ := jk_S_cons hS
        simp only [jv_ins]
        rw [if_pos ((jk_V_w hv).trans (eq_of_beq hw))]
        exact jk_ps_ok hs hv hsrc hL ⟨hv, hsrc, hS'⟩ hO
      · cases hs
    · cases hs
  case dup2 =>
    simp only [jk_ins] at hs
    split at hs
    · split at hs
      · rename_i hw
        simp only [Bool.and_eq_true, beq_iff_eq] at hw
        cases hs
        obtain ⟨v, vs, rfl, hv, hsrc, hS'⟩ := jk_S_cons hS
        obtain ⟨u, us, rfl, hu, hsrc', hS2⟩ := jk_S_cons hS'
        simp only [jv_ins]
        rw [if_pos ⟨(jk_V_w hv).trans hw.1.1, (jk_V_w hu).trans hw.1.2⟩, jk_len hw.2]
        exact jk_one (List.mem_singleton.mpr rfl) hL ⟨hv, hsrc, hu, hsrc', hv, hsrc, hu, hsrc', hS2⟩ hO (jk_Fr_rf h)
      · cases hs
    · cases hs
  case pop =>
    simp only [jk_ins] at hs
    split at hs
    · split at hs
      · rename_i hw
        simp only [Bool.and_eq_true, beq_iff_eq] at hw
        cases hs
        obtain ⟨v, vs, rfl, hv, hsrc, hS'⟩ := jk_S_cons hS
        simp only [jv_ins]
        rw [if_pos ((jk_V_w hv).trans hw.1), jk_len hw.2]
        exact jk_one (List.mem_singleton.mpr rfl) hL hS' hO (jk_Fr_rf h)
      · cases hs
    · cases hs
  case goto off =>
    simp only [jk_ins] at hs
    split at hs
    · rename_i t e
      split at hs
      · rename_i hn
        cases hs
        simp only [jv_ins]
        rw [jk_len (eq_of_beq hn)]
        exact jk_goto e (List.mem_singleton.mpr rfl) hL hS hO
      · cases hs
    · cases hs
  case if_icmp c off =>
    simp only [jk_ins] at hs
    split at hs
    · obtain ⟨v, vs, rfl, hv, hsy, hS'⟩ := jk_S_cons hS
      obtain ⟨w, ws, rfl, hw, hsx, hS2⟩ := jk_S_cons hS'
      obtain ⟨y, rfl, y1, y2⟩ := hv
      obtain ⟨x, rfl, x1, x2⟩ := hw
      exact jk_cj_ok hs ⟨x1, x2⟩ ⟨y1, y2⟩ hsx hsy hL hS2 hO
    · cases hs
  case ifCond c off =>
    simp only [jk_ins] at hs
    split at hs
    · obtain ⟨w, ws, rfl, hw, hsx, hS'⟩ := jk_S_cons hS
      obtain ⟨x, rfl, x1, x2⟩ := hw
      exact jk_cj_ok (y := 0) hs ⟨x1, x2⟩ ⟨by decide, by decide⟩ hsx jk_nos hL hS' hO
    · cases hs
  case if_acmp cd off => exact jk_i_acmp hs hL hS hO
  case ifnull off => exact jk_i_null hs hL hS hO
  case ifnonnull off => exact jk_i_nonnull hs hL hS hO
  case tableswitch d lo hi offs => exact jk_i_table hs hL hS hO
  case lookupswitch d ps => exact jk_i_lookup hs hL hS hO
  case getfield k => exact jk_i_get hs hL hS hO
  case putfield k => exact jk_i_put hs hL hS hO
  case arraylength =>
    simp only [jk_ins] at hs
    split at hs
    · split at hs
      · rename_i q kd lo e he
        obtain ⟨v, vs, rfl, hv, _, hS'⟩ := jk_S_cons hS
        obtain ⟨a, len, f, rfl, ha, hr, hcell, hlo, hle, hf⟩ := jk_ar_ok he hv hO
        have hln : jv_ln h a = some len := by
          unfold jv_ln
          rw [hcell]
        simp only [jv_ins, hln]
        have e1 : (Int32.ofNat len).toInt = (len : Int) := nI_toInt (by omega)
        exact jk_ps_ok hs ⟨_, rfl, by rw [e1]; show (lo : Int) ≤ _; omega, by rw [e1]; show _ ≤ (100000 : Int); omega⟩ jk_nos hL hS' hO
      · cases hs
    · cases hs
  case iaload =>
    obtain ⟨j, a, vs, ty, kd, v, rfl, hp, hty, hscr, hcell, hal, hN⟩ := jk_al_ok (pr := pr) (rt := rt) hs hL hS hO
    have e : ty = .int := by cases ty <;> first | rfl | cases hp
    subst e
    simp only [jv_ins, hal]
    exact hN
  case laload =>
    obtain ⟨j, a, vs, ty, kd, v, rfl, hp, hty, hscr, hcell, hal, hN⟩ := jk_al_ok (pr := pr) (rt := rt) hs hL hS hO
    have e : ty = .long := by cases ty <;> first | rfl | cases hp
    subst e
    simp only [jv_ins, hal]
    exact hN
  case baload =>
    obtain ⟨j, a, vs, ty, kd, v, rfl, hp, hty, hscr, hcell, hal, hN⟩ := jk_al_ok (pr := pr) (rt := rt) hs hL hS hO
    have e : ty = .boolean := by cases ty <;> first | rfl | cases hp
    subst e
    simp only [jv_ins, hal]
    exact hN
  case aaload =>
    obtain ⟨j, a, vs, ty, kd, v, rfl, hp, hty, hscr, hcell, hal, hN⟩ := jk_al_ok (pr := pr) (rt := rt) hs hL hS hO
    obtain ⟨C, rfl⟩ := jk_isO_inv hp
    simp only [jv_ins, jk_kn_ok hcell hscr hty, hal]
    exact hN
  case iastore =>
    obtain ⟨v, j, a, vs, ty, kd, tv, h', rfl, hv, hfit, hp, hty, hscr, hcell, has, hC, hN⟩ := jk_as_ok (rt := rt) hs hL hS hO
    have e : ty = .int := by cases ty <;> first | rfl | cases hp
    subst e
    have hk : jk_kd tv = 0 := by
      rcases tv with a | a | a
      · rfl
      · cases a <;> cases hfit
      · cases hfit
    obtain ⟨X, x, _, rfl, _⟩ := jk_kd0 hk hv
    simp only [jv_ins, has]
    exact hN
  case lastore =>
    obtain ⟨v, j, a, vs, ty, kd, tv, h', rfl, hv, hfit, hp, hty, hscr, hcell, has, hC, hN⟩ := jk_as_ok (rt := rt) hs hL hS hO
    have e : ty = .long := by cases ty <;> first | rfl | cases hp
    subst e
    have hk : jk_kd tv = 1 := by
      rcases tv with a | a | a
      · cases hfit
      · cases a
        · cases hfit
        · rfl
      · cases hfit
    obtain ⟨x, _, rfl⟩ := jk_kd1 hk hv
    simp only [jv_ins, has]
    exact hN
  case bastore =>
    obtain ⟨v, j, a, vs, ty, kd, tv, h', rfl, hv, hfit, hp, hty, hscr, hcell, has, hC, hN⟩ := jk_as_ok (rt := rt) hs hL hS hO
    have e : ty = .boolean := by cases ty <;> first | rfl | cases hp
    subst e
    have hk : jk_kd tv = 0 := by
      rcases tv with a | a | a
      · rfl
      · cases a <;> cases hfit
      · cases hfit
    have hn := (jk_fit_ok hfit hv).1
    obtain ⟨X, x, _, rfl, _⟩ := jk_kd0 hk hv
    simp only [jv_ins, hn, has]
    exact hN
  case aastore =>
    obtain ⟨v, j, a, vs, ty, kd, tv, h', rfl, hv, hfit, hp, hty, hscr, hcell, has, hC, hN⟩ := jk_as_ok (rt := rt) hs hL hS hO
    obtain ⟨C, rfl⟩ := jk_isO_inv hp
    simp only [jv_ins, jk_kn_ok hcell hscr hty, jk_isA_ok (hC C rfl) hv hO, if_true, has]
    exact hN
  case invokevirtual k => exact jk_i_virt hc hs hL hS hO
  case invokestatic k => exact jk_i_stat hc hs hL hS hO
  case ireturn => exact jk_i_iret hs hS
  case lreturn => exact jk_i_lret hs hS
  case areturn => exact jk_i_aret hs hS
  case return_ => exact jk_i_ret hs hS
  all_goals (simp only [jk_ins] at hs; cases hs)
/-! the number that falls -/
def jk_sum (ls : jv_L) : List (Nat × Int) → Int
  | [] => 0
  | q :: t => q.2 * jk_x ls q.1 + jk_sum ls t
def jk_mu (e : jk_N) (ls : jv_L) : Int := e.2.2.1 - jk_sum ls e.2.2.2
theorem jk_0_get {ts : List (Option jk_T)} {k : Nat} {t : jk_T} (e : ts[k]? = some (some t)) : (jk_0 ts)[k]? = some (some (t, some 0)) := by
  unfold jk_0
  rw [List.getElem?_map, e]
  rfl
theorem jk_x_in {k : Nat} {b : Int × Int} {δ : Option Int} (hL : jk_L ρ l0 al ls) (e : al[k]? = some (some (.inl b, δ))) : b.1 ≤ jk_x ls k ∧ jk_x ls k ≤ b.2 := by
  obtain ⟨v, e1, hv, _⟩ := hL.2 k _ δ e
  obtain ⟨x, rfl, h1, h2⟩ := hv
  have : jk_x ls k = x.toInt := by unfold jk_x; rw [e1]
  rw [this]
  exact ⟨h1, h2⟩
theorem jk_tm_ok {ts : List (Option jk_T)} {k : Nat} {a a' x : Int} (h0 : jk_L ρ l0 (jk_0 ts) l0) (hL : al = [] ∧ a' = 0 ∨ jk_L ρ l0 al ls) (e : jk_tm ts al k a a' = some x) : x ≤ a' * jk_x ls k - a * jk_x l0 k := by
  have hmul : ∀ {p q r : Int}, 0 ≤ p → q ≤ r → p * q ≤ p * r := fun hp hq => Int.mul_le_mul_of_nonneg_left hq hp
  unfold jk_tm at e
  split at e
  · rename_i hz
    simp only [Bool.and_eq_true, beq_iff_eq] at hz
    cases e
    rw [hz.1, hz.2]
    simp
  · split at e
    · rename_i b' d hal
      have hL : jk_L ρ l0 al ls := by
        rcases hL with ⟨q, _⟩ | q
        · rw [q] at hal; simp at hal
        · exact q
      have hx := jk_x_in hL hal
      split at e
      · rename_i hz
        have hz := eq_of_beq hz
        cases e
        obtain ⟨v, e1, hv, hd⟩ := hL.2 k _ _ hal
        rw [hd d rfl, ← hz, Int.mul_add]
        omega
      · split at e
        · rename_i b hb
          have hy := jk_x_in h0 (jk_0_get hb)
          split at e
          · rename_i hz
            simp only [Bool.and_eq_true, decide_eq_true_eq] at hz
            cases e
            have := hmul hz.2 hx.1
            have := hmul hz.1 hy.2
            omega
          · cases e
        · split at e
          · rename_i hz
            simp only [Bool.and_eq_true, beq_iff_eq, decide_eq_true_eq] at hz
            cases e
            have := hmul hz.2 hx.1
            rw [hz.1, Int.zero_mul]
            omega
          · cases e
    · rename_i b' hal
      have hL : jk_L ρ l0 al ls := by
        rcases hL with ⟨q, _⟩ | q
        · rw [q] at hal; simp at hal
        · exact q
      have hx := jk_x_in hL hal
      split at e
      · rename_i b hb
        have hy := jk_x_in h0 (jk_0_get hb)
        split at e
        · rename_i hz
          simp only [Bool.and_eq_true, decide_eq_true_eq] at hz
          cases e
          have := hmul hz.2 hx.1
          have := hmul hz.1 hy.2
          omega
        · cases e
      · split at e
        · rename_i hz
          simp only [Bool.and_eq_true, beq_iff_eq, decide_eq_true_eq] at hz
          cases e
          have := hmul hz.2 hx.1
          rw [hz.1, Int.zero_mul]
          omega
        · cases e
    · split at e
      · rename_i b hb
        have hy := jk_x_in h0 (jk_0_get hb)
        split at e
        · rename_i hz
          simp only [Bool.and_eq_true, beq_iff_eq, decide_eq_true_eq] at hz
          cases e
          have := hmul hz.2 hy.2
          rw [hz.1, Int.zero_mul, Int.neg_mul]
          omega
        · cases e
      · cases e
theorem jk_lw_ok {ts : List (Option jk_T)} (h0 : jk_L ρ l0 (jk_0 ts) l0) (hL : jk_L ρ l0 al ls) : ∀ (s t : List (Nat × Int)) (x : Int), jk_lw ts al s t = some x → x ≤ jk_sum ls t - jk_sum l0 s
  | [], [], x, e => by
    cases e
    simp [jk_sum]
  | [], _ :: _, _, e => by simp [jk_lw] at e
  | _ :: _, [], _, e => by simp [jk_lw] at e
  | (k, a) :: s, (k', a') :: t, x, e => by
    unfold jk_lw at e
    split at e
    · rename_i hk
      have hk := eq_of_beq hk
      subst hk
      split at e
      · rename_i p q hp hq
        cases e
        have h1 := jk_tm_ok h0 (Or.inr hL) hp
        have h2 := jk_lw_ok h0 hL s t q hq
        simp only [jk_sum]
        omega
      · cases e
    · cases e
theorem jk_lp_ok {ts : List (Option jk_T)} (h0 : jk_L ρ l0 (jk_0 ts) l0) : ∀ (s : List (Nat × Int)) (x : Int), jk_lw ts [] s (s.map fun q => (q.1, 0)) = some x → x ≤ - jk_sum l0 s
  | [], x, e => by
    cases e
    simp [jk_sum]
  | (k, a) :: s, x, e => by
    rw [List.map_cons] at e
    unfold jk_lw at e
    split at e
    · split at e
      · rename_i p q hp hq
        cases e
        have h1 := jk_tm_ok (ls := l0) h0 (Or.inl ⟨rfl, rfl⟩) hp
        have h2 := jk_lp_ok h0 s q hq
        simp only [jk_sum]
        rw [Int.zero_mul] at h1
        omega
      · cases e
    · cases e
theorem jk_sL_ok : ∀ {al : jk_AL} {ts : List (Option jk_T)}, jk_sL al ts = true → al.length = ts.length ∧ ∀ (k : Nat) (t : jk_T), ts[k]? = some (some t) → ∃ s δ, al[k]? = some (some (s, δ)) ∧ jk_sub s t = true
  | [], [], _ => ⟨rfl, fun k t e => by simp at e⟩
  | [], none :: _, e => by simp [jk_sL] at e
  | [], some _ :: _, e => by simp [jk_sL] at e
  | _ :: _, [], e => by simp [jk_sL] at e
  | a :: al, none :: ts, e => by
    have ih := jk_sL_ok (al := al) (ts := ts) (by simpa [jk_sL] using e)
    refine ⟨by simp [ih.1], fun k t q => ?_⟩
    cases k with
    | zero => simp at q
    | succ k =>
      simp only [List.getElem?_cons_succ] at q ⊢
      exact ih.2 k t q
  | none :: al, some _ :: ts, e => by simp [jk_sL] at e
  | some (s, δ) :: al, some t :: ts, e => by
    simp only [jk_sL, Bool.and_eq_true] at e
    have ih := jk_sL_ok (al := al) (ts := ts) e.2
    refine ⟨by simp [ih.1], fun k t' q => ?_⟩
    cases k with
    | zero =>
      simp only [List.getElem?_cons_zero, Option.some.injEq] at q ⊢
      subst q
      exact ⟨s, δ, rfl, e.1⟩
    | succ k =>
      simp only [List.getElem?_cons_succ] at q ⊢
      exact ih.2 k t' q
theorem jk_new {ts : List (Option jk_T)} (hl : ls.length = ts.length) (hv : ∀ (k : Nat) (t : jk_T), ts[k]? = some (some t) → ∃ v, ls[k]? = some (some v) ∧ jk_V ρ t v) : jk_L ρ ls (jk_0 ts) ls := by
  refine ⟨by rw [hl]; simp [jk_0], fun k t δ e => ?_⟩
  unfold jk_0 at e
  rw [List.getElem?_map] at e
  cases ht : ts[k]? with
  | none => rw [ht] at e; cases e
  | some o =>
    rw [ht] at e
    cases o with
    | none => cases e
    | some t' =>
      cases e
      obtain ⟨v, e1, hv'⟩ := hv k t ht
      exact ⟨v, e1, hv', fun d q => by cases q; simp⟩
theorem jk_anew {ts : List (Option jk_T)} (hL : jk_L ρ l0 al ls) (hs : jk_sL al ts = true) : jk_L ρ ls (jk_0 ts) ls := by
  have hq := jk_sL_ok hs
  refine jk_new (hL.1.trans hq.1) (fun k t e => ?_)
  obtain ⟨s, δ, e1, e2⟩ := hq.2 k t e
  obtain ⟨v, e3, hv, _⟩ := hL.2 k s δ e1
  exact ⟨v, e3, jk_V_sub e2 hv⟩
theorem jk_go_ok (hc : ∀ y, jk_Sp RT pr sg call y) (an : List jk_N) (e : jk_N) (h0 : jk_L ρ l0 (jk_0 e.2.1) l0) (IH : ∀ e' ∈ an, ∀ (ls' : jv_L) (h' : jv_H), jk_L ρ ls' (jk_0 e'.2.1) ls' → jk_Ok RT ρ h' → jk_mu e' ls' < jk_mu e l0 → jk_Gd RT pr rt ρ h' (jv_ev call M e'.1 ls' [] h')) : ∀ (f pc : Nat) (al : jk_AL) (as : jk_AS) (ls : jv_L) (st : List Value) (h : jv_H), jk_go RT pr sg rt M an e f (pc, al, as) = true → jk_L ρ l0 al ls → jk_S ρ ls as st → jk_Ok RT ρ h → jk_Gd RT pr rt ρ h (jv_ev call M pc ls st h)
  | 0, _, _, _, _, _, _, hg, _, _, _ => by simp [jk_go] at hg
  | f + 1, pc, al, as, ls, st, h, hg, hL, hS, hO => by
    unfold jk_go at hg
    split at hg
    · rename_i i n hd
      split at hg
      · rename_i su hsu
        rw [je_of hd]
        rcases jk_ins_ok (call := call) hc hsu hL hS hO with ⟨pc', ls', st', h', al', as', e1, hm, hO', hF, hL', hS'⟩ | ⟨r, e1, hR⟩
        · rw [e1]
          have ha := List.all_eq_true.mp hg _ hm
          split at ha
          · rename_i e' hfind
            simp only [Bool.and_eq_true] at ha
            have hmem := List.mem_of_find?_eq_some hfind
            have hpc : e'.1 = pc' := by simpa using List.find?_some hfind
            have has : as' = [] := List.isEmpty_iff.mp ha.1.1
            subst has
            have hst := jk_S_nil hS'
            subst hst
            have hL2 := jk_anew hL' ha.1.2
            have hfall : jk_mu e' ls' < jk_mu e l0 := by
              have hf := ha.2
              unfold jk_fall at hf
              split at hf
              · rename_i x hx
                have h1 := jk_lw_ok h0 hL' _ _ x hx
                have h2 := of_decide_eq_true hf
                unfold jk_mu
                omega
              · cases hf
            obtain ⟨r, h2, e2, hO2, hF2, hR2⟩ := IH e' hmem ls' h' hL2 hO' hfall
            rw [hpc] at e2
            exact ⟨r, h2, e2, hO2, jk_Fr_tr hF hF2, hR2⟩
          · obtain ⟨r, h2, e2, hO2, hF2, hR2⟩ := jk_go_ok hc an e h0 IH f pc' al' as' ls' st' h' ha hL' hS' hO'
            exact ⟨r, h2, e2, hO2, jk_Fr_tr hF hF2, hR2⟩
        · rw [e1]
          exact ⟨r, h, rfl, hO, jk_Fr_rf h, hR⟩
      · cases hg
    · cases hg
theorem jk_an_ok (hc : ∀ y, jk_Sp RT pr sg call y) (an : List jk_N) (f : Nat) (hall : ∀ e ∈ an, jk_pos e = true ∧ jk_go RT pr sg rt M an e f (e.1, jk_0 e.2.1, []) = true) : ∀ (N : Nat) (e : jk_N), e ∈ an → ∀ (ls : jv_L) (h : jv_H), jk_L ρ ls (jk_0 e.2.1) ls → jk_Ok RT ρ h → jk_mu e ls < (N : Int) → jk_Gd RT pr rt ρ h (jv_ev call M e.1 ls [] h)
  | 0, e, he, ls, h, hL, hO, hN => by
    exfalso
    have hp := (hall e he).1
    unfold jk_pos at hp
    split at hp
    · rename_i x hx
      have h1 := jk_lp_ok hL _ x hx
      have h2 := of_decide_eq_true hp
      unfold jk_mu at hN
      omega
    · cases hp
  | N + 1, e, he, ls, h, hL, hO, hN => jk_go_ok hc an e hL (fun e' he' ls' h' hL' hO' hlt => jk_an_ok hc an f hall N e' he' ls' h' hL' hO' (by omega)) f e.1 _ [] ls [] h (hall e he).2 hL True.intro hO
/-! a method's entry -/
def jk_en : List jk_T → Nat → List (Option jk_T)
  | [], ml => List.replicate ml none
  | t :: ts, ml => if jk_w t == 2 then some t :: none :: jk_en ts (ml - 2) else some t :: jk_en ts (ml - 1)
def jk_wd : List jk_T → Nat
  | [] => 0
  | t :: ts => jk_w t + jk_wd ts
theorem jk_wd_c {t : jk_T} {ts : List jk_T} : jk_wd (t :: ts) = jk_w t + jk_wd ts := rfl
theorem jk_sl_len : ∀ {ts : List jk_T} {vs : List Value}, jk_Vs ρ ts vs → (jv_sl vs).length = jk_wd ts
  | [], [], _ => rfl
  | [], _ :: _, hv => hv.elim
  | _ :: _, [], hv => hv.elim
  | t :: ts, v :: vs, hv => by
    have ih := jk_sl_len hv.2
    have hw := jk_V_w hv.1
    unfold jv_sl at ih ⊢
    rw [List.flatMap_cons, List.length_append, ih]
    rw [jk_wd_c, ← hw]
    split
    · rename_i q; rw [q]; rfl
    · rename_i q
      have : v.category = 1 ∨ v.category = 2 := by cases v <;> first | exact Or.inl rfl | exact Or.inr rfl
      rcases this with q' | q'
      · rw [q']; rfl
      · exact absurd q' q
def jk_LL (ρ : jk_R) : List (Option jk_T) → jv_L → Prop
  | [], [] => True
  | none :: ts, _ :: ls => jk_LL ρ ts ls
  | some t :: ts, o :: ls => (∃ v, o = some v ∧ jk_V ρ t v) ∧ jk_LL ρ ts ls
  | _, _ => False
theorem jk_LL_rep : ∀ n, jk_LL ρ (List.replicate n none) (List.replicate n none)
  | 0 => True.intro
  | n + 1 => jk_LL_rep n
theorem jk_LL_get : ∀ {ts : List (Option jk_T)} {ls : jv_L}, jk_LL ρ ts ls → ls.length = ts.length ∧ ∀ (k : Nat) (t : jk_T), ts[k]? = some (some t) → ∃ v, ls[k]? = some (some v) ∧ jk_V ρ t v
  | [], [], _ => ⟨rfl, fun k t e => by simp at e⟩
  | [], _ :: _, hl => hl.elim
  | none :: _, [], hl => hl.elim
  | some _ :: _, [], hl => hl.elim
  | none :: ts, o :: ls, hl => by
    have ih := jk_LL_get (ts := ts) (ls := ls) hl
    refine ⟨by simp [ih.1], fun k t e => ?_⟩
    cases k with
    | zero => simp at e
    | succ k =>
      simp only [List.getElem?_cons_succ] at e ⊢
      exact ih.2 k t e
  | some t :: ts, o :: ls, hl => by
    have ih := jk_LL_get (ts := ts) (ls := ls) hl.2
    refine ⟨by simp [ih.1], fun k t' e => ?_⟩
    cases k with
    | zero =>
      simp only [List.getElem?_cons_zero, Option.some.injEq] at e ⊢
      subst e
      obtain ⟨v, e1, hv⟩ := hl.1
      exact ⟨v, e1, hv⟩
    | succ k =>
      simp only [List.getElem?_cons_succ] at e ⊢
      exact ih.2 k t' e
theorem jk_LL_ent : ∀ {ts : List jk_T} {vs : List Value} (ml : Nat), jk_Vs ρ ts vs → jk_wd ts ≤ ml → jk_LL ρ (jk_en ts ml) (jv_sl vs ++ List.replicate (ml - jk_wd ts) none)
  | [], [], ml, _, _ => jk_LL_rep ml
  | [], _ :: _, _, hv, _ => hv.elim
  | _ :: _, [], _, hv, _ => hv.elim
  | t :: ts, v :: vs, ml, hv, hw => by
    have hc := jk_V_w hv.1
    rw [jk_wd_c] at hw
    have e1 : jv_sl (v :: vs) = (if v.category = 2 then [some v, none] else [some v]) ++ jv_sl vs := List.flatMap_cons
    unfold jk_en
    rw [e1]
    by_cases h2 : jk_w t = 2
    · rw [if_pos (beq_iff_eq.mpr h2), if_pos (hc.trans h2)]
      have ih := jk_LL_ent (ml - 2) hv.2 (by omega)
      rw [show ml - jk_wd (t :: ts) = ml - 2 - jk_wd ts by rw [jk_wd_c]; omega]
      exact ⟨⟨v, rfl, hv.1⟩, ih⟩
    · have h1 : jk_w t = 1 := by
        rcases t with a | a | a
        · rfl
        · cases a
          · rfl
          · exact absurd rfl h2
        · rfl
      rw [if_neg (fun q => h2 (eq_of_beq q)), if_neg (by rw [hc]; exact h2)]
      have ih := jk_LL_ent (ml - 1) hv.2 (by omega)
      rw [show ml - jk_wd (t :: ts) = ml - 1 - jk_wd ts by rw [jk_wd_c]; omega]
      exact ⟨⟨v, rfl, hv.1⟩, ih⟩
/-- the whole check of a method -/
def jk_chk (RT : List jk_D) (pr : Nat → Nat → Bool) (sg : jk_G) (ats : List jk_T) (rt : Option jk_T) (M f : Nat) (c : Int) (cs : List (Nat × Int)) (an : List jk_N) : Bool :=
  decide (jk_wd ats ≤ jt_maxL M) && ((0, jk_en ats (jt_maxL M), c, cs) :: an).all fun e => jk_pos e && jk_go RT pr sg rt M ((0, jk_en ats (jt_maxL M), c, cs) :: an) e f (e.1, jk_0 e.2.1, [])
theorem jk_meth {d f : Nat} {c : Int} {cs : List (Nat × Int)} {an : List jk_N} {ats : List jk_T} {sg' : jk_G} (hM : sg M = some (ats, rt)) (hk : jk_chk RT pr sg' ats rt M f c cs an = true) (hc : ∀ y, jk_Sp RT pr sg' (jv_run d) y) : jk_Sp RT pr sg (jv_run (d + 1)) M := by
  intro ats' rt' hsg ρ h as hO hV
  rw [hM] at hsg
  cases hsg
  unfold jk_chk at hk
  rw [Bool.and_eq_true] at hk
  have hw := of_decide_eq_true hk.1
  have hsl := jk_sl_len hV
  rw [jv_run_eq (by rw [hsl]; exact hw) rfl]
  have hall : ∀ e ∈ (0, jk_en ats (jt_maxL M), c, cs) :: an, jk_pos e = true ∧ jk_go RT pr sg' rt M ((0, jk_en ats (jt_maxL M), c, cs) :: an) e f (e.1, jk_0 e.2.1, []) = true := fun e he => by
    have := List.all_eq_true.mp hk.2 e he
    rwa [Bool.and_eq_true] at this
  have hLL := jk_LL_ent (jt_maxL M) hV hw
  have hent : jv_ent M as = jv_sl as ++ List.replicate (jt_maxL M - jk_wd ats) none := by
    unfold jv_ent
    rw [hsl]
  rw [← hent] at hLL
  have hg := jk_LL_get hLL
  exact jk_an_ok hc _ f hall ((jk_mu (0, jk_en ats (jt_maxL M), c, cs) (jv_ent M as)).toNat + 1) _ List.mem_cons_self (jv_ent M as) h (jk_new hg.1 hg.2) hO (by omega)
/-- a method that is checked without calls, or with these callees -/
def jk_sgl (sg : jk_G) (cs : List Nat) : jk_G := fun y => if cs.contains y then sg y else none
theorem jk_sgl_ok {cs : List Nat} (hc : ∀ y ∈ cs, jk_Sp RT pr sg call y) : ∀ y, jk_Sp RT pr (jk_sgl sg cs) call y := by
  intro y ats rt e
  unfold jk_sgl at e
  split at e
  · rename_i hy
    exact hc y (List.contains_iff_mem.mp hy) ats rt e
  · cases e
end JK
end
section
/-! roles, what is kept, signatures (written by wip/gen/check.py) -/
def jc_RT : List jk_D := [.inl (6, [.inr (.inr (1, true)), .inr (.inr (2, true)), .inr (.inr (3, true)), .inr (.inr (11, true)), .inl (0, 12), jk_top, jk_top, jk_top, jk_top, jk_top, jk_top, jk_top]),
  .inl (5, [.inr (.inr (6, true)), .inr (.inr (7, true)), .inl (0, 1000), .inl (0, 2000)]),
  .inl (2, [.inr (.inr (8, true)), .inl (3, 17), jk_top, jk_top]),
  .inl (3, [.inr (.inr (9, true)), .inr (.inr (10, true)), .inl (0, 17), .inr (.inr (5, false)), jk_top, .inl (0, 1), jk_top, jk_top]),
  .inl (4, [jk_top, jk_top, jk_lg, .inr (.inr (12, true)), jk_top, .inr (.inr (13, true)), .inr (.inr (14, true)), .inr (.inr (15, true)), jk_top, .inr (.inr (16, true)), jk_top, jk_top, jk_top, .inl (0, 1), .inr (.inr (5, false)), .inl (0, 1)]),
  .inl (1, [.inr (.inr (4, true)), jk_top, jk_top, jk_top, .inl (0, 1), .inl (0, 1), jk_top, jk_top, jk_top, jk_top]),
  .inr (1, 1000, jk_lg),
  .inr (0, 2000, jk_top),
  .inr (3, 17, .inr (.inr (5, false))),
  .inr (3, 64, .inr (.inr (5, false))),
  .inr (3, 17, .inr (.inr (5, false))),
  .inr (4, 12, .inr (.inr (4, false))),
  .inr (0, 128, jk_top),
  .inr (1, 1024, jk_lg),
  .inr (3, 64, .inr (.inr (5, false))),
  .inr (0, 0, jk_top),
  .inr (0, 400, jk_top)]
def jc_pr (q k : Nat) : Bool := [(0, 0), (0, 1), (0, 2), (0, 3), (0, 4), (0, 5), (0, 6), (1, 0), (1, 1), (1, 2), (1, 3), (2, 0), (2, 1), (3, 0), (3, 1), (4, 0), (4, 1), (4, 3), (4, 5), (4, 6), (4, 7), (4, 9), (4, 12), (4, 13), (5, 0), (5, 1), (11, 0), (14, 0)].contains (q, k)
def jc_sgT : List (Nat × List jk_T × Option jk_T) := [(61, [.inr (.inr (5, true)), jk_top], none),
  (62, [.inr (.inr (5, true)), jk_top], none),
  (63, [.inr (.inr (5, true))], some (.inl (0, 1))),
  (64, [.inr (.inr (5, true))], some jk_top),
  (65, [.inr (.inr (5, true)), .inr (.inr (5, true))], some (.inl (0, 1))),
  (68, [.inr (.inr (2, true))], some jk_top),
  (69, [.inr (.inr (2, true)), jk_top], some (.inr (.inr (5, false)))),
  (70, [.inr (.inr (2, true))], some jk_top),
  (71, [.inr (.inr (2, true)), .inr (.inr (5, true)), jk_top], none),
  (72, [.inr (.inr (2, true)), .inr (.inr (5, true))], none),
  (73, [.inr (.inr (2, true))], some (.inr (.inr (5, false)))),
  (74, [.inr (.inr (2, true)), .inr (.inr (5, false))], none),
  (75, [.inr (.inr (2, true))], none),
  (77, [.inr (.inr (3, true)), jk_top], some (.inr (.inr (5, false)))),
  (78, [.inr (.inr (3, true)), .inr (.inr (5, true))], none),
  (79, [.inr (.inr (3, true)), .inr (.inr (5, true)), jk_top], none),
  (80, [.inr (.inr (3, true)), .inr (.inr (5, true))], none),
  (81, [.inr (.inr (3, true)), .inr (.inr (5, true))], none),
  (82, [.inr (.inr (3, true)), .inr (.inr (5, true))], none),
  (83, [.inr (.inr (3, true)), jk_top], none),
  (84, [.inr (.inr (3, true)), jk_top], none),
  (85, [.inr (.inr (3, true)), jk_top], some (.inr (.inr (5, false)))),
  (86, [.inr (.inr (3, true)), jk_top], some jk_top),
  (87, [jk_top, jk_top], some jk_top),
  (89, [jk_lg], some jk_lg),
  (90, [jk_top], some jk_top),
  (91, [jk_top], some (.inl (0, 1))),
  (92, [.inr (.inr (4, true)), .inl (0, 1)], some (.inl (0, 1))),
  (93, [.inr (.inr (4, true))], none),
  (94, [.inr (.inr (4, true)), .inr (.inr (5, true))], some (.inl (0, 1))),
  (95, [.inr (.inr (4, true)), jk_top], some (.inr (.inr (5, false)))),
  (97, [.inr (.inr (4, true)), jk_top], some jk_lg),
  (98, [.inr (.inr (4, true)), jk_top, jk_lg], none),
  (99, [.inr (.inr (4, true)), jk_top], some jk_top),
  (100, [.inr (.inr (4, true)), jk_top, jk_top], none),
  (101, [.inr (.inr (4, true)), jk_top], some jk_top),
  (102, [.inr (.inr (4, true)), jk_lg], some jk_top),
  (103, [.inr (.inr (4, true)), jk_top, jk_top, jk_top], some jk_top),
  (104, [.inr (.inr (4, true)), jk_top, jk_top, jk_top], none),
  (105, [.inr (.inr (4, true)), jk_top, jk_top], none),
  (106, [.inr (.inr (4, true)), jk_top, jk_top], some (.inl (0, 1))),
  (107, [.inr (.inr (4, true)), jk_top, jk_top], some jk_top),
  (108, [.inr (.inr (4, true)), jk_top], some jk_top),
  (109, [.inr (.inr (4, true))], some jk_top),
  (110, [.inr (.inr (4, true))], some jk_top),
  (111, [.inr (.inr (4, true))], some jk_top),
  (112, [.inr (.inr (4, true))], some jk_lg),
  (113, [.inr (.inr (4, true)), jk_lg, .inl (0, 1)], some jk_top),
  (114, [.inr (.inr (4, true))], some jk_top),
  (115, [.inr (.inr (4, true)), jk_lg], some jk_lg),
  (117, [.inr (.inr (1, true)), jk_top], some (.inl (0, 1))),
  (118, [.inr (.inr (1, true)), jk_top], some (.inl (0, 1))),
  (128, [.inr (.inr (0, true)), jk_top], some jk_top),
  (129, [.inr (.inr (0, true)), jk_top], some jk_top),
  (130, [.inr (.inr (0, true)), jk_top], some jk_top),
  (131, [.inr (.inr (0, true)), jk_top, jk_top], some jk_top),
  (132, [.inr (.inr (0, true)), jk_top, jk_top], some jk_lg),
  (133, [.inr (.inr (0, true)), jk_top, jk_top], some jk_lg),
  (134, [.inr (.inr (0, true))], some jk_top),
  (135, [.inr (.inr (0, true)), jk_top], some jk_top),
  (136, [.inr (.inr (0, true)), jk_top, jk_top], some jk_top),
  (137, [.inr (.inr (0, true)), jk_top], some jk_top),
  (138, [.inr (.inr (0, true))], some jk_lg),
  (139, [.inr (.inr (0, true)), jk_top], some (.inr (.inr (4, false)))),
  (143, [.inr (.inr (0, true))], none),
  (146, [jk_top], some (.inl (0, 1))),
  (149, [.inr (.inr (0, true)), .inr (.inr (4, true)), .inr (.inr (5, true))], some jk_top),
  (153, [jk_top, .inl (1, 2147483647)], some jk_top),
  (154, [jk_top, .inl (1, 2147483647)], some jk_top),
  (155, [jk_lg], some jk_lg),
  (156, [jk_top, jk_top], some jk_top),
  (157, [jk_top, jk_top], some jk_top),
  (158, [jk_lg], some jk_top),
  (159, [jk_lg], some jk_top),
  (160, [jk_lg], some jk_top),
  (161, [jk_top], some (.inl (0, 1))),
  (162, [jk_top], some (.inl (0, 1)))]
def jc_sg (y : Nat) : Option (List jk_T × Option jk_T) := (jc_sgT.find? fun q => q.1 == y).map fun q => q.2
end
section
/-! methods of the class that the checker takes -/
theorem jc_s61 (d : Nat) : jk_Sp jc_RT jc_pr jc_sg (jv_run (d + 1)) 61 := jk_meth (d := d) (f := 21) (c := 0) (cs := []) (an := []) (sg' := jk_sgl jc_sg []) rfl (by decide +kernel) (jk_sgl_ok (List.forall_mem_nil _))
theorem jc_s62 (d : Nat) : jk_Sp jc_RT jc_pr jc_sg (jv_run (d + 1)) 62 := jk_meth (d := d) (f := 19) (c := 0) (cs := []) (an := []) (sg' := jk_sgl jc_sg []) rfl (by decide +kernel) (jk_sgl_ok (List.forall_mem_nil _))
theorem jc_s64 (d : Nat) : jk_Sp jc_RT jc_pr jc_sg (jv_run (d + 1)) 64 := jk_meth (d := d) (f := 17) (c := 0) (cs := []) (an := []) (sg' := jk_sgl jc_sg []) rfl (by decide +kernel) (jk_sgl_ok (List.forall_mem_nil _))
theorem jc_s68 (d : Nat) : jk_Sp jc_RT jc_pr jc_sg (jv_run (d + 1)) 68 := jk_meth (d := d) (f := 11) (c := 0) (cs := []) (an := []) (sg' := jk_sgl jc_sg []) rfl (by decide +kernel) (jk_sgl_ok (List.forall_mem_nil _))
theorem jc_s69 (d : Nat) : jk_Sp jc_RT jc_pr jc_sg (jv_run (d + 1)) 69 := jk_meth (d := d) (f := 19) (c := 0) (cs := []) (an := []) (sg' := jk_sgl jc_sg []) rfl (by decide +kernel) (jk_sgl_ok (List.forall_mem_nil _))
theorem jc_s71 (d : Nat) : jk_Sp jc_RT jc_pr jc_sg (jv_run (d + 1)) 71 := jk_meth (d := d) (f := 24) (c := 0) (cs := []) (an := []) (sg' := jk_sgl jc_sg []) rfl (by decide +kernel) (jk_sgl_ok (List.forall_mem_nil _))
theorem jc_s72 (d : Nat) : jk_Sp jc_RT jc_pr jc_sg (jv_run (d + 1)) 72 := jk_meth (d := d) (f := 27) (c := 0) (cs := []) (an := []) (sg' := jk_sgl jc_sg []) rfl (by decide +kernel) (jk_sgl_ok (List.forall_mem_nil _))
theorem jc_s74 (d : Nat) : jk_Sp jc_RT jc_pr jc_sg (jv_run (d + 1)) 74 := jk_meth (d := d) (f := 11) (c := 0) (cs := []) (an := []) (sg' := jk_sgl jc_sg []) rfl (by decide +kernel) (jk_sgl_ok (List.forall_mem_nil _))
theorem jc_s77 (d : Nat) : jk_Sp jc_RT jc_pr jc_sg (jv_run (d + 1)) 77 := jk_meth (d := d) (f := 15) (c := 0) (cs := []) (an := []) (sg' := jk_sgl jc_sg []) rfl (by decide +kernel) (jk_sgl_ok (List.forall_mem_nil _))
theorem jc_s79 (d : Nat) : jk_Sp jc_RT jc_pr jc_sg (jv_run (d + 1)) 79 := jk_meth (d := d) (f := 18) (c := 0) (cs := []) (an := []) (sg' := jk_sgl jc_sg []) rfl (by decide +kernel) (jk_sgl_ok (List.forall_mem_nil _))
theorem jc_s80 (d : Nat) : jk_Sp jc_RT jc_pr jc_sg (jv_run (d + 1)) 80 := jk_meth (d := d) (f := 21) (c := 0) (cs := []) (an := []) (sg' := jk_sgl jc_sg []) rfl (by decide +kernel) (jk_sgl_ok (List.forall_mem_nil _))
theorem jc_s85 (d : Nat) : jk_Sp jc_RT jc_pr jc_sg (jv_run (d + 1)) 85 := jk_meth (d := d) (f := 28) (c := 0) (cs := []) (an := []) (sg' := jk_sgl jc_sg []) rfl (by decide +kernel) (jk_sgl_ok (List.forall_mem_nil _))
theorem jc_s89 (d : Nat) : jk_Sp jc_RT jc_pr jc_sg (jv_run (d + 1)) 89 := jk_meth (d := d) (f := 10) (c := 0) (cs := []) (an := []) (sg' := jk_sgl jc_sg []) rfl (by decide +kernel) (jk_sgl_ok (List.forall_mem_nil _))
theorem jc_s90 (d : Nat) : jk_Sp jc_RT jc_pr jc_sg (jv_run (d + 1)) 90 := jk_meth (d := d) (f := 10) (c := 0) (cs := []) (an := []) (sg' := jk_sgl jc_sg []) rfl (by decide +kernel) (jk_sgl_ok (List.forall_mem_nil _))
theorem jc_s91 (d : Nat) : jk_Sp jc_RT jc_pr jc_sg (jv_run (d + 1)) 91 := jk_meth (d := d) (f := 12) (c := 0) (cs := []) (an := []) (sg' := jk_sgl jc_sg []) rfl (by decide +kernel) (jk_sgl_ok (List.forall_mem_nil _))
theorem jc_s93 (d : Nat) : jk_Sp jc_RT jc_pr jc_sg (jv_run (d + 1)) 93 := jk_meth (d := d) (f := 11) (c := 0) (cs := []) (an := []) (sg' := jk_sgl jc_sg []) rfl (by decide +kernel) (jk_sgl_ok (List.forall_mem_nil _))
theorem jc_s99 (d : Nat) : jk_Sp jc_RT jc_pr jc_sg (jv_run (d + 1)) 99 := jk_meth (d := d) (f := 15) (c := 0) (cs := []) (an := []) (sg' := jk_sgl jc_sg []) rfl (by decide +kernel) (jk_sgl_ok (List.forall_mem_nil _))
theorem jc_s101 (d : Nat) : jk_Sp jc_RT jc_pr jc_sg (jv_run (d + 1)) 101 := jk_meth (d := d) (f := 19) (c := 0) (cs := []) (an := []) (sg' := jk_sgl jc_sg []) rfl (by decide +kernel) (jk_sgl_ok (List.forall_mem_nil _))
theorem jc_s115 (d : Nat) : jk_Sp jc_RT jc_pr jc_sg (jv_run (d + 1)) 115 := jk_meth (d := d) (f := 30) (c := 1426) (cs := [(5, 0)]) (an := [(39, [some (.inr (.inr (4, true))), some jk_lg, none, some jk_lg, none, some (.inl (0, 400))], 1425, [(5, 1)]), (91, [some (.inr (.inr (4, true))), some jk_lg, none, some jk_lg, none, some (.inl (0, 1024))], 1024, [(5, 1)])]) (sg' := jk_sgl jc_sg []) rfl (by decide +kernel) (jk_sgl_ok (List.forall_mem_nil _))
theorem jc_s117 (d : Nat) : jk_Sp jc_RT jc_pr jc_sg (jv_run (d + 1)) 117 := jk_meth (d := d) (f := 13) (c := 0) (cs := []) (an := []) (sg' := jk_sgl jc_sg []) rfl (by decide +kernel) (jk_sgl_ok (List.forall_mem_nil _))
theorem jc_s118 (d : Nat) : jk_Sp jc_RT jc_pr jc_sg (jv_run (d + 1)) 118 := jk_meth (d := d) (f := 13) (c := 0) (cs := []) (an := []) (sg' := jk_sgl jc_sg []) rfl (by decide +kernel) (jk_sgl_ok (List.forall_mem_nil _))
theorem jc_s134 (d : Nat) : jk_Sp jc_RT jc_pr jc_sg (jv_run (d + 1)) 134 := jk_meth (d := d) (f := 7) (c := 0) (cs := []) (an := []) (sg' := jk_sgl jc_sg []) rfl (by decide +kernel) (jk_sgl_ok (List.forall_mem_nil _))
theorem jc_s139 (d : Nat) : jk_Sp jc_RT jc_pr jc_sg (jv_run (d + 1)) 139 := jk_meth (d := d) (f := 19) (c := 0) (cs := []) (an := []) (sg' := jk_sgl jc_sg []) rfl (by decide +kernel) (jk_sgl_ok (List.forall_mem_nil _))
theorem jc_s146 (d : Nat) : jk_Sp jc_RT jc_pr jc_sg (jv_run (d + 1)) 146 := jk_meth (d := d) (f := 12) (c := 0) (cs := []) (an := []) (sg' := jk_sgl jc_sg []) rfl (by decide +kernel) (jk_sgl_ok (List.forall_mem_nil _))
theorem jc_s149 (d : Nat) : jk_Sp jc_RT jc_pr jc_sg (jv_run (d + 1)) 149 := jk_meth (d := d) (f := 12) (c := 0) (cs := []) (an := []) (sg' := jk_sgl jc_sg []) rfl (by decide +kernel) (jk_sgl_ok (List.forall_mem_nil _))
theorem jc_s153 (d : Nat) : jk_Sp jc_RT jc_pr jc_sg (jv_run (d + 1)) 153 := jk_meth (d := d) (f := 21) (c := 0) (cs := []) (an := []) (sg' := jk_sgl jc_sg []) rfl (by decide +kernel) (jk_sgl_ok (List.forall_mem_nil _))
theorem jc_s154 (d : Nat) : jk_Sp jc_RT jc_pr jc_sg (jv_run (d + 1)) 154 := jk_meth (d := d) (f := 18) (c := 0) (cs := []) (an := []) (sg' := jk_sgl jc_sg []) rfl (by decide +kernel) (jk_sgl_ok (List.forall_mem_nil _))
theorem jc_s155 (d : Nat) : jk_Sp jc_RT jc_pr jc_sg (jv_run (d + 1)) 155 := jk_meth (d := d) (f := 12) (c := 0) (cs := []) (an := []) (sg' := jk_sgl jc_sg []) rfl (by decide +kernel) (jk_sgl_ok (List.forall_mem_nil _))
theorem jc_s156 (d : Nat) : jk_Sp jc_RT jc_pr jc_sg (jv_run (d + 1)) 156 := jk_meth (d := d) (f := 10) (c := 0) (cs := []) (an := []) (sg' := jk_sgl jc_sg []) rfl (by decide +kernel) (jk_sgl_ok (List.forall_mem_nil _))
theorem jc_s157 (d : Nat) : jk_Sp jc_RT jc_pr jc_sg (jv_run (d + 1)) 157 := jk_meth (d := d) (f := 10) (c := 0) (cs := []) (an := []) (sg' := jk_sgl jc_sg []) rfl (by decide +kernel) (jk_sgl_ok (List.forall_mem_nil _))
theorem jc_s158 (d : Nat) : jk_Sp jc_RT jc_pr jc_sg (jv_run (d + 1)) 158 := jk_meth (d := d) (f := 11) (c := 0) (cs := []) (an := []) (sg' := jk_sgl jc_sg []) rfl (by decide +kernel) (jk_sgl_ok (List.forall_mem_nil _))
theorem jc_s159 (d : Nat) : jk_Sp jc_RT jc_pr jc_sg (jv_run (d + 1)) 159 := jk_meth (d := d) (f := 11) (c := 0) (cs := []) (an := []) (sg' := jk_sgl jc_sg []) rfl (by decide +kernel) (jk_sgl_ok (List.forall_mem_nil _))
theorem jc_s160 (d : Nat) : jk_Sp jc_RT jc_pr jc_sg (jv_run (d + 1)) 160 := jk_meth (d := d) (f := 11) (c := 0) (cs := []) (an := []) (sg' := jk_sgl jc_sg []) rfl (by decide +kernel) (jk_sgl_ok (List.forall_mem_nil _))
theorem jc_s161 (d : Nat) : jk_Sp jc_RT jc_pr jc_sg (jv_run (d + 1)) 161 := jk_meth (d := d) (f := 31) (c := 0) (cs := []) (an := []) (sg' := jk_sgl jc_sg []) rfl (by decide +kernel) (jk_sgl_ok (List.forall_mem_nil _))
theorem jc_s162 (d : Nat) : jk_Sp jc_RT jc_pr jc_sg (jv_run (d + 1)) 162 := jk_meth (d := d) (f := 25) (c := 0) (cs := []) (an := []) (sg' := jk_sgl jc_sg []) rfl (by decide +kernel) (jk_sgl_ok (List.forall_mem_nil _))
theorem jc_s65 (d : Nat) : jk_Sp jc_RT jc_pr jc_sg (jv_run (d + 2)) 65 := jk_meth (d := d + 1) (f := 29) (c := 0) (cs := []) (an := []) (sg' := jk_sgl jc_sg [64]) rfl (by decide +kernel) (jk_sgl_ok (List.forall_mem_cons.mpr ⟨jc_s64 d, List.forall_mem_nil _⟩))
theorem jc_s70 (d : Nat) : jk_Sp jc_RT jc_pr jc_sg (jv_run (d + 2)) 70 := jk_meth (d := d + 1) (f := 17) (c := 18) (cs := [(1, 0)]) (an := [(2, [some (.inr (.inr (2, true))), some (.inl (0, 17))], 17, [(1, 1)])]) (sg' := jk_sgl jc_sg [69]) rfl (by decide +kernel) (jk_sgl_ok (List.forall_mem_cons.mpr ⟨jc_s69 d, List.forall_mem_nil _⟩))
theorem jc_s75 (d : Nat) : jk_Sp jc_RT jc_pr jc_sg (jv_run (d + 2)) 75 := jk_meth (d := d + 1) (f := 23) (c := 18) (cs := [(1, 0)]) (an := [(2, [some (.inr (.inr (2, true))), some (.inl (0, 17)), none], 17, [(1, 1)])]) (sg' := jk_sgl jc_sg [62, 69]) rfl (by decide +kernel) (jk_sgl_ok (List.forall_mem_cons.mpr ⟨jc_s62 d, List.forall_mem_cons.mpr ⟨jc_s69 d, List.forall_mem_nil _⟩⟩))
theorem jc_s78 (d : Nat) : jk_Sp jc_RT jc_pr jc_sg (jv_run (d + 2)) 78 := jk_meth (d := d + 1) (f := 17) (c := 65) (cs := [(2, 0)]) (an := [(2, [some (.inr (.inr (3, true))), some (.inr (.inr (5, true))), some (.inl (0, 64))], 64, [(2, 1)])]) (sg' := jk_sgl jc_sg [79]) rfl (by decide +kernel) (jk_sgl_ok (List.forall_mem_cons.mpr ⟨jc_s79 d, List.forall_mem_nil _⟩))
theorem jc_s87 (d : Nat) : jk_Sp jc_RT jc_pr jc_sg (jv_run (d + 2)) 87 := jk_meth (d := d + 1) (f := 14) (c := 0) (cs := []) (an := []) (sg' := jk_sgl jc_sg [154]) rfl (by decide +kernel) (jk_sgl_ok (List.forall_mem_cons.mpr ⟨jc_s154 d, List.forall_mem_nil _⟩))
theorem jc_s94 (d : Nat) : jk_Sp jc_RT jc_pr jc_sg (jv_run (d + 2)) 94 := jk_meth (d := d + 1) (f := 21) (c := 0) (cs := []) (an := []) (sg' := jk_sgl jc_sg [153]) rfl (by decide +kernel) (jk_sgl_ok (List.forall_mem_cons.mpr ⟨jc_s153 d, List.forall_mem_nil _⟩))
theorem jc_s100 (d : Nat) : jk_Sp jc_RT jc_pr jc_sg (jv_run (d + 2)) 100 := jk_meth (d := d + 1) (f := 16) (c := 0) (cs := []) (an := []) (sg' := jk_sgl jc_sg [90]) rfl (by decide +kernel) (jk_sgl_ok (List.forall_mem_cons.mpr ⟨jc_s90 d, List.forall_mem_nil _⟩))
theorem jc_s102 (d : Nat) : jk_Sp jc_RT jc_pr jc_sg (jv_run (d + 2)) 102 := jk_meth (d := d + 1) (f := 26) (c := 0) (cs := []) (an := []) (sg' := jk_sgl jc_sg [90, 99, 158, 159, 160]) rfl (by decide +kernel) (jk_sgl_ok (List.forall_mem_cons.mpr ⟨jc_s90 d, List.forall_mem_cons.mpr ⟨jc_s99 d, List.forall_mem_cons.mpr ⟨jc_s158 d, List.forall_mem_cons.mpr ⟨jc_s159 d, List.forall_mem_cons.mpr ⟨jc_s160 d, List.forall_mem_nil _⟩⟩⟩⟩⟩))
theorem jc_s106 (d : Nat) : jk_Sp jc_RT jc_pr jc_sg (jv_run (d + 2)) 106 := jk_meth (d := d + 1) (f := 14) (c := 0) (cs := []) (an := []) (sg' := jk_sgl jc_sg [99]) rfl (by decide +kernel) (jk_sgl_ok (List.forall_mem_cons.mpr ⟨jc_s99 d, List.forall_mem_nil _⟩))
theorem jc_s128 (d : Nat) : jk_Sp jc_RT jc_pr jc_sg (jv_run (d + 2)) 128 := jk_meth (d := d + 1) (f := 13) (c := 0) (cs := []) (an := []) (sg' := jk_sgl jc_sg [139]) rfl (by decide +kernel) (jk_sgl_ok (List.forall_mem_cons.mpr ⟨jc_s139 d, List.forall_mem_nil _⟩))
theorem jc_s129 (d : Nat) : jk_Sp jc_RT jc_pr jc_sg (jv_run (d + 2)) 129 := jk_meth (d := d + 1) (f := 13) (c := 0) (cs := []) (an := []) (sg' := jk_sgl jc_sg [139]) rfl (by decide +kernel) (jk_sgl_ok (List.forall_mem_cons.mpr ⟨jc_s139 d, List.forall_mem_nil _⟩))
theorem jc_s130 (d : Nat) : jk_Sp jc_RT jc_pr jc_sg (jv_run (d + 2)) 130 := jk_meth (d := d + 1) (f := 13) (c := 0) (cs := []) (an := []) (sg' := jk_sgl jc_sg [139]) rfl (by decide +kernel) (jk_sgl_ok (List.forall_mem_cons.mpr ⟨jc_s139 d, List.forall_mem_nil _⟩))
theorem jc_s131 (d : Nat) : jk_Sp jc_RT jc_pr jc_sg (jv_run (d + 2)) 131 := jk_meth (d := d + 1) (f := 14) (c := 0) (cs := []) (an := []) (sg' := jk_sgl jc_sg [101, 139]) rfl (by decide +kernel) (jk_sgl_ok (List.forall_mem_cons.mpr ⟨jc_s101 d, List.forall_mem_cons.mpr ⟨jc_s139 d, List.forall_mem_nil _⟩⟩))
theorem jc_s132 (d : Nat) : jk_Sp jc_RT jc_pr jc_sg (jv_run (d + 2)) 132 := jk_meth (d := d + 1) (f := 21) (c := 0) (cs := []) (an := []) (sg' := jk_sgl jc_sg [99, 139]) rfl (by decide +kernel) (jk_sgl_ok (List.forall_mem_cons.mpr ⟨jc_s99 d, List.forall_mem_cons.mpr ⟨jc_s139 d, List.forall_mem_nil _⟩⟩))
theorem jc_s135 (d : Nat) : jk_Sp jc_RT jc_pr jc_sg (jv_run (d + 2)) 135 := jk_meth (d := d + 1) (f := 13) (c := 0) (cs := []) (an := []) (sg' := jk_sgl jc_sg [68, 157]) rfl (by decide +kernel) (jk_sgl_ok (List.forall_mem_cons.mpr ⟨jc_s68 d, List.forall_mem_cons.mpr ⟨jc_s157 d, List.forall_mem_nil _⟩⟩))
theorem jc_s136 (d : Nat) : jk_Sp jc_RT jc_pr jc_sg (jv_run (d + 2)) 136 := jk_meth (d := d + 1) (f := 31) (c := 0) (cs := []) (an := []) (sg' := jk_sgl jc_sg [69]) rfl (by decide +kernel) (jk_sgl_ok (List.forall_mem_cons.mpr ⟨jc_s69 d, List.forall_mem_nil _⟩))
theorem jc_s137 (d : Nat) : jk_Sp jc_RT jc_pr jc_sg (jv_run (d + 2)) 137 := jk_meth (d := d + 1) (f := 20) (c := 0) (cs := []) (an := []) (sg' := jk_sgl jc_sg [77]) rfl (by decide +kernel) (jk_sgl_ok (List.forall_mem_cons.mpr ⟨jc_s77 d, List.forall_mem_nil _⟩))
theorem jc_s63 (d : Nat) : jk_Sp jc_RT jc_pr jc_sg (jv_run (d + 3)) 63 := jk_meth (d := d + 2) (f := 15) (c := 0) (cs := []) (an := []) (sg' := jk_sgl jc_sg [94]) rfl (by decide +kernel) (jk_sgl_ok (List.forall_mem_cons.mpr ⟨jc_s94 d, List.forall_mem_nil _⟩))
theorem jc_s86 (d : Nat) : jk_Sp jc_RT jc_pr jc_sg (jv_run (d + 3)) 86 := jk_meth (d := d + 2) (f := 25) (c := 65) (cs := [(4, 0)]) (an := [(8, [some (.inr (.inr (3, true))), some jk_top, some (.inl ((-1), 63)), some (.inl ((-2147483648), 32)), some (.inl (0, 64)), none], 64, [(4, 1)])]) (sg' := jk_sgl jc_sg [87]) rfl (by decide +kernel) (jk_sgl_ok (List.forall_mem_cons.mpr ⟨jc_s87 d, List.forall_mem_nil _⟩))
theorem jc_s138 (d : Nat) : jk_Sp jc_RT jc_pr jc_sg (jv_run (d + 3)) 138 := jk_meth (d := d + 2) (f := 20) (c := 142) (cs := [(3, 0), (4, 0)]) (an := [(6, [some (.inr (.inr (0, true))), some jk_lg, none, some (.inl (0, 12)), none], 141, [(3, 1), (4, 0)]), (57, [some (.inr (.inr (0, true))), some jk_lg, none, some (.inl (0, 8)), none], 128, [(3, 1), (4, 0)]), (84, [some (.inr (.inr (0, true))), some jk_lg, none, some (.inl (0, 17)), none], 119, [(3, 7), (4, 0)]), (98, [some (.inr (.inr (0, true))), some jk_lg, none, some (.inl (0, 16)), some (.inl (0, 5))], 118, [(3, 7), (4, 1)])]) (sg' := jk_sgl jc_sg [115, 135, 136, 139]) rfl (by decide +kernel) (jk_sgl_ok (List.forall_mem_cons.mpr ⟨jc_s115 (d + 1), List.forall_mem_cons.mpr ⟨jc_s135 d, List.forall_mem_cons.mpr ⟨jc_s136 d, List.forall_mem_cons.mpr ⟨jc_s139 (d + 1), List.forall_mem_nil _⟩⟩⟩⟩))
theorem jc_s73 (d : Nat) : jk_Sp jc_RT jc_pr jc_sg (jv_run (d + 4)) 73 := jk_meth (d := d + 3) (f := 27) (c := 18) (cs := [(2, 0)]) (an := [(4, [some (.inr (.inr (2, true))), some (.inr (.inr (5, false))), some (.inl (0, 17)), none], 17, [(2, 1)])]) (sg' := jk_sgl jc_sg [63, 65, 69]) rfl (by decide +kernel) (jk_sgl_ok (List.forall_mem_cons.mpr ⟨jc_s63 d, List.forall_mem_cons.mpr ⟨jc_s65 (d + 1), List.forall_mem_cons.mpr ⟨jc_s69 (d + 2), List.forall_mem_nil _⟩⟩⟩))
end
section
/-! the same with askedCount kept -/
def ja_pr (q k : Nat) : Bool := jc_pr q k || (q == 3 && k == 2)
theorem ja_pr_le (q k : Nat) (h : jc_pr q k = true) : ja_pr q k = true := by
  unfold ja_pr
  rw [h]
  rfl
theorem ja_s79 (d : Nat) : jk_Sp jc_RT ja_pr jc_sg (jv_run (d + 1)) 79 := jk_meth (d := d) (f := 18) (c := 0) (cs := []) (an := []) (sg' := jk_sgl jc_sg []) rfl (by decide +kernel) (jk_sgl_ok (List.forall_mem_nil _))
theorem ja_s80 (d : Nat) : jk_Sp jc_RT ja_pr jc_sg (jv_run (d + 1)) 80 := jk_meth (d := d) (f := 21) (c := 0) (cs := []) (an := []) (sg' := jk_sgl jc_sg []) rfl (by decide +kernel) (jk_sgl_ok (List.forall_mem_nil _))
theorem ja_s154 (d : Nat) : jk_Sp jc_RT ja_pr jc_sg (jv_run (d + 1)) 154 := jk_meth (d := d) (f := 18) (c := 0) (cs := []) (an := []) (sg' := jk_sgl jc_sg []) rfl (by decide +kernel) (jk_sgl_ok (List.forall_mem_nil _))
theorem ja_s87 (d : Nat) : jk_Sp jc_RT ja_pr jc_sg (jv_run (d + 2)) 87 := jk_meth (d := d + 1) (f := 14) (c := 0) (cs := []) (an := []) (sg' := jk_sgl jc_sg [154]) rfl (by decide +kernel) (jk_sgl_ok (List.forall_mem_cons.mpr ⟨ja_s154 d, List.forall_mem_nil _⟩))
theorem ja_s86 (d : Nat) : jk_Sp jc_RT ja_pr jc_sg (jv_run (d + 3)) 86 := jk_meth (d := d + 2) (f := 25) (c := 65) (cs := [(4, 0)]) (an := [(8, [some (.inr (.inr (3, true))), some jk_top, some (.inl ((-1), 63)), some (.inl ((-2147483648), 32)), some (.inl (0, 64)), none], 64, [(4, 1)])]) (sg' := jk_sgl jc_sg [87]) rfl (by decide +kernel) (jk_sgl_ok (List.forall_mem_cons.mpr ⟨ja_s87 d, List.forall_mem_nil _⟩))
end
section
/-! the reference's blocks, frames, sectors and transfers: what stays true, said of plain functions
F: what a frame holds; S: what a sector holds; E: which blocks exist; q: transfers asked for (true: a write; its frame); w: the one under way (its frame, its sector) -/
section JZ
def jz_cnt (E : Nat → Bool) : Nat → Nat
  | 0 => 0
  | n + 1 => jz_cnt E n + if E n = true then 1 else 0
def jz_P (n J : Nat) (F S : Nat → Option Nat) (E : Nat → Bool) (q : List (Bool × Nat)) (w : Option (Bool × Nat × Nat)) : Prop :=
  (∀ f k, F f = some k → f < n ∧ k < 64 * J) ∧
  (∀ s k, S s = some k → s < 64 ∧ k < 64 * J) ∧
  (∀ f g k, F f = some k → F g = some k → f = g) ∧
  (∀ s t k, S s = some k → S t = some k → s = t) ∧
  (∀ k, E k = true ↔ (∃ f, F f = some k) ∨ ∃ s, S s = some k) ∧
  (q.map fun a => a.2).Nodup ∧
  (∀ b f, (b, f) ∈ q → ∃ k, F f = some k ∧ (b = true → ∀ s, ¬ S s = some k) ∧ (b = false → ∃ s, S s = some k)) ∧
  (∀ b f s, w = some (b, f, s) → ¬ f ∈ (q.map fun a => a.2) ∧ s < 64 ∧ ∃ k, F f = some k ∧ (b = true → S s = some k) ∧ (b = false → ∀ t, ¬ S t = some k)) ∧
  (∀ f s k, F f = some k → S s = some k → (false, f) ∈ q ∨ ∃ s', w = some (true, f, s')) ∧
  jz_cnt E 768 ≤ 64
variable {n J : Nat} {F S : Nat → Option Nat} {E : Nat → Bool} {q : List (Bool × Nat)} {w : Option (Bool × Nat × Nat)}
/-- a frame is locked -/
def jz_lk (q : List (Bool × Nat)) (w : Option (Bool × Nat × Nat)) (f : Nat) : Prop := f ∈ (q.map fun a => a.2) ∨ ∃ b s, w = some (b, f, s)
theorem jz_mem {b : Bool} {f : Nat} (h : (b, f) ∈ q) : f ∈ (q.map fun a => a.2) := List.mem_map.mpr ⟨(b, f), h, rfl⟩
theorem jz_us {α : Type} {f : Nat → α} {k : Nat} {v : α} : va_up f k v k = v := if_pos rfl
theorem jz_un {α : Type} {f : Nat → α} {k j : Nat} {v : α} (h : ¬ j = k) : va_up f k v j = f j := if_neg h
theorem jz_cnt_up {k : Nat} {b : Bool} : ∀ N, jz_cnt (va_up E k b) N = jz_cnt E N + (if k < N then (if b = true then 1 else 0) else 0) - (if k < N then (if E k = true then 1 else 0) else 0) ∧ (if k < N then (if E k = true then 1 else 0) else 0) ≤ jz_cnt E N
  | 0 => by simp [jz_cnt]
  | N + 1 => by
    obtain ⟨h1, h2⟩ := jz_cnt_up (k := k) (b := b) N
    unfold jz_cnt
    rw [h1]
    by_cases e : N = k
    · subst e
      rw [jz_us]
      have a1 : ¬ N < N := by omega
      have a2 : N < N + 1 := by omega
      simp only [a1, a2, if_true, if_false]
      constructor
      · split <;> split <;> omega
      · split <;> omega
    · rw [jz_un e]
      by_cases hk : k < N
      · have a2 : k < N + 1 := by omega
        simp only [hk, a2, if_true] at h2 ⊢
        constructor
        · split <;> split <;> split <;> simp_all <;> omega
        · exact Nat.le_trans h2 (Nat.le_add_right _ _)
      · have a2 : ¬ k < N + 1 := by omega
        simp only [hk, a2, if_false]
        constructor
        · split <;> omega
        · omega
theorem jz_cnt_add {k N : Nat} (hk : k < N) (he : ¬ E k = true) : jz_cnt (va_up E k true) N = jz_cnt E N + 1 := by
  have h := (jz_cnt_up (E := E) (k := k) (b := true) N).1
  simp only [hk, he, if_true, if_false] at h
  simpa using h
theorem jz_cnt_del {k N : Nat} (hk : k < N) (he : E k = true) : jz_cnt (va_up E k false) N + 1 = jz_cnt E N := by
  have h := jz_cnt_up (E := E) (k := k) (b := false) N
  simp only [hk, he, if_true] at h
  have h1 := h.1
  have h2 := h.2
  simp at h1
  omega
theorem jz_cnt_mono {E' : Nat → Bool} (h : ∀ k, E k = true → E' k = true) : ∀ N, jz_cnt E N ≤ jz_cnt E' N
  | 0 => Nat.le_refl 0
  | N + 1 => by
    have ih := jz_cnt_mono h N
    unfold jz_cnt
    by_cases e : E N = true
    · rw [if_pos e, if_pos (h N e)]
      omega
    · rw [if_neg e]
      split <;> omega
/-- how many sectors are taken -/
def jz_occ (S : Nat → Option Nat) : Nat → Nat
  | 0 => 0
  | N + 1 => jz_occ S N + if S N = none then 0 else 1
theorem jz_occ_le (hi : ∀ s t k, S s = some k → S t = some k → s = t) (hb : ∀ s k, S s = some k → k < 768) : ∀ N, ∃ G : Nat → Bool, (∀ k, G k = true → ∃ s, s < N ∧ S s = some k) ∧ jz_occ S N ≤ jz_cnt G 768
  | 0 => ⟨fun _ => false, fun k h => (by cases h), Nat.zero_le _⟩
  | N + 1 => by
    obtain ⟨G, h1, h2⟩ := jz_occ_le hi hb N
    cases hs : S N with
    | none =>
      refine ⟨G, fun k hk => ?_, ?_⟩
      · obtain ⟨s, a, b⟩ := h1 k hk
        exact ⟨s, by omega, b⟩
      · unfold jz_occ
        rw [hs]
        simpa using h2
    | some k =>
      have hg : ¬ G k = true := fun hk => by
        obtain ⟨s, a, b⟩ := h1 k hk
        have := hi s N k b hs
        omega
      refine ⟨va_up G k true, fun k' hk => ?_, ?_⟩
      · by_cases e : k' = k
        · subst e
          exact ⟨N, by omega, hs⟩
        · rw [jz_un e] at hk
          obtain ⟨s, a, b⟩ := h1 k' hk
          exact ⟨s, by omega, b⟩
      · rw [jz_cnt_add (hb N k hs) hg]
        unfold jz_occ
        rw [hs]
        simp
        omega
theorem jz_occ_full : ∀ N, (∀ s, s < N → ¬ S s = none) → jz_occ S N = N
  | 0, _ => rfl
  | N + 1, h => by
    have ih := jz_occ_full N (fun s hs => h s (by omega))
    unfold jz_occ
    rw [ih, if_neg (h N (by omega))]
/-- where fewer than 64 blocks lie on sectors, one is free -/
theorem jz_free (hi : ∀ s t k, S s = some k → S t = some k → s = t) (hb : ∀ s k, S s = some k → k < 768) {E' : Nat → Bool} (hE : ∀ s k, S s = some k → E' k = true) (hc : jz_cnt E' 768 < 64) : ∃ s, s < 64 ∧ S s = none := by
  apply Classical.byContradiction
  intro hn
  have hf := jz_occ_full (S := S) 64 (fun s hs e => hn ⟨s, hs, e⟩)
  obtain ⟨G, h1, h2⟩ := jz_occ_le hi hb 64
  have h3 := jz_cnt_mono (E := G) (E' := E') (fun k hk => by
    obtain ⟨s, _, e⟩ := h1 k hk
    exact hE s k e) 768
  omega
theorem jz_P_free (hJ : J ≤ 12) (h : jz_P n J F S E q w) {f k : Nat} (hf : F f = some k) (hs : ∀ s, ¬ S s = some k) : ∃ s, s < 64 ∧ S s = none := by
  obtain ⟨h1, h2, h3, h4, h5, h6, h7, h8, h9, h10⟩ := h
  have hk := (h1 f k hf).2
  have hE : E k = true := (h5 k).mpr (Or.inl ⟨f, hf⟩)
  refine jz_free h4 (fun s k hk => by have := (h2 s k hk).2; omega) (E' := va_up E k false) (fun s k' e => ?_) ?_
  · rw [jz_un (fun q => hs s (by rw [← q]; exact e))]
    exact (h5 k').mpr (Or.inr ⟨s, e⟩)
  · have := jz_cnt_del (E := E) (k := k) (N := 768) (by omega) hE
    omega
/-- a write's end: its frame is free -/
theorem jz_fin_w {f s : Nat} (h : jz_P n J F S E q (some (true, f, s))) : jz_P n J (va_up F f none) S E q none := by
  obtain ⟨h1, h2, h3, h4, h5, h6, h7, h8, h9, h10⟩ := h
  obtain ⟨a1, a2, k, a3, a4, _⟩ := h8 true f s rfl
  have a4 := a4 rfl
  have up : ∀ {g k'}, va_up F f none g = some k' → ¬ g = f ∧ F g = some k' := fun {g k'} e => by
    by_cases x : g = f
    · rw [x, jz_us] at e; cases e
    · rw [jz_un x] at e; exact ⟨x, e⟩
  refine ⟨fun g k' e => h1 g k' (up e).2, h2, fun g g' k' e e' => h3 g g' k' (up e).2 (up e').2, h4, fun k' => ?_, h6, fun b g hm => ?_, fun b g t e => (by cases e), fun g t k' e e' => ?_, h10⟩
  · rw [h5 k']
    constructor
    · rintro (⟨g, e⟩ | e)
      · by_cases x : g = f
        · rw [x, a3] at e
          cases e
          exact Or.inr ⟨s, a4⟩
        · exact Or.inl ⟨g, by rw [jz_un x]; exact e⟩
      · exact Or.inr e
    · rintro (⟨g, e⟩ | e)
      · exact Or.inl ⟨g, (up e).2⟩
      · exact Or.inr e
  · have x : ¬ g = f := fun x => a1 (by rw [← x]; exact jz_mem hm)
    obtain ⟨k', e, r⟩ := h7 b g hm
    exact ⟨k', by rw [jz_un x]; exact e, r⟩
  · rcases h9 g t k' (up e).2 e' with m | ⟨s', m⟩
    · exact Or.inl m
    · cases m
      exact absurd rfl (up e).1
/-- a block that lies on a sector alone vanishes -/
theorem jz_van_s {s k : Nat} (hk : k < 768) (h : jz_P n J F S E q w) (hs : S s = some k) (hf : ∀ f, ¬ F f = some k) : jz_P n J F (va_up S s none) (va_up E k false) q w := by
  obtain ⟨h1, h2, h3, h4, h5, h6, h7, h8, h9, h10⟩ := h
  have up : ∀ {t k'}, va_up S s none t = some k' → ¬ t = s ∧ S t = some k' := fun {t k'} e => by
    by_cases x : t = s
    · rw [x, jz_us] at e; cases e
    · rw [jz_un x] at e; exact ⟨x, e⟩
  have hE : E k = true := (h5 k).mpr (Or.inr ⟨s, hs⟩)
  have ne : ∀ {g k'}, F g = some k' → ¬ k' = k := fun {g k'} e x => hf g (by rw [← x]; exact e)
  refine ⟨h1, fun t k' e => h2 t k' (up e).2, h3, fun t t' k' e e' => h4 t t' k' (up e).2 (up e').2, fun k' => ?_, h6, fun b g hm => ?_, fun b g t e => ?_, fun g t k' e e' => h9 g t k' e (up e').2, ?_⟩
  · by_cases x : k' = k
    · subst x
      rw [jz_us]
      refine ⟨fun e => (by cases e), ?_⟩
      rintro (⟨g, e⟩ | ⟨t, e⟩)
      · exact absurd e (hf g)
      · exact absurd (h4 t s k' (up e).2 hs) (up e).1
    · rw [jz_un x, h5 k']
      constructor
      · rintro (e | ⟨t, e⟩)
        · exact Or.inl e
        · refine Or.inr ⟨t, ?_⟩
          rw [jz_un (fun y => by rw [y, hs] at e; cases e; exact x rfl)]
          exact e
      · rintro (e | ⟨t, e⟩)
        · exact Or.inl e
        · exact Or.inr ⟨t, (up e).2⟩
  · obtain ⟨k', e, r1, r2⟩ := h7 b g hm
    refine ⟨k', e, fun hb t e' => r1 hb t (up e').2, fun hb => ?_⟩
    obtain ⟨t, e'⟩ := r2 hb
    exact ⟨t, by rw [jz_un (fun y => by rw [y, hs] at e'; cases e'; exact ne e rfl)]; exact e'⟩
  · obtain ⟨b1, b2, k', e', r1, r2⟩ := h8 b g t e
    refine ⟨b1, b2, k', e', fun hb => ?_, fun hb t' e2 => r2 hb t' (up e2).2⟩
    have := r1 hb
    rw [jz_un (fun y => by rw [y, hs] at this; cases this; exact ne e' rfl)]
    exact this
  · have := jz_cnt_del (E := E) (k := k) (N := 768) hk hE
    omega
/-- a read's end -/
theorem jz_fin_r {f s : Nat} (h : jz_P n J F S E q (some (false, f, s))) : jz_P n J F S E q none := by
  obtain ⟨h1, h2, h3, h4, h5, h6, h7, h8, h9, h10⟩ := h
  refine ⟨h1, h2, h3, h4, h5, h6, h7, fun b g t e => (by cases e), fun g t k e e' => ?_, h10⟩
  rcases h9 g t k e e' with m | ⟨s', m⟩
  · exact Or.inl m
  · cases m
/-- a victim's write is asked for -/
theorem jz_ask_w {f k : Nat} (h : jz_P n J F S E q w) (hf : F f = some k) (hl : ¬ jz_lk q w f) : jz_P n J F S E (q ++ [(true, f)]) w := by
  obtain ⟨h1, h2, h3, h4, h5, h6, h7, h8, h9, h10⟩ := h
  have hnq : ¬ f ∈ (q.map fun a => a.2) := fun m => hl (Or.inl m)
  have hns : ∀ s, ¬ S s = some k := fun s e => by
    rcases h9 f s k hf e with m | ⟨s', m⟩
    · exact hnq (jz_mem m)
    · exact hl (Or.inr ⟨true, s', m⟩)
  refine ⟨h1, h2, h3, h4, h5, ?_, fun b g hm => ?_, fun b g t e => ?_, fun g t k' e e' => ?_, h10⟩
  · rw [List.map_append, List.nodup_append]
    refine ⟨h6, by simp, fun a ha b hb => ?_⟩
    simp at hb
    subst hb
    exact fun x => hnq (by rw [← x]; exact ha)
  · rcases List.mem_append.mp hm with m | m
    · exact h7 b g m
    · simp at m
      obtain ⟨rfl, rfl⟩ := m
      exact ⟨k, hf, fun _ => hns, fun x => by cases x⟩
  · obtain ⟨b1, b2, r⟩ := h8 b g t e
    refine ⟨fun m => ?_, b2, r⟩
    rw [List.map_append, List.mem_append] at m
    rcases m with m | m
    · exact b1 m
    · simp at m
      subst m
      exact hl (Or.inr ⟨b, t, e⟩)
  · rcases h9 g t k' e e' with m | m
    · exact Or.inl (List.mem_append_left _ m)
    · exact Or.inr m
/-- a read is asked for: a free frame is locked for a block that lies on a sector alone -/
theorem jz_ask_r {f s k : Nat} (h : jz_P n J F S E q w) (hf : F f = none) (hfn : f < n) (hs : S s = some k) (hk : ∀ g, ¬ F g = some k) : jz_P n J (va_up F f (some k)) S E (q ++ [(false, f)]) w := by
  obtain ⟨h1, h2, h3, h4, h5, h6, h7, h8, h9, h10⟩ := h
  have hnq : ¬ f ∈ (q.map fun a => a.2) := fun m => by
    obtain ⟨⟨b, g⟩, m', e⟩ := List.mem_map.mp m
    simp only at e
    subst e
    obtain ⟨k', e, _⟩ := h7 b g m'
    rw [hf] at e; cases e
  have hnw : ∀ b t, ¬ w = some (b, f, t) := fun b t e => by
    obtain ⟨_, _, k', e', _⟩ := h8 b f t e
    rw [hf] at e'; cases e'
  have up : ∀ {g k'}, va_up F f (some k) g = some k' → (g = f ∧ k' = k) ∨ (¬ g = f ∧ F g = some k') := fun {g k'} e => by
    by_cases x : g = f
    · rw [x, jz_us] at e; cases e; exact Or.inl ⟨x, rfl⟩
    · rw [jz_un x] at e; exact Or.inr ⟨x, e⟩
  have old : ∀ {g k'}, F g = some k' → va_up F f (some k) g = some k' := fun {g k'} e => by
    rw [jz_un (fun x => by rw [x, hf] at e; cases e)]; exact e
  refine ⟨fun g k' e => ?_, h2, fun g g' k' e e' => ?_, h4, fun k' => ?_, ?_, fun b g hm => ?_, fun b g t e => ?_, fun g t k' e e' => ?_, h10⟩
  · rcases up e with ⟨rfl, rfl⟩ | ⟨_, e⟩
    · exact ⟨hfn, (h2 s k' hs).2⟩
    · exact h1 g k' e
  · rcases up e with ⟨rfl, rfl⟩ | ⟨x, e1⟩ <;> rcases up e' with ⟨y, z⟩ | ⟨y, e2⟩
    · exact y.symm
    · exact absurd e2 (hk g')
    · subst z; exact absurd e1 (hk g)
    · exact h3 g g' k' e1 e2
  · rw [h5 k']
    constructor
    · rintro (⟨g, e⟩ | e)
      · exact Or.inl ⟨g, old e⟩
      · exact Or.inr e
    · rintro (⟨g, e⟩ | e)
      · rcases up e with ⟨rfl, rfl⟩ | ⟨_, e⟩
        · exact Or.inr ⟨s, hs⟩
        · exact Or.inl ⟨g, e⟩
      · exact Or.inr e
  · rw [List.map_append, List.nodup_append]
    refine ⟨h6, by simp, fun a ha b hb => ?_⟩
    simp at hb
    subst hb
    exact fun x => hnq (by rw [← x]; exact ha)
  · rcases List.mem_append.mp hm with m | m
    · obtain ⟨k', e, r⟩ := h7 b g m
      exact ⟨k', old e, r⟩
    · simp at m
      obtain ⟨rfl, rfl⟩ := m
      exact ⟨k, jz_us, fun x => (by cases x), fun _ => ⟨s, hs⟩⟩
  · obtain ⟨b1, b2, k', e', r⟩ := h8 b g t e
    refine ⟨fun m => ?_, b2, k', old e', r⟩
    rw [List.map_append, List.mem_append] at m
    rcases m with m | m
    · exact b1 m
    · simp at m
      subst m
      exact hnw b t e
  · rcases up e with ⟨rfl, rfl⟩ | ⟨x, e⟩
    · exact Or.inl (List.mem_append_right _ (by simp))
    · rcases h9 g t k' e e' with m | m
      · exact Or.inl (List.mem_append_left _ m)
      · exact Or.inr m
/-- a new block in a free frame -/
theorem jz_new {f k : Nat} (h : jz_P n J F S E q w) (hf : F f = none) (hfn : f < n) (hkJ : k < 64 * J) (hk : k < 768) (he : ¬ E k = true) (hc : jz_cnt E 768 < 64) : jz_P n J (va_up F f (some k)) S (va_up E k true) q w := by
  obtain ⟨h1, h2, h3, h4, h5, h6, h7, h8, h9, h10⟩ := h
  have nf : ∀ g, ¬ F g = some k := fun g e => he ((h5 k).mpr (Or.inl ⟨g, e⟩))
  have nS : ∀ s, ¬ S s = some k := fun s e => he ((h5 k).mpr (Or.inr ⟨s, e⟩))
  have up : ∀ {g k'}, va_up F f (some k) g = some k' → (g = f ∧ k' = k) ∨ (¬ g = f ∧ F g = some k') := fun {g k'} e => by
    by_cases x : g = f
    · rw [x, jz_us] at e; cases e; exact Or.inl ⟨x, rfl⟩
    · rw [jz_un x] at e; exact Or.inr ⟨x, e⟩
  have old : ∀ {g k'}, F g = some k' → va_up F f (some k) g = some k' := fun {g k'} e => by
    rw [jz_un (fun x => by rw [x, hf] at e; cases e)]; exact e
  refine ⟨fun g k' e => ?_, h2, fun g g' k' e e' => ?_, h4, fun k' => ?_, h6, fun b g hm => ?_, fun b g t e => ?_, fun g t k' e e' => ?_, ?_⟩
  · rcases up e with ⟨rfl, rfl⟩ | ⟨_, e⟩
    · exact ⟨hfn, hkJ⟩
    · exact h1 g k' e
  · rcases up e with ⟨rfl, rfl⟩ | ⟨x, e1⟩ <;> rcases up e' with ⟨y, z⟩ | ⟨y, e2⟩
    · exact y.symm
    · exact absurd e2 (nf g')
    · subst z; exact absurd e1 (nf g)
    · exact h3 g g' k' e1 e2
  · by_cases x : k' = k
    · subst x
      rw [jz_us]
      exact ⟨fun _ => Or.inl ⟨f, jz_us⟩, fun _ => rfl⟩
    · rw [jz_un x, h5 k']
      constructor
      · rintro (⟨g, e⟩ | e)
        · exact Or.inl ⟨g, old e⟩
        · exact Or.inr e
      · rintro (⟨g, e⟩ | e)
        · rcases up e with ⟨_, z⟩ | ⟨_, e⟩
          · exact absurd z x
          · exact Or.inl ⟨g, e⟩
        · exact Or.inr e
  · obtain ⟨k', e, r⟩ := h7 b g hm
    exact ⟨k', old e, r⟩
  · obtain ⟨b1, b2, k', e', r⟩ := h8 b g t e
    exact ⟨b1, b2, k', old e', r⟩
  · rcases up e with ⟨rfl, rfl⟩ | ⟨_, e⟩
    · exact absurd e' (nS t)
    · exact h9 g t k' e e'
  · rw [jz_cnt_add hk he]
    omega
end JZ
end
section
/-! the same: a transfer's beginning, a job's end, a job's program -/
section JZ
variable {n J : Nat} {F S : Nat → Option Nat} {E : Nat → Bool} {q : List (Bool × Nat)} {w : Option (Bool × Nat × Nat)}
/-- a read begins: its sector is free -/
theorem jz_beg_r {f s k : Nat} (h : jz_P n J F S E ((false, f) :: q) none) (hf : F f = some k) (hs : S s = some k) : jz_P n J F (va_up S s none) E q (some (false, f, s)) := by
  obtain ⟨h1, h2, h3, h4, h5, h6, h7, h8, h9, h10⟩ := h
  rw [List.map_cons, List.nodup_cons] at h6
  have up : ∀ {t k'}, va_up S s none t = some k' → ¬ t = s ∧ S t = some k' := fun {t k'} e => by
    by_cases x : t = s
    · rw [x, jz_us] at e; cases e
    · rw [jz_un x] at e; exact ⟨x, e⟩
  refine ⟨h1, fun t k' e => h2 t k' (up e).2, h3, fun t t' k' e e' => h4 t t' k' (up e).2 (up e').2, fun k' => ?_, h6.2, fun b g hm => ?_, fun b g t e => ?_, fun g t k' e e' => ?_, h10⟩
  · rw [h5 k']
    constructor
    · rintro (e | ⟨t, e⟩)
      · exact Or.inl e
      · by_cases x : t = s
        · rw [x, hs] at e; cases e; exact Or.inl ⟨f, hf⟩
        · exact Or.inr ⟨t, by rw [jz_un x]; exact e⟩
    · rintro (e | ⟨t, e⟩)
      · exact Or.inl e
      · exact Or.inr ⟨t, (up e).2⟩
  · obtain ⟨k', e, r1, r2⟩ := h7 b g (List.mem_cons_of_mem _ hm)
    refine ⟨k', e, fun hb t e' => r1 hb t (up e').2, fun hb => ?_⟩
    obtain ⟨t, e'⟩ := r2 hb
    have x : ¬ t = s := fun x => by
      rw [x, hs] at e'
      cases e'
      have := h3 g f k e hf
      exact h6.1 (by rw [← this]; exact jz_mem hm)
    exact ⟨t, by rw [jz_un x]; exact e'⟩
  · cases e
    refine ⟨h6.1, (h2 s k hs).1, k, hf, fun x => (by cases x), fun _ t e' => ?_⟩
    exact (up e').1 (h4 t s k (up e').2 hs)
  · rcases h9 g t k' e (up e').2 with m | ⟨s', m⟩
    · rcases List.mem_cons.mp m with x | m
      · cases x
        rw [hf] at e
        cases e
        exact absurd (h4 t s k (up e').2 hs) (up e').1
      · exact Or.inl m
    · cases m
/-- a write begins: a free sector is taken -/
theorem jz_beg_w {f s k : Nat} (h : jz_P n J F S E ((true, f) :: q) none) (hf : F f = some k) (hs : S s = none) (hs64 : s < 64) : jz_P n J F (va_up S s (some k)) E q (some (true, f, s)) := by
  obtain ⟨h1, h2, h3, h4, h5, h6, h7, h8, h9, h10⟩ := h
  rw [List.map_cons, List.nodup_cons] at h6
  have hn : ∀ t, ¬ S t = some k := by
    obtain ⟨k', e, r1, _⟩ := h7 true f List.mem_cons_self
    rw [hf] at e
    cases e
    exact r1 rfl
  have up : ∀ {t k'}, va_up S s (some k) t = some k' → (t = s ∧ k' = k) ∨ (¬ t = s ∧ S t = some k') := fun {t k'} e => by
    by_cases x : t = s
    · rw [x, jz_us] at e; cases e; exact Or.inl ⟨x, rfl⟩
    · rw [jz_un x] at e; exact Or.inr ⟨x, e⟩
  have old : ∀ {t k'}, S t = some k' → va_up S s (some k) t = some k' := fun {t k'} e => by
    rw [jz_un (fun x => by rw [x, hs] at e; cases e)]; exact e
  refine ⟨h1, fun t k' e => ?_, h3, fun t t' k' e e' => ?_, fun k' => ?_, h6.2, fun b g hm => ?_, fun b g t e => ?_, fun g t k' e e' => ?_, h10⟩
  · rcases up e with ⟨rfl, rfl⟩ | ⟨_, e⟩
    · exact ⟨hs64, (h1 f k' hf).2⟩
    · exact h2 t k' e
  · rcases up e with ⟨rfl, rfl⟩ | ⟨x, e1⟩ <;> rcases up e' with ⟨y, z⟩ | ⟨y, e2⟩
    · exact y.symm
    · exact absurd e2 (hn t')
    · subst z; exact absurd e1 (hn t)
    · exact h4 t t' k' e1 e2
  · rw [h5 k']
    constructor
    · rintro (e | ⟨t, e⟩)
      · exact Or.inl e
      · exact Or.inr ⟨t, old e⟩
    · rintro (e | ⟨t, e⟩)
      · exact Or.inl e
      · rcases up e with ⟨_, z⟩ | ⟨_, e⟩
        · subst z; exact Or.inl ⟨f, hf⟩
        · exact Or.inr ⟨t, e⟩
  · obtain ⟨k', e, r1, r2⟩ := h7 b g (List.mem_cons_of_mem _ hm)
    refine ⟨k', e, fun hb t e' => ?_, fun hb => ?_⟩
    · rcases up e' with ⟨_, z⟩ | ⟨_, e'⟩
      · subst z
        have := h3 g f k' e hf
        exact h6.1 (by rw [← this]; exact jz_mem hm)
      · exact r1 hb t e'
    · obtain ⟨t, e'⟩ := r2 hb
      exact ⟨t, old e'⟩
  · cases e
    exact ⟨h6.1, hs64, k, hf, fun _ => jz_us, fun x => (by cases x)⟩
  · rcases up e' with ⟨rfl, rfl⟩ | ⟨_, e'⟩
    · have := h3 g f k' e hf
      subst this
      exact Or.inr ⟨t, rfl⟩
    · rcases h9 g t k' e e' with m | ⟨s', m⟩
      · rcases List.mem_cons.mp m with x | m
        · cases x
        · exact Or.inl m
      · cases m
/-- an asked write is dropped -/
theorem jz_drop {p r : List (Bool × Nat)} {f : Nat} (h : jz_P n J F S E (p ++ (true, f) :: r) w) : jz_P n J F S E (p ++ r) w := by
  obtain ⟨h1, h2, h3, h4, h5, h6, h7, h8, h9, h10⟩ := h
  have sub : ∀ x, x ∈ p ++ r → x ∈ p ++ (true, f) :: r := fun x m => by
    rcases List.mem_append.mp m with m | m
    · exact List.mem_append_left _ m
    · exact List.mem_append_right _ (List.mem_cons_of_mem _ m)
  refine ⟨h1, h2, h3, h4, h5, ?_, fun b g m => h7 b g (sub _ m), fun b g t e => ?_, fun g t k e e' => ?_, h10⟩
  · rw [List.map_append, List.map_cons] at h6
    rw [List.map_append]
    exact List.Nodup.sublist (List.Sublist.append_left (List.sublist_cons_self _ _) _) h6
  · obtain ⟨b1, b2⟩ := h8 b g t e
    refine ⟨fun m => b1 ?_, b2⟩
    obtain ⟨x, m, e⟩ := List.mem_map.mp m
    exact List.mem_map.mpr ⟨x, sub x m, e⟩
  · rcases h9 g t k e e' with m | m
    · rcases List.mem_append.mp m with m | m
      · exact Or.inl (List.mem_append_left _ m)
      · rcases List.mem_cons.mp m with x | m
        · cases x
        · exact Or.inl (List.mem_append_right _ m)
    · exact Or.inr m
/-- a block in an unlocked frame vanishes -/
theorem jz_van_f {f k : Nat} (hk : k < 768) (h : jz_P n J F S E q w) (hf : F f = some k) (hl : ¬ jz_lk q w f) : jz_P n J (va_up F f none) S (va_up E k false) q w := by
  obtain ⟨h1, h2, h3, h4, h5, h6, h7, h8, h9, h10⟩ := h
  have hns : ∀ s, ¬ S s = some k := fun s e => by
    rcases h9 f s k hf e with m | ⟨s', m⟩
    · exact hl (Or.inl (jz_mem m))
    · exact hl (Or.inr ⟨true, s', m⟩)
  have hE : E k = true := (h5 k).mpr (Or.inl ⟨f, hf⟩)
  have up : ∀ {g k'}, va_up F f none g = some k' → ¬ g = f ∧ F g = some k' := fun {g k'} e => by
    by_cases x : g = f
    · rw [x, jz_us] at e; cases e
    · rw [jz_un x] at e; exact ⟨x, e⟩
  refine ⟨fun g k' e => h1 g k' (up e).2, h2, fun g g' k' e e' => h3 g g' k' (up e).2 (up e').2, h4, fun k' => ?_, h6, fun b g hm => ?_, fun b g t e => ?_, fun g t k' e e' => h9 g t k' (up e).2 e', ?_⟩
  · by_cases x : k' = k
    · subst x
      rw [jz_us]
      refine ⟨fun e => (by cases e), ?_⟩
      rintro (⟨g, e⟩ | ⟨t, e⟩)
      · exact absurd (h3 g f k' (up e).2 hf) (up e).1
      · exact absurd e (hns t)
    · rw [jz_un x, h5 k']
      constructor
      · rintro (⟨g, e⟩ | e)
        · refine Or.inl ⟨g, ?_⟩
          rw [jz_un (fun y => by rw [y, hf] at e; cases e; exact x rfl)]
          exact e
        · exact Or.inr e
      · rintro (⟨g, e⟩ | e)
        · exact Or.inl ⟨g, (up e).2⟩
        · exact Or.inr e
  · have x : ¬ g = f := fun x => hl (Or.inl (by rw [← x]; exact jz_mem hm))
    obtain ⟨k', e, r⟩ := h7 b g hm
    exact ⟨k', by rw [jz_un x]; exact e, r⟩
  · have x : ¬ g = f := fun x => hl (Or.inr ⟨b, t, by rw [← x]; exact e⟩)
    obtain ⟨b1, b2, k', e', r⟩ := h8 b g t e
    exact ⟨b1, b2, k', by rw [jz_un x]; exact e', r⟩
  · have := jz_cnt_del (E := E) (k := k) (N := 768) hk hE
    omega
/-- a program's block on a free sector -/
theorem jz_load {s k : Nat} (h : jz_P n J F S E q w) (hs : S s = none) (hs64 : s < 64) (hkJ : k < 64 * J) (hk : k < 768) (he : ¬ E k = true) (hc : jz_cnt E 768 < 64) : jz_P n J F (va_up S s (some k)) (va_up E k true) q w := by
  obtain ⟨h1, h2, h3, h4, h5, h6, h7, h8, h9, h10⟩ := h
  have nf : ∀ g, ¬ F g = some k := fun g e => he ((h5 k).mpr (Or.inl ⟨g, e⟩))
  have nS : ∀ s, ¬ S s = some k := fun s e => he ((h5 k).mpr (Or.inr ⟨s, e⟩))
  have up : ∀ {t k'}, va_up S s (some k) t = some k' → (t = s ∧ k' = k) ∨ (¬ t = s ∧ S t = some k') := fun {t k'} e => by
    by_cases x : t = s
    · rw [x, jz_us] at e; cases e; exact Or.inl ⟨x, rfl⟩
    · rw [jz_un x] at e; exact Or.inr ⟨x, e⟩
  have old : ∀ {t k'}, S t = some k' → va_up S s (some k) t = some k' := fun {t k'} e => by
    rw [jz_un (fun x => by rw [x, hs] at e; cases e)]; exact e
  refine ⟨h1, fun t k' e => ?_, h3, fun t t' k' e e' => ?_, fun k' => ?_, h6, fun b g hm => ?_, fun b g t e => ?_, fun g t k' e e' => ?_, ?_⟩
  · rcases up e with ⟨rfl, rfl⟩ | ⟨_, e⟩
    · exact ⟨hs64, hkJ⟩
    · exact h2 t k' e
  · rcases up e with ⟨rfl, rfl⟩ | ⟨x, e1⟩ <;> rcases up e' with ⟨y, z⟩ | ⟨y, e2⟩
    · exact y.symm
    · exact absurd e2 (nS t')
    · subst z; exact absurd e1 (nS t)
    · exact h4 t t' k' e1 e2
  · by_cases x : k' = k
    · subst x
      rw [jz_us]
      exact ⟨fun _ => Or.inr ⟨s, jz_us⟩, fun _ => rfl⟩
    · rw [jz_un x, h5 k']
      constructor
      · rintro (e | ⟨t, e⟩)
        · exact Or.inl e
        · exact Or.inr ⟨t, old e⟩
      · rintro (e | ⟨t, e⟩)
        · exact Or.inl e
        · rcases up e with ⟨_, z⟩ | ⟨_, e⟩
          · exact absurd z x
          · exact Or.inr ⟨t, e⟩
  · obtain ⟨k', e, r1, r2⟩ := h7 b g hm
    refine ⟨k', e, fun hb t e' => ?_, fun hb => ?_⟩
    · rcases up e' with ⟨_, z⟩ | ⟨_, e'⟩
      · subst z; exact nf g e
      · exact r1 hb t e'
    · obtain ⟨t, e'⟩ := r2 hb
      exact ⟨t, old e'⟩
  · obtain ⟨b1, b2, k', e', r1, r2⟩ := h8 b g t e
    refine ⟨b1, b2, k', e', fun hb => old (r1 hb), fun hb t' e2 => ?_⟩
    rcases up e2 with ⟨_, z⟩ | ⟨_, e2⟩
    · subst z; exact nf g e'
    · exact r2 hb t' e2
  · rcases up e' with ⟨_, z⟩ | ⟨_, e'⟩
    · subst z; exact absurd e (nf g)
    · exact h9 g t k' e e'
  · rw [jz_cnt_add hk he]
    omega
theorem jz_more {J' : Nat} (hJ : J ≤ J') (h : jz_P n J F S E q w) : jz_P n J' F S E q w := by
  obtain ⟨h1, h2, r⟩ := h
  exact ⟨fun f k e => ⟨(h1 f k e).1, by have := (h1 f k e).2; omega⟩, fun s k e => ⟨(h2 s k e).1, by have := (h2 s k e).2; omega⟩, r⟩
/-- never more transfers than frames -/
theorem jz_len (h : jz_P n J F S E q w) : q.length ≤ n := by
  obtain ⟨h1, h2, h3, h4, h5, h6, h7, _⟩ := h
  have hb : ∀ x ∈ (q.map fun a => a.2), x < n := fun x m => by
    obtain ⟨⟨b, f⟩, m', e⟩ := List.mem_map.mp m
    simp only at e
    subst e
    obtain ⟨k, e, _⟩ := h7 b f m'
    exact (h1 f k e).1
  have key : ∀ (n : Nat) (l : List Nat), l.Nodup → (∀ x ∈ l, x < n) → l.length ≤ n := by
    intro n
    induction n with
    | zero =>
      intro l _ hl
      cases l with
      | nil => exact Nat.le_refl 0
      | cons a l => exact absurd (hl a List.mem_cons_self) (by omega)
    | succ n ih =>
      intro l hn hl
      by_cases m : n ∈ l
      · have h1 := ih (l.erase n) (hn.erase n) (fun x mx => by
          have mx' := (List.Nodup.mem_erase_iff hn).mp mx
          have := hl x mx'.2
          have := mx'.1
          omega)
        rw [List.length_erase_of_mem m] at h1
        omega
      · have := ih l hn (fun x mx => by
          have := hl x mx
          have : ¬ x = n := fun e => m (by rw [← e]; exact mx)
          omega)
        omega
  have := key n _ h6 hb
  simpa using this
end JZ
end
section
/-! method 67: DrumMachine$Core.resize -/
theorem N67 {d : Nat} {b : Nat} {a0 : Int32} {h : jv_H} : jv_run (d + 1) 67 [.ref b, .int a0] h = jv_ev (jv_run d) 67 0 [some (.ref b), some (.int a0)] [] h := jv_run_eq (Nat.le_of_ble_eq_true rfl) rfl
theorem D67_0 : decode (jt_code 67) 0 = .ok (.aload_n 0, 1) := by decide +kernel
theorem E67_0 {call : jv_F} {l1 : Option Value} {a : Nat} {st : List Value} {h : jv_H} : jv_ev call 67 0 [some (.ref a), l1] st h = jv_ev call 67 1 [some (.ref a), l1] (.ref a :: st) h := je_aload_n (r := some a) D67_0 rfl rfl
theorem D67_1 : decode (jt_code 67) 1 = .ok (.iload_n 1, 1) := by decide +kernel
theorem E67_1 {call : jv_F} {l0 : Option Value} {x : Int32} {st : List Value} {h : jv_H} : jv_ev call 67 1 [l0, some (.int x)] st h = jv_ev call 67 2 [l0, some (.int x)] (.int x :: st) h := je_iload_n D67_1 rfl rfl
theorem D67_2 : decode (jt_code 67) 2 = .ok (.putfield 17, 3) := by decide +kernel
theorem E67_2 {call : jv_F} {l0 l1 : Option Value} {a : Nat} {v : Value} {st : List Value} {h : jv_H} (hs : (jv_pf h a 2 1 v).isSome = true) : jv_ev call 67 2 [l0, l1] (v :: .ref a :: st) h = jv_ev call 67 5 [l0, l1] st ((jv_pf h a 2 1 v).getD h) := by
  obtain ⟨h', hv⟩ := Option.isSome_iff_exists.mp hs
  rw [hv]
  exact je_put D67_2 rfl (by decide) (by decide) hv
theorem D67_5 : decode (jt_code 67) 5 = .ok (.aload_n 0, 1) := by decide +kernel
theorem E67_5 {call : jv_F} {l1 : Option Value} {a : Nat} {st : List Value} {h : jv_H} : jv_ev call 67 5 [some (.ref a), l1] st h = jv_ev call 67 6 [some (.ref a), l1] (.ref a :: st) h := je_aload_n (r := some a) D67_5 rfl rfl
theorem D67_6 : decode (jt_code 67) 6 = .ok (.iload_n 1, 1) := by decide +kernel
theorem E67_6 {call : jv_F} {l0 : Option Value} {x : Int32} {st : List Value} {h : jv_H} : jv_ev call 67 6 [l0, some (.int x)] st h = jv_ev call 67 7 [l0, some (.int x)] (.int x :: st) h := je_iload_n D67_6 rfl rfl
theorem D67_7 : decode (jt_code 67) 7 = .ok (.putfield 21, 3) := by decide +kernel
theorem E67_7 {call : jv_F} {l0 l1 : Option Value} {a : Nat} {v : Value} {st : List Value} {h : jv_H} (hs : (jv_pf h a 2 2 v).isSome = true) : jv_ev call 67 7 [l0, l1] (v :: .ref a :: st) h = jv_ev call 67 10 [l0, l1] st ((jv_pf h a 2 2 v).getD h) := by
  obtain ⟨h', hv⟩ := Option.isSome_iff_exists.mp hs
  rw [hv]
  exact je_put D67_7 rfl (by decide) (by decide) hv
theorem D67_10 : decode (jt_code 67) 10 = .ok (.return_, 1) := by decide +kernel
theorem E67_10 {call : jv_F} {l0 l1 : Option Value}  {h : jv_H} : jv_ev call 67 10 [l0, l1] [] h = some (none, h) := je_ret D67_10 rfl
/-! method 68: DrumMachine$Core.mostActive -/
theorem N68 {d : Nat} {b : Nat} {h : jv_H} : jv_run (d + 1) 68 [.ref b] h = jv_ev (jv_run d) 68 0 [some (.ref b)] [] h := jv_run_eq (Nat.le_of_ble_eq_true rfl) rfl
theorem D68_0 : decode (jt_code 68) 0 = .ok (.aload_n 0, 1) := by decide +kernel
theorem E68_0 {call : jv_F} {a : Nat} {st : List Value} {h : jv_H} : jv_ev call 68 0 [some (.ref a)] st h = jv_ev call 68 1 [some (.ref a)] (.ref a :: st) h := je_aload_n (r := some a) D68_0 rfl rfl
theorem D68_1 : decode (jt_code 68) 1 = .ok (.getfield 17, 3) := by decide +kernel
theorem E68_1 {call : jv_F} {l0 : Option Value} {a : Nat} {st : List Value} {h : jv_H} (hs : (jv_gf h a 2 1).isSome = true) : jv_ev call 68 1 [l0] (.ref a :: st) h = jv_ev call 68 4 [l0] ((jv_gf h a 2 1).getD .null :: st) h := by
  obtain ⟨v, hv⟩ := Option.isSome_iff_exists.mp hs
  rw [hv]
  exact je_get D68_1 rfl (by decide) hv
theorem D68_4 : decode (jt_code 68) 4 = .ok (.iconst 1, 1) := by decide +kernel
theorem E68_4 {call : jv_F} {l0 : Option Value}  {st : List Value} {h : jv_H} : jv_ev call 68 4 [l0] st h = jv_ev call 68 5 [l0] (.int (nI 1) :: st) h := je_iconst D68_4 rfl (by decide)
theorem D68_5 : decode (jt_code 68) 5 = .ok (.isub, 1) := by decide +kernel
theorem E68_5 {call : jv_F} {l0 : Option Value} {x y : Int32} {st : List Value} {h : jv_H} : jv_ev call 68 5 [l0] (.int y :: .int x :: st) h = jv_ev call 68 6 [l0] (.int (x - y) :: st) h := je_b2 (f := fun x y => x - y) D68_5 rfl (fun _ => rfl)
theorem D68_6 : decode (jt_code 68) 6 = .ok (.iconst 2, 1) := by decide +kernel
theorem E68_6 {call : jv_F} {l0 : Option Value}  {st : List Value} {h : jv_H} : jv_ev call 68 6 [l0] st h = jv_ev call 68 7 [l0] (.int (nI 2) :: st) h := je_iconst D68_6 rfl (by decide)
theorem D68_7 : decode (jt_code 68) 7 = .ok (.idiv, 1) := by decide +kernel
theorem E68_7 {call : jv_F} {l0 : Option Value} {x y : Int32} {st : List Value} {h : jv_H} (hy : ¬ y = 0) : jv_ev call 68 7 [l0] (.int y :: .int x :: st) h = jv_ev call 68 8 [l0] (.int (x / y) :: st) h := je_idiv D68_7 rfl hy
theorem D68_8 : decode (jt_code 68) 8 = .ok (.ireturn, 1) := by decide +kernel
theorem E68_8 {call : jv_F} {l0 : Option Value} {v : Int32} {h : jv_H} : jv_ev call 68 8 [l0] [.int v] h = some (some (.int v), h) := je_iret (ty := .int) D68_8 rfl rfl rfl
/-! method 69: DrumMachine$Core.blockIn -/
theorem N69 {d : Nat} {b : Nat} {a0 : Int32} {h : jv_H} : jv_run (d + 1) 69 [.ref b, .int a0] h = jv_ev (jv_run d) 69 0 [some (.ref b), some (.int a0)] [] h := jv_run_eq (Nat.le_of_ble_eq_true rfl) rfl
theorem D69_0 : decode (jt_code 69) 0 = .ok (.iload_n 1, 1) := by decide +kernel
theorem E69_0 {call : jv_F} {l0 : Option Value} {x : Int32} {st : List Value} {h : jv_H} : jv_ev call 69 0 [l0, some (.int x)] st h = jv_ev call 69 1 [l0, some (.int x)] (.int x :: st) h := je_iload_n D69_0 rfl rfl
theorem D69_1 : decode (jt_code 69) 1 = .ok (.ifCond .lt 26, 3) := by decide +kernel
theorem E69_1 {call : jv_F} {l0 l1 : Option Value} {x : Int32} {st : List Value} {h : jv_H} : jv_ev call 69 1 [l0, l1] (.int x :: st) h = if x < 0 then jv_ev call 69 27 [l0, l1] st h else jv_ev call 69 4 [l0, l1] st h := je_ifc D69_1 (by decide) rfl rfl
theorem D69_4 : decode (jt_code 69) 4 = .ok (.iload_n 1, 1) := by decide +kernel
theorem E69_4 {call : jv_F} {l0 : Option Value} {x : Int32} {st : List Value} {h : jv_H} : jv_ev call 69 4 [l0, some (.int x)] st h = jv_ev call 69 5 [l0, some (.int x)] (.int x :: st) h := je_iload_n D69_4 rfl rfl
theorem D69_5 : decode (jt_code 69) 5 = .ok (.aload_n 0, 1) := by decide +kernel
theorem E69_5 {call : jv_F} {l1 : Option Value} {a : Nat} {st : List Value} {h : jv_H} : jv_ev call 69 5 [some (.ref a), l1] st h = jv_ev call 69 6 [some (.ref a), l1] (.ref a :: st) h := je_aload_n (r := some a) D69_5 rfl rfl
theorem D69_6 : decode (jt_code 69) 6 = .ok (.getfield 17, 3) := by decide +kernel
theorem E69_6 {call : jv_F} {l0 l1 : Option Value} {a : Nat} {st : List Value} {h : jv_H} (hs : (jv_gf h a 2 1).isSome = true) : jv_ev call 69 6 [l0, l1] (.ref a :: st) h = jv_ev call 69 9 [l0, l1] ((jv_gf h a 2 1).getD .null :: st) h := by
  obtain ⟨v, hv⟩ := Option.isSome_iff_exists.mp hs
  rw [hv]
  exact je_get D69_6 rfl (by decide) hv
theorem D69_9 : decode (jt_code 69) 9 = .ok (.if_icmp .ge 18, 3) := by decide +kernel
theorem E69_9 {call : jv_F} {l0 l1 : Option Value} {x y : Int32} {st : List Value} {h : jv_H} : jv_ev call 69 9 [l0, l1] (.int y :: .int x :: st) h = if y ≤ x then jv_ev call 69 27 [l0, l1] st h else jv_ev call 69 12 [l0, l1] st h := je_icmp D69_9 (by decide) rfl rfl
theorem D69_12 : decode (jt_code 69) 12 = .ok (.iload_n 1, 1) := by decide +kernel
theorem E69_12 {call : jv_F} {l0 : Option Value} {x : Int32} {st : List Value} {h : jv_H} : jv_ev call 69 12 [l0, some (.int x)] st h = jv_ev call 69 13 [l0, some (.int x)] (.int x :: st) h := je_iload_n D69_12 rfl rfl
theorem D69_13 : decode (jt_code 69) 13 = .ok (.bipush 17, 2) := by decide +kernel
theorem E69_13 {call : jv_F} {l0 l1 : Option Value}  {st : List Value} {h : jv_H} : jv_ev call 69 13 [l0, l1] st h = jv_ev call 69 15 [l0, l1] (.int (nI 17) :: st) h := je_bipush D69_13 rfl (by decide)
theorem D69_15 : decode (jt_code 69) 15 = .ok (.if_icmp .ge 12, 3) := by decide +kernel
theorem E69_15 {call : jv_F} {l0 l1 : Option Value} {x y : Int32} {st : List Value} {h : jv_H} : jv_ev call 69 15 [l0, l1] (.int y :: .int x :: st) h = if y ≤ x then jv_ev call 69 27 [l0, l1] st h else jv_ev call 69 18 [l0, l1] st h := je_icmp D69_15 (by decide) rfl rfl
theorem D69_18 : decode (jt_code 69) 18 = .ok (.aload_n 0, 1) := by decide +kernel
theorem E69_18 {call : jv_F} {l1 : Option Value} {a : Nat} {st : List Value} {h : jv_H} : jv_ev call 69 18 [some (.ref a), l1] st h = jv_ev call 69 19 [some (.ref a), l1] (.ref a :: st) h := je_aload_n (r := some a) D69_18 rfl rfl
theorem D69_19 : decode (jt_code 69) 19 = .ok (.getfield 11, 3) := by decide +kernel
theorem E69_19 {call : jv_F} {l0 l1 : Option Value} {a : Nat} {st : List Value} {h : jv_H} (hs : (jv_gf h a 2 0).isSome = true) : jv_ev call 69 19 [l0, l1] (.ref a :: st) h = jv_ev call 69 22 [l0, l1] ((jv_gf h a 2 0).getD .null :: st) h := by
  obtain ⟨v, hv⟩ := Option.isSome_iff_exists.mp hs
  rw [hv]
  exact je_get D69_19 rfl (by decide) hv
theorem D69_22 : decode (jt_code 69) 22 = .ok (.iload_n 1, 1) := by decide +kernel
theorem E69_22 {call : jv_F} {l0 : Option Value} {x : Int32} {st : List Value} {h : jv_H} : jv_ev call 69 22 [l0, some (.int x)] st h = jv_ev call 69 23 [l0, some (.int x)] (.int x :: st) h := je_iload_n D69_22 rfl rfl
theorem D69_23 : decode (jt_code 69) 23 = .ok (.aaload, 1) := by decide +kernel
theorem E69_23 {call : jv_F} {l0 l1 : Option Value} {a : Nat} {j : Int32} {C : String} {st : List Value} {h : jv_H} (hC : jv_kn h a = some C) (hs : (jv_al h a (.object C) j).isSome = true) : jv_ev call 69 23 [l0, l1] (.int j :: .ref a :: st) h = jv_ev call 69 24 [l0, l1] ((jv_al h a (.object C) j).getD .null :: st) h := by
  obtain ⟨v, hv⟩ := Option.isSome_iff_exists.mp hs
  rw [hv]
  exact je_aald D69_23 rfl hC hv
theorem D69_24 : decode (jt_code 69) 24 = .ok (.goto 4, 3) := by decide +kernel
theorem E69_24 {call : jv_F} {l0 l1 : Option Value}  {st : List Value} {h : jv_H} : jv_ev call 69 24 [l0, l1] st h = jv_ev call 69 28 [l0, l1] st h := je_goto D69_24 (by decide)
theorem D69_27 : decode (jt_code 69) 27 = .ok (.aconst_null, 1) := by decide +kernel
theorem E69_27 {call : jv_F} {l0 l1 : Option Value}  {st : List Value} {h : jv_H} : jv_ev call 69 27 [l0, l1] st h = jv_ev call 69 28 [l0, l1] (.null :: st) h := je_null D69_27 rfl
theorem D69_28 : decode (jt_code 69) 28 = .ok (.areturn, 1) := by decide +kernel
theorem E69_28r {call : jv_F} {l0 l1 : Option Value} {r : Option Nat} {h : jv_H} : jv_ev call 69 28 [l0, l1] [va_rf r] h = some (some (va_rf r), h) := je_aret D69_28 rfl
theorem E69_28 {call : jv_F} {l0 l1 : Option Value} {a : Nat} {h : jv_H} : jv_ev call 69 28 [l0, l1] [.ref a] h = some (some (.ref a), h) := je_aret (r := some a) D69_28 rfl
theorem E69_28n {call : jv_F} {l0 l1 : Option Value}  {h : jv_H} : jv_ev call 69 28 [l0, l1] [.null] h = some (some .null, h) := je_aret (r := none) D69_28 rfl
/-! method 77: DrumMachine$Drum.blockOn -/
theorem N77 {d : Nat} {b : Nat} {a0 : Int32} {h : jv_H} : jv_run (d + 1) 77 [.ref b, .int a0] h = jv_ev (jv_run d) 77 0 [some (.ref b), some (.int a0)] [] h := jv_run_eq (Nat.le_of_ble_eq_true rfl) rfl
theorem D77_0 : decode (jt_code 77) 0 = .ok (.iload_n 1, 1) := by decide +kernel
theorem E77_0 {call : jv_F} {l0 : Option Value} {x : Int32} {st : List Value} {h : jv_H} : jv_ev call 77 0 [l0, some (.int x)] st h = jv_ev call 77 1 [l0, some (.int x)] (.int x :: st) h := je_iload_n D77_0 rfl rfl
theorem D77_1 : decode (jt_code 77) 1 = .ok (.ifCond .lt 18, 3) := by decide +kernel
theorem E77_1 {call : jv_F} {l0 l1 : Option Value} {x : Int32} {st : List Value} {h : jv_H} : jv_ev call 77 1 [l0, l1] (.int x :: st) h = if x < 0 then jv_ev call 77 19 [l0, l1] st h else jv_ev call 77 4 [l0, l1] st h := je_ifc D77_1 (by decide) rfl rfl
theorem D77_4 : decode (jt_code 77) 4 = .ok (.iload_n 1, 1) := by decide +kernel
theorem E77_4 {call : jv_F} {l0 : Option Value} {x : Int32} {st : List Value} {h : jv_H} : jv_ev call 77 4 [l0, some (.int x)] st h = jv_ev call 77 5 [l0, some (.int x)] (.int x :: st) h := je_iload_n D77_4 rfl rfl
theorem D77_5 : decode (jt_code 77) 5 = .ok (.bipush 64, 2) := by decide +kernel
theorem E77_5 {call : jv_F} {l0 l1 : Option Value}  {st : List Value} {h : jv_H} : jv_ev call 77 5 [l0, l1] st h = jv_ev call 77 7 [l0, l1] (.int (nI 64) :: st) h := je_bipush D77_5 rfl (by decide)
theorem D77_7 : decode (jt_code 77) 7 = .ok (.if_icmp .ge 12, 3) := by decide +kernel
theorem E77_7 {call : jv_F} {l0 l1 : Option Value} {x y : Int32} {st : List Value} {h : jv_H} : jv_ev call 77 7 [l0, l1] (.int y :: .int x :: st) h = if y ≤ x then jv_ev call 77 19 [l0, l1] st h else jv_ev call 77 10 [l0, l1] st h := je_icmp D77_7 (by decide) rfl rfl
theorem D77_10 : decode (jt_code 77) 10 = .ok (.aload_n 0, 1) := by decide +kernel
theorem E77_10 {call : jv_F} {l1 : Option Value} {a : Nat} {st : List Value} {h : jv_H} : jv_ev call 77 10 [some (.ref a), l1] st h = jv_ev call 77 11 [some (.ref a), l1] (.ref a :: st) h := je_aload_n (r := some a) D77_10 rfl rfl
theorem D77_11 : decode (jt_code 77) 11 = .ok (.getfield 11, 3) := by decide +kernel
theorem E77_11 {call : jv_F} {l0 l1 : Option Value} {a : Nat} {st : List Value} {h : jv_H} (hs : (jv_gf h a 3 0).isSome = true) : jv_ev call 77 11 [l0, l1] (.ref a :: st) h = jv_ev call 77 14 [l0, l1] ((jv_gf h a 3 0).getD .null :: st) h := by
  obtain ⟨v, hv⟩ := Option.isSome_iff_exists.mp hs
  rw [hv]
  exact je_get D77_11 rfl (by decide) hv
theorem D77_14 : decode (jt_code 77) 14 = .ok (.iload_n 1, 1) := by decide +kernel
theorem E77_14 {call : jv_F} {l0 : Option Value} {x : Int32} {st : List Value} {h : jv_H} : jv_ev call 77 14 [l0, some (.int x)] st h = jv_ev call 77 15 [l0, some (.int x)] (.int x :: st) h := je_iload_n D77_14 rfl rfl
theorem D77_15 : decode (jt_code 77) 15 = .ok (.aaload, 1) := by decide +kernel
theorem E77_15 {call : jv_F} {l0 l1 : Option Value} {a : Nat} {j : Int32} {C : String} {st : List Value} {h : jv_H} (hC : jv_kn h a = some C) (hs : (jv_al h a (.object C) j).isSome = true) : jv_ev call 77 15 [l0, l1] (.int j :: .ref a :: st) h = jv_ev call 77 16 [l0, l1] ((jv_al h a (.object C) j).getD .null :: st) h := by
  obtain ⟨v, hv⟩ := Option.isSome_iff_exists.mp hs
  rw [hv]
  exact je_aald D77_15 rfl hC hv
theorem D77_16 : decode (jt_code 77) 16 = .ok (.goto 4, 3) := by decide +kernel
theorem E77_16 {call : jv_F} {l0 l1 : Option Value}  {st : List Value} {h : jv_H} : jv_ev call 77 16 [l0, l1] st h = jv_ev call 77 20 [l0, l1] st h := je_goto D77_16 (by decide)
theorem D77_19 : decode (jt_code 77) 19 = .ok (.aconst_null, 1) := by decide +kernel
theorem E77_19 {call : jv_F} {l0 l1 : Option Value}  {st : List Value} {h : jv_H} : jv_ev call 77 19 [l0, l1] st h = jv_ev call 77 20 [l0, l1] (.null :: st) h := je_null D77_19 rfl
theorem D77_20 : decode (jt_code 77) 20 = .ok (.areturn, 1) := by decide +kernel
theorem E77_20r {call : jv_F} {l0 l1 : Option Value} {r : Option Nat} {h : jv_H} : jv_ev call 77 20 [l0, l1] [va_rf r] h = some (some (va_rf r), h) := je_aret D77_20 rfl
theorem E77_20 {call : jv_F} {l0 l1 : Option Value} {a : Nat} {h : jv_H} : jv_ev call 77 20 [l0, l1] [.ref a] h = some (some (.ref a), h) := je_aret (r := some a) D77_20 rfl
theorem E77_20n {call : jv_F} {l0 l1 : Option Value}  {h : jv_H} : jv_ev call 77 20 [l0, l1] [.null] h = some (some .null, h) := je_aret (r := none) D77_20 rfl
/-! method 89: DrumMachine$Job.wrapWord -/
theorem N89 {d : Nat} {a0 : Int64} {h : jv_H} : jv_run (d + 1) 89 [.long a0] h = jv_ev (jv_run d) 89 0 [some (.long a0), none] [] h := jv_run_eq (Nat.le_of_ble_eq_true rfl) rfl
theorem D89_0 : decode (jt_code 89) 0 = .ok (.lload_n 0, 1) := by decide +kernel
theorem E89_0 {call : jv_F} {l1 : Option Value} {x : Int64} {st : List Value} {h : jv_H} : jv_ev call 89 0 [some (.long x), l1] st h = jv_ev call 89 1 [some (.long x), l1] (.long x :: st) h := je_lload_n D89_0 rfl rfl
theorem D89_1 : decode (jt_code 89) 1 = .ok (.bipush 16, 2) := by decide +kernel
theorem E89_1 {call : jv_F} {l0 l1 : Option Value}  {st : List Value} {h : jv_H} : jv_ev call 89 1 [l0, l1] st h = jv_ev call 89 3 [l0, l1] (.int (nI 16) :: st) h := je_bipush D89_1 rfl (by decide)
theorem D89_3 : decode (jt_code 89) 3 = .ok (.lshl, 1) := by decide +kernel
theorem E89_3 {call : jv_F} {l0 l1 : Option Value} {x : Int64} {y : Int32} {st : List Value} {h : jv_H} : jv_ev call 89 3 [l0, l1] (.int y :: .long x :: st) h = jv_ev call 89 4 [l0, l1] (.long (x <<< (y.toInt64 &&& 63)) :: st) h := je_lshl D89_3 rfl
theorem D89_4 : decode (jt_code 89) 4 = .ok (.bipush 16, 2) := by decide +kernel
theorem E89_4 {call : jv_F} {l0 l1 : Option Value}  {st : List Value} {h : jv_H} : jv_ev call 89 4 [l0, l1] st h = jv_ev call 89 6 [l0, l1] (.int (nI 16) :: st) h := je_bipush D89_4 rfl (by decide)
theorem D89_6 : decode (jt_code 89) 6 = .ok (.lshr, 1) := by decide +kernel
theorem E89_6 {call : jv_F} {l0 l1 : Option Value} {x : Int64} {y : Int32} {st : List Value} {h : jv_H} : jv_ev call 89 6 [l0, l1] (.int y :: .long x :: st) h = jv_ev call 89 7 [l0, l1] (.long (x >>> (y.toInt64 &&& 63)) :: st) h := je_lshr D89_6 rfl
theorem D89_7 : decode (jt_code 89) 7 = .ok (.lreturn, 1) := by decide +kernel
theorem E89_7 {call : jv_F} {l0 l1 : Option Value} {v : Int64} {h : jv_H} : jv_ev call 89 7 [l0, l1] [.long v] h = some (some (.long v), h) := je_lret D89_7 rfl
/-! method 117: DrumMachine$Tray.hasRoomForWords -/
theorem N117 {d : Nat} {b : Nat} {a0 : Int32} {h : jv_H} : jv_run (d + 1) 117 [.ref b, .int a0] h = jv_ev (jv_run d) 117 0 [some (.ref b), some (.int a0)] [] h := jv_run_eq (Nat.le_of_ble_eq_true rfl) rfl
theorem D117_0 : decode (jt_code 117) 0 = .ok (.aload_n 0, 1) := by decide +kernel
theorem E117_0 {call : jv_F} {l1 : Option Value} {a : Nat} {st : List Value} {h : jv_H} : jv_ev call 117 0 [some (.ref a), l1] st h = jv_ev call 117 1 [some (.ref a), l1] (.ref a :: st) h := je_aload_n (r := some a) D117_0 rfl rfl
theorem D117_1 : decode (jt_code 117) 1 = .ok (.getfield 19, 3) := by decide +kernel
theorem E117_1 {call : jv_F} {l0 l1 : Option Value} {a : Nat} {st : List Value} {h : jv_H} (hs : (jv_gf h a 5 2).isSome = true) : jv_ev call 117 1 [l0, l1] (.ref a :: st) h = jv_ev call 117 4 [l0, l1] ((jv_gf h a 5 2).getD .null :: st) h := by
  obtain ⟨v, hv⟩ := Option.isSome_iff_exists.mp hs
  rw [hv]
  exact je_get D117_1 rfl (by decide) hv
theorem D117_4 : decode (jt_code 117) 4 = .ok (.iload_n 1, 1) := by decide +kernel
theorem E117_4 {call : jv_F} {l0 : Option Value} {x : Int32} {st : List Value} {h : jv_H} : jv_ev call 117 4 [l0, some (.int x)] st h = jv_ev call 117 5 [l0, some (.int x)] (.int x :: st) h := je_iload_n D117_4 rfl rfl
theorem D117_5 : decode (jt_code 117) 5 = .ok (.iadd, 1) := by decide +kernel
theorem E117_5 {call : jv_F} {l0 l1 : Option Value} {x y : Int32} {st : List Value} {h : jv_H} : jv_ev call 117 5 [l0, l1] (.int y :: .int x :: st) h = jv_ev call 117 6 [l0, l1] (.int (x + y) :: st) h := je_b2 (f := fun x y => x + y) D117_5 rfl (fun _ => rfl)
theorem D117_6 : decode (jt_code 117) 6 = .ok (.sipush 1000, 3) := by decide +kernel
theorem E117_6 {call : jv_F} {l0 l1 : Option Value}  {st : List Value} {h : jv_H} : jv_ev call 117 6 [l0, l1] st h = jv_ev call 117 9 [l0, l1] (.int (nI 1000) :: st) h := je_sipush D117_6 rfl (by decide)
theorem D117_9 : decode (jt_code 117) 9 = .ok (.if_icmp .gt 7, 3) := by decide +kernel
theorem E117_9 {call : jv_F} {l0 l1 : Option Value} {x y : Int32} {st : List Value} {h : jv_H} : jv_ev call 117 9 [l0, l1] (.int y :: .int x :: st) h = if y < x then jv_ev call 117 16 [l0, l1] st h else jv_ev call 117 12 [l0, l1] st h := je_icmp D117_9 (by decide) rfl rfl
theorem D117_12 : decode (jt_code 117) 12 = .ok (.iconst 1, 1) := by decide +kernel
theorem E117_12 {call : jv_F} {l0 l1 : Option Value}  {st : List Value} {h : jv_H} : jv_ev call 117 12 [l0, l1] st h = jv_ev call 117 13 [l0, l1] (.int (nI 1) :: st) h := je_iconst D117_12 rfl (by decide)
theorem D117_13 : decode (jt_code 117) 13 = .ok (.goto 4, 3) := by decide +kernel
theorem E117_13 {call : jv_F} {l0 l1 : Option Value}  {st : List Value} {h : jv_H} : jv_ev call 117 13 [l0, l1] st h = jv_ev call 117 17 [l0, l1] st h := je_goto D117_13 (by decide)
theorem D117_16 : decode (jt_code 117) 16 = .ok (.iconst 0, 1) := by decide +kernel
theorem E117_16 {call : jv_F} {l0 l1 : Option Value}  {st : List Value} {h : jv_H} : jv_ev call 117 16 [l0, l1] st h = jv_ev call 117 17 [l0, l1] (.int (nI 0) :: st) h := je_iconst D117_16 rfl (by decide)
theorem D117_17 : decode (jt_code 117) 17 = .ok (.ireturn, 1) := by decide +kernel
theorem E117_17 {call : jv_F} {l0 l1 : Option Value} {v : Int32} {h : jv_H} (hn : narrow .boolean (.int v) = .int v) (hf : fits .boolean (.int v) = true) : jv_ev call 117 17 [l0, l1] [.int v] h = some (some (.int v), h) := je_iret (ty := .boolean) D117_17 rfl hn hf
/-! method 118: DrumMachine$Tray.hasRoomForBytes -/
theorem N118 {d : Nat} {b : Nat} {a0 : Int32} {h : jv_H} : jv_run (d + 1) 118 [.ref b, .int a0] h = jv_ev (jv_run d) 118 0 [some (.ref b), some (.int a0)] [] h := jv_run_eq (Nat.le_of_ble_eq_true rfl) rfl
theorem D118_0 : decode (jt_code 118) 0 = .ok (.aload_n 0, 1) := by decide +kernel
theorem E118_0 {call : jv_F} {l1 : Option Value} {a : Nat} {st : List Value} {h : jv_H} : jv_ev call 118 0 [some (.ref a), l1] st h = jv_ev call 118 1 [some (.ref a), l1] (.ref a :: st) h := je_aload_n (r := some a) D118_0 rfl rfl
theorem D118_1 : decode (jt_code 118) 1 = .ok (.getfield 23, 3) := by decide +kernel
theorem E118_1 {call : jv_F} {l0 l1 : Option Value} {a : Nat} {st : List Value} {h : jv_H} (hs : (jv_gf h a 5 3).isSome = true) : jv_ev call 118 1 [l0, l1] (.ref a :: st) h = jv_ev call 118 4 [l0, l1] ((jv_gf h a 5 3).getD .null :: st) h := by
  obtain ⟨v, hv⟩ := Option.isSome_iff_exists.mp hs
  rw [hv]
  exact je_get D118_1 rfl (by decide) hv
theorem D118_4 : decode (jt_code 118) 4 = .ok (.iload_n 1, 1) := by decide +kernel
theorem E118_4 {call : jv_F} {l0 : Option Value} {x : Int32} {st : List Value} {h : jv_H} : jv_ev call 118 4 [l0, some (.int x)] st h = jv_ev call 118 5 [l0, some (.int x)] (.int x :: st) h := je_iload_n D118_4 rfl rfl
theorem D118_5 : decode (jt_code 118) 5 = .ok (.iadd, 1) := by decide +kernel
theorem E118_5 {call : jv_F} {l0 l1 : Option Value} {x y : Int32} {st : List Value} {h : jv_H} : jv_ev call 118 5 [l0, l1] (.int y :: .int x :: st) h = jv_ev call 118 6 [l0, l1] (.int (x + y) :: st) h := je_b2 (f := fun x y => x + y) D118_5 rfl (fun _ => rfl)
theorem D118_6 : decode (jt_code 118) 6 = .ok (.sipush 2000, 3) := by decide +kernel
theorem E118_6 {call : jv_F} {l0 l1 : Option Value}  {st : List Value} {h : jv_H} : jv_ev call 118 6 [l0, l1] st h = jv_ev call 118 9 [l0, l1] (.int (nI 2000) :: st) h := je_sipush D118_6 rfl (by decide)
theorem D118_9 : decode (jt_code 118) 9 = .ok (.if_icmp .gt 7, 3) := by decide +kernel
theorem E118_9 {call : jv_F} {l0 l1 : Option Value} {x y : Int32} {st : List Value} {h : jv_H} : jv_ev call 118 9 [l0, l1] (.int y :: .int x :: st) h = if y < x then jv_ev call 118 16 [l0, l1] st h else jv_ev call 118 12 [l0, l1] st h := je_icmp D118_9 (by decide) rfl rfl
theorem D118_12 : decode (jt_code 118) 12 = .ok (.iconst 1, 1) := by decide +kernel
theorem E118_12 {call : jv_F} {l0 l1 : Option Value}  {st : List Value} {h : jv_H} : jv_ev call 118 12 [l0, l1] st h = jv_ev call 118 13 [l0, l1] (.int (nI 1) :: st) h := je_iconst D118_12 rfl (by decide)
theorem D118_13 : decode (jt_code 118) 13 = .ok (.goto 4, 3) := by decide +kernel
theorem E118_13 {call : jv_F} {l0 l1 : Option Value}  {st : List Value} {h : jv_H} : jv_ev call 118 13 [l0, l1] st h = jv_ev call 118 17 [l0, l1] st h := je_goto D118_13 (by decide)
theorem D118_16 : decode (jt_code 118) 16 = .ok (.iconst 0, 1) := by decide +kernel
theorem E118_16 {call : jv_F} {l0 l1 : Option Value}  {st : List Value} {h : jv_H} : jv_ev call 118 16 [l0, l1] st h = jv_ev call 118 17 [l0, l1] (.int (nI 0) :: st) h := je_iconst D118_16 rfl (by decide)
theorem D118_17 : decode (jt_code 118) 17 = .ok (.ireturn, 1) := by decide +kernel
theorem E118_17 {call : jv_F} {l0 l1 : Option Value} {v : Int32} {h : jv_H} (hn : narrow .boolean (.int v) = .int v) (hf : fits .boolean (.int v) = true) : jv_ev call 118 17 [l0, l1] [.int v] h = some (some (.int v), h) := je_iret (ty := .boolean) D118_17 rfl hn hf
/-! method 119: DrumMachine$Tray.addWord -/
theorem N119 {d : Nat} {b : Nat} {a0 : Int64} {h : jv_H} : jv_run (d + 1) 119 [.ref b, .long a0] h = jv_ev (jv_run d) 119 0 [some (.ref b), some (.long a0), none] [] h := jv_run_eq (Nat.le_of_ble_eq_true rfl) rfl
theorem D119_0 : decode (jt_code 119) 0 = .ok (.aload_n 0, 1) := by decide +kernel
theorem E119_0 {call : jv_F} {l1 l2 : Option Value} {a : Nat} {st : List Value} {h : jv_H} : jv_ev call 119 0 [some (.ref a), l1, l2] st h = jv_ev call 119 1 [some (.ref a), l1, l2] (.ref a :: st) h := je_aload_n (r := some a) D119_0 rfl rfl
theorem D119_1 : decode (jt_code 119) 1 = .ok (.getfield 19, 3) := by decide +kernel
theorem E119_1 {call : jv_F} {l0 l1 l2 : Option Value} {a : Nat} {st : List Value} {h : jv_H} (hs : (jv_gf h a 5 2).isSome = true) : jv_ev call 119 1 [l0, l1, l2] (.ref a :: st) h = jv_ev call 119 4 [l0, l1, l2] ((jv_gf h a 5 2).getD .null :: st) h := by
  obtain ⟨v, hv⟩ := Option.isSome_iff_exists.mp hs
  rw [hv]
  exact je_get D119_1 rfl (by decide) hv
theorem D119_4 : decode (jt_code 119) 4 = .ok (.sipush 1000, 3) := by decide +kernel
theorem E119_4 {call : jv_F} {l0 l1 l2 : Option Value}  {st : List Value} {h : jv_H} : jv_ev call 119 4 [l0, l1, l2] st h = jv_ev call 119 7 [l0, l1, l2] (.int (nI 1000) :: st) h := je_sipush D119_4 rfl (by decide)
theorem D119_7 : decode (jt_code 119) 7 = .ok (.if_icmp .ge 26, 3) := by decide +kernel
theorem E119_7 {call : jv_F} {l0 l1 l2 : Option Value} {x y : Int32} {st : List Value} {h : jv_H} : jv_ev call 119 7 [l0, l1, l2] (.int y :: .int x :: st) h = if y ≤ x then jv_ev call 119 33 [l0, l1, l2] st h else jv_ev call 119 10 [l0, l1, l2] st h := je_icmp D119_7 (by decide) rfl rfl
theorem D119_10 : decode (jt_code 119) 10 = .ok (.aload_n 0, 1) := by decide +kernel
theorem E119_10 {call : jv_F} {l1 l2 : Option Value} {a : Nat} {st : List Value} {h : jv_H} : jv_ev call 119 10 [some (.ref a), l1, l2] st h = jv_ev call 119 11 [some (.ref a), l1, l2] (.ref a :: st) h := je_aload_n (r := some a) D119_10 rfl rfl
theorem D119_11 : decode (jt_code 119) 11 = .ok (.getfield 9, 3) := by decide +kernel
theorem E119_11 {call : jv_F} {l0 l1 l2 : Option Value} {a : Nat} {st : List Value} {h : jv_H} (hs : (jv_gf h a 5 0).isSome = true) : jv_ev call 119 11 [l0, l1, l2] (.ref a :: st) h = jv_ev call 119 14 [l0, l1, l2] ((jv_gf h a 5 0).getD .null :: st) h := by
  obtain ⟨v, hv⟩ := Option.isSome_iff_exists.mp hs
  rw [hv]
  exact je_get D119_11 rfl (by decide) hv
theorem D119_14 : decode (jt_code 119) 14 = .ok (.aload_n 0, 1) := by decide +kernel
theorem E119_14 {call : jv_F} {l1 l2 : Option Value} {a : Nat} {st : List Value} {h : jv_H} : jv_ev call 119 14 [some (.ref a), l1, l2] st h = jv_ev call 119 15 [some (.ref a), l1, l2] (.ref a :: st) h := je_aload_n (r := some a) D119_14 rfl rfl
theorem D119_15 : decode (jt_code 119) 15 = .ok (.getfield 19, 3) := by decide +kernel
theorem E119_15 {call : jv_F} {l0 l1 l2 : Option Value} {a : Nat} {st : List Value} {h : jv_H} (hs : (jv_gf h a 5 2).isSome = true) : jv_ev call 119 15 [l0, l1, l2] (.ref a :: st) h = jv_ev call 119 18 [l0, l1, l2] ((jv_gf h a 5 2).getD .null :: st) h := by
  obtain ⟨v, hv⟩ := Option.isSome_iff_exists.mp hs
  rw [hv]
  exact je_get D119_15 rfl (by decide) hv
theorem D119_18 : decode (jt_code 119) 18 = .ok (.lload_n 1, 1) := by decide +kernel
theorem E119_18 {call : jv_F} {l0 l2 : Option Value} {x : Int64} {st : List Value} {h : jv_H} : jv_ev call 119 18 [l0, some (.long x), l2] st h = jv_ev call 119 19 [l0, some (.long x), l2] (.long x :: st) h := je_lload_n D119_18 rfl rfl
theorem D119_19 : decode (jt_code 119) 19 = .ok (.invokestatic 26, 3) := by decide +kernel
theorem E119_19 {call : jv_F} {l0 l1 l2 : Option Value} {v0 : Value}  {st : List Value} {h : jv_H} (hw : jv_wide st = true) (hc : (call 89 [v0] h).isSome = true) : jv_ev call 119 19 [l0, l1, l2] (v0 :: st) h = jv_ev call 119 22 [l0, l1, l2] ((((call 89 [v0] h).getD (none, h)).1).toList ++ st) ((call 89 [v0] h).getD (none, h)).2 := by
  obtain ⟨⟨r, h'⟩, hv⟩ := Option.isSome_iff_exists.mp hc
  rw [hv]
  exact je_stat (y := 89) (as := [v0]) D119_19 rfl (by decide) (by decide) rfl hw hv
theorem D119_22 : decode (jt_code 119) 22 = .ok (.lastore, 1) := by decide +kernel
theorem E119_22 {call : jv_F} {l0 l1 l2 : Option Value} {a : Nat} {j : Int32} {x : Int64} {st : List Value} {h : jv_H} (hs : (jv_as h a .long j (.long x)).isSome = true) : jv_ev call 119 22 [l0, l1, l2] (.long x :: .int j :: .ref a :: st) h = jv_ev call 119 23 [l0, l1, l2] st ((jv_as h a .long j (.long x)).getD h) := by
  obtain ⟨h', hv⟩ := Option.isSome_iff_exists.mp hs
  rw [hv]
  exact je_last D119_22 rfl hv
theorem D119_23 : decode (jt_code 119) 23 = .ok (.aload_n 0, 1) := by decide +kernel
theorem E119_23 {call : jv_F} {l1 l2 : Option Value} {a : Nat} {st : List Value} {h : jv_H} : jv_ev call 119 23 [some (.ref a), l1, l2] st h = jv_ev call 119 24 [some (.ref a), l1, l2] (.ref a :: st) h := je_aload_n (r := some a) D119_23 rfl rfl
theorem D119_24 : decode (jt_code 119) 24 = .ok (.dup, 1) := by decide +kernel
theorem E119_24 {call : jv_F} {l0 l1 l2 : Option Value} {a : Nat} {st : List Value} {h : jv_H} : jv_ev call 119 24 [l0, l1, l2] (.ref a :: st) h = jv_ev call 119 25 [l0, l1, l2] (.ref a :: .ref a :: st) h := je_dup D119_24 rfl rfl
theorem E119_24i {call : jv_F} {l0 l1 l2 : Option Value} {x : Int32} {st : List Value} {h : jv_H} : jv_ev call 119 24 [l0, l1, l2] (.int x :: st) h = jv_ev call 119 25 [l0, l1, l2] (.int x :: .int x :: st) h := je_dup D119_24 rfl rfl
theorem D119_25 : decode (jt_code 119) 25 = .ok (.getfield 19, 3) := by decide +kernel
theorem E119_25 {call : jv_F} {l0 l1 l2 : Option Value} {a : Nat} {st : List Value} {h : jv_H} (hs : (jv_gf h a 5 2).isSome = true) : jv_ev call 119 25 [l0, l1, l2] (.ref a :: st) h = jv_ev call 119 28 [l0, l1, l2] ((jv_gf h a 5 2).getD .null :: st) h := by
  obtain ⟨v, hv⟩ := Option.isSome_iff_exists.mp hs
  rw [hv]
  exact je_get D119_25 rfl (by decide) hv
theorem D119_28 : decode (jt_code 119) 28 = .ok (.iconst 1, 1) := by decide +kernel
theorem E119_28 {call : jv_F} {l0 l1 l2 : Option Value}  {st : List Value} {h : jv_H} : jv_ev call 119 28 [l0, l1, l2] st h = jv_ev call 119 29 [l0, l1, l2] (.int (nI 1) :: st) h := je_iconst D119_28 rfl (by decide)
theorem D119_29 : decode (jt_code 119) 29 = .ok (.iadd, 1) := by decide +kernel
theorem E119_29 {call : jv_F} {l0 l1 l2 : Option Value} {x y : Int32} {st : List Value} {h : jv_H} : jv_ev call 119 29 [l0, l1, l2] (.int y :: .int x :: st) h = jv_ev call 119 30 [l0, l1, l2] (.int (x + y) :: st) h := je_b2 (f := fun x y => x + y) D119_29 rfl (fun _ => rfl)
theorem D119_30 : decode (jt_code 119) 30 = .ok (.putfield 19, 3) := by decide +kernel
theorem E119_30 {call : jv_F} {l0 l1 l2 : Option Value} {a : Nat} {v : Value} {st : List Value} {h : jv_H} (hs : (jv_pf h a 5 2 v).isSome = true) : jv_ev call 119 30 [l0, l1, l2] (v :: .ref a :: st) h = jv_ev call 119 33 [l0, l1, l2] st ((jv_pf h a 5 2 v).getD h) := by
  obtain ⟨h', hv⟩ := Option.isSome_iff_exists.mp hs
  rw [hv]
  exact je_put D119_30 rfl (by decide) (by decide) hv
theorem D119_33 : decode (jt_code 119) 33 = .ok (.return_, 1) := by decide +kernel
theorem E119_33 {call : jv_F} {l0 l1 l2 : Option Value}  {h : jv_H} : jv_ev call 119 33 [l0, l1, l2] [] h = some (none, h) := je_ret D119_33 rfl
/-! method 120: DrumMachine$Tray.addBytes -/
theorem N120 {d : Nat} {b : Nat} {a0 : Int64} {a1 : Int32} {h : jv_H} : jv_run (d + 1) 120 [.ref b, .long a0, .int a1] h = jv_ev (jv_run d) 120 0 [some (.ref b), some (.long a0), none, some (.int a1), none] [] h := jv_run_eq (Nat.le_of_ble_eq_true rfl) rfl
theorem D120_0 : decode (jt_code 120) 0 = .ok (.iconst 0, 1) := by decide +kernel
theorem E120_0 {call : jv_F} {l0 l1 l2 l3 l4 : Option Value}  {st : List Value} {h : jv_H} : jv_ev call 120 0 [l0, l1, l2, l3, l4] st h = jv_ev call 120 1 [l0, l1, l2, l3, l4] (.int (nI 0) :: st) h := je_iconst D120_0 rfl (by decide)
theorem D120_1 : decode (jt_code 120) 1 = .ok (.istore 4, 2) := by decide +kernel
theorem E120_1 {call : jv_F} {l0 l1 l2 l3 l4 : Option Value} {x : Int32} {st : List Value} {h : jv_H} (hk : ¬ jv_is2 (some l3) = true) : jv_ev call 120 1 [l0, l1, l2, l3, l4] (.int x :: st) h = jv_ev call 120 3 [l0, l1, l2, l3, some (.int x)] st h := je_istore D120_1 rfl (Nat.le_of_ble_eq_true rfl) (by show jv_st1 _ 4 _ = _; simp only [jv_st1, jv_kill, List.getElem?_cons_succ, List.getElem?_cons_zero, hk, if_false]; rfl)
theorem D120_3 : decode (jt_code 120) 3 = .ok (.iload 4, 2) := by decide +kernel
theorem E120_3 {call : jv_F} {l0 l1 l2 l3 : Option Value} {x : Int32} {st : List Value} {h : jv_H} : jv_ev call 120 3 [l0, l1, l2, l3, some (.int x)] st h = jv_ev call 120 5 [l0, l1, l2, l3, some (.int x)] (.int x :: st) h := je_iload D120_3 rfl rfl
theorem D120_5 : decode (jt_code 120) 5 = .ok (.iload_n 3, 1) := by decide +kernel
theorem E120_5 {call : jv_F} {l0 l1 l2 l4 : Option Value} {x : Int32} {st : List Value} {h : jv_H} : jv_ev call 120 5 [l0, l1, l2, some (.int x), l4] st h = jv_ev call 120 6 [l0, l1, l2, some (.int x), l4] (.int x :: st) h := je_iload_n D120_5 rfl rfl
theorem D120_6 : decode (jt_code 120) 6 = .ok (.if_icmp .ge 60, 3) := by decide +kernel
theorem E120_6 {call : jv_F} {l0 l1 l2 l3 l4 : Option Value} {x y : Int32} {st : List Value} {h : jv_H} : jv_ev call 120 6 [l0, l1, l2, l3, l4] (.int y :: .int x :: st) h = if y ≤ x then jv_ev call 120 66 [l0, l1, l2, l3, l4] st h else jv_ev call 120 9 [l0, l1, l2, l3, l4] st h := je_icmp D120_6 (by decide) rfl rfl
theorem D120_9 : decode (jt_code 120) 9 = .ok (.iload 4, 2) := by decide +kernel
theorem E120_9 {call : jv_F} {l0 l1 l2 l3 : Option Value} {x : Int32} {st : List Value} {h : jv_H} : jv_ev call 120 9 [l0, l1, l2, l3, some (.int x)] st h = jv_ev call 120 11 [l0, l1, l2, l3, some (.int x)] (.int x :: st) h := je_iload D120_9 rfl rfl
theorem D120_11 : decode (jt_code 120) 11 = .ok (.bipush 8, 2) := by decide +kernel
theorem E120_11 {call : jv_F} {l0 l1 l2 l3 l4 : Option Value}  {st : List Value} {h : jv_H} : jv_ev call 120 11 [l0, l1, l2, l3, l4] st h = jv_ev call 120 13 [l0, l1, l2, l3, l4] (.int (nI 8) :: st) h := je_bipush D120_11 rfl (by decide)
theorem D120_13 : decode (jt_code 120) 13 = .ok (.if_icmp .ge 53, 3) := by decide +kernel
theorem E120_13 {call : jv_F} {l0 l1 l2 l3 l4 : Option Value} {x y : Int32} {st : List Value} {h : jv_H} : jv_ev call 120 13 [l0, l1, l2, l3, l4] (.int y :: .int x :: st) h = if y ≤ x then jv_ev call 120 66 [l0, l1, l2, l3, l4] st h else jv_ev call 120 16 [l0, l1, l2, l3, l4] st h := je_icmp D120_13 (by decide) rfl rfl
theorem D120_16 : decode (jt_code 120) 16 = .ok (.aload_n 0, 1) := by decide +kernel
theorem E120_16 {call : jv_F} {l1 l2 l3 l4 : Option Value} {a : Nat} {st : List Value} {h : jv_H} : jv_ev call 120 16 [some (.ref a), l1, l2, l3, l4] st h = jv_ev call 120 17 [some (.ref a), l1, l2, l3, l4] (.ref a :: st) h := je_aload_n (r := some a) D120_16 rfl rfl
theorem D120_17 : decode (jt_code 120) 17 = .ok (.getfield 23, 3) := by decide +kernel
theorem E120_17 {call : jv_F} {l0 l1 l2 l3 l4 : Option Value} {a : Nat} {st : List Value} {h : jv_H} (hs : (jv_gf h a 5 3).isSome = true) : jv_ev call 120 17 [l0, l1, l2, l3, l4] (.ref a :: st) h = jv_ev call 120 20 [l0, l1, l2, l3, l4] ((jv_gf h a 5 3).getD .null :: st) h := by
  obtain ⟨v, hv⟩ := Option.isSome_iff_exists.mp hs
  rw [hv]
  exact je_get D120_17 rfl (by decide) hv
theorem D120_20 : decode (jt_code 120) 20 = .ok (.sipush 2000, 3) := by decide +kernel
theorem E120_20 {call : jv_F} {l0 l1 l2 l3 l4 : Option Value}  {st : List Value} {h : jv_H} : jv_ev call 120 20 [l0, l1, l2, l3, l4] st h = jv_ev call 120 23 [l0, l1, l2, l3, l4] (.int (nI 2000) :: st) h := je_sipush D120_20 rfl (by decide)
theorem D120_23 : decode (jt_code 120) 23 = .ok (.if_icmp .ge 43, 3) := by decide +kernel
theorem E120_23 {call : jv_F} {l0 l1 l2 l3 l4 : Option Value} {x y : Int32} {st : List Value} {h : jv_H} : jv_ev call 120 23 [l0, l1, l2, l3, l4] (.int y :: .int x :: st) h = if y ≤ x then jv_ev call 120 66 [l0, l1, l2, l3, l4] st h else jv_ev call 120 26 [l0, l1, l2, l3, l4] st h := je_icmp D120_23 (by decide) rfl rfl
theorem D120_26 : decode (jt_code 120) 26 = .ok (.aload_n 0, 1) := by decide +kernel
theorem E120_26 {call : jv_F} {l1 l2 l3 l4 : Option Value} {a : Nat} {st : List Value} {h : jv_H} : jv_ev call 120 26 [some (.ref a), l1, l2, l3, l4] st h = jv_ev call 120 27 [some (.ref a), l1, l2, l3, l4] (.ref a :: st) h := je_aload_n (r := some a) D120_26 rfl rfl
theorem D120_27 : decode (jt_code 120) 27 = .ok (.getfield 15, 3) := by decide +kernel
theorem E120_27 {call : jv_F} {l0 l1 l2 l3 l4 : Option Value} {a : Nat} {st : List Value} {h : jv_H} (hs : (jv_gf h a 5 1).isSome = true) : jv_ev call 120 27 [l0, l1, l2, l3, l4] (.ref a :: st) h = jv_ev call 120 30 [l0, l1, l2, l3, l4] ((jv_gf h a 5 1).getD .null :: st) h := by
  obtain ⟨v, hv⟩ := Option.isSome_iff_exists.mp hs
  rw [hv]
  exact je_get D120_27 rfl (by decide) hv
theorem D120_30 : decode (jt_code 120) 30 = .ok (.aload_n 0, 1) := by decide +kernel
theorem E120_30 {call : jv_F} {l1 l2 l3 l4 : Option Value} {a : Nat} {st : List Value} {h : jv_H} : jv_ev call 120 30 [some (.ref a), l1, l2, l3, l4] st h = jv_ev call 120 31 [some (.ref a), l1, l2, l3, l4] (.ref a :: st) h := je_aload_n (r := some a) D120_30 rfl rfl
theorem D120_31 : decode (jt_code 120) 31 = .ok (.getfield 23, 3) := by decide +kernel
theorem E120_31 {call : jv_F} {l0 l1 l2 l3 l4 : Option Value} {a : Nat} {st : List Value} {h : jv_H} (hs : (jv_gf h a 5 3).isSome = true) : jv_ev call 120 31 [l0, l1, l2, l3, l4] (.ref a :: st) h = jv_ev call 120 34 [l0, l1, l2, l3, l4] ((jv_gf h a 5 3).getD .null :: st) h := by
  obtain ⟨v, hv⟩ := Option.isSome_iff_exists.mp hs
  rw [hv]
  exact je_get D120_31 rfl (by decide) hv
theorem D120_34 : decode (jt_code 120) 34 = .ok (.lload_n 1, 1) := by decide +kernel
theorem E120_34 {call : jv_F} {l0 l2 l3 l4 : Option Value} {x : Int64} {st : List Value} {h : jv_H} : jv_ev call 120 34 [l0, some (.long x), l2, l3, l4] st h = jv_ev call 120 35 [l0, some (.long x), l2, l3, l4] (.long x :: st) h := je_lload_n D120_34 rfl rfl
theorem D120_35 : decode (jt_code 120) 35 = .ok (.bipush 56, 2) := by decide +kernel
theorem E120_35 {call : jv_F} {l0 l1 l2 l3 l4 : Option Value}  {st : List Value} {h : jv_H} : jv_ev call 120 35 [l0, l1, l2, l3, l4] st h = jv_ev call 120 37 [l0, l1, l2, l3, l4] (.int (nI 56) :: st) h := je_bipush D120_35 rfl (by decide)
theorem D120_37 : decode (jt_code 120) 37 = .ok (.bipush 8, 2) := by decide +kernel
theorem E120_37 {call : jv_F} {l0 l1 l2 l3 l4 : Option Value}  {st : List Value} {h : jv_H} : jv_ev call 120 37 [l0, l1, l2, l3, l4] st h = jv_ev call 120 39 [l0, l1, l2, l3, l4] (.int (nI 8) :: st) h := je_bipush D120_37 rfl (by decide)
theorem D120_39 : decode (jt_code 120) 39 = .ok (.iload 4, 2) := by decide +kernel
theorem E120_39 {call : jv_F} {l0 l1 l2 l3 : Option Value} {x : Int32} {st : List Value} {h : jv_H} : jv_ev call 120 39 [l0, l1, l2, l3, some (.int x)] st h = jv_ev call 120 41 [l0, l1, l2, l3, some (.int x)] (.int x :: st) h := je_iload D120_39 rfl rfl
theorem D120_41 : decode (jt_code 120) 41 = .ok (.imul, 1) := by decide +kernel
theorem E120_41 {call : jv_F} {l0 l1 l2 l3 l4 : Option Value} {x y : Int32} {st : List Value} {h : jv_H} : jv_ev call 120 41 [l0, l1, l2, l3, l4] (.int y :: .int x :: st) h = jv_ev call 120 42 [l0, l1, l2, l3, l4] (.int (x * y) :: st) h := je_b2 (f := fun x y => x * y) D120_41 rfl (fun _ => rfl)
theorem D120_42 : decode (jt_code 120) 42 = .ok (.isub, 1) := by decide +kernel
theorem E120_42 {call : jv_F} {l0 l1 l2 l3 l4 : Option Value} {x y : Int32} {st : List Value} {h : jv_H} : jv_ev call 120 42 [l0, l1, l2, l3, l4] (.int y :: .int x :: st) h = jv_ev call 120 43 [l0, l1, l2, l3, l4] (.int (x - y) :: st) h := je_b2 (f := fun x y => x - y) D120_42 rfl (fun _ => rfl)
theorem D120_43 : decode (jt_code 120) 43 = .ok (.lshr, 1) := by decide +kernel
theorem E120_43 {call : jv_F} {l0 l1 l2 l3 l4 : Option Value} {x : Int64} {y : Int32} {st : List Value} {h : jv_H} : jv_ev call 120 43 [l0, l1, l2, l3, l4] (.int y :: .long x :: st) h = jv_ev call 120 44 [l0, l1, l2, l3, l4] (.long (x >>> (y.toInt64 &&& 63)) :: st) h := je_lshr D120_43 rfl
theorem D120_44 : decode (jt_code 120) 44 = .ok (.l2i, 1) := by decide +kernel
theorem E120_44 {call : jv_F} {l0 l1 l2 l3 l4 : Option Value} {x : Int64} {st : List Value} {h : jv_H} : jv_ev call 120 44 [l0, l1, l2, l3, l4] (.long x :: st) h = jv_ev call 120 45 [l0, l1, l2, l3, l4] (.int x.toInt32 :: st) h := je_l2i D120_44 rfl
theorem D120_45 : decode (jt_code 120) 45 = .ok (.sipush 255, 3) := by decide +kernel
theorem E120_45 {call : jv_F} {l0 l1 l2 l3 l4 : Option Value}  {st : List Value} {h : jv_H} : jv_ev call 120 45 [l0, l1, l2, l3, l4] st h = jv_ev call 120 48 [l0, l1, l2, l3, l4] (.int (nI 255) :: st) h := je_sipush D120_45 rfl (by decide)
theorem D120_48 : decode (jt_code 120) 48 = .ok (.iand, 1) := by decide +kernel
theorem E120_48 {call : jv_F} {l0 l1 l2 l3 l4 : Option Value} {x y : Int32} {st : List Value} {h : jv_H} : jv_ev call 120 48 [l0, l1, l2, l3, l4] (.int y :: .int x :: st) h = jv_ev call 120 49 [l0, l1, l2, l3, l4] (.int (x &&& y) :: st) h := je_b2 (f := fun x y => x &&& y) D120_48 rfl (fun _ => rfl)
theorem D120_49 : decode (jt_code 120) 49 = .ok (.iastore, 1) := by decide +kernel
theorem E120_49 {call : jv_F} {l0 l1 l2 l3 l4 : Option Value} {a : Nat} {j : Int32} {x : Int32} {st : List Value} {h : jv_H} (hs : (jv_as h a .int j (.int x)).isSome = true) : jv_ev call 120 49 [l0, l1, l2, l3, l4] (.int x :: .int j :: .ref a :: st) h = jv_ev call 120 50 [l0, l1, l2, l3, l4] st ((jv_as h a .int j (.int x)).getD h) := by
  obtain ⟨h', hv⟩ := Option.isSome_iff_exists.mp hs
  rw [hv]
  exact je_iast D120_49 rfl hv
theorem D120_50 : decode (jt_code 120) 50 = .ok (.aload_n 0, 1) := by decide +kernel
theorem E120_50 {call : jv_F} {l1 l2 l3 l4 : Option Value} {a : Nat} {st : List Value} {h : jv_H} : jv_ev call 120 50 [some (.ref a), l1, l2, l3, l4] st h = jv_ev call 120 51 [some (.ref a), l1, l2, l3, l4] (.ref a :: st) h := je_aload_n (r := some a) D120_50 rfl rfl
theorem D120_51 : decode (jt_code 120) 51 = .ok (.dup, 1) := by decide +kernel
theorem E120_51 {call : jv_F} {l0 l1 l2 l3 l4 : Option Value} {a : Nat} {st : List Value} {h : jv_H} : jv_ev call 120 51 [l0, l1, l2, l3, l4] (.ref a :: st) h = jv_ev call 120 52 [l0, l1, l2, l3, l4] (.ref a :: .ref a :: st) h := je_dup D120_51 rfl rfl
theorem E120_51i {call : jv_F} {l0 l1 l2 l3 l4 : Option Value} {x : Int32} {st : List Value} {h : jv_H} : jv_ev call 120 51 [l0, l1, l2, l3, l4] (.int x :: st) h = jv_ev call 120 52 [l0, l1, l2, l3, l4] (.int x :: .int x :: st) h := je_dup D120_51 rfl rfl
theorem D120_52 : decode (jt_code 120) 52 = .ok (.getfield 23, 3) := by decide +kernel
theorem E120_52 {call : jv_F} {l0 l1 l2 l3 l4 : Option Value} {a : Nat} {st : List Value} {h : jv_H} (hs : (jv_gf h a 5 3).isSome = true) : jv_ev call 120 52 [l0, l1, l2, l3, l4] (.ref a :: st) h = jv_ev call 120 55 [l0, l1, l2, l3, l4] ((jv_gf h a 5 3).getD .null :: st) h := by
  obtain ⟨v, hv⟩ := Option.isSome_iff_exists.mp hs
  rw [hv]
  exact je_get D120_52 rfl (by decide) hv
theorem D120_55 : decode (jt_code 120) 55 = .ok (.iconst 1, 1) := by decide +kernel
theorem E120_55 {call : jv_F} {l0 l1 l2 l3 l4 : Option Value}  {st : List Value} {h : jv_H} : jv_ev call 120 55 [l0, l1, l2, l3, l4] st h = jv_ev call 120 56 [l0, l1, l2, l3, l4] (.int (nI 1) :: st) h := je_iconst D120_55 rfl (by decide)
theorem D120_56 : decode (jt_code 120) 56 = .ok (.iadd, 1) := by decide +kernel
theorem E120_56 {call : jv_F} {l0 l1 l2 l3 l4 : Option Value} {x y : Int32} {st : List Value} {h : jv_H} : jv_ev call 120 56 [l0, l1, l2, l3, l4] (.int y :: .int x :: st) h = jv_ev call 120 57 [l0, l1, l2, l3, l4] (.int (x + y) :: st) h := je_b2 (f := fun x y => x + y) D120_56 rfl (fun _ => rfl)
theorem D120_57 : decode (jt_code 120) 57 = .ok (.putfield 23, 3) := by decide +kernel
theorem E120_57 {call : jv_F} {l0 l1 l2 l3 l4 : Option Value} {a : Nat} {v : Value} {st : List Value} {h : jv_H} (hs : (jv_pf h a 5 3 v).isSome = true) : jv_ev call 120 57 [l0, l1, l2, l3, l4] (v :: .ref a :: st) h = jv_ev call 120 60 [l0, l1, l2, l3, l4] st ((jv_pf h a 5 3 v).getD h) := by
  obtain ⟨h', hv⟩ := Option.isSome_iff_exists.mp hs
  rw [hv]
  exact je_put D120_57 rfl (by decide) (by decide) hv
theorem D120_60 : decode (jt_code 120) 60 = .ok (.iinc 4 1, 3) := by decide +kernel
theorem E120_60 {call : jv_F} {l0 l1 l2 l3 : Option Value} {x : Int32} {st : List Value} {h : jv_H} (hk : ¬ jv_is2 (some l3) = true) : jv_ev call 120 60 [l0, l1, l2, l3, some (.int x)] st h = jv_ev call 120 63 [l0, l1, l2, l3, some (.int (x + (nI 1)))] st h := je_iinc D120_60 rfl rfl (v := x + (nI 1)) (by rfl) (by show jv_st1 _ 4 _ = _; simp only [jv_st1, jv_kill, List.getElem?_cons_succ, List.getElem?_cons_zero, hk, if_false]; rfl)
theorem D120_63 : decode (jt_code 120) 63 = .ok (.goto (-60), 3) := by decide +kernel
theorem E120_63 {call : jv_F} {l0 l1 l2 l3 l4 : Option Value}  {st : List Value} {h : jv_H} : jv_ev call 120 63 [l0, l1, l2, l3, l4] st h = jv_ev call 120 3 [l0, l1, l2, l3, l4] st h := je_goto D120_63 (by decide)
theorem D120_66 : decode (jt_code 120) 66 = .ok (.return_, 1) := by decide +kernel
theorem E120_66 {call : jv_F} {l0 l1 l2 l3 l4 : Option Value}  {h : jv_H} : jv_ev call 120 66 [l0, l1, l2, l3, l4] [] h = some (none, h) := je_ret D120_66 rfl
/-! method 123: DrumMachine.frames -/
theorem N123 {d : Nat} {b : Nat} {a0 : Int32} {h : jv_H} : jv_run (d + 1) 123 [.ref b, .int a0] h = jv_ev (jv_run d) 123 0 [some (.ref b), some (.int a0)] [] h := jv_run_eq (Nat.le_of_ble_eq_true rfl) rfl
theorem D123_0 : decode (jt_code 123) 0 = .ok (.iload_n 1, 1) := by decide +kernel
theorem E123_0 {call : jv_F} {l0 : Option Value} {x : Int32} {st : List Value} {h : jv_H} : jv_ev call 123 0 [l0, some (.int x)] st h = jv_ev call 123 1 [l0, some (.int x)] (.int x :: st) h := je_iload_n D123_0 rfl rfl
theorem D123_1 : decode (jt_code 123) 1 = .ok (.iconst 3, 1) := by decide +kernel
theorem E123_1 {call : jv_F} {l0 l1 : Option Value}  {st : List Value} {h : jv_H} : jv_ev call 123 1 [l0, l1] st h = jv_ev call 123 2 [l0, l1] (.int (nI 3) :: st) h := je_iconst D123_1 rfl (by decide)
theorem D123_2 : decode (jt_code 123) 2 = .ok (.if_icmp .lt 16, 3) := by decide +kernel
theorem E123_2 {call : jv_F} {l0 l1 : Option Value} {x y : Int32} {st : List Value} {h : jv_H} : jv_ev call 123 2 [l0, l1] (.int y :: .int x :: st) h = if x < y then jv_ev call 123 18 [l0, l1] st h else jv_ev call 123 5 [l0, l1] st h := je_icmp D123_2 (by decide) rfl rfl
theorem D123_5 : decode (jt_code 123) 5 = .ok (.iload_n 1, 1) := by decide +kernel
theorem E123_5 {call : jv_F} {l0 : Option Value} {x : Int32} {st : List Value} {h : jv_H} : jv_ev call 123 5 [l0, some (.int x)] st h = jv_ev call 123 6 [l0, some (.int x)] (.int x :: st) h := je_iload_n D123_5 rfl rfl
theorem D123_6 : decode (jt_code 123) 6 = .ok (.bipush 17, 2) := by decide +kernel
theorem E123_6 {call : jv_F} {l0 l1 : Option Value}  {st : List Value} {h : jv_H} : jv_ev call 123 6 [l0, l1] st h = jv_ev call 123 8 [l0, l1] (.int (nI 17) :: st) h := je_bipush D123_6 rfl (by decide)
theorem D123_8 : decode (jt_code 123) 8 = .ok (.if_icmp .gt 10, 3) := by decide +kernel
theorem E123_8 {call : jv_F} {l0 l1 : Option Value} {x y : Int32} {st : List Value} {h : jv_H} : jv_ev call 123 8 [l0, l1] (.int y :: .int x :: st) h = if y < x then jv_ev call 123 18 [l0, l1] st h else jv_ev call 123 11 [l0, l1] st h := je_icmp D123_8 (by decide) rfl rfl
theorem D123_11 : decode (jt_code 123) 11 = .ok (.aload_n 0, 1) := by decide +kernel
theorem E123_11 {call : jv_F} {l1 : Option Value} {a : Nat} {st : List Value} {h : jv_H} : jv_ev call 123 11 [some (.ref a), l1] st h = jv_ev call 123 12 [some (.ref a), l1] (.ref a :: st) h := je_aload_n (r := some a) D123_11 rfl rfl
theorem D123_12 : decode (jt_code 123) 12 = .ok (.getfield 36, 3) := by decide +kernel
theorem E123_12 {call : jv_F} {l0 l1 : Option Value} {a : Nat} {st : List Value} {h : jv_H} (hs : (jv_gf h a 6 4).isSome = true) : jv_ev call 123 12 [l0, l1] (.ref a :: st) h = jv_ev call 123 15 [l0, l1] ((jv_gf h a 6 4).getD .null :: st) h := by
  obtain ⟨v, hv⟩ := Option.isSome_iff_exists.mp hs
  rw [hv]
  exact je_get D123_12 rfl (by decide) hv
theorem D123_15 : decode (jt_code 123) 15 = .ok (.ifCond .le 5, 3) := by decide +kernel
theorem E123_15 {call : jv_F} {l0 l1 : Option Value} {x : Int32} {st : List Value} {h : jv_H} : jv_ev call 123 15 [l0, l1] (.int x :: st) h = if x ≤ 0 then jv_ev call 123 20 [l0, l1] st h else jv_ev call 123 18 [l0, l1] st h := je_ifc D123_15 (by decide) rfl rfl
theorem D123_18 : decode (jt_code 123) 18 = .ok (.iconst (-1), 1) := by decide +kernel
theorem E123_18 {call : jv_F} {l0 l1 : Option Value}  {st : List Value} {h : jv_H} : jv_ev call 123 18 [l0, l1] st h = jv_ev call 123 19 [l0, l1] (.int (-1) :: st) h := je_iconst D123_18 rfl (by decide)
theorem D123_19 : decode (jt_code 123) 19 = .ok (.ireturn, 1) := by decide +kernel
theorem E123_19 {call : jv_F} {l0 l1 : Option Value} {v : Int32} {h : jv_H} : jv_ev call 123 19 [l0, l1] [.int v] h = some (some (.int v), h) := je_iret (ty := .int) D123_19 rfl rfl rfl
theorem D123_20 : decode (jt_code 123) 20 = .ok (.aload_n 0, 1) := by decide +kernel
theorem E123_20 {call : jv_F} {l1 : Option Value} {a : Nat} {st : List Value} {h : jv_H} : jv_ev call 123 20 [some (.ref a), l1] st h = jv_ev call 123 21 [some (.ref a), l1] (.ref a :: st) h := je_aload_n (r := some a) D123_20 rfl rfl
theorem D123_21 : decode (jt_code 123) 21 = .ok (.getfield 19, 3) := by decide +kernel
theorem E123_21 {call : jv_F} {l0 l1 : Option Value} {a : Nat} {st : List Value} {h : jv_H} (hs : (jv_gf h a 6 1).isSome = true) : jv_ev call 123 21 [l0, l1] (.ref a :: st) h = jv_ev call 123 24 [l0, l1] ((jv_gf h a 6 1).getD .null :: st) h := by
  obtain ⟨v, hv⟩ := Option.isSome_iff_exists.mp hs
  rw [hv]
  exact je_get D123_21 rfl (by decide) hv
theorem D123_24 : decode (jt_code 123) 24 = .ok (.iload_n 1, 1) := by decide +kernel
theorem E123_24 {call : jv_F} {l0 : Option Value} {x : Int32} {st : List Value} {h : jv_H} : jv_ev call 123 24 [l0, some (.int x)] st h = jv_ev call 123 25 [l0, some (.int x)] (.int x :: st) h := je_iload_n D123_24 rfl rfl
theorem D123_25 : decode (jt_code 123) 25 = .ok (.invokevirtual 61, 3) := by decide +kernel
theorem E123_25 {call : jv_F} {l0 l1 : Option Value} {b : Nat} {v0 : Value}  {st : List Value} {h : jv_H} (hw : jv_wide st = true) (hcl : jv_cl h b = some 2) (hc : (call 67 [.ref b, v0] h).isSome = true) : jv_ev call 123 25 [l0, l1] (v0 :: .ref b :: st) h = jv_ev call 123 28 [l0, l1] ((((call 67 [.ref b, v0] h).getD (none, h)).1).toList ++ st) ((call 67 [.ref b, v0] h).getD (none, h)).2 := by
  obtain ⟨⟨r, h'⟩, hv⟩ := Option.isSome_iff_exists.mp hc
  rw [hv]
  exact je_virt (y := 67) (as := [v0]) D123_25 rfl (by decide) (by decide) rfl hcl hw hv
theorem D123_28 : decode (jt_code 123) 28 = .ok (.iload_n 1, 1) := by decide +kernel
theorem E123_28 {call : jv_F} {l0 : Option Value} {x : Int32} {st : List Value} {h : jv_H} : jv_ev call 123 28 [l0, some (.int x)] st h = jv_ev call 123 29 [l0, some (.int x)] (.int x :: st) h := je_iload_n D123_28 rfl rfl
theorem D123_29 : decode (jt_code 123) 29 = .ok (.ireturn, 1) := by decide +kernel
theorem E123_29 {call : jv_F} {l0 l1 : Option Value} {v : Int32} {h : jv_H} : jv_ev call 123 29 [l0, l1] [.int v] h = some (some (.int v), h) := je_iret (ty := .int) D123_29 rfl rfl rfl
/-! method 124: DrumMachine.words -/
theorem N124 {d : Nat} {b : Nat} {a0 : Int64} {a1 : Int64} {a2 : Int64} {a3 : Int64} {a4 : Int64} {h : jv_H} : jv_run (d + 1) 124 [.ref b, .long a0, .long a1, .long a2, .long a3, .long a4] h = jv_ev (jv_run d) 124 0 [some (.ref b), some (.long a0), none, some (.long a1), none, some (.long a2), none, some (.long a3), none, some (.long a4), none] [] h := jv_run_eq (Nat.le_of_ble_eq_true rfl) rfl
theorem D124_0 : decode (jt_code 124) 0 = .ok (.aload_n 0, 1) := by decide +kernel
theorem E124_0 {call : jv_F} {l1 l2 l3 l4 l5 l6 l7 l8 l9 l10 : Option Value} {a : Nat} {st : List Value} {h : jv_H} : jv_ev call 124 0 [some (.ref a), l1, l2, l3, l4, l5, l6, l7, l8, l9, l10] st h = jv_ev call 124 1 [some (.ref a), l1, l2, l3, l4, l5, l6, l7, l8, l9, l10] (.ref a :: st) h := je_aload_n (r := some a) D124_0 rfl rfl
theorem D124_1 : decode (jt_code 124) 1 = .ok (.getfield 12, 3) := by decide +kernel
theorem E124_1 {call : jv_F} {l0 l1 l2 l3 l4 l5 l6 l7 l8 l9 l10 : Option Value} {a : Nat} {st : List Value} {h : jv_H} (hs : (jv_gf h a 6 0).isSome = true) : jv_ev call 124 1 [l0, l1, l2, l3, l4, l5, l6, l7, l8, l9, l10] (.ref a :: st) h = jv_ev call 124 4 [l0, l1, l2, l3, l4, l5, l6, l7, l8, l9, l10] ((jv_gf h a 6 0).getD .null :: st) h := by
  obtain ⟨v, hv⟩ := Option.isSome_iff_exists.mp hs
  rw [hv]
  exact je_get D124_1 rfl (by decide) hv
theorem D124_4 : decode (jt_code 124) 4 = .ok (.iconst 5, 1) := by decide +kernel
theorem E124_4 {call : jv_F} {l0 l1 l2 l3 l4 l5 l6 l7 l8 l9 l10 : Option Value}  {st : List Value} {h : jv_H} : jv_ev call 124 4 [l0, l1, l2, l3, l4, l5, l6, l7, l8, l9, l10] st h = jv_ev call 124 5 [l0, l1, l2, l3, l4, l5, l6, l7, l8, l9, l10] (.int (nI 5) :: st) h := je_iconst D124_4 rfl (by decide)
theorem D124_5 : decode (jt_code 124) 5 = .ok (.invokevirtual 65, 3) := by decide +kernel
theorem E124_5 {call : jv_F} {l0 l1 l2 l3 l4 l5 l6 l7 l8 l9 l10 : Option Value} {b : Nat} {v0 : Value}  {st : List Value} {h : jv_H} (hw : jv_wide st = true) (hcl : jv_cl h b = some 5) (hc : (call 117 [.ref b, v0] h).isSome = true) : jv_ev call 124 5 [l0, l1, l2, l3, l4, l5, l6, l7, l8, l9, l10] (v0 :: .ref b :: st) h = jv_ev call 124 8 [l0, l1, l2, l3, l4, l5, l6, l7, l8, l9, l10] ((((call 117 [.ref b, v0] h).getD (none, h)).1).toList ++ st) ((call 117 [.ref b, v0] h).getD (none, h)).2 := by
  obtain ⟨⟨r, h'⟩, hv⟩ := Option.isSome_iff_exists.mp hc
  rw [hv]
  exact je_virt (y := 117) (as := [v0]) D124_5 rfl (by decide) (by decide) rfl hcl hw hv
theorem D124_8 : decode (jt_code 124) 8 = .ok (.ifCond .ne 5, 3) := by decide +kernel
theorem E124_8 {call : jv_F} {l0 l1 l2 l3 l4 l5 l6 l7 l8 l9 l10 : Option Value} {x : Int32} {st : List Value} {h : jv_H} : jv_ev call 124 8 [l0, l1, l2, l3, l4, l5, l6, l7, l8, l9, l10] (.int x :: st) h = if ¬ x = 0 then jv_ev call 124 13 [l0, l1, l2, l3, l4, l5, l6, l7, l8, l9, l10] st h else jv_ev call 124 11 [l0, l1, l2, l3, l4, l5, l6, l7, l8, l9, l10] st h := je_ifc D124_8 (by decide) rfl rfl
theorem D124_11 : decode (jt_code 124) 11 = .ok (.iconst (-1), 1) := by decide +kernel
theorem E124_11 {call : jv_F} {l0 l1 l2 l3 l4 l5 l6 l7 l8 l9 l10 : Option Value}  {st : List Value} {h : jv_H} : jv_ev call 124 11 [l0, l1, l2, l3, l4, l5, l6, l7, l8, l9, l10] st h = jv_ev call 124 12 [l0, l1, l2, l3, l4, l5, l6, l7, l8, l9, l10] (.int (-1) :: st) h := je_iconst D124_11 rfl (by decide)
theorem D124_12 : decode (jt_code 124) 12 = .ok (.ireturn, 1) := by decide +kernel
theorem E124_12 {call : jv_F} {l0 l1 l2 l3 l4 l5 l6 l7 l8 l9 l10 : Option Value} {v : Int32} {h : jv_H} : jv_ev call 124 12 [l0, l1, l2, l3, l4, l5, l6, l7, l8, l9, l10] [.int v] h = some (some (.int v), h) := je_iret (ty := .int) D124_12 rfl rfl rfl
theorem D124_13 : decode (jt_code 124) 13 = .ok (.aload_n 0, 1) := by decide +kernel
theorem E124_13 {call : jv_F} {l1 l2 l3 l4 l5 l6 l7 l8 l9 l10 : Option Value} {a : Nat} {st : List Value} {h : jv_H} : jv_ev call 124 13 [some (.ref a), l1, l2, l3, l4, l5, l6, l7, l8, l9, l10] st h = jv_ev call 124 14 [some (.ref a), l1, l2, l3, l4, l5, l6, l7, l8, l9, l10] (.ref a :: st) h := je_aload_n (r := some a) D124_13 rfl rfl
theorem D124_14 : decode (jt_code 124) 14 = .ok (.getfield 12, 3) := by decide +kernel
theorem E124_14 {call : jv_F} {l0 l1 l2 l3 l4 l5 l6 l7 l8 l9 l10 : Option Value} {a : Nat} {st : List Value} {h : jv_H} (hs : (jv_gf h a 6 0).isSome = true) : jv_ev call 124 14 [l0, l1, l2, l3, l4, l5, l6, l7, l8, l9, l10] (.ref a :: st) h = jv_ev call 124 17 [l0, l1, l2, l3, l4, l5, l6, l7, l8, l9, l10] ((jv_gf h a 6 0).getD .null :: st) h := by
  obtain ⟨v, hv⟩ := Option.isSome_iff_exists.mp hs
  rw [hv]
  exact je_get D124_14 rfl (by decide) hv
theorem D124_17 : decode (jt_code 124) 17 = .ok (.lload_n 1, 1) := by decide +kernel
theorem E124_17 {call : jv_F} {l0 l2 l3 l4 l5 l6 l7 l8 l9 l10 : Option Value} {x : Int64} {st : List Value} {h : jv_H} : jv_ev call 124 17 [l0, some (.long x), l2, l3, l4, l5, l6, l7, l8, l9, l10] st h = jv_ev call 124 18 [l0, some (.long x), l2, l3, l4, l5, l6, l7, l8, l9, l10] (.long x :: st) h := je_lload_n D124_17 rfl rfl
theorem D124_18 : decode (jt_code 124) 18 = .ok (.invokevirtual 69, 3) := by decide +kernel
theorem E124_18 {call : jv_F} {l0 l1 l2 l3 l4 l5 l6 l7 l8 l9 l10 : Option Value} {b : Nat} {v0 : Value}  {st : List Value} {h : jv_H} (hw : jv_wide st = true) (hcl : jv_cl h b = some 5) (hc : (call 119 [.ref b, v0] h).isSome = true) : jv_ev call 124 18 [l0, l1, l2, l3, l4, l5, l6, l7, l8, l9, l10] (v0 :: .ref b :: st) h = jv_ev call 124 21 [l0, l1, l2, l3, l4, l5, l6, l7, l8, l9, l10] ((((call 119 [.ref b, v0] h).getD (none, h)).1).toList ++ st) ((call 119 [.ref b, v0] h).getD (none, h)).2 := by
  obtain ⟨⟨r, h'⟩, hv⟩ := Option.isSome_iff_exists.mp hc
  rw [hv]
  exact je_virt (y := 119) (as := [v0]) D124_18 rfl (by decide) (by decide) rfl hcl hw hv
theorem D124_21 : decode (jt_code 124) 21 = .ok (.aload_n 0, 1) := by decide +kernel
theorem E124_21 {call : jv_F} {l1 l2 l3 l4 l5 l6 l7 l8 l9 l10 : Option Value} {a : Nat} {st : List Value} {h : jv_H} : jv_ev call 124 21 [some (.ref a), l1, l2, l3, l4, l5, l6, l7, l8, l9, l10] st h = jv_ev call 124 22 [some (.ref a), l1, l2, l3, l4, l5, l6, l7, l8, l9, l10] (.ref a :: st) h := je_aload_n (r := some a) D124_21 rfl rfl
theorem D124_22 : decode (jt_code 124) 22 = .ok (.getfield 12, 3) := by decide +kernel
theorem E124_22 {call : jv_F} {l0 l1 l2 l3 l4 l5 l6 l7 l8 l9 l10 : Option Value} {a : Nat} {st : List Value} {h : jv_H} (hs : (jv_gf h a 6 0).isSome = true) : jv_ev call 124 22 [l0, l1, l2, l3, l4, l5, l6, l7, l8, l9, l10] (.ref a :: st) h = jv_ev call 124 25 [l0, l1, l2, l3, l4, l5, l6, l7, l8, l9, l10] ((jv_gf h a 6 0).getD .null :: st) h := by
  obtain ⟨v, hv⟩ := Option.isSome_iff_exists.mp hs
  rw [hv]
  exact je_get D124_22 rfl (by decide) hv
theorem D124_25 : decode (jt_code 124) 25 = .ok (.lload_n 3, 1) := by decide +kernel
theorem E124_25 {call : jv_F} {l0 l1 l2 l4 l5 l6 l7 l8 l9 l10 : Option Value} {x : Int64} {st : List Value} {h : jv_H} : jv_ev call 124 25 [l0, l1, l2, some (.long x), l4, l5, l6, l7, l8, l9, l10] st h = jv_ev call 124 26 [l0, l1, l2, some (.long x), l4, l5, l6, l7, l8, l9, l10] (.long x :: st) h := je_lload_n D124_25 rfl rfl
theorem D124_26 : decode (jt_code 124) 26 = .ok (.invokevirtual 69, 3) := by decide +kernel
theorem E124_26 {call : jv_F} {l0 l1 l2 l3 l4 l5 l6 l7 l8 l9 l10 : Option Value} {b : Nat} {v0 : Value}  {st : List Value} {h : jv_H} (hw : jv_wide st = true) (hcl : jv_cl h b = some 5) (hc : (call 119 [.ref b, v0] h).isSome = true) : jv_ev call 124 26 [l0, l1, l2, l3, l4, l5, l6, l7, l8, l9, l10] (v0 :: .ref b :: st) h = jv_ev call 124 29 [l0, l1, l2, l3, l4, l5, l6, l7, l8, l9, l10] ((((call 119 [.ref b, v0] h).getD (none, h)).1).toList ++ st) ((call 119 [.ref b, v0] h).getD (none, h)).2 := by
  obtain ⟨⟨r, h'⟩, hv⟩ := Option.isSome_iff_exists.mp hc
  rw [hv]
  exact je_virt (y := 119) (as := [v0]) D124_26 rfl (by decide) (by decide) rfl hcl hw hv
theorem D124_29 : decode (jt_code 124) 29 = .ok (.aload_n 0, 1) := by decide +kernel
theorem E124_29 {call : jv_F} {l1 l2 l3 l4 l5 l6 l7 l8 l9 l10 : Option Value} {a : Nat} {st : List Value} {h : jv_H} : jv_ev call 124 29 [some (.ref a), l1, l2, l3, l4, l5, l6, l7, l8, l9, l10] st h = jv_ev call 124 30 [some (.ref a), l1, l2, l3, l4, l5, l6, l7, l8, l9, l10] (.ref a :: st) h := je_aload_n (r := some a) D124_29 rfl rfl
theorem D124_30 : decode (jt_code 124) 30 = .ok (.getfield 12, 3) := by decide +kernel
theorem E124_30 {call : jv_F} {l0 l1 l2 l3 l4 l5 l6 l7 l8 l9 l10 : Option Value} {a : Nat} {st : List Value} {h : jv_H} (hs : (jv_gf h a 6 0).isSome = true) : jv_ev call 124 30 [l0, l1, l2, l3, l4, l5, l6, l7, l8, l9, l10] (.ref a :: st) h = jv_ev call 124 33 [l0, l1, l2, l3, l4, l5, l6, l7, l8, l9, l10] ((jv_gf h a 6 0).getD .null :: st) h := by
  obtain ⟨v, hv⟩ := Option.isSome_iff_exists.mp hs
  rw [hv]
  exact je_get D124_30 rfl (by decide) hv
theorem D124_33 : decode (jt_code 124) 33 = .ok (.lload 5, 2) := by decide +kernel
theorem E124_33 {call : jv_F} {l0 l1 l2 l3 l4 l6 l7 l8 l9 l10 : Option Value} {x : Int64} {st : List Value} {h : jv_H} : jv_ev call 124 33 [l0, l1, l2, l3, l4, some (.long x), l6, l7, l8, l9, l10] st h = jv_ev call 124 35 [l0, l1, l2, l3, l4, some (.long x), l6, l7, l8, l9, l10] (.long x :: st) h := je_lload D124_33 rfl rfl
theorem D124_35 : decode (jt_code 124) 35 = .ok (.invokevirtual 69, 3) := by decide +kernel
theorem E124_35 {call : jv_F} {l0 l1 l2 l3 l4 l5 l6 l7 l8 l9 l10 : Option Value} {b : Nat} {v0 : Value}  {st : List Value} {h : jv_H} (hw : jv_wide st = true) (hcl : jv_cl h b = some 5) (hc : (call 119 [.ref b, v0] h).isSome = true) : jv_ev call 124 35 [l0, l1, l2, l3, l4, l5, l6, l7, l8, l9, l10] (v0 :: .ref b :: st) h = jv_ev call 124 38 [l0, l1, l2, l3, l4, l5, l6, l7, l8, l9, l10] ((((call 119 [.ref b, v0] h).getD (none, h)).1).toList ++ st) ((call 119 [.ref b, v0] h).getD (none, h)).2 := by
  obtain ⟨⟨r, h'⟩, hv⟩ := Option.isSome_iff_exists.mp hc
  rw [hv]
  exact je_virt (y := 119) (as := [v0]) D124_35 rfl (by decide) (by decide) rfl hcl hw hv
theorem D124_38 : decode (jt_code 124) 38 = .ok (.aload_n 0, 1) := by decide +kernel
theorem E124_38 {call : jv_F} {l1 l2 l3 l4 l5 l6 l7 l8 l9 l10 : Option Value} {a : Nat} {st : List Value} {h : jv_H} : jv_ev call 124 38 [some (.ref a), l1, l2, l3, l4, l5, l6, l7, l8, l9, l10] st h = jv_ev call 124 39 [some (.ref a), l1, l2, l3, l4, l5, l6, l7, l8, l9, l10] (.ref a :: st) h := je_aload_n (r := some a) D124_38 rfl rfl
theorem D124_39 : decode (jt_code 124) 39 = .ok (.getfield 12, 3) := by decide +kernel
theorem E124_39 {call : jv_F} {l0 l1 l2 l3 l4 l5 l6 l7 l8 l9 l10 : Option Value} {a : Nat} {st : List Value} {h : jv_H} (hs : (jv_gf h a 6 0).isSome = true) : jv_ev call 124 39 [l0, l1, l2, l3, l4, l5, l6, l7, l8, l9, l10] (.ref a :: st) h = jv_ev call 124 42 [l0, l1, l2, l3, l4, l5, l6, l7, l8, l9, l10] ((jv_gf h a 6 0).getD .null :: st) h := by
  obtain ⟨v, hv⟩ := Option.isSome_iff_exists.mp hs
  rw [hv]
  exact je_get D124_39 rfl (by decide) hv
theorem D124_42 : decode (jt_code 124) 42 = .ok (.lload 7, 2) := by decide +kernel
theorem E124_42 {call : jv_F} {l0 l1 l2 l3 l4 l5 l6 l8 l9 l10 : Option Value} {x : Int64} {st : List Value} {h : jv_H} : jv_ev call 124 42 [l0, l1, l2, l3, l4, l5, l6, some (.long x), l8, l9, l10] st h = jv_ev call 124 44 [l0, l1, l2, l3, l4, l5, l6, some (.long x), l8, l9, l10] (.long x :: st) h := je_lload D124_42 rfl rfl
theorem D124_44 : decode (jt_code 124) 44 = .ok (.invokevirtual 69, 3) := by decide +kernel
theorem E124_44 {call : jv_F} {l0 l1 l2 l3 l4 l5 l6 l7 l8 l9 l10 : Option Value} {b : Nat} {v0 : Value}  {st : List Value} {h : jv_H} (hw : jv_wide st = true) (hcl : jv_cl h b = some 5) (hc : (call 119 [.ref b, v0] h).isSome = true) : jv_ev call 124 44 [l0, l1, l2, l3, l4, l5, l6, l7, l8, l9, l10] (v0 :: .ref b :: st) h = jv_ev call 124 47 [l0, l1, l2, l3, l4, l5, l6, l7, l8, l9, l10] ((((call 119 [.ref b, v0] h).getD (none, h)).1).toList ++ st) ((call 119 [.ref b, v0] h).getD (none, h)).2 := by
  obtain ⟨⟨r, h'⟩, hv⟩ := Option.isSome_iff_exists.mp hc
  rw [hv]
  exact je_virt (y := 119) (as := [v0]) D124_44 rfl (by decide) (by decide) rfl hcl hw hv
theorem D124_47 : decode (jt_code 124) 47 = .ok (.aload_n 0, 1) := by decide +kernel
theorem E124_47 {call : jv_F} {l1 l2 l3 l4 l5 l6 l7 l8 l9 l10 : Option Value} {a : Nat} {st : List Value} {h : jv_H} : jv_ev call 124 47 [some (.ref a), l1, l2, l3, l4, l5, l6, l7, l8, l9, l10] st h = jv_ev call 124 48 [some (.ref a), l1, l2, l3, l4, l5, l6, l7, l8, l9, l10] (.ref a :: st) h := je_aload_n (r := some a) D124_47 rfl rfl
theorem D124_48 : decode (jt_code 124) 48 = .ok (.getfield 12, 3) := by decide +kernel
theorem E124_48 {call : jv_F} {l0 l1 l2 l3 l4 l5 l6 l7 l8 l9 l10 : Option Value} {a : Nat} {st : List Value} {h : jv_H} (hs : (jv_gf h a 6 0).isSome = true) : jv_ev call 124 48 [l0, l1, l2, l3, l4, l5, l6, l7, l8, l9, l10] (.ref a :: st) h = jv_ev call 124 51 [l0, l1, l2, l3, l4, l5, l6, l7, l8, l9, l10] ((jv_gf h a 6 0).getD .null :: st) h := by
  obtain ⟨v, hv⟩ := Option.isSome_iff_exists.mp hs
  rw [hv]
  exact je_get D124_48 rfl (by decide) hv
theorem D124_51 : decode (jt_code 124) 51 = .ok (.lload 9, 2) := by decide +kernel
theorem E124_51 {call : jv_F} {l0 l1 l2 l3 l4 l5 l6 l7 l8 l10 : Option Value} {x : Int64} {st : List Value} {h : jv_H} : jv_ev call 124 51 [l0, l1, l2, l3, l4, l5, l6, l7, l8, some (.long x), l10] st h = jv_ev call 124 53 [l0, l1, l2, l3, l4, l5, l6, l7, l8, some (.long x), l10] (.long x :: st) h := je_lload D124_51 rfl rfl
theorem D124_53 : decode (jt_code 124) 53 = .ok (.invokevirtual 69, 3) := by decide +kernel
theorem E124_53 {call : jv_F} {l0 l1 l2 l3 l4 l5 l6 l7 l8 l9 l10 : Option Value} {b : Nat} {v0 : Value}  {st : List Value} {h : jv_H} (hw : jv_wide st = true) (hcl : jv_cl h b = some 5) (hc : (call 119 [.ref b, v0] h).isSome = true) : jv_ev call 124 53 [l0, l1, l2, l3, l4, l5, l6, l7, l8, l9, l10] (v0 :: .ref b :: st) h = jv_ev call 124 56 [l0, l1, l2, l3, l4, l5, l6, l7, l8, l9, l10] ((((call 119 [.ref b, v0] h).getD (none, h)).1).toList ++ st) ((call 119 [.ref b, v0] h).getD (none, h)).2 := by
  obtain ⟨⟨r, h'⟩, hv⟩ := Option.isSome_iff_exists.mp hc
  rw [hv]
  exact je_virt (y := 119) (as := [v0]) D124_53 rfl (by decide) (by decide) rfl hcl hw hv
theorem D124_56 : decode (jt_code 124) 56 = .ok (.aload_n 0, 1) := by decide +kernel
theorem E124_56 {call : jv_F} {l1 l2 l3 l4 l5 l6 l7 l8 l9 l10 : Option Value} {a : Nat} {st : List Value} {h : jv_H} : jv_ev call 124 56 [some (.ref a), l1, l2, l3, l4, l5, l6, l7, l8, l9, l10] st h = jv_ev call 124 57 [some (.ref a), l1, l2, l3, l4, l5, l6, l7, l8, l9, l10] (.ref a :: st) h := je_aload_n (r := some a) D124_56 rfl rfl
theorem D124_57 : decode (jt_code 124) 57 = .ok (.getfield 12, 3) := by decide +kernel
theorem E124_57 {call : jv_F} {l0 l1 l2 l3 l4 l5 l6 l7 l8 l9 l10 : Option Value} {a : Nat} {st : List Value} {h : jv_H} (hs : (jv_gf h a 6 0).isSome = true) : jv_ev call 124 57 [l0, l1, l2, l3, l4, l5, l6, l7, l8, l9, l10] (.ref a :: st) h = jv_ev call 124 60 [l0, l1, l2, l3, l4, l5, l6, l7, l8, l9, l10] ((jv_gf h a 6 0).getD .null :: st) h := by
  obtain ⟨v, hv⟩ := Option.isSome_iff_exists.mp hs
  rw [hv]
  exact je_get D124_57 rfl (by decide) hv
theorem D124_60 : decode (jt_code 124) 60 = .ok (.getfield 73, 3) := by decide +kernel
theorem E124_60 {call : jv_F} {l0 l1 l2 l3 l4 l5 l6 l7 l8 l9 l10 : Option Value} {a : Nat} {st : List Value} {h : jv_H} (hs : (jv_gf h a 5 2).isSome = true) : jv_ev call 124 60 [l0, l1, l2, l3, l4, l5, l6, l7, l8, l9, l10] (.ref a :: st) h = jv_ev call 124 63 [l0, l1, l2, l3, l4, l5, l6, l7, l8, l9, l10] ((jv_gf h a 5 2).getD .null :: st) h := by
  obtain ⟨v, hv⟩ := Option.isSome_iff_exists.mp hs
  rw [hv]
  exact je_get D124_60 rfl (by decide) hv
theorem D124_63 : decode (jt_code 124) 63 = .ok (.ireturn, 1) := by decide +kernel
theorem E124_63 {call : jv_F} {l0 l1 l2 l3 l4 l5 l6 l7 l8 l9 l10 : Option Value} {v : Int32} {h : jv_H} : jv_ev call 124 63 [l0, l1, l2, l3, l4, l5, l6, l7, l8, l9, l10] [.int v] h = some (some (.int v), h) := je_iret (ty := .int) D124_63 rfl rfl rfl
/-! method 125: DrumMachine.bytes -/
theorem N125 {d : Nat} {b : Nat} {a0 : Int64} {a1 : Int64} {a2 : Int64} {a3 : Int64} {a4 : Int32} {h : jv_H} : jv_run (d + 1) 125 [.ref b, .long a0, .long a1, .long a2, .long a3, .int a4] h = jv_ev (jv_run d) 125 0 [some (.ref b), some (.long a0), none, some (.long a1), none, some (.long a2), none, some (.long a3), none, some (.int a4)] [] h := jv_run_eq (Nat.le_of_ble_eq_true rfl) rfl
theorem D125_0 : decode (jt_code 125) 0 = .ok (.iload 9, 2) := by decide +kernel
theorem E125_0 {call : jv_F} {l0 l1 l2 l3 l4 l5 l6 l7 l8 : Option Value} {x : Int32} {st : List Value} {h : jv_H} : jv_ev call 125 0 [l0, l1, l2, l3, l4, l5, l6, l7, l8, some (.int x)] st h = jv_ev call 125 2 [l0, l1, l2, l3, l4, l5, l6, l7, l8, some (.int x)] (.int x :: st) h := je_iload D125_0 rfl rfl
theorem D125_2 : decode (jt_code 125) 2 = .ok (.ifCond .lt 22, 3) := by decide +kernel
theorem E125_2 {call : jv_F} {l0 l1 l2 l3 l4 l5 l6 l7 l8 l9 : Option Value} {x : Int32} {st : List Value} {h : jv_H} : jv_ev call 125 2 [l0, l1, l2, l3, l4, l5, l6, l7, l8, l9] (.int x :: st) h = if x < 0 then jv_ev call 125 24 [l0, l1, l2, l3, l4, l5, l6, l7, l8, l9] st h else jv_ev call 125 5 [l0, l1, l2, l3, l4, l5, l6, l7, l8, l9] st h := je_ifc D125_2 (by decide) rfl rfl
theorem D125_5 : decode (jt_code 125) 5 = .ok (.iload 9, 2) := by decide +kernel
theorem E125_5 {call : jv_F} {l0 l1 l2 l3 l4 l5 l6 l7 l8 : Option Value} {x : Int32} {st : List Value} {h : jv_H} : jv_ev call 125 5 [l0, l1, l2, l3, l4, l5, l6, l7, l8, some (.int x)] st h = jv_ev call 125 7 [l0, l1, l2, l3, l4, l5, l6, l7, l8, some (.int x)] (.int x :: st) h := je_iload D125_5 rfl rfl
theorem D125_7 : decode (jt_code 125) 7 = .ok (.bipush 32, 2) := by decide +kernel
theorem E125_7 {call : jv_F} {l0 l1 l2 l3 l4 l5 l6 l7 l8 l9 : Option Value}  {st : List Value} {h : jv_H} : jv_ev call 125 7 [l0, l1, l2, l3, l4, l5, l6, l7, l8, l9] st h = jv_ev call 125 9 [l0, l1, l2, l3, l4, l5, l6, l7, l8, l9] (.int (nI 32) :: st) h := je_bipush D125_7 rfl (by decide)
theorem D125_9 : decode (jt_code 125) 9 = .ok (.if_icmp .gt 15, 3) := by decide +kernel
theorem E125_9 {call : jv_F} {l0 l1 l2 l3 l4 l5 l6 l7 l8 l9 : Option Value} {x y : Int32} {st : List Value} {h : jv_H} : jv_ev call 125 9 [l0, l1, l2, l3, l4, l5, l6, l7, l8, l9] (.int y :: .int x :: st) h = if y < x then jv_ev call 125 24 [l0, l1, l2, l3, l4, l5, l6, l7, l8, l9] st h else jv_ev call 125 12 [l0, l1, l2, l3, l4, l5, l6, l7, l8, l9] st h := je_icmp D125_9 (by decide) rfl rfl
theorem D125_12 : decode (jt_code 125) 12 = .ok (.aload_n 0, 1) := by decide +kernel
theorem E125_12 {call : jv_F} {l1 l2 l3 l4 l5 l6 l7 l8 l9 : Option Value} {a : Nat} {st : List Value} {h : jv_H} : jv_ev call 125 12 [some (.ref a), l1, l2, l3, l4, l5, l6, l7, l8, l9] st h = jv_ev call 125 13 [some (.ref a), l1, l2, l3, l4, l5, l6, l7, l8, l9] (.ref a :: st) h := je_aload_n (r := some a) D125_12 rfl rfl
theorem D125_13 : decode (jt_code 125) 13 = .ok (.getfield 12, 3) := by decide +kernel
theorem E125_13 {call : jv_F} {l0 l1 l2 l3 l4 l5 l6 l7 l8 l9 : Option Value} {a : Nat} {st : List Value} {h : jv_H} (hs : (jv_gf h a 6 0).isSome = true) : jv_ev call 125 13 [l0, l1, l2, l3, l4, l5, l6, l7, l8, l9] (.ref a :: st) h = jv_ev call 125 16 [l0, l1, l2, l3, l4, l5, l6, l7, l8, l9] ((jv_gf h a 6 0).getD .null :: st) h := by
  obtain ⟨v, hv⟩ := Option.isSome_iff_exists.mp hs
  rw [hv]
  exact je_get D125_13 rfl (by decide) hv
theorem D125_16 : decode (jt_code 125) 16 = .ok (.iload 9, 2) := by decide +kernel
theorem E125_16 {call : jv_F} {l0 l1 l2 l3 l4 l5 l6 l7 l8 : Option Value} {x : Int32} {st : List Value} {h : jv_H} : jv_ev call 125 16 [l0, l1, l2, l3, l4, l5, l6, l7, l8, some (.int x)] st h = jv_ev call 125 18 [l0, l1, l2, l3, l4, l5, l6, l7, l8, some (.int x)] (.int x :: st) h := je_iload D125_16 rfl rfl
theorem D125_18 : decode (jt_code 125) 18 = .ok (.invokevirtual 76, 3) := by decide +kernel
theorem E125_18 {call : jv_F} {l0 l1 l2 l3 l4 l5 l6 l7 l8 l9 : Option Value} {b : Nat} {v0 : Value}  {st : List Value} {h : jv_H} (hw : jv_wide st = true) (hcl : jv_cl h b = some 5) (hc : (call 118 [.ref b, v0] h).isSome = true) : jv_ev call 125 18 [l0, l1, l2, l3, l4, l5, l6, l7, l8, l9] (v0 :: .ref b :: st) h = jv_ev call 125 21 [l0, l1, l2, l3, l4, l5, l6, l7, l8, l9] ((((call 118 [.ref b, v0] h).getD (none, h)).1).toList ++ st) ((call 118 [.ref b, v0] h).getD (none, h)).2 := by
  obtain ⟨⟨r, h'⟩, hv⟩ := Option.isSome_iff_exists.mp hc
  rw [hv]
  exact je_virt (y := 118) (as := [v0]) D125_18 rfl (by decide) (by decide) rfl hcl hw hv
theorem D125_21 : decode (jt_code 125) 21 = .ok (.ifCond .ne 5, 3) := by decide +kernel
theorem E125_21 {call : jv_F} {l0 l1 l2 l3 l4 l5 l6 l7 l8 l9 : Option Value} {x : Int32} {st : List Value} {h : jv_H} : jv_ev call 125 21 [l0, l1, l2, l3, l4, l5, l6, l7, l8, l9] (.int x :: st) h = if ¬ x = 0 then jv_ev call 125 26 [l0, l1, l2, l3, l4, l5, l6, l7, l8, l9] st h else jv_ev call 125 24 [l0, l1, l2, l3, l4, l5, l6, l7, l8, l9] st h := je_ifc D125_21 (by decide) rfl rfl
theorem D125_24 : decode (jt_code 125) 24 = .ok (.iconst (-1), 1) := by decide +kernel
theorem E125_24 {call : jv_F} {l0 l1 l2 l3 l4 l5 l6 l7 l8 l9 : Option Value}  {st : List Value} {h : jv_H} : jv_ev call 125 24 [l0, l1, l2, l3, l4, l5, l6, l7, l8, l9] st h = jv_ev call 125 25 [l0, l1, l2, l3, l4, l5, l6, l7, l8, l9] (.int (-1) :: st) h := je_iconst D125_24 rfl (by decide)
theorem D125_25 : decode (jt_code 125) 25 = .ok (.ireturn, 1) := by decide +kernel
theorem E125_25 {call : jv_F} {l0 l1 l2 l3 l4 l5 l6 l7 l8 l9 : Option Value} {v : Int32} {h : jv_H} : jv_ev call 125 25 [l0, l1, l2, l3, l4, l5, l6, l7, l8, l9] [.int v] h = some (some (.int v), h) := je_iret (ty := .int) D125_25 rfl rfl rfl
theorem D125_26 : decode (jt_code 125) 26 = .ok (.aload_n 0, 1) := by decide +kernel
theorem E125_26 {call : jv_F} {l1 l2 l3 l4 l5 l6 l7 l8 l9 : Option Value} {a : Nat} {st : List Value} {h : jv_H} : jv_ev call 125 26 [some (.ref a), l1, l2, l3, l4, l5, l6, l7, l8, l9] st h = jv_ev call 125 27 [some (.ref a), l1, l2, l3, l4, l5, l6, l7, l8, l9] (.ref a :: st) h := je_aload_n (r := some a) D125_26 rfl rfl
theorem D125_27 : decode (jt_code 125) 27 = .ok (.getfield 12, 3) := by decide +kernel
theorem E125_27 {call : jv_F} {l0 l1 l2 l3 l4 l5 l6 l7 l8 l9 : Option Value} {a : Nat} {st : List Value} {h : jv_H} (hs : (jv_gf h a 6 0).isSome = true) : jv_ev call 125 27 [l0, l1, l2, l3, l4, l5, l6, l7, l8, l9] (.ref a :: st) h = jv_ev call 125 30 [l0, l1, l2, l3, l4, l5, l6, l7, l8, l9] ((jv_gf h a 6 0).getD .null :: st) h := by
  obtain ⟨v, hv⟩ := Option.isSome_iff_exists.mp hs
  rw [hv]
  exact je_get D125_27 rfl (by decide) hv
theorem D125_30 : decode (jt_code 125) 30 = .ok (.lload_n 1, 1) := by decide +kernel
theorem E125_30 {call : jv_F} {l0 l2 l3 l4 l5 l6 l7 l8 l9 : Option Value} {x : Int64} {st : List Value} {h : jv_H} : jv_ev call 125 30 [l0, some (.long x), l2, l3, l4, l5, l6, l7, l8, l9] st h = jv_ev call 125 31 [l0, some (.long x), l2, l3, l4, l5, l6, l7, l8, l9] (.long x :: st) h := je_lload_n D125_30 rfl rfl
theorem D125_31 : decode (jt_code 125) 31 = .ok (.iload 9, 2) := by decide +kernel
theorem E125_31 {call : jv_F} {l0 l1 l2 l3 l4 l5 l6 l7 l8 : Option Value} {x : Int32} {st : List Value} {h : jv_H} : jv_ev call 125 31 [l0, l1, l2, l3, l4, l5, l6, l7, l8, some (.int x)] st h = jv_ev call 125 33 [l0, l1, l2, l3, l4, l5, l6, l7, l8, some (.int x)] (.int x :: st) h := je_iload D125_31 rfl rfl
theorem D125_33 : decode (jt_code 125) 33 = .ok (.invokevirtual 79, 3) := by decide +kernel
theorem E125_33 {call : jv_F} {l0 l1 l2 l3 l4 l5 l6 l7 l8 l9 : Option Value} {b : Nat} {v0 v1 : Value}  {st : List Value} {h : jv_H} (hw : jv_wide st = true) (hcl : jv_cl h b = some 5) (hc : (call 120 [.ref b, v0, v1] h).isSome = true) : jv_ev call 125 33 [l0, l1, l2, l3, l4, l5, l6, l7, l8, l9] (v1 :: v0 :: .ref b :: st) h = jv_ev call 125 36 [l0, l1, l2, l3, l4, l5, l6, l7, l8, l9] ((((call 120 [.ref b, v0, v1] h).getD (none, h)).1).toList ++ st) ((call 120 [.ref b, v0, v1] h).getD (none, h)).2 := by
  obtain ⟨⟨r, h'⟩, hv⟩ := Option.isSome_iff_exists.mp hc
  rw [hv]
  exact je_virt (y := 120) (as := [v0, v1]) D125_33 rfl (by decide) (by decide) rfl hcl hw hv
theorem D125_36 : decode (jt_code 125) 36 = .ok (.aload_n 0, 1) := by decide +kernel
theorem E125_36 {call : jv_F} {l1 l2 l3 l4 l5 l6 l7 l8 l9 : Option Value} {a : Nat} {st : List Value} {h : jv_H} : jv_ev call 125 36 [some (.ref a), l1, l2, l3, l4, l5, l6, l7, l8, l9] st h = jv_ev call 125 37 [some (.ref a), l1, l2, l3, l4, l5, l6, l7, l8, l9] (.ref a :: st) h := je_aload_n (r := some a) D125_36 rfl rfl
theorem D125_37 : decode (jt_code 125) 37 = .ok (.getfield 12, 3) := by decide +kernel
theorem E125_37 {call : jv_F} {l0 l1 l2 l3 l4 l5 l6 l7 l8 l9 : Option Value} {a : Nat} {st : List Value} {h : jv_H} (hs : (jv_gf h a 6 0).isSome = true) : jv_ev call 125 37 [l0, l1, l2, l3, l4, l5, l6, l7, l8, l9] (.ref a :: st) h = jv_ev call 125 40 [l0, l1, l2, l3, l4, l5, l6, l7, l8, l9] ((jv_gf h a 6 0).getD .null :: st) h := by
  obtain ⟨v, hv⟩ := Option.isSome_iff_exists.mp hs
  rw [hv]
  exact je_get D125_37 rfl (by decide) hv
theorem D125_40 : decode (jt_code 125) 40 = .ok (.lload_n 3, 1) := by decide +kernel
theorem E125_40 {call : jv_F} {l0 l1 l2 l4 l5 l6 l7 l8 l9 : Option Value} {x : Int64} {st : List Value} {h : jv_H} : jv_ev call 125 40 [l0, l1, l2, some (.long x), l4, l5, l6, l7, l8, l9] st h = jv_ev call 125 41 [l0, l1, l2, some (.long x), l4, l5, l6, l7, l8, l9] (.long x :: st) h := je_lload_n D125_40 rfl rfl
theorem D125_41 : decode (jt_code 125) 41 = .ok (.iload 9, 2) := by decide +kernel
theorem E125_41 {call : jv_F} {l0 l1 l2 l3 l4 l5 l6 l7 l8 : Option Value} {x : Int32} {st : List Value} {h : jv_H} : jv_ev call 125 41 [l0, l1, l2, l3, l4, l5, l6, l7, l8, some (.int x)] st h = jv_ev call 125 43 [l0, l1, l2, l3, l4, l5, l6, l7, l8, some (.int x)] (.int x :: st) h := je_iload D125_41 rfl rfl
theorem D125_43 : decode (jt_code 125) 43 = .ok (.bipush 8, 2) := by decide +kernel
theorem E125_43 {call : jv_F} {l0 l1 l2 l3 l4 l5 l6 l7 l8 l9 : Option Value}  {st : List Value} {h : jv_H} : jv_ev call 125 43 [l0, l1, l2, l3, l4, l5, l6, l7, l8, l9] st h = jv_ev call 125 45 [l0, l1, l2, l3, l4, l5, l6, l7, l8, l9] (.int (nI 8) :: st) h := je_bipush D125_43 rfl (by decide)
theorem D125_45 : decode (jt_code 125) 45 = .ok (.isub, 1) := by decide +kernel
theorem E125_45 {call : jv_F} {l0 l1 l2 l3 l4 l5 l6 l7 l8 l9 : Option Value} {x y : Int32} {st : List Value} {h : jv_H} : jv_ev call 125 45 [l0, l1, l2, l3, l4, l5, l6, l7, l8, l9] (.int y :: .int x :: st) h = jv_ev call 125 46 [l0, l1, l2, l3, l4, l5, l6, l7, l8, l9] (.int (x - y) :: st) h := je_b2 (f := fun x y => x - y) D125_45 rfl (fun _ => rfl)
theorem D125_46 : decode (jt_code 125) 46 = .ok (.invokevirtual 79, 3) := by decide +kernel
theorem E125_46 {call : jv_F} {l0 l1 l2 l3 l4 l5 l6 l7 l8 l9 : Option Value} {b : Nat} {v0 v1 : Value}  {st : List Value} {h : jv_H} (hw : jv_wide st = true) (hcl : jv_cl h b = some 5) (hc : (call 120 [.ref b, v0, v1] h).isSome = true) : jv_ev call 125 46 [l0, l1, l2, l3, l4, l5, l6, l7, l8, l9] (v1 :: v0 :: .ref b :: st) h = jv_ev call 125 49 [l0, l1, l2, l3, l4, l5, l6, l7, l8, l9] ((((call 120 [.ref b, v0, v1] h).getD (none, h)).1).toList ++ st) ((call 120 [.ref b, v0, v1] h).getD (none, h)).2 := by
  obtain ⟨⟨r, h'⟩, hv⟩ := Option.isSome_iff_exists.mp hc
  rw [hv]
  exact je_virt (y := 120) (as := [v0, v1]) D125_46 rfl (by decide) (by decide) rfl hcl hw hv
theorem D125_49 : decode (jt_code 125) 49 = .ok (.aload_n 0, 1) := by decide +kernel
theorem E125_49 {call : jv_F} {l1 l2 l3 l4 l5 l6 l7 l8 l9 : Option Value} {a : Nat} {st : List Value} {h : jv_H} : jv_ev call 125 49 [some (.ref a), l1, l2, l3, l4, l5, l6, l7, l8, l9] st h = jv_ev call 125 50 [some (.ref a), l1, l2, l3, l4, l5, l6, l7, l8, l9] (.ref a :: st) h := je_aload_n (r := some a) D125_49 rfl rfl
theorem D125_50 : decode (jt_code 125) 50 = .ok (.getfield 12, 3) := by decide +kernel
theorem E125_50 {call : jv_F} {l0 l1 l2 l3 l4 l5 l6 l7 l8 l9 : Option Value} {a : Nat} {st : List Value} {h : jv_H} (hs : (jv_gf h a 6 0).isSome = true) : jv_ev call 125 50 [l0, l1, l2, l3, l4, l5, l6, l7, l8, l9] (.ref a :: st) h = jv_ev call 125 53 [l0, l1, l2, l3, l4, l5, l6, l7, l8, l9] ((jv_gf h a 6 0).getD .null :: st) h := by
  obtain ⟨v, hv⟩ := Option.isSome_iff_exists.mp hs
  rw [hv]
  exact je_get D125_50 rfl (by decide) hv
theorem D125_53 : decode (jt_code 125) 53 = .ok (.lload 5, 2) := by decide +kernel
theorem E125_53 {call : jv_F} {l0 l1 l2 l3 l4 l6 l7 l8 l9 : Option Value} {x : Int64} {st : List Value} {h : jv_H} : jv_ev call 125 53 [l0, l1, l2, l3, l4, some (.long x), l6, l7, l8, l9] st h = jv_ev call 125 55 [l0, l1, l2, l3, l4, some (.long x), l6, l7, l8, l9] (.long x :: st) h := je_lload D125_53 rfl rfl
theorem D125_55 : decode (jt_code 125) 55 = .ok (.iload 9, 2) := by decide +kernel
theorem E125_55 {call : jv_F} {l0 l1 l2 l3 l4 l5 l6 l7 l8 : Option Value} {x : Int32} {st : List Value} {h : jv_H} : jv_ev call 125 55 [l0, l1, l2, l3, l4, l5, l6, l7, l8, some (.int x)] st h = jv_ev call 125 57 [l0, l1, l2, l3, l4, l5, l6, l7, l8, some (.int x)] (.int x :: st) h := je_iload D125_55 rfl rfl
theorem D125_57 : decode (jt_code 125) 57 = .ok (.bipush 16, 2) := by decide +kernel
theorem E125_57 {call : jv_F} {l0 l1 l2 l3 l4 l5 l6 l7 l8 l9 : Option Value}  {st : List Value} {h : jv_H} : jv_ev call 125 57 [l0, l1, l2, l3, l4, l5, l6, l7, l8, l9] st h = jv_ev call 125 59 [l0, l1, l2, l3, l4, l5, l6, l7, l8, l9] (.int (nI 16) :: st) h := je_bipush D125_57 rfl (by decide)
theorem D125_59 : decode (jt_code 125) 59 = .ok (.isub, 1) := by decide +kernel
theorem E125_59 {call : jv_F} {l0 l1 l2 l3 l4 l5 l6 l7 l8 l9 : Option Value} {x y : Int32} {st : List Value} {h : jv_H} : jv_ev call 125 59 [l0, l1, l2, l3, l4, l5, l6, l7, l8, l9] (.int y :: .int x :: st) h = jv_ev call 125 60 [l0, l1, l2, l3, l4, l5, l6, l7, l8, l9] (.int (x - y) :: st) h := je_b2 (f := fun x y => x - y) D125_59 rfl (fun _ => rfl)
theorem D125_60 : decode (jt_code 125) 60 = .ok (.invokevirtual 79, 3) := by decide +kernel
theorem E125_60 {call : jv_F} {l0 l1 l2 l3 l4 l5 l6 l7 l8 l9 : Option Value} {b : Nat} {v0 v1 : Value}  {st : List Value} {h : jv_H} (hw : jv_wide st = true) (hcl : jv_cl h b = some 5) (hc : (call 120 [.ref b, v0, v1] h).isSome = true) : jv_ev call 125 60 [l0, l1, l2, l3, l4, l5, l6, l7, l8, l9] (v1 :: v0 :: .ref b :: st) h = jv_ev call 125 63 [l0, l1, l2, l3, l4, l5, l6, l7, l8, l9] ((((call 120 [.ref b, v0, v1] h).getD (none, h)).1).toList ++ st) ((call 120 [.ref b, v0, v1] h).getD (none, h)).2 := by
  obtain ⟨⟨r, h'⟩, hv⟩ := Option.isSome_iff_exists.mp hc
  rw [hv]
  exact je_virt (y := 120) (as := [v0, v1]) D125_60 rfl (by decide) (by decide) rfl hcl hw hv
theorem D125_63 : decode (jt_code 125) 63 = .ok (.aload_n 0, 1) := by decide +kernel
theorem E125_63 {call : jv_F} {l1 l2 l3 l4 l5 l6 l7 l8 l9 : Option Value} {a : Nat} {st : List Value} {h : jv_H} : jv_ev call 125 63 [some (.ref a), l1, l2, l3, l4, l5, l6, l7, l8, l9] st h = jv_ev call 125 64 [some (.ref a), l1, l2, l3, l4, l5, l6, l7, l8, l9] (.ref a :: st) h := je_aload_n (r := some a) D125_63 rfl rfl
theorem D125_64 : decode (jt_code 125) 64 = .ok (.getfield 12, 3) := by decide +kernel
theorem E125_64 {call : jv_F} {l0 l1 l2 l3 l4 l5 l6 l7 l8 l9 : Option Value} {a : Nat} {st : List Value} {h : jv_H} (hs : (jv_gf h a 6 0).isSome = true) : jv_ev call 125 64 [l0, l1, l2, l3, l4, l5, l6, l7, l8, l9] (.ref a :: st) h = jv_ev call 125 67 [l0, l1, l2, l3, l4, l5, l6, l7, l8, l9] ((jv_gf h a 6 0).getD .null :: st) h := by
  obtain ⟨v, hv⟩ := Option.isSome_iff_exists.mp hs
  rw [hv]
  exact je_get D125_64 rfl (by decide) hv
theorem D125_67 : decode (jt_code 125) 67 = .ok (.lload 7, 2) := by decide +kernel
theorem E125_67 {call : jv_F} {l0 l1 l2 l3 l4 l5 l6 l8 l9 : Option Value} {x : Int64} {st : List Value} {h : jv_H} : jv_ev call 125 67 [l0, l1, l2, l3, l4, l5, l6, some (.long x), l8, l9] st h = jv_ev call 125 69 [l0, l1, l2, l3, l4, l5, l6, some (.long x), l8, l9] (.long x :: st) h := je_lload D125_67 rfl rfl
theorem D125_69 : decode (jt_code 125) 69 = .ok (.iload 9, 2) := by decide +kernel
theorem E125_69 {call : jv_F} {l0 l1 l2 l3 l4 l5 l6 l7 l8 : Option Value} {x : Int32} {st : List Value} {h : jv_H} : jv_ev call 125 69 [l0, l1, l2, l3, l4, l5, l6, l7, l8, some (.int x)] st h = jv_ev call 125 71 [l0, l1, l2, l3, l4, l5, l6, l7, l8, some (.int x)] (.int x :: st) h := je_iload D125_69 rfl rfl
theorem D125_71 : decode (jt_code 125) 71 = .ok (.bipush 24, 2) := by decide +kernel
theorem E125_71 {call : jv_F} {l0 l1 l2 l3 l4 l5 l6 l7 l8 l9 : Option Value}  {st : List Value} {h : jv_H} : jv_ev call 125 71 [l0, l1, l2, l3, l4, l5, l6, l7, l8, l9] st h = jv_ev call 125 73 [l0, l1, l2, l3, l4, l5, l6, l7, l8, l9] (.int (nI 24) :: st) h := je_bipush D125_71 rfl (by decide)
theorem D125_73 : decode (jt_code 125) 73 = .ok (.isub, 1) := by decide +kernel
theorem E125_73 {call : jv_F} {l0 l1 l2 l3 l4 l5 l6 l7 l8 l9 : Option Value} {x y : Int32} {st : List Value} {h : jv_H} : jv_ev call 125 73 [l0, l1, l2, l3, l4, l5, l6, l7, l8, l9] (.int y :: .int x :: st) h = jv_ev call 125 74 [l0, l1, l2, l3, l4, l5, l6, l7, l8, l9] (.int (x - y) :: st) h := je_b2 (f := fun x y => x - y) D125_73 rfl (fun _ => rfl)
theorem D125_74 : decode (jt_code 125) 74 = .ok (.invokevirtual 79, 3) := by decide +kernel
theorem E125_74 {call : jv_F} {l0 l1 l2 l3 l4 l5 l6 l7 l8 l9 : Option Value} {b : Nat} {v0 v1 : Value}  {st : List Value} {h : jv_H} (hw : jv_wide st = true) (hcl : jv_cl h b = some 5) (hc : (call 120 [.ref b, v0, v1] h).isSome = true) : jv_ev call 125 74 [l0, l1, l2, l3, l4, l5, l6, l7, l8, l9] (v1 :: v0 :: .ref b :: st) h = jv_ev call 125 77 [l0, l1, l2, l3, l4, l5, l6, l7, l8, l9] ((((call 120 [.ref b, v0, v1] h).getD (none, h)).1).toList ++ st) ((call 120 [.ref b, v0, v1] h).getD (none, h)).2 := by
  obtain ⟨⟨r, h'⟩, hv⟩ := Option.isSome_iff_exists.mp hc
  rw [hv]
  exact je_virt (y := 120) (as := [v0, v1]) D125_74 rfl (by decide) (by decide) rfl hcl hw hv
theorem D125_77 : decode (jt_code 125) 77 = .ok (.aload_n 0, 1) := by decide +kernel
theorem E125_77 {call : jv_F} {l1 l2 l3 l4 l5 l6 l7 l8 l9 : Option Value} {a : Nat} {st : List Value} {h : jv_H} : jv_ev call 125 77 [some (.ref a), l1, l2, l3, l4, l5, l6, l7, l8, l9] st h = jv_ev call 125 78 [some (.ref a), l1, l2, l3, l4, l5, l6, l7, l8, l9] (.ref a :: st) h := je_aload_n (r := some a) D125_77 rfl rfl
theorem D125_78 : decode (jt_code 125) 78 = .ok (.getfield 12, 3) := by decide +kernel
theorem E125_78 {call : jv_F} {l0 l1 l2 l3 l4 l5 l6 l7 l8 l9 : Option Value} {a : Nat} {st : List Value} {h : jv_H} (hs : (jv_gf h a 6 0).isSome = true) : jv_ev call 125 78 [l0, l1, l2, l3, l4, l5, l6, l7, l8, l9] (.ref a :: st) h = jv_ev call 125 81 [l0, l1, l2, l3, l4, l5, l6, l7, l8, l9] ((jv_gf h a 6 0).getD .null :: st) h := by
  obtain ⟨v, hv⟩ := Option.isSome_iff_exists.mp hs
  rw [hv]
  exact je_get D125_78 rfl (by decide) hv
theorem D125_81 : decode (jt_code 125) 81 = .ok (.getfield 83, 3) := by decide +kernel
theorem E125_81 {call : jv_F} {l0 l1 l2 l3 l4 l5 l6 l7 l8 l9 : Option Value} {a : Nat} {st : List Value} {h : jv_H} (hs : (jv_gf h a 5 3).isSome = true) : jv_ev call 125 81 [l0, l1, l2, l3, l4, l5, l6, l7, l8, l9] (.ref a :: st) h = jv_ev call 125 84 [l0, l1, l2, l3, l4, l5, l6, l7, l8, l9] ((jv_gf h a 5 3).getD .null :: st) h := by
  obtain ⟨v, hv⟩ := Option.isSome_iff_exists.mp hs
  rw [hv]
  exact je_get D125_81 rfl (by decide) hv
theorem D125_84 : decode (jt_code 125) 84 = .ok (.ireturn, 1) := by decide +kernel
theorem E125_84 {call : jv_F} {l0 l1 l2 l3 l4 l5 l6 l7 l8 l9 : Option Value} {v : Int32} {h : jv_H} : jv_ev call 125 84 [l0, l1, l2, l3, l4, l5, l6, l7, l8, l9] [.int v] h = some (some (.int v), h) := je_iret (ty := .int) D125_84 rfl rfl rfl
/-! method 126: DrumMachine.job -/
theorem N126 {d : Nat} {b : Nat} {a0 : Int32} {a1 : Int32} {h : jv_H} : jv_run (d + 1) 126 [.ref b, .int a0, .int a1] h = jv_ev (jv_run d) 126 0 [some (.ref b), some (.int a0), some (.int a1), none, none, none] [] h := jv_run_eq (Nat.le_of_ble_eq_true rfl) rfl
theorem D126_0 : decode (jt_code 126) 0 = .ok (.aload_n 0, 1) := by decide +kernel
theorem E126_0 {call : jv_F} {l1 l2 l3 l4 l5 : Option Value} {a : Nat} {st : List Value} {h : jv_H} : jv_ev call 126 0 [some (.ref a), l1, l2, l3, l4, l5] st h = jv_ev call 126 1 [some (.ref a), l1, l2, l3, l4, l5] (.ref a :: st) h := je_aload_n (r := some a) D126_0 rfl rfl
theorem D126_1 : decode (jt_code 126) 1 = .ok (.getfield 36, 3) := by decide +kernel
theorem E126_1 {call : jv_F} {l0 l1 l2 l3 l4 l5 : Option Value} {a : Nat} {st : List Value} {h : jv_H} (hs : (jv_gf h a 6 4).isSome = true) : jv_ev call 126 1 [l0, l1, l2, l3, l4, l5] (.ref a :: st) h = jv_ev call 126 4 [l0, l1, l2, l3, l4, l5] ((jv_gf h a 6 4).getD .null :: st) h := by
  obtain ⟨v, hv⟩ := Option.isSome_iff_exists.mp hs
  rw [hv]
  exact je_get D126_1 rfl (by decide) hv
theorem D126_4 : decode (jt_code 126) 4 = .ok (.bipush 12, 2) := by decide +kernel
theorem E126_4 {call : jv_F} {l0 l1 l2 l3 l4 l5 : Option Value}  {st : List Value} {h : jv_H} : jv_ev call 126 4 [l0, l1, l2, l3, l4, l5] st h = jv_ev call 126 6 [l0, l1, l2, l3, l4, l5] (.int (nI 12) :: st) h := je_bipush D126_4 rfl (by decide)
theorem D126_6 : decode (jt_code 126) 6 = .ok (.if_icmp .ge 31, 3) := by decide +kernel
theorem E126_6 {call : jv_F} {l0 l1 l2 l3 l4 l5 : Option Value} {x y : Int32} {st : List Value} {h : jv_H} : jv_ev call 126 6 [l0, l1, l2, l3, l4, l5] (.int y :: .int x :: st) h = if y ≤ x then jv_ev call 126 37 [l0, l1, l2, l3, l4, l5] st h else jv_ev call 126 9 [l0, l1, l2, l3, l4, l5] st h := je_icmp D126_6 (by decide) rfl rfl
theorem D126_9 : decode (jt_code 126) 9 = .ok (.iload_n 1, 1) := by decide +kernel
theorem E126_9 {call : jv_F} {l0 l2 l3 l4 l5 : Option Value} {x : Int32} {st : List Value} {h : jv_H} : jv_ev call 126 9 [l0, some (.int x), l2, l3, l4, l5] st h = jv_ev call 126 10 [l0, some (.int x), l2, l3, l4, l5] (.int x :: st) h := je_iload_n D126_9 rfl rfl
theorem D126_10 : decode (jt_code 126) 10 = .ok (.iconst 1, 1) := by decide +kernel
theorem E126_10 {call : jv_F} {l0 l1 l2 l3 l4 l5 : Option Value}  {st : List Value} {h : jv_H} : jv_ev call 126 10 [l0, l1, l2, l3, l4, l5] st h = jv_ev call 126 11 [l0, l1, l2, l3, l4, l5] (.int (nI 1) :: st) h := je_iconst D126_10 rfl (by decide)
theorem D126_11 : decode (jt_code 126) 11 = .ok (.if_icmp .lt 26, 3) := by decide +kernel
theorem E126_11 {call : jv_F} {l0 l1 l2 l3 l4 l5 : Option Value} {x y : Int32} {st : List Value} {h : jv_H} : jv_ev call 126 11 [l0, l1, l2, l3, l4, l5] (.int y :: .int x :: st) h = if x < y then jv_ev call 126 37 [l0, l1, l2, l3, l4, l5] st h else jv_ev call 126 14 [l0, l1, l2, l3, l4, l5] st h := je_icmp D126_11 (by decide) rfl rfl
theorem D126_14 : decode (jt_code 126) 14 = .ok (.iload_n 1, 1) := by decide +kernel
theorem E126_14 {call : jv_F} {l0 l2 l3 l4 l5 : Option Value} {x : Int32} {st : List Value} {h : jv_H} : jv_ev call 126 14 [l0, some (.int x), l2, l3, l4, l5] st h = jv_ev call 126 15 [l0, some (.int x), l2, l3, l4, l5] (.int x :: st) h := je_iload_n D126_14 rfl rfl
theorem D126_15 : decode (jt_code 126) 15 = .ok (.sipush 10000, 3) := by decide +kernel
theorem E126_15 {call : jv_F} {l0 l1 l2 l3 l4 l5 : Option Value}  {st : List Value} {h : jv_H} : jv_ev call 126 15 [l0, l1, l2, l3, l4, l5] st h = jv_ev call 126 18 [l0, l1, l2, l3, l4, l5] (.int (nI 10000) :: st) h := je_sipush D126_15 rfl (by decide)
theorem D126_18 : decode (jt_code 126) 18 = .ok (.if_icmp .gt 19, 3) := by decide +kernel
theorem E126_18 {call : jv_F} {l0 l1 l2 l3 l4 l5 : Option Value} {x y : Int32} {st : List Value} {h : jv_H} : jv_ev call 126 18 [l0, l1, l2, l3, l4, l5] (.int y :: .int x :: st) h = if y < x then jv_ev call 126 37 [l0, l1, l2, l3, l4, l5] st h else jv_ev call 126 21 [l0, l1, l2, l3, l4, l5] st h := je_icmp D126_18 (by decide) rfl rfl
theorem D126_21 : decode (jt_code 126) 21 = .ok (.iload_n 2, 1) := by decide +kernel
theorem E126_21 {call : jv_F} {l0 l1 l3 l4 l5 : Option Value} {x : Int32} {st : List Value} {h : jv_H} : jv_ev call 126 21 [l0, l1, some (.int x), l3, l4, l5] st h = jv_ev call 126 22 [l0, l1, some (.int x), l3, l4, l5] (.int x :: st) h := je_iload_n D126_21 rfl rfl
theorem D126_22 : decode (jt_code 126) 22 = .ok (.iconst 1, 1) := by decide +kernel
theorem E126_22 {call : jv_F} {l0 l1 l2 l3 l4 l5 : Option Value}  {st : List Value} {h : jv_H} : jv_ev call 126 22 [l0, l1, l2, l3, l4, l5] st h = jv_ev call 126 23 [l0, l1, l2, l3, l4, l5] (.int (nI 1) :: st) h := je_iconst D126_22 rfl (by decide)
theorem D126_23 : decode (jt_code 126) 23 = .ok (.if_icmp .lt 14, 3) := by decide +kernel
theorem E126_23 {call : jv_F} {l0 l1 l2 l3 l4 l5 : Option Value} {x y : Int32} {st : List Value} {h : jv_H} : jv_ev call 126 23 [l0, l1, l2, l3, l4, l5] (.int y :: .int x :: st) h = if x < y then jv_ev call 126 37 [l0, l1, l2, l3, l4, l5] st h else jv_ev call 126 26 [l0, l1, l2, l3, l4, l5] st h := je_icmp D126_23 (by decide) rfl rfl
theorem D126_26 : decode (jt_code 126) 26 = .ok (.iload_n 2, 1) := by decide +kernel
theorem E126_26 {call : jv_F} {l0 l1 l3 l4 l5 : Option Value} {x : Int32} {st : List Value} {h : jv_H} : jv_ev call 126 26 [l0, l1, some (.int x), l3, l4, l5] st h = jv_ev call 126 27 [l0, l1, some (.int x), l3, l4, l5] (.int x :: st) h := je_iload_n D126_26 rfl rfl
theorem D126_27 : decode (jt_code 126) 27 = .ok (.aload_n 0, 1) := by decide +kernel
theorem E126_27 {call : jv_F} {l1 l2 l3 l4 l5 : Option Value} {a : Nat} {st : List Value} {h : jv_H} : jv_ev call 126 27 [some (.ref a), l1, l2, l3, l4, l5] st h = jv_ev call 126 28 [some (.ref a), l1, l2, l3, l4, l5] (.ref a :: st) h := je_aload_n (r := some a) D126_27 rfl rfl
theorem D126_28 : decode (jt_code 126) 28 = .ok (.getfield 12, 3) := by decide +kernel
theorem E126_28 {call : jv_F} {l0 l1 l2 l3 l4 l5 : Option Value} {a : Nat} {st : List Value} {h : jv_H} (hs : (jv_gf h a 6 0).isSome = true) : jv_ev call 126 28 [l0, l1, l2, l3, l4, l5] (.ref a :: st) h = jv_ev call 126 31 [l0, l1, l2, l3, l4, l5] ((jv_gf h a 6 0).getD .null :: st) h := by
  obtain ⟨v, hv⟩ := Option.isSome_iff_exists.mp hs
  rw [hv]
  exact je_get D126_28 rfl (by decide) hv
theorem D126_31 : decode (jt_code 126) 31 = .ok (.getfield 73, 3) := by decide +kernel
theorem E126_31 {call : jv_F} {l0 l1 l2 l3 l4 l5 : Option Value} {a : Nat} {st : List Value} {h : jv_H} (hs : (jv_gf h a 5 2).isSome = true) : jv_ev call 126 31 [l0, l1, l2, l3, l4, l5] (.ref a :: st) h = jv_ev call 126 34 [l0, l1, l2, l3, l4, l5] ((jv_gf h a 5 2).getD .null :: st) h := by
  obtain ⟨v, hv⟩ := Option.isSome_iff_exists.mp hs
  rw [hv]
  exact je_get D126_31 rfl (by decide) hv
theorem D126_34 : decode (jt_code 126) 34 = .ok (.if_icmp .le 5, 3) := by decide +kernel
theorem E126_34 {call : jv_F} {l0 l1 l2 l3 l4 l5 : Option Value} {x y : Int32} {st : List Value} {h : jv_H} : jv_ev call 126 34 [l0, l1, l2, l3, l4, l5] (.int y :: .int x :: st) h = if x ≤ y then jv_ev call 126 39 [l0, l1, l2, l3, l4, l5] st h else jv_ev call 126 37 [l0, l1, l2, l3, l4, l5] st h := je_icmp D126_34 (by decide) rfl rfl
theorem D126_37 : decode (jt_code 126) 37 = .ok (.iconst (-1), 1) := by decide +kernel
theorem E126_37 {call : jv_F} {l0 l1 l2 l3 l4 l5 : Option Value}  {st : List Value} {h : jv_H} : jv_ev call 126 37 [l0, l1, l2, l3, l4, l5] st h = jv_ev call 126 38 [l0, l1, l2, l3, l4, l5] (.int (-1) :: st) h := je_iconst D126_37 rfl (by decide)
theorem D126_38 : decode (jt_code 126) 38 = .ok (.ireturn, 1) := by decide +kernel
theorem E126_38 {call : jv_F} {l0 l1 l2 l3 l4 l5 : Option Value} {v : Int32} {h : jv_H} : jv_ev call 126 38 [l0, l1, l2, l3, l4, l5] [.int v] h = some (some (.int v), h) := je_iret (ty := .int) D126_38 rfl rfl rfl
theorem D126_39 : decode (jt_code 126) 39 = .ok (.iload_n 2, 1) := by decide +kernel
theorem E126_39 {call : jv_F} {l0 l1 l3 l4 l5 : Option Value} {x : Int32} {st : List Value} {h : jv_H} : jv_ev call 126 39 [l0, l1, some (.int x), l3, l4, l5] st h = jv_ev call 126 40 [l0, l1, some (.int x), l3, l4, l5] (.int x :: st) h := je_iload_n D126_39 rfl rfl
theorem D126_40 : decode (jt_code 126) 40 = .ok (.bipush 16, 2) := by decide +kernel
theorem E126_40 {call : jv_F} {l0 l1 l2 l3 l4 l5 : Option Value}  {st : List Value} {h : jv_H} : jv_ev call 126 40 [l0, l1, l2, l3, l4, l5] st h = jv_ev call 126 42 [l0, l1, l2, l3, l4, l5] (.int (nI 16) :: st) h := je_bipush D126_40 rfl (by decide)
theorem D126_42 : decode (jt_code 126) 42 = .ok (.iadd, 1) := by decide +kernel
theorem E126_42 {call : jv_F} {l0 l1 l2 l3 l4 l5 : Option Value} {x y : Int32} {st : List Value} {h : jv_H} : jv_ev call 126 42 [l0, l1, l2, l3, l4, l5] (.int y :: .int x :: st) h = jv_ev call 126 43 [l0, l1, l2, l3, l4, l5] (.int (x + y) :: st) h := je_b2 (f := fun x y => x + y) D126_42 rfl (fun _ => rfl)
theorem D126_43 : decode (jt_code 126) 43 = .ok (.iconst 1, 1) := by decide +kernel
theorem E126_43 {call : jv_F} {l0 l1 l2 l3 l4 l5 : Option Value}  {st : List Value} {h : jv_H} : jv_ev call 126 43 [l0, l1, l2, l3, l4, l5] st h = jv_ev call 126 44 [l0, l1, l2, l3, l4, l5] (.int (nI 1) :: st) h := je_iconst D126_43 rfl (by decide)
theorem D126_44 : decode (jt_code 126) 44 = .ok (.isub, 1) := by decide +kernel
theorem E126_44 {call : jv_F} {l0 l1 l2 l3 l4 l5 : Option Value} {x y : Int32} {st : List Value} {h : jv_H} : jv_ev call 126 44 [l0, l1, l2, l3, l4, l5] (.int y :: .int x :: st) h = jv_ev call 126 45 [l0, l1, l2, l3, l4, l5] (.int (x - y) :: st) h := je_b2 (f := fun x y => x - y) D126_44 rfl (fun _ => rfl)
theorem D126_45 : decode (jt_code 126) 45 = .ok (.bipush 16, 2) := by decide +kernel
theorem E126_45 {call : jv_F} {l0 l1 l2 l3 l4 l5 : Option Value}  {st : List Value} {h : jv_H} : jv_ev call 126 45 [l0, l1, l2, l3, l4, l5] st h = jv_ev call 126 47 [l0, l1, l2, l3, l4, l5] (.int (nI 16) :: st) h := je_bipush D126_45 rfl (by decide)
theorem D126_47 : decode (jt_code 126) 47 = .ok (.idiv, 1) := by decide +kernel
theorem E126_47 {call : jv_F} {l0 l1 l2 l3 l4 l5 : Option Value} {x y : Int32} {st : List Value} {h : jv_H} (hy : ¬ y = 0) : jv_ev call 126 47 [l0, l1, l2, l3, l4, l5] (.int y :: .int x :: st) h = jv_ev call 126 48 [l0, l1, l2, l3, l4, l5] (.int (x / y) :: st) h := je_idiv D126_47 rfl hy
theorem D126_48 : decode (jt_code 126) 48 = .ok (.istore_n 3, 1) := by decide +kernel
theorem E126_48 {call : jv_F} {l0 l1 l2 l3 l4 l5 : Option Value} {x : Int32} {st : List Value} {h : jv_H} (hk : ¬ jv_is2 (some l2) = true) : jv_ev call 126 48 [l0, l1, l2, l3, l4, l5] (.int x :: st) h = jv_ev call 126 49 [l0, l1, l2, some (.int x), l4, l5] st h := je_istore_n D126_48 rfl (Nat.le_of_ble_eq_true rfl) (by show jv_st1 _ 3 _ = _; simp only [jv_st1, jv_kill, List.getElem?_cons_succ, List.getElem?_cons_zero, hk, if_false]; rfl)
theorem D126_49 : decode (jt_code 126) 49 = .ok (.aload_n 0, 1) := by decide +kernel
theorem E126_49 {call : jv_F} {l1 l2 l3 l4 l5 : Option Value} {a : Nat} {st : List Value} {h : jv_H} : jv_ev call 126 49 [some (.ref a), l1, l2, l3, l4, l5] st h = jv_ev call 126 50 [some (.ref a), l1, l2, l3, l4, l5] (.ref a :: st) h := je_aload_n (r := some a) D126_49 rfl rfl
theorem D126_50 : decode (jt_code 126) 50 = .ok (.getfield 43, 3) := by decide +kernel
theorem E126_50 {call : jv_F} {l0 l1 l2 l3 l4 l5 : Option Value} {a : Nat} {st : List Value} {h : jv_H} (hs : (jv_gf h a 6 6).isSome = true) : jv_ev call 126 50 [l0, l1, l2, l3, l4, l5] (.ref a :: st) h = jv_ev call 126 53 [l0, l1, l2, l3, l4, l5] ((jv_gf h a 6 6).getD .null :: st) h := by
  obtain ⟨v, hv⟩ := Option.isSome_iff_exists.mp hs
  rw [hv]
  exact je_get D126_50 rfl (by decide) hv
theorem D126_53 : decode (jt_code 126) 53 = .ok (.iload_n 3, 1) := by decide +kernel
theorem E126_53 {call : jv_F} {l0 l1 l2 l4 l5 : Option Value} {x : Int32} {st : List Value} {h : jv_H} : jv_ev call 126 53 [l0, l1, l2, some (.int x), l4, l5] st h = jv_ev call 126 54 [l0, l1, l2, some (.int x), l4, l5] (.int x :: st) h := je_iload_n D126_53 rfl rfl
theorem D126_54 : decode (jt_code 126) 54 = .ok (.iadd, 1) := by decide +kernel
theorem E126_54 {call : jv_F} {l0 l1 l2 l3 l4 l5 : Option Value} {x y : Int32} {st : List Value} {h : jv_H} : jv_ev call 126 54 [l0, l1, l2, l3, l4, l5] (.int y :: .int x :: st) h = jv_ev call 126 55 [l0, l1, l2, l3, l4, l5] (.int (x + y) :: st) h := je_b2 (f := fun x y => x + y) D126_54 rfl (fun _ => rfl)
theorem D126_55 : decode (jt_code 126) 55 = .ok (.bipush 64, 2) := by decide +kernel
theorem E126_55 {call : jv_F} {l0 l1 l2 l3 l4 l5 : Option Value}  {st : List Value} {h : jv_H} : jv_ev call 126 55 [l0, l1, l2, l3, l4, l5] st h = jv_ev call 126 57 [l0, l1, l2, l3, l4, l5] (.int (nI 64) :: st) h := je_bipush D126_55 rfl (by decide)
theorem D126_57 : decode (jt_code 126) 57 = .ok (.if_icmp .le 5, 3) := by decide +kernel
theorem E126_57 {call : jv_F} {l0 l1 l2 l3 l4 l5 : Option Value} {x y : Int32} {st : List Value} {h : jv_H} : jv_ev call 126 57 [l0, l1, l2, l3, l4, l5] (.int y :: .int x :: st) h = if x ≤ y then jv_ev call 126 62 [l0, l1, l2, l3, l4, l5] st h else jv_ev call 126 60 [l0, l1, l2, l3, l4, l5] st h := je_icmp D126_57 (by decide) rfl rfl
theorem D126_60 : decode (jt_code 126) 60 = .ok (.iconst (-1), 1) := by decide +kernel
theorem E126_60 {call : jv_F} {l0 l1 l2 l3 l4 l5 : Option Value}  {st : List Value} {h : jv_H} : jv_ev call 126 60 [l0, l1, l2, l3, l4, l5] st h = jv_ev call 126 61 [l0, l1, l2, l3, l4, l5] (.int (-1) :: st) h := je_iconst D126_60 rfl (by decide)
theorem D126_61 : decode (jt_code 126) 61 = .ok (.ireturn, 1) := by decide +kernel
theorem E126_61 {call : jv_F} {l0 l1 l2 l3 l4 l5 : Option Value} {v : Int32} {h : jv_H} : jv_ev call 126 61 [l0, l1, l2, l3, l4, l5] [.int v] h = some (some (.int v), h) := je_iret (ty := .int) D126_61 rfl rfl rfl
theorem D126_62 : decode (jt_code 126) 62 = .ok (.new 30, 3) := by decide +kernel
theorem E126_62 {call : jv_F} {l0 l1 l2 l3 l4 l5 : Option Value}  {st : List Value} {h : jv_H} : jv_ev call 126 62 [l0, l1, l2, l3, l4, l5] st h = jv_ev call 126 65 [l0, l1, l2, l3, l4, l5] (.ref h.2.1 :: st) (jv_new h 4) := je_new D126_62 rfl (by decide) (by decide)
theorem D126_65 : decode (jt_code 126) 65 = .ok (.dup, 1) := by decide +kernel
theorem E126_65 {call : jv_F} {l0 l1 l2 l3 l4 l5 : Option Value} {a : Nat} {st : List Value} {h : jv_H} : jv_ev call 126 65 [l0, l1, l2, l3, l4, l5] (.ref a :: st) h = jv_ev call 126 66 [l0, l1, l2, l3, l4, l5] (.ref a :: .ref a :: st) h := je_dup D126_65 rfl rfl
theorem E126_65i {call : jv_F} {l0 l1 l2 l3 l4 l5 : Option Value} {x : Int32} {st : List Value} {h : jv_H} : jv_ev call 126 65 [l0, l1, l2, l3, l4, l5] (.int x :: st) h = jv_ev call 126 66 [l0, l1, l2, l3, l4, l5] (.int x :: .int x :: st) h := je_dup D126_65 rfl rfl
theorem D126_66 : decode (jt_code 126) 66 = .ok (.aload_n 0, 1) := by decide +kernel
theorem E126_66 {call : jv_F} {l1 l2 l3 l4 l5 : Option Value} {a : Nat} {st : List Value} {h : jv_H} : jv_ev call 126 66 [some (.ref a), l1, l2, l3, l4, l5] st h = jv_ev call 126 67 [some (.ref a), l1, l2, l3, l4, l5] (.ref a :: st) h := je_aload_n (r := some a) D126_66 rfl rfl
theorem D126_67 : decode (jt_code 126) 67 = .ok (.getfield 36, 3) := by decide +kernel
theorem E126_67 {call : jv_F} {l0 l1 l2 l3 l4 l5 : Option Value} {a : Nat} {st : List Value} {h : jv_H} (hs : (jv_gf h a 6 4).isSome = true) : jv_ev call 126 67 [l0, l1, l2, l3, l4, l5] (.ref a :: st) h = jv_ev call 126 70 [l0, l1, l2, l3, l4, l5] ((jv_gf h a 6 4).getD .null :: st) h := by
  obtain ⟨v, hv⟩ := Option.isSome_iff_exists.mp hs
  rw [hv]
  exact je_get D126_67 rfl (by decide) hv
theorem D126_70 : decode (jt_code 126) 70 = .ok (.iload_n 1, 1) := by decide +kernel
theorem E126_70 {call : jv_F} {l0 l2 l3 l4 l5 : Option Value} {x : Int32} {st : List Value} {h : jv_H} : jv_ev call 126 70 [l0, some (.int x), l2, l3, l4, l5] st h = jv_ev call 126 71 [l0, some (.int x), l2, l3, l4, l5] (.int x :: st) h := je_iload_n D126_70 rfl rfl
theorem D126_71 : decode (jt_code 126) 71 = .ok (.aload_n 0, 1) := by decide +kernel
theorem E126_71 {call : jv_F} {l1 l2 l3 l4 l5 : Option Value} {a : Nat} {st : List Value} {h : jv_H} : jv_ev call 126 71 [some (.ref a), l1, l2, l3, l4, l5] st h = jv_ev call 126 72 [some (.ref a), l1, l2, l3, l4, l5] (.ref a :: st) h := je_aload_n (r := some a) D126_71 rfl rfl
theorem D126_72 : decode (jt_code 126) 72 = .ok (.getfield 12, 3) := by decide +kernel
theorem E126_72 {call : jv_F} {l0 l1 l2 l3 l4 l5 : Option Value} {a : Nat} {st : List Value} {h : jv_H} (hs : (jv_gf h a 6 0).isSome = true) : jv_ev call 126 72 [l0, l1, l2, l3, l4, l5] (.ref a :: st) h = jv_ev call 126 75 [l0, l1, l2, l3, l4, l5] ((jv_gf h a 6 0).getD .null :: st) h := by
  obtain ⟨v, hv⟩ := Option.isSome_iff_exists.mp hs
  rw [hv]
  exact je_get D126_72 rfl (by decide) hv
theorem D126_75 : decode (jt_code 126) 75 = .ok (.iload_n 2, 1) := by decide +kernel
theorem E126_75 {call : jv_F} {l0 l1 l3 l4 l5 : Option Value} {x : Int32} {st : List Value} {h : jv_H} : jv_ev call 126 75 [l0, l1, some (.int x), l3, l4, l5] st h = jv_ev call 126 76 [l0, l1, some (.int x), l3, l4, l5] (.int x :: st) h := je_iload_n D126_75 rfl rfl
theorem D126_76 : decode (jt_code 126) 76 = .ok (.invokespecial 86, 3) := by decide +kernel
theorem E126_76 {call : jv_F} {l0 l1 l2 l3 l4 l5 : Option Value} {b : Nat} {v0 v1 v2 v3 : Value}  {st : List Value} {h : jv_H} (hw : jv_wide st = true) (hc : (call 88 [.ref b, v0, v1, v2, v3] h).isSome = true) : jv_ev call 126 76 [l0, l1, l2, l3, l4, l5] (v3 :: v2 :: v1 :: v0 :: .ref b :: st) h = jv_ev call 126 79 [l0, l1, l2, l3, l4, l5] ((((call 88 [.ref b, v0, v1, v2, v3] h).getD (none, h)).1).toList ++ st) ((call 88 [.ref b, v0, v1, v2, v3] h).getD (none, h)).2 := by
  obtain ⟨⟨r, h'⟩, hv⟩ := Option.isSome_iff_exists.mp hc
  rw [hv]
  exact je_spec (y := 88) (as := [v0, v1, v2, v3]) D126_76 rfl (by decide) (by decide) (by decide) rfl hw hv
theorem D126_79 : decode (jt_code 126) 79 = .ok (.astore 4, 2) := by decide +kernel
theorem E126_79 {call : jv_F} {l0 l1 l2 l3 l4 l5 : Option Value} {a : Nat} {st : List Value} {h : jv_H} (hk : ¬ jv_is2 (some l3) = true) : jv_ev call 126 79 [l0, l1, l2, l3, l4, l5] (.ref a :: st) h = jv_ev call 126 81 [l0, l1, l2, l3, some (.ref a), l5] st h := je_astore (r := some a) D126_79 rfl (Nat.le_of_ble_eq_true rfl) (by show jv_st1 _ 4 _ = _; simp only [jv_st1, jv_kill, List.getElem?_cons_succ, List.getElem?_cons_zero, hk, if_false]; rfl)
theorem E126_79r {call : jv_F} {l0 l1 l2 l3 l4 l5 : Option Value} {r : Option Nat} {st : List Value} {h : jv_H} (hk : ¬ jv_is2 (some l3) = true) : jv_ev call 126 79 [l0, l1, l2, l3, l4, l5] (va_rf r :: st) h = jv_ev call 126 81 [l0, l1, l2, l3, some (va_rf r), l5] st h := je_astore (r := r) D126_79 rfl (Nat.le_of_ble_eq_true rfl) (by show jv_st1 _ 4 _ = _; simp only [jv_st1, jv_kill, List.getElem?_cons_succ, List.getElem?_cons_zero, hk, if_false]; rfl)
theorem D126_81 : decode (jt_code 126) 81 = .ok (.aload_n 0, 1) := by decide +kernel
theorem E126_81 {call : jv_F} {l1 l2 l3 l4 l5 : Option Value} {a : Nat} {st : List Value} {h : jv_H} : jv_ev call 126 81 [some (.ref a), l1, l2, l3, l4, l5] st h = jv_ev call 126 82 [some (.ref a), l1, l2, l3, l4, l5] (.ref a :: st) h := je_aload_n (r := some a) D126_81 rfl rfl
theorem D126_82 : decode (jt_code 126) 82 = .ok (.getfield 12, 3) := by decide +kernel
theorem E126_82 {call : jv_F} {l0 l1 l2 l3 l4 l5 : Option Value} {a : Nat} {st : List Value} {h : jv_H} (hs : (jv_gf h a 6 0).isSome = true) : jv_ev call 126 82 [l0, l1, l2, l3, l4, l5] (.ref a :: st) h = jv_ev call 126 85 [l0, l1, l2, l3, l4, l5] ((jv_gf h a 6 0).getD .null :: st) h := by
  obtain ⟨v, hv⟩ := Option.isSome_iff_exists.mp hs
  rw [hv]
  exact je_get D126_82 rfl (by decide) hv
theorem D126_85 : decode (jt_code 126) 85 = .ok (.invokevirtual 89, 3) := by decide +kernel
theorem E126_85 {call : jv_F} {l0 l1 l2 l3 l4 l5 : Option Value} {b : Nat}  {st : List Value} {h : jv_H} (hw : jv_wide st = true) (hcl : jv_cl h b = some 5) (hc : (call 121 [.ref b] h).isSome = true) : jv_ev call 126 85 [l0, l1, l2, l3, l4, l5] (.ref b :: st) h = jv_ev call 126 88 [l0, l1, l2, l3, l4, l5] ((((call 121 [.ref b] h).getD (none, h)).1).toList ++ st) ((call 121 [.ref b] h).getD (none, h)).2 := by
  obtain ⟨⟨r, h'⟩, hv⟩ := Option.isSome_iff_exists.mp hc
  rw [hv]
  exact je_virt (y := 121) (as := []) D126_85 rfl (by decide) (by decide) rfl hcl hw hv
theorem D126_88 : decode (jt_code 126) 88 = .ok (.iconst 0, 1) := by decide +kernel
theorem E126_88 {call : jv_F} {l0 l1 l2 l3 l4 l5 : Option Value}  {st : List Value} {h : jv_H} : jv_ev call 126 88 [l0, l1, l2, l3, l4, l5] st h = jv_ev call 126 89 [l0, l1, l2, l3, l4, l5] (.int (nI 0) :: st) h := je_iconst D126_88 rfl (by decide)
theorem D126_89 : decode (jt_code 126) 89 = .ok (.istore 5, 2) := by decide +kernel
theorem E126_89 {call : jv_F} {l0 l1 l2 l3 l4 l5 : Option Value} {x : Int32} {st : List Value} {h : jv_H} (hk : ¬ jv_is2 (some l4) = true) : jv_ev call 126 89 [l0, l1, l2, l3, l4, l5] (.int x :: st) h = jv_ev call 126 91 [l0, l1, l2, l3, l4, some (.int x)] st h := je_istore D126_89 rfl (Nat.le_of_ble_eq_true rfl) (by show jv_st1 _ 5 _ = _; simp only [jv_st1, jv_kill, List.getElem?_cons_succ, List.getElem?_cons_zero, hk, if_false]; rfl)
theorem D126_91 : decode (jt_code 126) 91 = .ok (.iload 5, 2) := by decide +kernel
theorem E126_91 {call : jv_F} {l0 l1 l2 l3 l4 : Option Value} {x : Int32} {st : List Value} {h : jv_H} : jv_ev call 126 91 [l0, l1, l2, l3, l4, some (.int x)] st h = jv_ev call 126 93 [l0, l1, l2, l3, l4, some (.int x)] (.int x :: st) h := je_iload D126_91 rfl rfl
theorem D126_93 : decode (jt_code 126) 93 = .ok (.iload_n 3, 1) := by decide +kernel
theorem E126_93 {call : jv_F} {l0 l1 l2 l4 l5 : Option Value} {x : Int32} {st : List Value} {h : jv_H} : jv_ev call 126 93 [l0, l1, l2, some (.int x), l4, l5] st h = jv_ev call 126 94 [l0, l1, l2, some (.int x), l4, l5] (.int x :: st) h := je_iload_n D126_93 rfl rfl
theorem D126_94 : decode (jt_code 126) 94 = .ok (.if_icmp .ge 24, 3) := by decide +kernel
theorem E126_94 {call : jv_F} {l0 l1 l2 l3 l4 l5 : Option Value} {x y : Int32} {st : List Value} {h : jv_H} : jv_ev call 126 94 [l0, l1, l2, l3, l4, l5] (.int y :: .int x :: st) h = if y ≤ x then jv_ev call 126 118 [l0, l1, l2, l3, l4, l5] st h else jv_ev call 126 97 [l0, l1, l2, l3, l4, l5] st h := je_icmp D126_94 (by decide) rfl rfl
theorem D126_97 : decode (jt_code 126) 97 = .ok (.aload_n 0, 1) := by decide +kernel
theorem E126_97 {call : jv_F} {l1 l2 l3 l4 l5 : Option Value} {a : Nat} {st : List Value} {h : jv_H} : jv_ev call 126 97 [some (.ref a), l1, l2, l3, l4, l5] st h = jv_ev call 126 98 [some (.ref a), l1, l2, l3, l4, l5] (.ref a :: st) h := je_aload_n (r := some a) D126_97 rfl rfl
theorem D126_98 : decode (jt_code 126) 98 = .ok (.getfield 26, 3) := by decide +kernel
theorem E126_98 {call : jv_F} {l0 l1 l2 l3 l4 l5 : Option Value} {a : Nat} {st : List Value} {h : jv_H} (hs : (jv_gf h a 6 2).isSome = true) : jv_ev call 126 98 [l0, l1, l2, l3, l4, l5] (.ref a :: st) h = jv_ev call 126 101 [l0, l1, l2, l3, l4, l5] ((jv_gf h a 6 2).getD .null :: st) h := by
  obtain ⟨v, hv⟩ := Option.isSome_iff_exists.mp hs
  rw [hv]
  exact je_get D126_98 rfl (by decide) hv
theorem D126_101 : decode (jt_code 126) 101 = .ok (.aload_n 0, 1) := by decide +kernel
theorem E126_101 {call : jv_F} {l1 l2 l3 l4 l5 : Option Value} {a : Nat} {st : List Value} {h : jv_H} : jv_ev call 126 101 [some (.ref a), l1, l2, l3, l4, l5] st h = jv_ev call 126 102 [some (.ref a), l1, l2, l3, l4, l5] (.ref a :: st) h := je_aload_n (r := some a) D126_101 rfl rfl
theorem D126_102 : decode (jt_code 126) 102 = .ok (.aload 4, 2) := by decide +kernel
theorem E126_102 {call : jv_F} {l0 l1 l2 l3 l5 : Option Value} {a : Nat} {st : List Value} {h : jv_H} : jv_ev call 126 102 [l0, l1, l2, l3, some (.ref a), l5] st h = jv_ev call 126 104 [l0, l1, l2, l3, some (.ref a), l5] (.ref a :: st) h := je_aload (r := some a) D126_102 rfl rfl
theorem E126_102r {call : jv_F} {l0 l1 l2 l3 l5 : Option Value} {r : Option Nat} {st : List Value} {h : jv_H} : jv_ev call 126 102 [l0, l1, l2, l3, some (va_rf r), l5] st h = jv_ev call 126 104 [l0, l1, l2, l3, some (va_rf r), l5] (va_rf r :: st) h := je_aload (r := r) D126_102 rfl rfl
theorem D126_104 : decode (jt_code 126) 104 = .ok (.iload 5, 2) := by decide +kernel
theorem E126_104 {call : jv_F} {l0 l1 l2 l3 l4 : Option Value} {x : Int32} {st : List Value} {h : jv_H} : jv_ev call 126 104 [l0, l1, l2, l3, l4, some (.int x)] st h = jv_ev call 126 106 [l0, l1, l2, l3, l4, some (.int x)] (.int x :: st) h := je_iload D126_104 rfl rfl
theorem D126_106 : decode (jt_code 126) 106 = .ok (.invokevirtual 92, 3) := by decide +kernel
theorem E126_106 {call : jv_F} {l0 l1 l2 l3 l4 l5 : Option Value} {b : Nat} {v0 v1 : Value}  {st : List Value} {h : jv_H} (hw : jv_wide st = true) (hcl : jv_cl h b = some 6) (hc : (call 150 [.ref b, v0, v1] h).isSome = true) : jv_ev call 126 106 [l0, l1, l2, l3, l4, l5] (v1 :: v0 :: .ref b :: st) h = jv_ev call 126 109 [l0, l1, l2, l3, l4, l5] ((((call 150 [.ref b, v0, v1] h).getD (none, h)).1).toList ++ st) ((call 150 [.ref b, v0, v1] h).getD (none, h)).2 := by
  obtain ⟨⟨r, h'⟩, hv⟩ := Option.isSome_iff_exists.mp hc
  rw [hv]
  exact je_virt (y := 150) (as := [v0, v1]) D126_106 rfl (by decide) (by decide) rfl hcl hw hv
theorem D126_109 : decode (jt_code 126) 109 = .ok (.invokevirtual 96, 3) := by decide +kernel
theorem E126_109 {call : jv_F} {l0 l1 l2 l3 l4 l5 : Option Value} {b : Nat} {v0 : Value}  {st : List Value} {h : jv_H} (hw : jv_wide st = true) (hcl : jv_cl h b = some 3) (hc : (call 78 [.ref b, v0] h).isSome = true) : jv_ev call 126 109 [l0, l1, l2, l3, l4, l5] (v0 :: .ref b :: st) h = jv_ev call 126 112 [l0, l1, l2, l3, l4, l5] ((((call 78 [.ref b, v0] h).getD (none, h)).1).toList ++ st) ((call 78 [.ref b, v0] h).getD (none, h)).2 := by
  obtain ⟨⟨r, h'⟩, hv⟩ := Option.isSome_iff_exists.mp hc
  rw [hv]
  exact je_virt (y := 78) (as := [v0]) D126_109 rfl (by decide) (by decide) rfl hcl hw hv
theorem D126_112 : decode (jt_code 126) 112 = .ok (.iinc 5 1, 3) := by decide +kernel
theorem E126_112 {call : jv_F} {l0 l1 l2 l3 l4 : Option Value} {x : Int32} {st : List Value} {h : jv_H} (hk : ¬ jv_is2 (some l4) = true) : jv_ev call 126 112 [l0, l1, l2, l3, l4, some (.int x)] st h = jv_ev call 126 115 [l0, l1, l2, l3, l4, some (.int (x + (nI 1)))] st h := je_iinc D126_112 rfl rfl (v := x + (nI 1)) (by rfl) (by show jv_st1 _ 5 _ = _; simp only [jv_st1, jv_kill, List.getElem?_cons_succ, List.getElem?_cons_zero, hk, if_false]; rfl)
theorem D126_115 : decode (jt_code 126) 115 = .ok (.goto (-24), 3) := by decide +kernel
theorem E126_115 {call : jv_F} {l0 l1 l2 l3 l4 l5 : Option Value}  {st : List Value} {h : jv_H} : jv_ev call 126 115 [l0, l1, l2, l3, l4, l5] st h = jv_ev call 126 91 [l0, l1, l2, l3, l4, l5] st h := je_goto D126_115 (by decide)
theorem D126_118 : decode (jt_code 126) 118 = .ok (.aload_n 0, 1) := by decide +kernel
theorem E126_118 {call : jv_F} {l1 l2 l3 l4 l5 : Option Value} {a : Nat} {st : List Value} {h : jv_H} : jv_ev call 126 118 [some (.ref a), l1, l2, l3, l4, l5] st h = jv_ev call 126 119 [some (.ref a), l1, l2, l3, l4, l5] (.ref a :: st) h := je_aload_n (r := some a) D126_118 rfl rfl
theorem D126_119 : decode (jt_code 126) 119 = .ok (.getfield 32, 3) := by decide +kernel
theorem E126_119 {call : jv_F} {l0 l1 l2 l3 l4 l5 : Option Value} {a : Nat} {st : List Value} {h : jv_H} (hs : (jv_gf h a 6 3).isSome = true) : jv_ev call 126 119 [l0, l1, l2, l3, l4, l5] (.ref a :: st) h = jv_ev call 126 122 [l0, l1, l2, l3, l4, l5] ((jv_gf h a 6 3).getD .null :: st) h := by
  obtain ⟨v, hv⟩ := Option.isSome_iff_exists.mp hs
  rw [hv]
  exact je_get D126_119 rfl (by decide) hv
theorem D126_122 : decode (jt_code 126) 122 = .ok (.aload_n 0, 1) := by decide +kernel
theorem E126_122 {call : jv_F} {l1 l2 l3 l4 l5 : Option Value} {a : Nat} {st : List Value} {h : jv_H} : jv_ev call 126 122 [some (.ref a), l1, l2, l3, l4, l5] st h = jv_ev call 126 123 [some (.ref a), l1, l2, l3, l4, l5] (.ref a :: st) h := je_aload_n (r := some a) D126_122 rfl rfl
theorem D126_123 : decode (jt_code 126) 123 = .ok (.getfield 36, 3) := by decide +kernel
theorem E126_123 {call : jv_F} {l0 l1 l2 l3 l4 l5 : Option Value} {a : Nat} {st : List Value} {h : jv_H} (hs : (jv_gf h a 6 4).isSome = true) : jv_ev call 126 123 [l0, l1, l2, l3, l4, l5] (.ref a :: st) h = jv_ev call 126 126 [l0, l1, l2, l3, l4, l5] ((jv_gf h a 6 4).getD .null :: st) h := by
  obtain ⟨v, hv⟩ := Option.isSome_iff_exists.mp hs
  rw [hv]
  exact je_get D126_123 rfl (by decide) hv
theorem D126_126 : decode (jt_code 126) 126 = .ok (.aload 4, 2) := by decide +kernel
theorem E126_126 {call : jv_F} {l0 l1 l2 l3 l5 : Option Value} {a : Nat} {st : List Value} {h : jv_H} : jv_ev call 126 126 [l0, l1, l2, l3, some (.ref a), l5] st h = jv_ev call 126 128 [l0, l1, l2, l3, some (.ref a), l5] (.ref a :: st) h := je_aload (r := some a) D126_126 rfl rfl
theorem E126_126r {call : jv_F} {l0 l1 l2 l3 l5 : Option Value} {r : Option Nat} {st : List Value} {h : jv_H} : jv_ev call 126 126 [l0, l1, l2, l3, some (va_rf r), l5] st h = jv_ev call 126 128 [l0, l1, l2, l3, some (va_rf r), l5] (va_rf r :: st) h := je_aload (r := r) D126_126 rfl rfl
theorem D126_128 : decode (jt_code 126) 128 = .ok (.aastore, 1) := by decide +kernel
theorem E126_128 {call : jv_F} {l0 l1 l2 l3 l4 l5 : Option Value} {a : Nat} {j : Int32} {C : String} {v : Value} {st : List Value} {h : jv_H} (hC : jv_kn h a = some C) (hA : jv_isA h C v = true) (hs : (jv_as h a (.object C) j v).isSome = true) : jv_ev call 126 128 [l0, l1, l2, l3, l4, l5] (v :: .int j :: .ref a :: st) h = jv_ev call 126 129 [l0, l1, l2, l3, l4, l5] st ((jv_as h a (.object C) j v).getD h) := by
  obtain ⟨h', hv⟩ := Option.isSome_iff_exists.mp hs
  rw [hv]
  exact je_aast D126_128 rfl hC hA hv
theorem D126_129 : decode (jt_code 126) 129 = .ok (.aload_n 0, 1) := by decide +kernel
theorem E126_129 {call : jv_F} {l1 l2 l3 l4 l5 : Option Value} {a : Nat} {st : List Value} {h : jv_H} : jv_ev call 126 129 [some (.ref a), l1, l2, l3, l4, l5] st h = jv_ev call 126 130 [some (.ref a), l1, l2, l3, l4, l5] (.ref a :: st) h := je_aload_n (r := some a) D126_129 rfl rfl
theorem D126_130 : decode (jt_code 126) 130 = .ok (.dup, 1) := by decide +kernel
theorem E126_130 {call : jv_F} {l0 l1 l2 l3 l4 l5 : Option Value} {a : Nat} {st : List Value} {h : jv_H} : jv_ev call 126 130 [l0, l1, l2, l3, l4, l5] (.ref a :: st) h = jv_ev call 126 131 [l0, l1, l2, l3, l4, l5] (.ref a :: .ref a :: st) h := je_dup D126_130 rfl rfl
theorem E126_130i {call : jv_F} {l0 l1 l2 l3 l4 l5 : Option Value} {x : Int32} {st : List Value} {h : jv_H} : jv_ev call 126 130 [l0, l1, l2, l3, l4, l5] (.int x :: st) h = jv_ev call 126 131 [l0, l1, l2, l3, l4, l5] (.int x :: .int x :: st) h := je_dup D126_130 rfl rfl
theorem D126_131 : decode (jt_code 126) 131 = .ok (.getfield 36, 3) := by decide +kernel
theorem E126_131 {call : jv_F} {l0 l1 l2 l3 l4 l5 : Option Value} {a : Nat} {st : List Value} {h : jv_H} (hs : (jv_gf h a 6 4).isSome = true) : jv_ev call 126 131 [l0, l1, l2, l3, l4, l5] (.ref a :: st) h = jv_ev call 126 134 [l0, l1, l2, l3, l4, l5] ((jv_gf h a 6 4).getD .null :: st) h := by
  obtain ⟨v, hv⟩ := Option.isSome_iff_exists.mp hs
  rw [hv]
  exact je_get D126_131 rfl (by decide) hv
theorem D126_134 : decode (jt_code 126) 134 = .ok (.iconst 1, 1) := by decide +kernel
theorem E126_134 {call : jv_F} {l0 l1 l2 l3 l4 l5 : Option Value}  {st : List Value} {h : jv_H} : jv_ev call 126 134 [l0, l1, l2, l3, l4, l5] st h = jv_ev call 126 135 [l0, l1, l2, l3, l4, l5] (.int (nI 1) :: st) h := je_iconst D126_134 rfl (by decide)
theorem D126_135 : decode (jt_code 126) 135 = .ok (.iadd, 1) := by decide +kernel
theorem E126_135 {call : jv_F} {l0 l1 l2 l3 l4 l5 : Option Value} {x y : Int32} {st : List Value} {h : jv_H} : jv_ev call 126 135 [l0, l1, l2, l3, l4, l5] (.int y :: .int x :: st) h = jv_ev call 126 136 [l0, l1, l2, l3, l4, l5] (.int (x + y) :: st) h := je_b2 (f := fun x y => x + y) D126_135 rfl (fun _ => rfl)
theorem D126_136 : decode (jt_code 126) 136 = .ok (.putfield 36, 3) := by decide +kernel
theorem E126_136 {call : jv_F} {l0 l1 l2 l3 l4 l5 : Option Value} {a : Nat} {v : Value} {st : List Value} {h : jv_H} (hs : (jv_pf h a 6 4 v).isSome = true) : jv_ev call 126 136 [l0, l1, l2, l3, l4, l5] (v :: .ref a :: st) h = jv_ev call 126 139 [l0, l1, l2, l3, l4, l5] st ((jv_pf h a 6 4 v).getD h) := by
  obtain ⟨h', hv⟩ := Option.isSome_iff_exists.mp hs
  rw [hv]
  exact je_put D126_136 rfl (by decide) (by decide) hv
theorem D126_139 : decode (jt_code 126) 139 = .ok (.aload_n 0, 1) := by decide +kernel
theorem E126_139 {call : jv_F} {l1 l2 l3 l4 l5 : Option Value} {a : Nat} {st : List Value} {h : jv_H} : jv_ev call 126 139 [some (.ref a), l1, l2, l3, l4, l5] st h = jv_ev call 126 140 [some (.ref a), l1, l2, l3, l4, l5] (.ref a :: st) h := je_aload_n (r := some a) D126_139 rfl rfl
theorem D126_140 : decode (jt_code 126) 140 = .ok (.dup, 1) := by decide +kernel
theorem E126_140 {call : jv_F} {l0 l1 l2 l3 l4 l5 : Option Value} {a : Nat} {st : List Value} {h : jv_H} : jv_ev call 126 140 [l0, l1, l2, l3, l4, l5] (.ref a :: st) h = jv_ev call 126 141 [l0, l1, l2, l3, l4, l5] (.ref a :: .ref a :: st) h := je_dup D126_140 rfl rfl
theorem E126_140i {call : jv_F} {l0 l1 l2 l3 l4 l5 : Option Value} {x : Int32} {st : List Value} {h : jv_H} : jv_ev call 126 140 [l0, l1, l2, l3, l4, l5] (.int x :: st) h = jv_ev call 126 141 [l0, l1, l2, l3, l4, l5] (.int x :: .int x :: st) h := je_dup D126_140 rfl rfl
theorem D126_141 : decode (jt_code 126) 141 = .ok (.getfield 40, 3) := by decide +kernel
theorem E126_141 {call : jv_F} {l0 l1 l2 l3 l4 l5 : Option Value} {a : Nat} {st : List Value} {h : jv_H} (hs : (jv_gf h a 6 5).isSome = true) : jv_ev call 126 141 [l0, l1, l2, l3, l4, l5] (.ref a :: st) h = jv_ev call 126 144 [l0, l1, l2, l3, l4, l5] ((jv_gf h a 6 5).getD .null :: st) h := by
  obtain ⟨v, hv⟩ := Option.isSome_iff_exists.mp hs
  rw [hv]
  exact je_get D126_141 rfl (by decide) hv
theorem D126_144 : decode (jt_code 126) 144 = .ok (.iconst 1, 1) := by decide +kernel
theorem E126_144 {call : jv_F} {l0 l1 l2 l3 l4 l5 : Option Value}  {st : List Value} {h : jv_H} : jv_ev call 126 144 [l0, l1, l2, l3, l4, l5] st h = jv_ev call 126 145 [l0, l1, l2, l3, l4, l5] (.int (nI 1) :: st) h := je_iconst D126_144 rfl (by decide)
theorem D126_145 : decode (jt_code 126) 145 = .ok (.iadd, 1) := by decide +kernel
theorem E126_145 {call : jv_F} {l0 l1 l2 l3 l4 l5 : Option Value} {x y : Int32} {st : List Value} {h : jv_H} : jv_ev call 126 145 [l0, l1, l2, l3, l4, l5] (.int y :: .int x :: st) h = jv_ev call 126 146 [l0, l1, l2, l3, l4, l5] (.int (x + y) :: st) h := je_b2 (f := fun x y => x + y) D126_145 rfl (fun _ => rfl)
theorem D126_146 : decode (jt_code 126) 146 = .ok (.putfield 40, 3) := by decide +kernel
theorem E126_146 {call : jv_F} {l0 l1 l2 l3 l4 l5 : Option Value} {a : Nat} {v : Value} {st : List Value} {h : jv_H} (hs : (jv_pf h a 6 5 v).isSome = true) : jv_ev call 126 146 [l0, l1, l2, l3, l4, l5] (v :: .ref a :: st) h = jv_ev call 126 149 [l0, l1, l2, l3, l4, l5] st ((jv_pf h a 6 5 v).getD h) := by
  obtain ⟨h', hv⟩ := Option.isSome_iff_exists.mp hs
  rw [hv]
  exact je_put D126_146 rfl (by decide) (by decide) hv
theorem D126_149 : decode (jt_code 126) 149 = .ok (.aload_n 0, 1) := by decide +kernel
theorem E126_149 {call : jv_F} {l1 l2 l3 l4 l5 : Option Value} {a : Nat} {st : List Value} {h : jv_H} : jv_ev call 126 149 [some (.ref a), l1, l2, l3, l4, l5] st h = jv_ev call 126 150 [some (.ref a), l1, l2, l3, l4, l5] (.ref a :: st) h := je_aload_n (r := some a) D126_149 rfl rfl
theorem D126_150 : decode (jt_code 126) 150 = .ok (.invokevirtual 100, 3) := by decide +kernel
theorem E126_150 {call : jv_F} {l0 l1 l2 l3 l4 l5 : Option Value} {b : Nat}  {st : List Value} {h : jv_H} (hw : jv_wide st = true) (hcl : jv_cl h b = some 6) (hc : (call 140 [.ref b] h).isSome = true) : jv_ev call 126 150 [l0, l1, l2, l3, l4, l5] (.ref b :: st) h = jv_ev call 126 153 [l0, l1, l2, l3, l4, l5] ((((call 140 [.ref b] h).getD (none, h)).1).toList ++ st) ((call 140 [.ref b] h).getD (none, h)).2 := by
  obtain ⟨⟨r, h'⟩, hv⟩ := Option.isSome_iff_exists.mp hc
  rw [hv]
  exact je_virt (y := 140) (as := []) D126_150 rfl (by decide) (by decide) rfl hcl hw hv
theorem D126_153 : decode (jt_code 126) 153 = .ok (.aload 4, 2) := by decide +kernel
theorem E126_153 {call : jv_F} {l0 l1 l2 l3 l5 : Option Value} {a : Nat} {st : List Value} {h : jv_H} : jv_ev call 126 153 [l0, l1, l2, l3, some (.ref a), l5] st h = jv_ev call 126 155 [l0, l1, l2, l3, some (.ref a), l5] (.ref a :: st) h := je_aload (r := some a) D126_153 rfl rfl
theorem E126_153r {call : jv_F} {l0 l1 l2 l3 l5 : Option Value} {r : Option Nat} {st : List Value} {h : jv_H} : jv_ev call 126 153 [l0, l1, l2, l3, some (va_rf r), l5] st h = jv_ev call 126 155 [l0, l1, l2, l3, some (va_rf r), l5] (va_rf r :: st) h := je_aload (r := r) D126_153 rfl rfl
theorem D126_155 : decode (jt_code 126) 155 = .ok (.getfield 103, 3) := by decide +kernel
theorem E126_155 {call : jv_F} {l0 l1 l2 l3 l4 l5 : Option Value} {a : Nat} {st : List Value} {h : jv_H} (hs : (jv_gf h a 4 0).isSome = true) : jv_ev call 126 155 [l0, l1, l2, l3, l4, l5] (.ref a :: st) h = jv_ev call 126 158 [l0, l1, l2, l3, l4, l5] ((jv_gf h a 4 0).getD .null :: st) h := by
  obtain ⟨v, hv⟩ := Option.isSome_iff_exists.mp hs
  rw [hv]
  exact je_get D126_155 rfl (by decide) hv
theorem D126_158 : decode (jt_code 126) 158 = .ok (.ireturn, 1) := by decide +kernel
theorem E126_158 {call : jv_F} {l0 l1 l2 l3 l4 l5 : Option Value} {v : Int32} {h : jv_H} : jv_ev call 126 158 [l0, l1, l2, l3, l4, l5] [.int v] h = some (some (.int v), h) := je_iret (ty := .int) D126_158 rfl rfl rfl
/-! method 127: DrumMachine.run -/
theorem N127 {d : Nat} {b : Nat} {a0 : Int32} {h : jv_H} : jv_run (d + 1) 127 [.ref b, .int a0] h = jv_ev (jv_run d) 127 0 [some (.ref b), some (.int a0), none] [] h := jv_run_eq (Nat.le_of_ble_eq_true rfl) rfl
theorem D127_0 : decode (jt_code 127) 0 = .ok (.iload_n 1, 1) := by decide +kernel
theorem E127_0 {call : jv_F} {l0 l2 : Option Value} {x : Int32} {st : List Value} {h : jv_H} : jv_ev call 127 0 [l0, some (.int x), l2] st h = jv_ev call 127 1 [l0, some (.int x), l2] (.int x :: st) h := je_iload_n D127_0 rfl rfl
theorem D127_1 : decode (jt_code 127) 1 = .ok (.ifCond .lt 10, 3) := by decide +kernel
theorem E127_1 {call : jv_F} {l0 l1 l2 : Option Value} {x : Int32} {st : List Value} {h : jv_H} : jv_ev call 127 1 [l0, l1, l2] (.int x :: st) h = if x < 0 then jv_ev call 127 11 [l0, l1, l2] st h else jv_ev call 127 4 [l0, l1, l2] st h := je_ifc D127_1 (by decide) rfl rfl
theorem D127_4 : decode (jt_code 127) 4 = .ok (.iload_n 1, 1) := by decide +kernel
theorem E127_4 {call : jv_F} {l0 l2 : Option Value} {x : Int32} {st : List Value} {h : jv_H} : jv_ev call 127 4 [l0, some (.int x), l2] st h = jv_ev call 127 5 [l0, some (.int x), l2] (.int x :: st) h := je_iload_n D127_4 rfl rfl
theorem D127_5 : decode (jt_code 127) 5 = .ok (.sipush 20000, 3) := by decide +kernel
theorem E127_5 {call : jv_F} {l0 l1 l2 : Option Value}  {st : List Value} {h : jv_H} : jv_ev call 127 5 [l0, l1, l2] st h = jv_ev call 127 8 [l0, l1, l2] (.int (nI 20000) :: st) h := je_sipush D127_5 rfl (by decide)
theorem D127_8 : decode (jt_code 127) 8 = .ok (.if_icmp .le 5, 3) := by decide +kernel
theorem E127_8 {call : jv_F} {l0 l1 l2 : Option Value} {x y : Int32} {st : List Value} {h : jv_H} : jv_ev call 127 8 [l0, l1, l2] (.int y :: .int x :: st) h = if x ≤ y then jv_ev call 127 13 [l0, l1, l2] st h else jv_ev call 127 11 [l0, l1, l2] st h := je_icmp D127_8 (by decide) rfl rfl
theorem D127_11 : decode (jt_code 127) 11 = .ok (.iconst (-1), 1) := by decide +kernel
theorem E127_11 {call : jv_F} {l0 l1 l2 : Option Value}  {st : List Value} {h : jv_H} : jv_ev call 127 11 [l0, l1, l2] st h = jv_ev call 127 12 [l0, l1, l2] (.int (-1) :: st) h := je_iconst D127_11 rfl (by decide)
theorem D127_12 : decode (jt_code 127) 12 = .ok (.ireturn, 1) := by decide +kernel
theorem E127_12 {call : jv_F} {l0 l1 l2 : Option Value} {v : Int32} {h : jv_H} : jv_ev call 127 12 [l0, l1, l2] [.int v] h = some (some (.int v), h) := je_iret (ty := .int) D127_12 rfl rfl rfl
theorem D127_13 : decode (jt_code 127) 13 = .ok (.iconst 0, 1) := by decide +kernel
theorem E127_13 {call : jv_F} {l0 l1 l2 : Option Value}  {st : List Value} {h : jv_H} : jv_ev call 127 13 [l0, l1, l2] st h = jv_ev call 127 14 [l0, l1, l2] (.int (nI 0) :: st) h := je_iconst D127_13 rfl (by decide)
theorem D127_14 : decode (jt_code 127) 14 = .ok (.istore_n 2, 1) := by decide +kernel
theorem E127_14 {call : jv_F} {l0 l1 l2 : Option Value} {x : Int32} {st : List Value} {h : jv_H} (hk : ¬ jv_is2 (some l1) = true) : jv_ev call 127 14 [l0, l1, l2] (.int x :: st) h = jv_ev call 127 15 [l0, l1, some (.int x)] st h := je_istore_n D127_14 rfl (Nat.le_of_ble_eq_true rfl) (by show jv_st1 _ 2 _ = _; simp only [jv_st1, jv_kill, List.getElem?_cons_succ, List.getElem?_cons_zero, hk, if_false]; rfl)
theorem D127_15 : decode (jt_code 127) 15 = .ok (.iload_n 2, 1) := by decide +kernel
theorem E127_15 {call : jv_F} {l0 l1 : Option Value} {x : Int32} {st : List Value} {h : jv_H} : jv_ev call 127 15 [l0, l1, some (.int x)] st h = jv_ev call 127 16 [l0, l1, some (.int x)] (.int x :: st) h := je_iload_n D127_15 rfl rfl
theorem D127_16 : decode (jt_code 127) 16 = .ok (.iload_n 1, 1) := by decide +kernel
theorem E127_16 {call : jv_F} {l0 l2 : Option Value} {x : Int32} {st : List Value} {h : jv_H} : jv_ev call 127 16 [l0, some (.int x), l2] st h = jv_ev call 127 17 [l0, some (.int x), l2] (.int x :: st) h := je_iload_n D127_16 rfl rfl
theorem D127_17 : decode (jt_code 127) 17 = .ok (.if_icmp .ge 20, 3) := by decide +kernel
theorem E127_17 {call : jv_F} {l0 l1 l2 : Option Value} {x y : Int32} {st : List Value} {h : jv_H} : jv_ev call 127 17 [l0, l1, l2] (.int y :: .int x :: st) h = if y ≤ x then jv_ev call 127 37 [l0, l1, l2] st h else jv_ev call 127 20 [l0, l1, l2] st h := je_icmp D127_17 (by decide) rfl rfl
theorem D127_20 : decode (jt_code 127) 20 = .ok (.aload_n 0, 1) := by decide +kernel
theorem E127_20 {call : jv_F} {l1 l2 : Option Value} {a : Nat} {st : List Value} {h : jv_H} : jv_ev call 127 20 [some (.ref a), l1, l2] st h = jv_ev call 127 21 [some (.ref a), l1, l2] (.ref a :: st) h := je_aload_n (r := some a) D127_20 rfl rfl
theorem D127_21 : decode (jt_code 127) 21 = .ok (.getfield 40, 3) := by decide +kernel
theorem E127_21 {call : jv_F} {l0 l1 l2 : Option Value} {a : Nat} {st : List Value} {h : jv_H} (hs : (jv_gf h a 6 5).isSome = true) : jv_ev call 127 21 [l0, l1, l2] (.ref a :: st) h = jv_ev call 127 24 [l0, l1, l2] ((jv_gf h a 6 5).getD .null :: st) h := by
  obtain ⟨v, hv⟩ := Option.isSome_iff_exists.mp hs
  rw [hv]
  exact je_get D127_21 rfl (by decide) hv
theorem D127_24 : decode (jt_code 127) 24 = .ok (.ifCond .le 13, 3) := by decide +kernel
theorem E127_24 {call : jv_F} {l0 l1 l2 : Option Value} {x : Int32} {st : List Value} {h : jv_H} : jv_ev call 127 24 [l0, l1, l2] (.int x :: st) h = if x ≤ 0 then jv_ev call 127 37 [l0, l1, l2] st h else jv_ev call 127 27 [l0, l1, l2] st h := je_ifc D127_24 (by decide) rfl rfl
theorem D127_27 : decode (jt_code 127) 27 = .ok (.aload_n 0, 1) := by decide +kernel
theorem E127_27 {call : jv_F} {l1 l2 : Option Value} {a : Nat} {st : List Value} {h : jv_H} : jv_ev call 127 27 [some (.ref a), l1, l2] st h = jv_ev call 127 28 [some (.ref a), l1, l2] (.ref a :: st) h := je_aload_n (r := some a) D127_27 rfl rfl
theorem D127_28 : decode (jt_code 127) 28 = .ok (.invokevirtual 106, 3) := by decide +kernel
theorem E127_28 {call : jv_F} {l0 l1 l2 : Option Value} {b : Nat}  {st : List Value} {h : jv_H} (hw : jv_wide st = true) (hcl : jv_cl h b = some 6) (hc : (call 141 [.ref b] h).isSome = true) : jv_ev call 127 28 [l0, l1, l2] (.ref b :: st) h = jv_ev call 127 31 [l0, l1, l2] ((((call 141 [.ref b] h).getD (none, h)).1).toList ++ st) ((call 141 [.ref b] h).getD (none, h)).2 := by
  obtain ⟨⟨r, h'⟩, hv⟩ := Option.isSome_iff_exists.mp hc
  rw [hv]
  exact je_virt (y := 141) (as := []) D127_28 rfl (by decide) (by decide) rfl hcl hw hv
theorem D127_31 : decode (jt_code 127) 31 = .ok (.iinc 2 1, 3) := by decide +kernel
theorem E127_31 {call : jv_F} {l0 l1 : Option Value} {x : Int32} {st : List Value} {h : jv_H} (hk : ¬ jv_is2 (some l1) = true) : jv_ev call 127 31 [l0, l1, some (.int x)] st h = jv_ev call 127 34 [l0, l1, some (.int (x + (nI 1)))] st h := je_iinc D127_31 rfl rfl (v := x + (nI 1)) (by rfl) (by show jv_st1 _ 2 _ = _; simp only [jv_st1, jv_kill, List.getElem?_cons_succ, List.getElem?_cons_zero, hk, if_false]; rfl)
theorem D127_34 : decode (jt_code 127) 34 = .ok (.goto (-19), 3) := by decide +kernel
theorem E127_34 {call : jv_F} {l0 l1 l2 : Option Value}  {st : List Value} {h : jv_H} : jv_ev call 127 34 [l0, l1, l2] st h = jv_ev call 127 15 [l0, l1, l2] st h := je_goto D127_34 (by decide)
theorem D127_37 : decode (jt_code 127) 37 = .ok (.aload_n 0, 1) := by decide +kernel
theorem E127_37 {call : jv_F} {l1 l2 : Option Value} {a : Nat} {st : List Value} {h : jv_H} : jv_ev call 127 37 [some (.ref a), l1, l2] st h = jv_ev call 127 38 [some (.ref a), l1, l2] (.ref a :: st) h := je_aload_n (r := some a) D127_37 rfl rfl
theorem D127_38 : decode (jt_code 127) 38 = .ok (.getfield 40, 3) := by decide +kernel
theorem E127_38 {call : jv_F} {l0 l1 l2 : Option Value} {a : Nat} {st : List Value} {h : jv_H} (hs : (jv_gf h a 6 5).isSome = true) : jv_ev call 127 38 [l0, l1, l2] (.ref a :: st) h = jv_ev call 127 41 [l0, l1, l2] ((jv_gf h a 6 5).getD .null :: st) h := by
  obtain ⟨v, hv⟩ := Option.isSome_iff_exists.mp hs
  rw [hv]
  exact je_get D127_38 rfl (by decide) hv
theorem D127_41 : decode (jt_code 127) 41 = .ok (.ireturn, 1) := by decide +kernel
theorem E127_41 {call : jv_F} {l0 l1 l2 : Option Value} {v : Int32} {h : jv_H} : jv_ev call 127 41 [l0, l1, l2] [.int v] h = some (some (.int v), h) := je_iret (ty := .int) D127_41 rfl rfl rfl
/-! method 128: DrumMachine.ended -/
theorem N128 {d : Nat} {b : Nat} {a0 : Int32} {h : jv_H} : jv_run (d + 1) 128 [.ref b, .int a0] h = jv_ev (jv_run d) 128 0 [some (.ref b), some (.int a0), none] [] h := jv_run_eq (Nat.le_of_ble_eq_true rfl) rfl
theorem D128_0 : decode (jt_code 128) 0 = .ok (.aload_n 0, 1) := by decide +kernel
theorem E128_0 {call : jv_F} {l1 l2 : Option Value} {a : Nat} {st : List Value} {h : jv_H} : jv_ev call 128 0 [some (.ref a), l1, l2] st h = jv_ev call 128 1 [some (.ref a), l1, l2] (.ref a :: st) h := je_aload_n (r := some a) D128_0 rfl rfl
theorem D128_1 : decode (jt_code 128) 1 = .ok (.iload_n 1, 1) := by decide +kernel
theorem E128_1 {call : jv_F} {l0 l2 : Option Value} {x : Int32} {st : List Value} {h : jv_H} : jv_ev call 128 1 [l0, some (.int x), l2] st h = jv_ev call 128 2 [l0, some (.int x), l2] (.int x :: st) h := je_iload_n D128_1 rfl rfl
theorem D128_2 : decode (jt_code 128) 2 = .ok (.invokevirtual 109, 3) := by decide +kernel
theorem E128_2 {call : jv_F} {l0 l1 l2 : Option Value} {b : Nat} {v0 : Value}  {st : List Value} {h : jv_H} (hw : jv_wide st = true) (hcl : jv_cl h b = some 6) (hc : (call 139 [.ref b, v0] h).isSome = true) : jv_ev call 128 2 [l0, l1, l2] (v0 :: .ref b :: st) h = jv_ev call 128 5 [l0, l1, l2] ((((call 139 [.ref b, v0] h).getD (none, h)).1).toList ++ st) ((call 139 [.ref b, v0] h).getD (none, h)).2 := by
  obtain ⟨⟨r, h'⟩, hv⟩ := Option.isSome_iff_exists.mp hc
  rw [hv]
  exact je_virt (y := 139) (as := [v0]) D128_2 rfl (by decide) (by decide) rfl hcl hw hv
theorem D128_5 : decode (jt_code 128) 5 = .ok (.astore_n 2, 1) := by decide +kernel
theorem E128_5 {call : jv_F} {l0 l1 l2 : Option Value} {a : Nat} {st : List Value} {h : jv_H} (hk : ¬ jv_is2 (some l1) = true) : jv_ev call 128 5 [l0, l1, l2] (.ref a :: st) h = jv_ev call 128 6 [l0, l1, some (.ref a)] st h := je_astore_n (r := some a) D128_5 rfl (Nat.le_of_ble_eq_true rfl) (by show jv_st1 _ 2 _ = _; simp only [jv_st1, jv_kill, List.getElem?_cons_succ, List.getElem?_cons_zero, hk, if_false]; rfl)
theorem E128_5r {call : jv_F} {l0 l1 l2 : Option Value} {r : Option Nat} {st : List Value} {h : jv_H} (hk : ¬ jv_is2 (some l1) = true) : jv_ev call 128 5 [l0, l1, l2] (va_rf r :: st) h = jv_ev call 128 6 [l0, l1, some (va_rf r)] st h := je_astore_n (r := r) D128_5 rfl (Nat.le_of_ble_eq_true rfl) (by show jv_st1 _ 2 _ = _; simp only [jv_st1, jv_kill, List.getElem?_cons_succ, List.getElem?_cons_zero, hk, if_false]; rfl)
theorem D128_6 : decode (jt_code 128) 6 = .ok (.aload_n 2, 1) := by decide +kernel
theorem E128_6 {call : jv_F} {l0 l1 : Option Value} {a : Nat} {st : List Value} {h : jv_H} : jv_ev call 128 6 [l0, l1, some (.ref a)] st h = jv_ev call 128 7 [l0, l1, some (.ref a)] (.ref a :: st) h := je_aload_n (r := some a) D128_6 rfl rfl
theorem E128_6r {call : jv_F} {l0 l1 : Option Value} {r : Option Nat} {st : List Value} {h : jv_H} : jv_ev call 128 6 [l0, l1, some (va_rf r)] st h = jv_ev call 128 7 [l0, l1, some (va_rf r)] (va_rf r :: st) h := je_aload_n (r := r) D128_6 rfl rfl
theorem D128_7 : decode (jt_code 128) 7 = .ok (.ifnonnull 7, 3) := by decide +kernel
theorem E128_7r {call : jv_F} {l0 l1 l2 : Option Value} {x : Option Nat} {st : List Value} {h : jv_H} : jv_ev call 128 7 [l0, l1, l2] (va_rf x :: st) h = if x = none then jv_ev call 128 10 [l0, l1, l2] st h else jv_ev call 128 14 [l0, l1, l2] st h := je_ifnonnull D128_7 (by decide) rfl
theorem E128_7 {call : jv_F} {l0 l1 l2 : Option Value} {x : Nat} {st : List Value} {h : jv_H} : jv_ev call 128 7 [l0, l1, l2] (.ref x :: st) h = jv_ev call 128 14 [l0, l1, l2] st h := (je_ifnonnull (x := some x) (t := 14) D128_7 (by decide) rfl).trans (if_neg (by simp))
theorem D128_10 : decode (jt_code 128) 10 = .ok (.iconst (-1), 1) := by decide +kernel
theorem E128_10 {call : jv_F} {l0 l1 l2 : Option Value}  {st : List Value} {h : jv_H} : jv_ev call 128 10 [l0, l1, l2] st h = jv_ev call 128 11 [l0, l1, l2] (.int (-1) :: st) h := je_iconst D128_10 rfl (by decide)
theorem D128_11 : decode (jt_code 128) 11 = .ok (.goto 7, 3) := by decide +kernel
theorem E128_11 {call : jv_F} {l0 l1 l2 : Option Value}  {st : List Value} {h : jv_H} : jv_ev call 128 11 [l0, l1, l2] st h = jv_ev call 128 18 [l0, l1, l2] st h := je_goto D128_11 (by decide)
theorem D128_14 : decode (jt_code 128) 14 = .ok (.aload_n 2, 1) := by decide +kernel
theorem E128_14 {call : jv_F} {l0 l1 : Option Value} {a : Nat} {st : List Value} {h : jv_H} : jv_ev call 128 14 [l0, l1, some (.ref a)] st h = jv_ev call 128 15 [l0, l1, some (.ref a)] (.ref a :: st) h := je_aload_n (r := some a) D128_14 rfl rfl
theorem E128_14r {call : jv_F} {l0 l1 : Option Value} {r : Option Nat} {st : List Value} {h : jv_H} : jv_ev call 128 14 [l0, l1, some (va_rf r)] st h = jv_ev call 128 15 [l0, l1, some (va_rf r)] (va_rf r :: st) h := je_aload_n (r := r) D128_14 rfl rfl
theorem D128_15 : decode (jt_code 128) 15 = .ok (.getfield 113, 3) := by decide +kernel
theorem E128_15 {call : jv_F} {l0 l1 l2 : Option Value} {a : Nat} {st : List Value} {h : jv_H} (hs : (jv_gf h a 4 12).isSome = true) : jv_ev call 128 15 [l0, l1, l2] (.ref a :: st) h = jv_ev call 128 18 [l0, l1, l2] ((jv_gf h a 4 12).getD .null :: st) h := by
  obtain ⟨v, hv⟩ := Option.isSome_iff_exists.mp hs
  rw [hv]
  exact je_get D128_15 rfl (by decide) hv
theorem D128_18 : decode (jt_code 128) 18 = .ok (.ireturn, 1) := by decide +kernel
theorem E128_18 {call : jv_F} {l0 l1 l2 : Option Value} {v : Int32} {h : jv_H} : jv_ev call 128 18 [l0, l1, l2] [.int v] h = some (some (.int v), h) := je_iret (ty := .int) D128_18 rfl rfl rfl
/-! method 129: DrumMachine.done -/
theorem N129 {d : Nat} {b : Nat} {a0 : Int32} {h : jv_H} : jv_run (d + 1) 129 [.ref b, .int a0] h = jv_ev (jv_run d) 129 0 [some (.ref b), some (.int a0), none] [] h := jv_run_eq (Nat.le_of_ble_eq_true rfl) rfl
theorem D129_0 : decode (jt_code 129) 0 = .ok (.aload_n 0, 1) := by decide +kernel
theorem E129_0 {call : jv_F} {l1 l2 : Option Value} {a : Nat} {st : List Value} {h : jv_H} : jv_ev call 129 0 [some (.ref a), l1, l2] st h = jv_ev call 129 1 [some (.ref a), l1, l2] (.ref a :: st) h := je_aload_n (r := some a) D129_0 rfl rfl
theorem D129_1 : decode (jt_code 129) 1 = .ok (.iload_n 1, 1) := by decide +kernel
theorem E129_1 {call : jv_F} {l0 l2 : Option Value} {x : Int32} {st : List Value} {h : jv_H} : jv_ev call 129 1 [l0, some (.int x), l2] st h = jv_ev call 129 2 [l0, some (.int x), l2] (.int x :: st) h := je_iload_n D129_1 rfl rfl
theorem D129_2 : decode (jt_code 129) 2 = .ok (.invokevirtual 109, 3) := by decide +kernel
theorem E129_2 {call : jv_F} {l0 l1 l2 : Option Value} {b : Nat} {v0 : Value}  {st : List Value} {h : jv_H} (hw : jv_wide st = true) (hcl : jv_cl h b = some 6) (hc : (call 139 [.ref b, v0] h).isSome = true) : jv_ev call 129 2 [l0, l1, l2] (v0 :: .ref b :: st) h = jv_ev call 129 5 [l0, l1, l2] ((((call 139 [.ref b, v0] h).getD (none, h)).1).toList ++ st) ((call 139 [.ref b, v0] h).getD (none, h)).2 := by
  obtain ⟨⟨r, h'⟩, hv⟩ := Option.isSome_iff_exists.mp hc
  rw [hv]
  exact je_virt (y := 139) (as := [v0]) D129_2 rfl (by decide) (by decide) rfl hcl hw hv
theorem D129_5 : decode (jt_code 129) 5 = .ok (.astore_n 2, 1) := by decide +kernel
theorem E129_5 {call : jv_F} {l0 l1 l2 : Option Value} {a : Nat} {st : List Value} {h : jv_H} (hk : ¬ jv_is2 (some l1) = true) : jv_ev call 129 5 [l0, l1, l2] (.ref a :: st) h = jv_ev call 129 6 [l0, l1, some (.ref a)] st h := je_astore_n (r := some a) D129_5 rfl (Nat.le_of_ble_eq_true rfl) (by show jv_st1 _ 2 _ = _; simp only [jv_st1, jv_kill, List.getElem?_cons_succ, List.getElem?_cons_zero, hk, if_false]; rfl)
theorem E129_5r {call : jv_F} {l0 l1 l2 : Option Value} {r : Option Nat} {st : List Value} {h : jv_H} (hk : ¬ jv_is2 (some l1) = true) : jv_ev call 129 5 [l0, l1, l2] (va_rf r :: st) h = jv_ev call 129 6 [l0, l1, some (va_rf r)] st h := je_astore_n (r := r) D129_5 rfl (Nat.le_of_ble_eq_true rfl) (by show jv_st1 _ 2 _ = _; simp only [jv_st1, jv_kill, List.getElem?_cons_succ, List.getElem?_cons_zero, hk, if_false]; rfl)
theorem D129_6 : decode (jt_code 129) 6 = .ok (.aload_n 2, 1) := by decide +kernel
theorem E129_6 {call : jv_F} {l0 l1 : Option Value} {a : Nat} {st : List Value} {h : jv_H} : jv_ev call 129 6 [l0, l1, some (.ref a)] st h = jv_ev call 129 7 [l0, l1, some (.ref a)] (.ref a :: st) h := je_aload_n (r := some a) D129_6 rfl rfl
theorem E129_6r {call : jv_F} {l0 l1 : Option Value} {r : Option Nat} {st : List Value} {h : jv_H} : jv_ev call 129 6 [l0, l1, some (va_rf r)] st h = jv_ev call 129 7 [l0, l1, some (va_rf r)] (va_rf r :: st) h := je_aload_n (r := r) D129_6 rfl rfl
theorem D129_7 : decode (jt_code 129) 7 = .ok (.ifnonnull 7, 3) := by decide +kernel
theorem E129_7r {call : jv_F} {l0 l1 l2 : Option Value} {x : Option Nat} {st : List Value} {h : jv_H} : jv_ev call 129 7 [l0, l1, l2] (va_rf x :: st) h = if x = none then jv_ev call 129 10 [l0, l1, l2] st h else jv_ev call 129 14 [l0, l1, l2] st h := je_ifnonnull D129_7 (by decide) rfl
theorem E129_7 {call : jv_F} {l0 l1 l2 : Option Value} {x : Nat} {st : List Value} {h : jv_H} : jv_ev call 129 7 [l0, l1, l2] (.ref x :: st) h = jv_ev call 129 14 [l0, l1, l2] st h := (je_ifnonnull (x := some x) (t := 14) D129_7 (by decide) rfl).trans (if_neg (by simp))
theorem D129_10 : decode (jt_code 129) 10 = .ok (.iconst (-1), 1) := by decide +kernel
theorem E129_10 {call : jv_F} {l0 l1 l2 : Option Value}  {st : List Value} {h : jv_H} : jv_ev call 129 10 [l0, l1, l2] st h = jv_ev call 129 11 [l0, l1, l2] (.int (-1) :: st) h := je_iconst D129_10 rfl (by decide)
theorem D129_11 : decode (jt_code 129) 11 = .ok (.goto 7, 3) := by decide +kernel
theorem E129_11 {call : jv_F} {l0 l1 l2 : Option Value}  {st : List Value} {h : jv_H} : jv_ev call 129 11 [l0, l1, l2] st h = jv_ev call 129 18 [l0, l1, l2] st h := je_goto D129_11 (by decide)
theorem D129_14 : decode (jt_code 129) 14 = .ok (.aload_n 2, 1) := by decide +kernel
theorem E129_14 {call : jv_F} {l0 l1 : Option Value} {a : Nat} {st : List Value} {h : jv_H} : jv_ev call 129 14 [l0, l1, some (.ref a)] st h = jv_ev call 129 15 [l0, l1, some (.ref a)] (.ref a :: st) h := je_aload_n (r := some a) D129_14 rfl rfl
theorem E129_14r {call : jv_F} {l0 l1 : Option Value} {r : Option Nat} {st : List Value} {h : jv_H} : jv_ev call 129 14 [l0, l1, some (va_rf r)] st h = jv_ev call 129 15 [l0, l1, some (va_rf r)] (va_rf r :: st) h := je_aload_n (r := r) D129_14 rfl rfl
theorem D129_15 : decode (jt_code 129) 15 = .ok (.getfield 116, 3) := by decide +kernel
theorem E129_15 {call : jv_F} {l0 l1 l2 : Option Value} {a : Nat} {st : List Value} {h : jv_H} (hs : (jv_gf h a 4 11).isSome = true) : jv_ev call 129 15 [l0, l1, l2] (.ref a :: st) h = jv_ev call 129 18 [l0, l1, l2] ((jv_gf h a 4 11).getD .null :: st) h := by
  obtain ⟨v, hv⟩ := Option.isSome_iff_exists.mp hs
  rw [hv]
  exact je_get D129_15 rfl (by decide) hv
theorem D129_18 : decode (jt_code 129) 18 = .ok (.ireturn, 1) := by decide +kernel
theorem E129_18 {call : jv_F} {l0 l1 l2 : Option Value} {v : Int32} {h : jv_H} : jv_ev call 129 18 [l0, l1, l2] [.int v] h = some (some (.int v), h) := je_iret (ty := .int) D129_18 rfl rfl rfl
/-! method 130: DrumMachine.printed -/
theorem N130 {d : Nat} {b : Nat} {a0 : Int32} {h : jv_H} : jv_run (d + 1) 130 [.ref b, .int a0] h = jv_ev (jv_run d) 130 0 [some (.ref b), some (.int a0), none] [] h := jv_run_eq (Nat.le_of_ble_eq_true rfl) rfl
theorem D130_0 : decode (jt_code 130) 0 = .ok (.aload_n 0, 1) := by decide +kernel
theorem E130_0 {call : jv_F} {l1 l2 : Option Value} {a : Nat} {st : List Value} {h : jv_H} : jv_ev call 130 0 [some (.ref a), l1, l2] st h = jv_ev call 130 1 [some (.ref a), l1, l2] (.ref a :: st) h := je_aload_n (r := some a) D130_0 rfl rfl
theorem D130_1 : decode (jt_code 130) 1 = .ok (.iload_n 1, 1) := by decide +kernel
theorem E130_1 {call : jv_F} {l0 l2 : Option Value} {x : Int32} {st : List Value} {h : jv_H} : jv_ev call 130 1 [l0, some (.int x), l2] st h = jv_ev call 130 2 [l0, some (.int x), l2] (.int x :: st) h := je_iload_n D130_1 rfl rfl
theorem D130_2 : decode (jt_code 130) 2 = .ok (.invokevirtual 109, 3) := by decide +kernel
theorem E130_2 {call : jv_F} {l0 l1 l2 : Option Value} {b : Nat} {v0 : Value}  {st : List Value} {h : jv_H} (hw : jv_wide st = true) (hcl : jv_cl h b = some 6) (hc : (call 139 [.ref b, v0] h).isSome = true) : jv_ev call 130 2 [l0, l1, l2] (v0 :: .ref b :: st) h = jv_ev call 130 5 [l0, l1, l2] ((((call 139 [.ref b, v0] h).getD (none, h)).1).toList ++ st) ((call 139 [.ref b, v0] h).getD (none, h)).2 := by
  obtain ⟨⟨r, h'⟩, hv⟩ := Option.isSome_iff_exists.mp hc
  rw [hv]
  exact je_virt (y := 139) (as := [v0]) D130_2 rfl (by decide) (by decide) rfl hcl hw hv
theorem D130_5 : decode (jt_code 130) 5 = .ok (.astore_n 2, 1) := by decide +kernel
theorem E130_5 {call : jv_F} {l0 l1 l2 : Option Value} {a : Nat} {st : List Value} {h : jv_H} (hk : ¬ jv_is2 (some l1) = true) : jv_ev call 130 5 [l0, l1, l2] (.ref a :: st) h = jv_ev call 130 6 [l0, l1, some (.ref a)] st h := je_astore_n (r := some a) D130_5 rfl (Nat.le_of_ble_eq_true rfl) (by show jv_st1 _ 2 _ = _; simp only [jv_st1, jv_kill, List.getElem?_cons_succ, List.getElem?_cons_zero, hk, if_false]; rfl)
theorem E130_5r {call : jv_F} {l0 l1 l2 : Option Value} {r : Option Nat} {st : List Value} {h : jv_H} (hk : ¬ jv_is2 (some l1) = true) : jv_ev call 130 5 [l0, l1, l2] (va_rf r :: st) h = jv_ev call 130 6 [l0, l1, some (va_rf r)] st h := je_astore_n (r := r) D130_5 rfl (Nat.le_of_ble_eq_true rfl) (by show jv_st1 _ 2 _ = _; simp only [jv_st1, jv_kill, List.getElem?_cons_succ, List.getElem?_cons_zero, hk, if_false]; rfl)
theorem D130_6 : decode (jt_code 130) 6 = .ok (.aload_n 2, 1) := by decide +kernel
theorem E130_6 {call : jv_F} {l0 l1 : Option Value} {a : Nat} {st : List Value} {h : jv_H} : jv_ev call 130 6 [l0, l1, some (.ref a)] st h = jv_ev call 130 7 [l0, l1, some (.ref a)] (.ref a :: st) h := je_aload_n (r := some a) D130_6 rfl rfl
theorem E130_6r {call : jv_F} {l0 l1 : Option Value} {r : Option Nat} {st : List Value} {h : jv_H} : jv_ev call 130 6 [l0, l1, some (va_rf r)] st h = jv_ev call 130 7 [l0, l1, some (va_rf r)] (va_rf r :: st) h := je_aload_n (r := r) D130_6 rfl rfl
theorem D130_7 : decode (jt_code 130) 7 = .ok (.ifnonnull 7, 3) := by decide +kernel
theorem E130_7r {call : jv_F} {l0 l1 l2 : Option Value} {x : Option Nat} {st : List Value} {h : jv_H} : jv_ev call 130 7 [l0, l1, l2] (va_rf x :: st) h = if x = none then jv_ev call 130 10 [l0, l1, l2] st h else jv_ev call 130 14 [l0, l1, l2] st h := je_ifnonnull D130_7 (by decide) rfl
theorem E130_7 {call : jv_F} {l0 l1 l2 : Option Value} {x : Nat} {st : List Value} {h : jv_H} : jv_ev call 130 7 [l0, l1, l2] (.ref x :: st) h = jv_ev call 130 14 [l0, l1, l2] st h := (je_ifnonnull (x := some x) (t := 14) D130_7 (by decide) rfl).trans (if_neg (by simp))
theorem D130_10 : decode (jt_code 130) 10 = .ok (.iconst (-1), 1) := by decide +kernel
theorem E130_10 {call : jv_F} {l0 l1 l2 : Option Value}  {st : List Value} {h : jv_H} : jv_ev call 130 10 [l0, l1, l2] st h = jv_ev call 130 11 [l0, l1, l2] (.int (-1) :: st) h := je_iconst D130_10 rfl (by decide)
theorem D130_11 : decode (jt_code 130) 11 = .ok (.goto 7, 3) := by decide +kernel
theorem E130_11 {call : jv_F} {l0 l1 l2 : Option Value}  {st : List Value} {h : jv_H} : jv_ev call 130 11 [l0, l1, l2] st h = jv_ev call 130 18 [l0, l1, l2] st h := je_goto D130_11 (by decide)
theorem D130_14 : decode (jt_code 130) 14 = .ok (.aload_n 2, 1) := by decide +kernel
theorem E130_14 {call : jv_F} {l0 l1 : Option Value} {a : Nat} {st : List Value} {h : jv_H} : jv_ev call 130 14 [l0, l1, some (.ref a)] st h = jv_ev call 130 15 [l0, l1, some (.ref a)] (.ref a :: st) h := je_aload_n (r := some a) D130_14 rfl rfl
theorem E130_14r {call : jv_F} {l0 l1 : Option Value} {r : Option Nat} {st : List Value} {h : jv_H} : jv_ev call 130 14 [l0, l1, some (va_rf r)] st h = jv_ev call 130 15 [l0, l1, some (va_rf r)] (va_rf r :: st) h := je_aload_n (r := r) D130_14 rfl rfl
theorem D130_15 : decode (jt_code 130) 15 = .ok (.getfield 117, 3) := by decide +kernel
theorem E130_15 {call : jv_F} {l0 l1 l2 : Option Value} {a : Nat} {st : List Value} {h : jv_H} (hs : (jv_gf h a 4 10).isSome = true) : jv_ev call 130 15 [l0, l1, l2] (.ref a :: st) h = jv_ev call 130 18 [l0, l1, l2] ((jv_gf h a 4 10).getD .null :: st) h := by
  obtain ⟨v, hv⟩ := Option.isSome_iff_exists.mp hs
  rw [hv]
  exact je_get D130_15 rfl (by decide) hv
theorem D130_18 : decode (jt_code 130) 18 = .ok (.ireturn, 1) := by decide +kernel
theorem E130_18 {call : jv_F} {l0 l1 l2 : Option Value} {v : Int32} {h : jv_H} : jv_ev call 130 18 [l0, l1, l2] [.int v] h = some (some (.int v), h) := je_iret (ty := .int) D130_18 rfl rfl rfl
/-! method 131: DrumMachine.out -/
theorem N131 {d : Nat} {b : Nat} {a0 : Int32} {a1 : Int32} {h : jv_H} : jv_run (d + 1) 131 [.ref b, .int a0, .int a1] h = jv_ev (jv_run d) 131 0 [some (.ref b), some (.int a0), some (.int a1), none] [] h := jv_run_eq (Nat.le_of_ble_eq_true rfl) rfl
theorem D131_0 : decode (jt_code 131) 0 = .ok (.aload_n 0, 1) := by decide +kernel
theorem E131_0 {call : jv_F} {l1 l2 l3 : Option Value} {a : Nat} {st : List Value} {h : jv_H} : jv_ev call 131 0 [some (.ref a), l1, l2, l3] st h = jv_ev call 131 1 [some (.ref a), l1, l2, l3] (.ref a :: st) h := je_aload_n (r := some a) D131_0 rfl rfl
theorem D131_1 : decode (jt_code 131) 1 = .ok (.iload_n 1, 1) := by decide +kernel
theorem E131_1 {call : jv_F} {l0 l2 l3 : Option Value} {x : Int32} {st : List Value} {h : jv_H} : jv_ev call 131 1 [l0, some (.int x), l2, l3] st h = jv_ev call 131 2 [l0, some (.int x), l2, l3] (.int x :: st) h := je_iload_n D131_1 rfl rfl
theorem D131_2 : decode (jt_code 131) 2 = .ok (.invokevirtual 109, 3) := by decide +kernel
theorem E131_2 {call : jv_F} {l0 l1 l2 l3 : Option Value} {b : Nat} {v0 : Value}  {st : List Value} {h : jv_H} (hw : jv_wide st = true) (hcl : jv_cl h b = some 6) (hc : (call 139 [.ref b, v0] h).isSome = true) : jv_ev call 131 2 [l0, l1, l2, l3] (v0 :: .ref b :: st) h = jv_ev call 131 5 [l0, l1, l2, l3] ((((call 139 [.ref b, v0] h).getD (none, h)).1).toList ++ st) ((call 139 [.ref b, v0] h).getD (none, h)).2 := by
  obtain ⟨⟨r, h'⟩, hv⟩ := Option.isSome_iff_exists.mp hc
  rw [hv]
  exact je_virt (y := 139) (as := [v0]) D131_2 rfl (by decide) (by decide) rfl hcl hw hv
theorem D131_5 : decode (jt_code 131) 5 = .ok (.astore_n 3, 1) := by decide +kernel
theorem E131_5 {call : jv_F} {l0 l1 l2 l3 : Option Value} {a : Nat} {st : List Value} {h : jv_H} (hk : ¬ jv_is2 (some l2) = true) : jv_ev call 131 5 [l0, l1, l2, l3] (.ref a :: st) h = jv_ev call 131 6 [l0, l1, l2, some (.ref a)] st h := je_astore_n (r := some a) D131_5 rfl (Nat.le_of_ble_eq_true rfl) (by show jv_st1 _ 3 _ = _; simp only [jv_st1, jv_kill, List.getElem?_cons_succ, List.getElem?_cons_zero, hk, if_false]; rfl)
theorem E131_5r {call : jv_F} {l0 l1 l2 l3 : Option Value} {r : Option Nat} {st : List Value} {h : jv_H} (hk : ¬ jv_is2 (some l2) = true) : jv_ev call 131 5 [l0, l1, l2, l3] (va_rf r :: st) h = jv_ev call 131 6 [l0, l1, l2, some (va_rf r)] st h := je_astore_n (r := r) D131_5 rfl (Nat.le_of_ble_eq_true rfl) (by show jv_st1 _ 3 _ = _; simp only [jv_st1, jv_kill, List.getElem?_cons_succ, List.getElem?_cons_zero, hk, if_false]; rfl)
theorem D131_6 : decode (jt_code 131) 6 = .ok (.aload_n 3, 1) := by decide +kernel
theorem E131_6 {call : jv_F} {l0 l1 l2 : Option Value} {a : Nat} {st : List Value} {h : jv_H} : jv_ev call 131 6 [l0, l1, l2, some (.ref a)] st h = jv_ev call 131 7 [l0, l1, l2, some (.ref a)] (.ref a :: st) h := je_aload_n (r := some a) D131_6 rfl rfl
theorem E131_6r {call : jv_F} {l0 l1 l2 : Option Value} {r : Option Nat} {st : List Value} {h : jv_H} : jv_ev call 131 6 [l0, l1, l2, some (va_rf r)] st h = jv_ev call 131 7 [l0, l1, l2, some (va_rf r)] (va_rf r :: st) h := je_aload_n (r := r) D131_6 rfl rfl
theorem D131_7 : decode (jt_code 131) 7 = .ok (.ifnonnull 7, 3) := by decide +kernel
theorem E131_7r {call : jv_F} {l0 l1 l2 l3 : Option Value} {x : Option Nat} {st : List Value} {h : jv_H} : jv_ev call 131 7 [l0, l1, l2, l3] (va_rf x :: st) h = if x = none then jv_ev call 131 10 [l0, l1, l2, l3] st h else jv_ev call 131 14 [l0, l1, l2, l3] st h := je_ifnonnull D131_7 (by decide) rfl
theorem E131_7 {call : jv_F} {l0 l1 l2 l3 : Option Value} {x : Nat} {st : List Value} {h : jv_H} : jv_ev call 131 7 [l0, l1, l2, l3] (.ref x :: st) h = jv_ev call 131 14 [l0, l1, l2, l3] st h := (je_ifnonnull (x := some x) (t := 14) D131_7 (by decide) rfl).trans (if_neg (by simp))
theorem D131_10 : decode (jt_code 131) 10 = .ok (.iconst (-1), 1) := by decide +kernel
theorem E131_10 {call : jv_F} {l0 l1 l2 l3 : Option Value}  {st : List Value} {h : jv_H} : jv_ev call 131 10 [l0, l1, l2, l3] st h = jv_ev call 131 11 [l0, l1, l2, l3] (.int (-1) :: st) h := je_iconst D131_10 rfl (by decide)
theorem D131_11 : decode (jt_code 131) 11 = .ok (.goto 8, 3) := by decide +kernel
theorem E131_11 {call : jv_F} {l0 l1 l2 l3 : Option Value}  {st : List Value} {h : jv_H} : jv_ev call 131 11 [l0, l1, l2, l3] st h = jv_ev call 131 19 [l0, l1, l2, l3] st h := je_goto D131_11 (by decide)
theorem D131_14 : decode (jt_code 131) 14 = .ok (.aload_n 3, 1) := by decide +kernel
theorem E131_14 {call : jv_F} {l0 l1 l2 : Option Value} {a : Nat} {st : List Value} {h : jv_H} : jv_ev call 131 14 [l0, l1, l2, some (.ref a)] st h = jv_ev call 131 15 [l0, l1, l2, some (.ref a)] (.ref a :: st) h := je_aload_n (r := some a) D131_14 rfl rfl
theorem E131_14r {call : jv_F} {l0 l1 l2 : Option Value} {r : Option Nat} {st : List Value} {h : jv_H} : jv_ev call 131 14 [l0, l1, l2, some (va_rf r)] st h = jv_ev call 131 15 [l0, l1, l2, some (va_rf r)] (va_rf r :: st) h := je_aload_n (r := r) D131_14 rfl rfl
theorem D131_15 : decode (jt_code 131) 15 = .ok (.iload_n 2, 1) := by decide +kernel
theorem E131_15 {call : jv_F} {l0 l1 l3 : Option Value} {x : Int32} {st : List Value} {h : jv_H} : jv_ev call 131 15 [l0, l1, some (.int x), l3] st h = jv_ev call 131 16 [l0, l1, some (.int x), l3] (.int x :: st) h := je_iload_n D131_15 rfl rfl
theorem D131_16 : decode (jt_code 131) 16 = .ok (.invokevirtual 120, 3) := by decide +kernel
theorem E131_16 {call : jv_F} {l0 l1 l2 l3 : Option Value} {b : Nat} {v0 : Value}  {st : List Value} {h : jv_H} (hw : jv_wide st = true) (hcl : jv_cl h b = some 4) (hc : (call 101 [.ref b, v0] h).isSome = true) : jv_ev call 131 16 [l0, l1, l2, l3] (v0 :: .ref b :: st) h = jv_ev call 131 19 [l0, l1, l2, l3] ((((call 101 [.ref b, v0] h).getD (none, h)).1).toList ++ st) ((call 101 [.ref b, v0] h).getD (none, h)).2 := by
  obtain ⟨⟨r, h'⟩, hv⟩ := Option.isSome_iff_exists.mp hc
  rw [hv]
  exact je_virt (y := 101) (as := [v0]) D131_16 rfl (by decide) (by decide) rfl hcl hw hv
theorem D131_19 : decode (jt_code 131) 19 = .ok (.ireturn, 1) := by decide +kernel
theorem E131_19 {call : jv_F} {l0 l1 l2 l3 : Option Value} {v : Int32} {h : jv_H} : jv_ev call 131 19 [l0, l1, l2, l3] [.int v] h = some (some (.int v), h) := je_iret (ty := .int) D131_19 rfl rfl rfl
/-! method 132: DrumMachine.register -/
theorem N132 {d : Nat} {b : Nat} {a0 : Int32} {a1 : Int32} {h : jv_H} : jv_run (d + 1) 132 [.ref b, .int a0, .int a1] h = jv_ev (jv_run d) 132 0 [some (.ref b), some (.int a0), some (.int a1), none] [] h := jv_run_eq (Nat.le_of_ble_eq_true rfl) rfl
theorem D132_0 : decode (jt_code 132) 0 = .ok (.aload_n 0, 1) := by decide +kernel
theorem E132_0 {call : jv_F} {l1 l2 l3 : Option Value} {a : Nat} {st : List Value} {h : jv_H} : jv_ev call 132 0 [some (.ref a), l1, l2, l3] st h = jv_ev call 132 1 [some (.ref a), l1, l2, l3] (.ref a :: st) h := je_aload_n (r := some a) D132_0 rfl rfl
theorem D132_1 : decode (jt_code 132) 1 = .ok (.iload_n 1, 1) := by decide +kernel
theorem E132_1 {call : jv_F} {l0 l2 l3 : Option Value} {x : Int32} {st : List Value} {h : jv_H} : jv_ev call 132 1 [l0, some (.int x), l2, l3] st h = jv_ev call 132 2 [l0, some (.int x), l2, l3] (.int x :: st) h := je_iload_n D132_1 rfl rfl
theorem D132_2 : decode (jt_code 132) 2 = .ok (.invokevirtual 109, 3) := by decide +kernel
theorem E132_2 {call : jv_F} {l0 l1 l2 l3 : Option Value} {b : Nat} {v0 : Value}  {st : List Value} {h : jv_H} (hw : jv_wide st = true) (hcl : jv_cl h b = some 6) (hc : (call 139 [.ref b, v0] h).isSome = true) : jv_ev call 132 2 [l0, l1, l2, l3] (v0 :: .ref b :: st) h = jv_ev call 132 5 [l0, l1, l2, l3] ((((call 139 [.ref b, v0] h).getD (none, h)).1).toList ++ st) ((call 139 [.ref b, v0] h).getD (none, h)).2 := by
  obtain ⟨⟨r, h'⟩, hv⟩ := Option.isSome_iff_exists.mp hc
  rw [hv]
  exact je_virt (y := 139) (as := [v0]) D132_2 rfl (by decide) (by decide) rfl hcl hw hv
theorem D132_5 : decode (jt_code 132) 5 = .ok (.astore_n 3, 1) := by decide +kernel
theorem E132_5 {call : jv_F} {l0 l1 l2 l3 : Option Value} {a : Nat} {st : List Value} {h : jv_H} (hk : ¬ jv_is2 (some l2) = true) : jv_ev call 132 5 [l0, l1, l2, l3] (.ref a :: st) h = jv_ev call 132 6 [l0, l1, l2, some (.ref a)] st h := je_astore_n (r := some a) D132_5 rfl (Nat.le_of_ble_eq_true rfl) (by show jv_st1 _ 3 _ = _; simp only [jv_st1, jv_kill, List.getElem?_cons_succ, List.getElem?_cons_zero, hk, if_false]; rfl)
theorem E132_5r {call : jv_F} {l0 l1 l2 l3 : Option Value} {r : Option Nat} {st : List Value} {h : jv_H} (hk : ¬ jv_is2 (some l2) = true) : jv_ev call 132 5 [l0, l1, l2, l3] (va_rf r :: st) h = jv_ev call 132 6 [l0, l1, l2, some (va_rf r)] st h := je_astore_n (r := r) D132_5 rfl (Nat.le_of_ble_eq_true rfl) (by show jv_st1 _ 3 _ = _; simp only [jv_st1, jv_kill, List.getElem?_cons_succ, List.getElem?_cons_zero, hk, if_false]; rfl)
theorem D132_6 : decode (jt_code 132) 6 = .ok (.aload_n 3, 1) := by decide +kernel
theorem E132_6 {call : jv_F} {l0 l1 l2 : Option Value} {a : Nat} {st : List Value} {h : jv_H} : jv_ev call 132 6 [l0, l1, l2, some (.ref a)] st h = jv_ev call 132 7 [l0, l1, l2, some (.ref a)] (.ref a :: st) h := je_aload_n (r := some a) D132_6 rfl rfl
theorem E132_6r {call : jv_F} {l0 l1 l2 : Option Value} {r : Option Nat} {st : List Value} {h : jv_H} : jv_ev call 132 6 [l0, l1, l2, some (va_rf r)] st h = jv_ev call 132 7 [l0, l1, l2, some (va_rf r)] (va_rf r :: st) h := je_aload_n (r := r) D132_6 rfl rfl
theorem D132_7 : decode (jt_code 132) 7 = .ok (.ifnonnull 5, 3) := by decide +kernel
theorem E132_7r {call : jv_F} {l0 l1 l2 l3 : Option Value} {x : Option Nat} {st : List Value} {h : jv_H} : jv_ev call 132 7 [l0, l1, l2, l3] (va_rf x :: st) h = if x = none then jv_ev call 132 10 [l0, l1, l2, l3] st h else jv_ev call 132 12 [l0, l1, l2, l3] st h := je_ifnonnull D132_7 (by decide) rfl
theorem E132_7 {call : jv_F} {l0 l1 l2 l3 : Option Value} {x : Nat} {st : List Value} {h : jv_H} : jv_ev call 132 7 [l0, l1, l2, l3] (.ref x :: st) h = jv_ev call 132 12 [l0, l1, l2, l3] st h := (je_ifnonnull (x := some x) (t := 12) D132_7 (by decide) rfl).trans (if_neg (by simp))
theorem D132_10 : decode (jt_code 132) 10 = .ok (.lconst 0, 1) := by decide +kernel
theorem E132_10 {call : jv_F} {l0 l1 l2 l3 : Option Value}  {st : List Value} {h : jv_H} : jv_ev call 132 10 [l0, l1, l2, l3] st h = jv_ev call 132 11 [l0, l1, l2, l3] (.long 0 :: st) h := je_lconst D132_10 rfl (by decide)
theorem D132_11 : decode (jt_code 132) 11 = .ok (.lreturn, 1) := by decide +kernel
theorem E132_11 {call : jv_F} {l0 l1 l2 l3 : Option Value} {v : Int64} {h : jv_H} : jv_ev call 132 11 [l0, l1, l2, l3] [.long v] h = some (some (.long v), h) := je_lret D132_11 rfl
theorem D132_12 : decode (jt_code 132) 12 = .ok (.iload_n 2, 1) := by decide +kernel
theorem E132_12 {call : jv_F} {l0 l1 l3 : Option Value} {x : Int32} {st : List Value} {h : jv_H} : jv_ev call 132 12 [l0, l1, some (.int x), l3] st h = jv_ev call 132 13 [l0, l1, some (.int x), l3] (.int x :: st) h := je_iload_n D132_12 rfl rfl
theorem D132_13 : decode (jt_code 132) 13 = .ok (.iconst (-1), 1) := by decide +kernel
theorem E132_13 {call : jv_F} {l0 l1 l2 l3 : Option Value}  {st : List Value} {h : jv_H} : jv_ev call 132 13 [l0, l1, l2, l3] st h = jv_ev call 132 14 [l0, l1, l2, l3] (.int (-1) :: st) h := je_iconst D132_13 rfl (by decide)
theorem D132_14 : decode (jt_code 132) 14 = .ok (.if_icmp .ne 8, 3) := by decide +kernel
theorem E132_14 {call : jv_F} {l0 l1 l2 l3 : Option Value} {x y : Int32} {st : List Value} {h : jv_H} : jv_ev call 132 14 [l0, l1, l2, l3] (.int y :: .int x :: st) h = if ¬ x = y then jv_ev call 132 22 [l0, l1, l2, l3] st h else jv_ev call 132 17 [l0, l1, l2, l3] st h := je_icmp D132_14 (by decide) rfl rfl
theorem D132_17 : decode (jt_code 132) 17 = .ok (.aload_n 3, 1) := by decide +kernel
theorem E132_17 {call : jv_F} {l0 l1 l2 : Option Value} {a : Nat} {st : List Value} {h : jv_H} : jv_ev call 132 17 [l0, l1, l2, some (.ref a)] st h = jv_ev call 132 18 [l0, l1, l2, some (.ref a)] (.ref a :: st) h := je_aload_n (r := some a) D132_17 rfl rfl
theorem E132_17r {call : jv_F} {l0 l1 l2 : Option Value} {r : Option Nat} {st : List Value} {h : jv_H} : jv_ev call 132 17 [l0, l1, l2, some (va_rf r)] st h = jv_ev call 132 18 [l0, l1, l2, some (va_rf r)] (va_rf r :: st) h := je_aload_n (r := r) D132_17 rfl rfl
theorem D132_18 : decode (jt_code 132) 18 = .ok (.getfield 124, 3) := by decide +kernel
theorem E132_18 {call : jv_F} {l0 l1 l2 l3 : Option Value} {a : Nat} {st : List Value} {h : jv_H} (hs : (jv_gf h a 4 2).isSome = true) : jv_ev call 132 18 [l0, l1, l2, l3] (.ref a :: st) h = jv_ev call 132 21 [l0, l1, l2, l3] ((jv_gf h a 4 2).getD .null :: st) h := by
  obtain ⟨v, hv⟩ := Option.isSome_iff_exists.mp hs
  rw [hv]
  exact je_get D132_18 rfl (by decide) hv
theorem D132_21 : decode (jt_code 132) 21 = .ok (.lreturn, 1) := by decide +kernel
theorem E132_21 {call : jv_F} {l0 l1 l2 l3 : Option Value} {v : Int64} {h : jv_H} : jv_ev call 132 21 [l0, l1, l2, l3] [.long v] h = some (some (.long v), h) := je_lret D132_21 rfl
theorem D132_22 : decode (jt_code 132) 22 = .ok (.iload_n 2, 1) := by decide +kernel
theorem E132_22 {call : jv_F} {l0 l1 l3 : Option Value} {x : Int32} {st : List Value} {h : jv_H} : jv_ev call 132 22 [l0, l1, some (.int x), l3] st h = jv_ev call 132 23 [l0, l1, some (.int x), l3] (.int x :: st) h := je_iload_n D132_22 rfl rfl
theorem D132_23 : decode (jt_code 132) 23 = .ok (.sipush 128, 3) := by decide +kernel
theorem E132_23 {call : jv_F} {l0 l1 l2 l3 : Option Value}  {st : List Value} {h : jv_H} : jv_ev call 132 23 [l0, l1, l2, l3] st h = jv_ev call 132 26 [l0, l1, l2, l3] (.int (nI 128) :: st) h := je_sipush D132_23 rfl (by decide)
theorem D132_26 : decode (jt_code 132) 26 = .ok (.if_icmp .ne 11, 3) := by decide +kernel
theorem E132_26 {call : jv_F} {l0 l1 l2 l3 : Option Value} {x y : Int32} {st : List Value} {h : jv_H} : jv_ev call 132 26 [l0, l1, l2, l3] (.int y :: .int x :: st) h = if ¬ x = y then jv_ev call 132 37 [l0, l1, l2, l3] st h else jv_ev call 132 29 [l0, l1, l2, l3] st h := je_icmp D132_26 (by decide) rfl rfl
theorem D132_29 : decode (jt_code 132) 29 = .ok (.aload_n 3, 1) := by decide +kernel
theorem E132_29 {call : jv_F} {l0 l1 l2 : Option Value} {a : Nat} {st : List Value} {h : jv_H} : jv_ev call 132 29 [l0, l1, l2, some (.ref a)] st h = jv_ev call 132 30 [l0, l1, l2, some (.ref a)] (.ref a :: st) h := je_aload_n (r := some a) D132_29 rfl rfl
theorem E132_29r {call : jv_F} {l0 l1 l2 : Option Value} {r : Option Nat} {st : List Value} {h : jv_H} : jv_ev call 132 29 [l0, l1, l2, some (va_rf r)] st h = jv_ev call 132 30 [l0, l1, l2, some (va_rf r)] (va_rf r :: st) h := je_aload_n (r := r) D132_29 rfl rfl
theorem D132_30 : decode (jt_code 132) 30 = .ok (.getfield 128, 3) := by decide +kernel
theorem E132_30 {call : jv_F} {l0 l1 l2 l3 : Option Value} {a : Nat} {st : List Value} {h : jv_H} (hs : (jv_gf h a 4 4).isSome = true) : jv_ev call 132 30 [l0, l1, l2, l3] (.ref a :: st) h = jv_ev call 132 33 [l0, l1, l2, l3] ((jv_gf h a 4 4).getD .null :: st) h := by
  obtain ⟨v, hv⟩ := Option.isSome_iff_exists.mp hs
  rw [hv]
  exact je_get D132_30 rfl (by decide) hv
theorem D132_33 : decode (jt_code 132) 33 = .ok (.i2l, 1) := by decide +kernel
theorem E132_33 {call : jv_F} {l0 l1 l2 l3 : Option Value} {x : Int32} {st : List Value} {h : jv_H} : jv_ev call 132 33 [l0, l1, l2, l3] (.int x :: st) h = jv_ev call 132 34 [l0, l1, l2, l3] (.long x.toInt64 :: st) h := je_i2l D132_33 rfl
theorem D132_34 : decode (jt_code 132) 34 = .ok (.goto 9, 3) := by decide +kernel
theorem E132_34 {call : jv_F} {l0 l1 l2 l3 : Option Value}  {st : List Value} {h : jv_H} : jv_ev call 132 34 [l0, l1, l2, l3] st h = jv_ev call 132 43 [l0, l1, l2, l3] st h := je_goto D132_34 (by decide)
theorem D132_37 : decode (jt_code 132) 37 = .ok (.aload_n 3, 1) := by decide +kernel
theorem E132_37 {call : jv_F} {l0 l1 l2 : Option Value} {a : Nat} {st : List Value} {h : jv_H} : jv_ev call 132 37 [l0, l1, l2, some (.ref a)] st h = jv_ev call 132 38 [l0, l1, l2, some (.ref a)] (.ref a :: st) h := je_aload_n (r := some a) D132_37 rfl rfl
theorem E132_37r {call : jv_F} {l0 l1 l2 : Option Value} {r : Option Nat} {st : List Value} {h : jv_H} : jv_ev call 132 37 [l0, l1, l2, some (va_rf r)] st h = jv_ev call 132 38 [l0, l1, l2, some (va_rf r)] (va_rf r :: st) h := je_aload_n (r := r) D132_37 rfl rfl
theorem D132_38 : decode (jt_code 132) 38 = .ok (.iload_n 2, 1) := by decide +kernel
theorem E132_38 {call : jv_F} {l0 l1 l3 : Option Value} {x : Int32} {st : List Value} {h : jv_H} : jv_ev call 132 38 [l0, l1, some (.int x), l3] st h = jv_ev call 132 39 [l0, l1, some (.int x), l3] (.int x :: st) h := je_iload_n D132_38 rfl rfl
theorem D132_39 : decode (jt_code 132) 39 = .ok (.invokevirtual 131, 3) := by decide +kernel
theorem E132_39 {call : jv_F} {l0 l1 l2 l3 : Option Value} {b : Nat} {v0 : Value}  {st : List Value} {h : jv_H} (hw : jv_wide st = true) (hcl : jv_cl h b = some 4) (hc : (call 99 [.ref b, v0] h).isSome = true) : jv_ev call 132 39 [l0, l1, l2, l3] (v0 :: .ref b :: st) h = jv_ev call 132 42 [l0, l1, l2, l3] ((((call 99 [.ref b, v0] h).getD (none, h)).1).toList ++ st) ((call 99 [.ref b, v0] h).getD (none, h)).2 := by
  obtain ⟨⟨r, h'⟩, hv⟩ := Option.isSome_iff_exists.mp hc
  rw [hv]
  exact je_virt (y := 99) (as := [v0]) D132_39 rfl (by decide) (by decide) rfl hcl hw hv
theorem D132_42 : decode (jt_code 132) 42 = .ok (.i2l, 1) := by decide +kernel
theorem E132_42 {call : jv_F} {l0 l1 l2 l3 : Option Value} {x : Int32} {st : List Value} {h : jv_H} : jv_ev call 132 42 [l0, l1, l2, l3] (.int x :: st) h = jv_ev call 132 43 [l0, l1, l2, l3] (.long x.toInt64 :: st) h := je_i2l D132_42 rfl
theorem D132_43 : decode (jt_code 132) 43 = .ok (.lreturn, 1) := by decide +kernel
theorem E132_43 {call : jv_F} {l0 l1 l2 l3 : Option Value} {v : Int64} {h : jv_H} : jv_ev call 132 43 [l0, l1, l2, l3] [.long v] h = some (some (.long v), h) := je_lret D132_43 rfl
/-! method 133: DrumMachine.word -/
theorem N133 {d : Nat} {b : Nat} {a0 : Int32} {a1 : Int32} {h : jv_H} : jv_run (d + 1) 133 [.ref b, .int a0, .int a1] h = jv_ev (jv_run d) 133 0 [some (.ref b), some (.int a0), some (.int a1), none] [] h := jv_run_eq (Nat.le_of_ble_eq_true rfl) rfl
theorem D133_0 : decode (jt_code 133) 0 = .ok (.aload_n 0, 1) := by decide +kernel
theorem E133_0 {call : jv_F} {l1 l2 l3 : Option Value} {a : Nat} {st : List Value} {h : jv_H} : jv_ev call 133 0 [some (.ref a), l1, l2, l3] st h = jv_ev call 133 1 [some (.ref a), l1, l2, l3] (.ref a :: st) h := je_aload_n (r := some a) D133_0 rfl rfl
theorem D133_1 : decode (jt_code 133) 1 = .ok (.iload_n 1, 1) := by decide +kernel
theorem E133_1 {call : jv_F} {l0 l2 l3 : Option Value} {x : Int32} {st : List Value} {h : jv_H} : jv_ev call 133 1 [l0, some (.int x), l2, l3] st h = jv_ev call 133 2 [l0, some (.int x), l2, l3] (.int x :: st) h := je_iload_n D133_1 rfl rfl
theorem D133_2 : decode (jt_code 133) 2 = .ok (.invokevirtual 109, 3) := by decide +kernel
theorem E133_2 {call : jv_F} {l0 l1 l2 l3 : Option Value} {b : Nat} {v0 : Value}  {st : List Value} {h : jv_H} (hw : jv_wide st = true) (hcl : jv_cl h b = some 6) (hc : (call 139 [.ref b, v0] h).isSome = true) : jv_ev call 133 2 [l0, l1, l2, l3] (v0 :: .ref b :: st) h = jv_ev call 133 5 [l0, l1, l2, l3] ((((call 139 [.ref b, v0] h).getD (none, h)).1).toList ++ st) ((call 139 [.ref b, v0] h).getD (none, h)).2 := by
  obtain ⟨⟨r, h'⟩, hv⟩ := Option.isSome_iff_exists.mp hc
  rw [hv]
  exact je_virt (y := 139) (as := [v0]) D133_2 rfl (by decide) (by decide) rfl hcl hw hv
theorem D133_5 : decode (jt_code 133) 5 = .ok (.astore_n 3, 1) := by decide +kernel
theorem E133_5 {call : jv_F} {l0 l1 l2 l3 : Option Value} {a : Nat} {st : List Value} {h : jv_H} (hk : ¬ jv_is2 (some l2) = true) : jv_ev call 133 5 [l0, l1, l2, l3] (.ref a :: st) h = jv_ev call 133 6 [l0, l1, l2, some (.ref a)] st h := je_astore_n (r := some a) D133_5 rfl (Nat.le_of_ble_eq_true rfl) (by show jv_st1 _ 3 _ = _; simp only [jv_st1, jv_kill, List.getElem?_cons_succ, List.getElem?_cons_zero, hk, if_false]; rfl)
theorem E133_5r {call : jv_F} {l0 l1 l2 l3 : Option Value} {r : Option Nat} {st : List Value} {h : jv_H} (hk : ¬ jv_is2 (some l2) = true) : jv_ev call 133 5 [l0, l1, l2, l3] (va_rf r :: st) h = jv_ev call 133 6 [l0, l1, l2, some (va_rf r)] st h := je_astore_n (r := r) D133_5 rfl (Nat.le_of_ble_eq_true rfl) (by show jv_st1 _ 3 _ = _; simp only [jv_st1, jv_kill, List.getElem?_cons_succ, List.getElem?_cons_zero, hk, if_false]; rfl)
theorem D133_6 : decode (jt_code 133) 6 = .ok (.aload_n 3, 1) := by decide +kernel
theorem E133_6 {call : jv_F} {l0 l1 l2 : Option Value} {a : Nat} {st : List Value} {h : jv_H} : jv_ev call 133 6 [l0, l1, l2, some (.ref a)] st h = jv_ev call 133 7 [l0, l1, l2, some (.ref a)] (.ref a :: st) h := je_aload_n (r := some a) D133_6 rfl rfl
theorem E133_6r {call : jv_F} {l0 l1 l2 : Option Value} {r : Option Nat} {st : List Value} {h : jv_H} : jv_ev call 133 6 [l0, l1, l2, some (va_rf r)] st h = jv_ev call 133 7 [l0, l1, l2, some (va_rf r)] (va_rf r :: st) h := je_aload_n (r := r) D133_6 rfl rfl
theorem D133_7 : decode (jt_code 133) 7 = .ok (.ifnull 10, 3) := by decide +kernel
theorem E133_7r {call : jv_F} {l0 l1 l2 l3 : Option Value} {x : Option Nat} {st : List Value} {h : jv_H} : jv_ev call 133 7 [l0, l1, l2, l3] (va_rf x :: st) h = if x = none then jv_ev call 133 17 [l0, l1, l2, l3] st h else jv_ev call 133 10 [l0, l1, l2, l3] st h := je_ifnull D133_7 (by decide) rfl
theorem E133_7 {call : jv_F} {l0 l1 l2 l3 : Option Value} {x : Nat} {st : List Value} {h : jv_H} : jv_ev call 133 7 [l0, l1, l2, l3] (.ref x :: st) h = jv_ev call 133 10 [l0, l1, l2, l3] st h := (je_ifnull (x := some x) (t := 17) D133_7 (by decide) rfl).trans (if_neg (by simp))
theorem D133_10 : decode (jt_code 133) 10 = .ok (.aload_n 3, 1) := by decide +kernel
theorem E133_10 {call : jv_F} {l0 l1 l2 : Option Value} {a : Nat} {st : List Value} {h : jv_H} : jv_ev call 133 10 [l0, l1, l2, some (.ref a)] st h = jv_ev call 133 11 [l0, l1, l2, some (.ref a)] (.ref a :: st) h := je_aload_n (r := some a) D133_10 rfl rfl
theorem E133_10r {call : jv_F} {l0 l1 l2 : Option Value} {r : Option Nat} {st : List Value} {h : jv_H} : jv_ev call 133 10 [l0, l1, l2, some (va_rf r)] st h = jv_ev call 133 11 [l0, l1, l2, some (va_rf r)] (va_rf r :: st) h := je_aload_n (r := r) D133_10 rfl rfl
theorem D133_11 : decode (jt_code 133) 11 = .ok (.getfield 113, 3) := by decide +kernel
theorem E133_11 {call : jv_F} {l0 l1 l2 l3 : Option Value} {a : Nat} {st : List Value} {h : jv_H} (hs : (jv_gf h a 4 12).isSome = true) : jv_ev call 133 11 [l0, l1, l2, l3] (.ref a :: st) h = jv_ev call 133 14 [l0, l1, l2, l3] ((jv_gf h a 4 12).getD .null :: st) h := by
  obtain ⟨v, hv⟩ := Option.isSome_iff_exists.mp hs
  rw [hv]
  exact je_get D133_11 rfl (by decide) hv
theorem D133_14 : decode (jt_code 133) 14 = .ok (.ifCond .eq 7, 3) := by decide +kernel
theorem E133_14 {call : jv_F} {l0 l1 l2 l3 : Option Value} {x : Int32} {st : List Value} {h : jv_H} : jv_ev call 133 14 [l0, l1, l2, l3] (.int x :: st) h = if x = 0 then jv_ev call 133 21 [l0, l1, l2, l3] st h else jv_ev call 133 17 [l0, l1, l2, l3] st h := je_ifc D133_14 (by decide) rfl rfl
theorem D133_17 : decode (jt_code 133) 17 = .ok (.lconst 0, 1) := by decide +kernel
theorem E133_17 {call : jv_F} {l0 l1 l2 l3 : Option Value}  {st : List Value} {h : jv_H} : jv_ev call 133 17 [l0, l1, l2, l3] st h = jv_ev call 133 18 [l0, l1, l2, l3] (.long 0 :: st) h := je_lconst D133_17 rfl (by decide)
theorem D133_18 : decode (jt_code 133) 18 = .ok (.goto 8, 3) := by decide +kernel
theorem E133_18 {call : jv_F} {l0 l1 l2 l3 : Option Value}  {st : List Value} {h : jv_H} : jv_ev call 133 18 [l0, l1, l2, l3] st h = jv_ev call 133 26 [l0, l1, l2, l3] st h := je_goto D133_18 (by decide)
theorem D133_21 : decode (jt_code 133) 21 = .ok (.aload_n 3, 1) := by decide +kernel
theorem E133_21 {call : jv_F} {l0 l1 l2 : Option Value} {a : Nat} {st : List Value} {h : jv_H} : jv_ev call 133 21 [l0, l1, l2, some (.ref a)] st h = jv_ev call 133 22 [l0, l1, l2, some (.ref a)] (.ref a :: st) h := je_aload_n (r := some a) D133_21 rfl rfl
theorem E133_21r {call : jv_F} {l0 l1 l2 : Option Value} {r : Option Nat} {st : List Value} {h : jv_H} : jv_ev call 133 21 [l0, l1, l2, some (va_rf r)] st h = jv_ev call 133 22 [l0, l1, l2, some (va_rf r)] (va_rf r :: st) h := je_aload_n (r := r) D133_21 rfl rfl
theorem D133_22 : decode (jt_code 133) 22 = .ok (.iload_n 2, 1) := by decide +kernel
theorem E133_22 {call : jv_F} {l0 l1 l3 : Option Value} {x : Int32} {st : List Value} {h : jv_H} : jv_ev call 133 22 [l0, l1, some (.int x), l3] st h = jv_ev call 133 23 [l0, l1, some (.int x), l3] (.int x :: st) h := je_iload_n D133_22 rfl rfl
theorem D133_23 : decode (jt_code 133) 23 = .ok (.invokevirtual 134, 3) := by decide +kernel
theorem E133_23 {call : jv_F} {l0 l1 l2 l3 : Option Value} {b : Nat} {v0 : Value}  {st : List Value} {h : jv_H} (hw : jv_wide st = true) (hcl : jv_cl h b = some 4) (hc : (call 97 [.ref b, v0] h).isSome = true) : jv_ev call 133 23 [l0, l1, l2, l3] (v0 :: .ref b :: st) h = jv_ev call 133 26 [l0, l1, l2, l3] ((((call 97 [.ref b, v0] h).getD (none, h)).1).toList ++ st) ((call 97 [.ref b, v0] h).getD (none, h)).2 := by
  obtain ⟨⟨r, h'⟩, hv⟩ := Option.isSome_iff_exists.mp hc
  rw [hv]
  exact je_virt (y := 97) (as := [v0]) D133_23 rfl (by decide) (by decide) rfl hcl hw hv
theorem D133_26 : decode (jt_code 133) 26 = .ok (.lreturn, 1) := by decide +kernel
theorem E133_26 {call : jv_F} {l0 l1 l2 l3 : Option Value} {v : Int64} {h : jv_H} : jv_ev call 133 26 [l0, l1, l2, l3] [.long v] h = some (some (.long v), h) := je_lret D133_26 rfl
/-! method 134: DrumMachine.clock -/
theorem N134 {d : Nat} {b : Nat} {h : jv_H} : jv_run (d + 1) 134 [.ref b] h = jv_ev (jv_run d) 134 0 [some (.ref b)] [] h := jv_run_eq (Nat.le_of_ble_eq_true rfl) rfl
theorem D134_0 : decode (jt_code 134) 0 = .ok (.aload_n 0, 1) := by decide +kernel
theorem E134_0 {call : jv_F} {a : Nat} {st : List Value} {h : jv_H} : jv_ev call 134 0 [some (.ref a)] st h = jv_ev call 134 1 [some (.ref a)] (.ref a :: st) h := je_aload_n (r := some a) D134_0 rfl rfl
theorem D134_1 : decode (jt_code 134) 1 = .ok (.getfield 49, 3) := by decide +kernel
theorem E134_1 {call : jv_F} {l0 : Option Value} {a : Nat} {st : List Value} {h : jv_H} (hs : (jv_gf h a 6 8).isSome = true) : jv_ev call 134 1 [l0] (.ref a :: st) h = jv_ev call 134 4 [l0] ((jv_gf h a 6 8).getD .null :: st) h := by
  obtain ⟨v, hv⟩ := Option.isSome_iff_exists.mp hs
  rw [hv]
  exact je_get D134_1 rfl (by decide) hv
theorem D134_4 : decode (jt_code 134) 4 = .ok (.ireturn, 1) := by decide +kernel
theorem E134_4 {call : jv_F} {l0 : Option Value} {v : Int32} {h : jv_H} : jv_ev call 134 4 [l0] [.int v] h = some (some (.int v), h) := je_iret (ty := .int) D134_4 rfl rfl rfl
/-! method 135: DrumMachine.told -/
theorem N135 {d : Nat} {b : Nat} {a0 : Int32} {h : jv_H} : jv_run (d + 1) 135 [.ref b, .int a0] h = jv_ev (jv_run d) 135 0 [some (.ref b), some (.int a0)] [] h := jv_run_eq (Nat.le_of_ble_eq_true rfl) rfl
theorem D135_0 : decode (jt_code 135) 0 = .ok (.iload_n 1, 1) := by decide +kernel
theorem E135_0 {call : jv_F} {l0 : Option Value} {x : Int32} {st : List Value} {h : jv_H} : jv_ev call 135 0 [l0, some (.int x)] st h = jv_ev call 135 1 [l0, some (.int x)] (.int x :: st) h := je_iload_n D135_0 rfl rfl
theorem D135_1 : decode (jt_code 135) 1 = .ok (.tableswitch 106 0 7 #[47, 55, 63, 68, 73, 81, 86, 101], 47) := by decide +kernel
theorem E135_1 {call : jv_F} {l0 l1 : Option Value} {x : Int32} {st : List Value} {h : jv_H} : jv_ev call 135 1 [l0, l1] (.int x :: st) h = if x = (nI 0) then jv_ev call 135 48 [l0, l1] st h else (if x = (nI 1) then jv_ev call 135 56 [l0, l1] st h else (if x = (nI 2) then jv_ev call 135 64 [l0, l1] st h else (if x = (nI 3) then jv_ev call 135 69 [l0, l1] st h else (if x = (nI 4) then jv_ev call 135 74 [l0, l1] st h else (if x = (nI 5) then jv_ev call 135 82 [l0, l1] st h else (if x = (nI 6) then jv_ev call 135 87 [l0, l1] st h else (if x = (nI 7) then jv_ev call 135 102 [l0, l1] st h else (jv_ev call 135 107 [l0, l1] st h)))))))) := by
  by_cases h0 : x = nI 0
  · subst h0
    exact je_next D135_1 rfl
  by_cases h1 : x = nI 1
  · subst h1
    exact je_next D135_1 rfl
  by_cases h2 : x = nI 2
  · subst h2
    exact je_next D135_1 rfl
  by_cases h3 : x = nI 3
  · subst h3
    exact je_next D135_1 rfl
  by_cases h4 : x = nI 4
  · subst h4
    exact je_next D135_1 rfl
  by_cases h5 : x = nI 5
  · subst h5
    exact je_next D135_1 rfl
  by_cases h6 : x = nI 6
  · subst h6
    exact je_next D135_1 rfl
  by_cases h7 : x = nI 7
  · subst h7
    exact je_next D135_1 rfl
  rw [if_neg h0]
  rw [if_neg h1]
  rw [if_neg h2]
  rw [if_neg h3]
  rw [if_neg h4]
  rw [if_neg h5]
  rw [if_neg h6]
  rw [if_neg h7]
  refine je_next D135_1 ?_
  simp only [jv_ins]
  rw [if_pos (show x.toInt < 0 ∨ 7 < x.toInt from jv_tab (lo := 0) (hi := 7) (fun k hk1 hk2 => by
    rcases (show k = 0 ∨ k = 1 ∨ k = 2 ∨ k = 3 ∨ k = 4 ∨ k = 5 ∨ k = 6 ∨ k = 7 by omega) with rfl | rfl | rfl | rfl | rfl | rfl | rfl | rfl
    · exact h0
    · exact h1
    · exact h2
    · exact h3
    · exact h4
    · exact h5
    · exact h6
    · exact h7) (by decide))]
  exact jv_go_eq (by decide)
theorem D135_48 : decode (jt_code 135) 48 = .ok (.aload_n 0, 1) := by decide +kernel
theorem E135_48 {call : jv_F} {l1 : Option Value} {a : Nat} {st : List Value} {h : jv_H} : jv_ev call 135 48 [some (.ref a), l1] st h = jv_ev call 135 49 [some (.ref a), l1] (.ref a :: st) h := je_aload_n (r := some a) D135_48 rfl rfl
theorem D135_49 : decode (jt_code 135) 49 = .ok (.getfield 26, 3) := by decide +kernel
theorem E135_49 {call : jv_F} {l0 l1 : Option Value} {a : Nat} {st : List Value} {h : jv_H} (hs : (jv_gf h a 6 2).isSome = true) : jv_ev call 135 49 [l0, l1] (.ref a :: st) h = jv_ev call 135 52 [l0, l1] ((jv_gf h a 6 2).getD .null :: st) h := by
  obtain ⟨v, hv⟩ := Option.isSome_iff_exists.mp hs
  rw [hv]
  exact je_get D135_49 rfl (by decide) hv
theorem D135_52 : decode (jt_code 135) 52 = .ok (.getfield 137, 3) := by decide +kernel
theorem E135_52 {call : jv_F} {l0 l1 : Option Value} {a : Nat} {st : List Value} {h : jv_H} (hs : (jv_gf h a 3 6).isSome = true) : jv_ev call 135 52 [l0, l1] (.ref a :: st) h = jv_ev call 135 55 [l0, l1] ((jv_gf h a 3 6).getD .null :: st) h := by
  obtain ⟨v, hv⟩ := Option.isSome_iff_exists.mp hs
  rw [hv]
  exact je_get D135_52 rfl (by decide) hv
theorem D135_55 : decode (jt_code 135) 55 = .ok (.ireturn, 1) := by decide +kernel
theorem E135_55 {call : jv_F} {l0 l1 : Option Value} {v : Int32} {h : jv_H} : jv_ev call 135 55 [l0, l1] [.int v] h = some (some (.int v), h) := je_iret (ty := .int) D135_55 rfl rfl rfl
theorem D135_56 : decode (jt_code 135) 56 = .ok (.aload_n 0, 1) := by decide +kernel
theorem E135_56 {call : jv_F} {l1 : Option Value} {a : Nat} {st : List Value} {h : jv_H} : jv_ev call 135 56 [some (.ref a), l1] st h = jv_ev call 135 57 [some (.ref a), l1] (.ref a :: st) h := je_aload_n (r := some a) D135_56 rfl rfl
theorem D135_57 : decode (jt_code 135) 57 = .ok (.getfield 26, 3) := by decide +kernel
theorem E135_57 {call : jv_F} {l0 l1 : Option Value} {a : Nat} {st : List Value} {h : jv_H} (hs : (jv_gf h a 6 2).isSome = true) : jv_ev call 135 57 [l0, l1] (.ref a :: st) h = jv_ev call 135 60 [l0, l1] ((jv_gf h a 6 2).getD .null :: st) h := by
  obtain ⟨v, hv⟩ := Option.isSome_iff_exists.mp hs
  rw [hv]
  exact je_get D135_57 rfl (by decide) hv
theorem D135_60 : decode (jt_code 135) 60 = .ok (.getfield 140, 3) := by decide +kernel
theorem E135_60 {call : jv_F} {l0 l1 : Option Value} {a : Nat} {st : List Value} {h : jv_H} (hs : (jv_gf h a 3 7).isSome = true) : jv_ev call 135 60 [l0, l1] (.ref a :: st) h = jv_ev call 135 63 [l0, l1] ((jv_gf h a 3 7).getD .null :: st) h := by
  obtain ⟨v, hv⟩ := Option.isSome_iff_exists.mp hs
  rw [hv]
  exact je_get D135_60 rfl (by decide) hv
theorem D135_63 : decode (jt_code 135) 63 = .ok (.ireturn, 1) := by decide +kernel
theorem E135_63 {call : jv_F} {l0 l1 : Option Value} {v : Int32} {h : jv_H} : jv_ev call 135 63 [l0, l1] [.int v] h = some (some (.int v), h) := je_iret (ty := .int) D135_63 rfl rfl rfl
theorem D135_64 : decode (jt_code 135) 64 = .ok (.aload_n 0, 1) := by decide +kernel
theorem E135_64 {call : jv_F} {l1 : Option Value} {a : Nat} {st : List Value} {h : jv_H} : jv_ev call 135 64 [some (.ref a), l1] st h = jv_ev call 135 65 [some (.ref a), l1] (.ref a :: st) h := je_aload_n (r := some a) D135_64 rfl rfl
theorem D135_65 : decode (jt_code 135) 65 = .ok (.getfield 52, 3) := by decide +kernel
theorem E135_65 {call : jv_F} {l0 l1 : Option Value} {a : Nat} {st : List Value} {h : jv_H} (hs : (jv_gf h a 6 9).isSome = true) : jv_ev call 135 65 [l0, l1] (.ref a :: st) h = jv_ev call 135 68 [l0, l1] ((jv_gf h a 6 9).getD .null :: st) h := by
  obtain ⟨v, hv⟩ := Option.isSome_iff_exists.mp hs
  rw [hv]
  exact je_get D135_65 rfl (by decide) hv
theorem D135_68 : decode (jt_code 135) 68 = .ok (.ireturn, 1) := by decide +kernel
theorem E135_68 {call : jv_F} {l0 l1 : Option Value} {v : Int32} {h : jv_H} : jv_ev call 135 68 [l0, l1] [.int v] h = some (some (.int v), h) := je_iret (ty := .int) D135_68 rfl rfl rfl
theorem D135_69 : decode (jt_code 135) 69 = .ok (.aload_n 0, 1) := by decide +kernel
theorem E135_69 {call : jv_F} {l1 : Option Value} {a : Nat} {st : List Value} {h : jv_H} : jv_ev call 135 69 [some (.ref a), l1] st h = jv_ev call 135 70 [some (.ref a), l1] (.ref a :: st) h := je_aload_n (r := some a) D135_69 rfl rfl
theorem D135_70 : decode (jt_code 135) 70 = .ok (.getfield 55, 3) := by decide +kernel
theorem E135_70 {call : jv_F} {l0 l1 : Option Value} {a : Nat} {st : List Value} {h : jv_H} (hs : (jv_gf h a 6 10).isSome = true) : jv_ev call 135 70 [l0, l1] (.ref a :: st) h = jv_ev call 135 73 [l0, l1] ((jv_gf h a 6 10).getD .null :: st) h := by
  obtain ⟨v, hv⟩ := Option.isSome_iff_exists.mp hs
  rw [hv]
  exact je_get D135_70 rfl (by decide) hv
theorem D135_73 : decode (jt_code 135) 73 = .ok (.ireturn, 1) := by decide +kernel
theorem E135_73 {call : jv_F} {l0 l1 : Option Value} {v : Int32} {h : jv_H} : jv_ev call 135 73 [l0, l1] [.int v] h = some (some (.int v), h) := je_iret (ty := .int) D135_73 rfl rfl rfl
theorem D135_74 : decode (jt_code 135) 74 = .ok (.aload_n 0, 1) := by decide +kernel
theorem E135_74 {call : jv_F} {l1 : Option Value} {a : Nat} {st : List Value} {h : jv_H} : jv_ev call 135 74 [some (.ref a), l1] st h = jv_ev call 135 75 [some (.ref a), l1] (.ref a :: st) h := je_aload_n (r := some a) D135_74 rfl rfl
theorem D135_75 : decode (jt_code 135) 75 = .ok (.getfield 19, 3) := by decide +kernel
theorem E135_75 {call : jv_F} {l0 l1 : Option Value} {a : Nat} {st : List Value} {h : jv_H} (hs : (jv_gf h a 6 1).isSome = true) : jv_ev call 135 75 [l0, l1] (.ref a :: st) h = jv_ev call 135 78 [l0, l1] ((jv_gf h a 6 1).getD .null :: st) h := by
  obtain ⟨v, hv⟩ := Option.isSome_iff_exists.mp hs
  rw [hv]
  exact je_get D135_75 rfl (by decide) hv
theorem D135_78 : decode (jt_code 135) 78 = .ok (.getfield 143, 3) := by decide +kernel
theorem E135_78 {call : jv_F} {l0 l1 : Option Value} {a : Nat} {st : List Value} {h : jv_H} (hs : (jv_gf h a 2 3).isSome = true) : jv_ev call 135 78 [l0, l1] (.ref a :: st) h = jv_ev call 135 81 [l0, l1] ((jv_gf h a 2 3).getD .null :: st) h := by
  obtain ⟨v, hv⟩ := Option.isSome_iff_exists.mp hs
  rw [hv]
  exact je_get D135_78 rfl (by decide) hv
theorem D135_81 : decode (jt_code 135) 81 = .ok (.ireturn, 1) := by decide +kernel
theorem E135_81 {call : jv_F} {l0 l1 : Option Value} {v : Int32} {h : jv_H} : jv_ev call 135 81 [l0, l1] [.int v] h = some (some (.int v), h) := je_iret (ty := .int) D135_81 rfl rfl rfl
theorem D135_82 : decode (jt_code 135) 82 = .ok (.aload_n 0, 1) := by decide +kernel
theorem E135_82 {call : jv_F} {l1 : Option Value} {a : Nat} {st : List Value} {h : jv_H} : jv_ev call 135 82 [some (.ref a), l1] st h = jv_ev call 135 83 [some (.ref a), l1] (.ref a :: st) h := je_aload_n (r := some a) D135_82 rfl rfl
theorem D135_83 : decode (jt_code 135) 83 = .ok (.getfield 43, 3) := by decide +kernel
theorem E135_83 {call : jv_F} {l0 l1 : Option Value} {a : Nat} {st : List Value} {h : jv_H} (hs : (jv_gf h a 6 6).isSome = true) : jv_ev call 135 83 [l0, l1] (.ref a :: st) h = jv_ev call 135 86 [l0, l1] ((jv_gf h a 6 6).getD .null :: st) h := by
  obtain ⟨v, hv⟩ := Option.isSome_iff_exists.mp hs
  rw [hv]
  exact je_get D135_83 rfl (by decide) hv
theorem D135_86 : decode (jt_code 135) 86 = .ok (.ireturn, 1) := by decide +kernel
theorem E135_86 {call : jv_F} {l0 l1 : Option Value} {v : Int32} {h : jv_H} : jv_ev call 135 86 [l0, l1] [.int v] h = some (some (.int v), h) := je_iret (ty := .int) D135_86 rfl rfl rfl
theorem D135_87 : decode (jt_code 135) 87 = .ok (.aload_n 0, 1) := by decide +kernel
theorem E135_87 {call : jv_F} {l1 : Option Value} {a : Nat} {st : List Value} {h : jv_H} : jv_ev call 135 87 [some (.ref a), l1] st h = jv_ev call 135 88 [some (.ref a), l1] (.ref a :: st) h := je_aload_n (r := some a) D135_87 rfl rfl
theorem D135_88 : decode (jt_code 135) 88 = .ok (.getfield 40, 3) := by decide +kernel
theorem E135_88 {call : jv_F} {l0 l1 : Option Value} {a : Nat} {st : List Value} {h : jv_H} (hs : (jv_gf h a 6 5).isSome = true) : jv_ev call 135 88 [l0, l1] (.ref a :: st) h = jv_ev call 135 91 [l0, l1] ((jv_gf h a 6 5).getD .null :: st) h := by
  obtain ⟨v, hv⟩ := Option.isSome_iff_exists.mp hs
  rw [hv]
  exact je_get D135_88 rfl (by decide) hv
theorem D135_91 : decode (jt_code 135) 91 = .ok (.aload_n 0, 1) := by decide +kernel
theorem E135_91 {call : jv_F} {l1 : Option Value} {a : Nat} {st : List Value} {h : jv_H} : jv_ev call 135 91 [some (.ref a), l1] st h = jv_ev call 135 92 [some (.ref a), l1] (.ref a :: st) h := je_aload_n (r := some a) D135_91 rfl rfl
theorem D135_92 : decode (jt_code 135) 92 = .ok (.getfield 19, 3) := by decide +kernel
theorem E135_92 {call : jv_F} {l0 l1 : Option Value} {a : Nat} {st : List Value} {h : jv_H} (hs : (jv_gf h a 6 1).isSome = true) : jv_ev call 135 92 [l0, l1] (.ref a :: st) h = jv_ev call 135 95 [l0, l1] ((jv_gf h a 6 1).getD .null :: st) h := by
  obtain ⟨v, hv⟩ := Option.isSome_iff_exists.mp hs
  rw [hv]
  exact je_get D135_92 rfl (by decide) hv
theorem D135_95 : decode (jt_code 135) 95 = .ok (.invokevirtual 146, 3) := by decide +kernel
theorem E135_95 {call : jv_F} {l0 l1 : Option Value} {b : Nat}  {st : List Value} {h : jv_H} (hw : jv_wide st = true) (hcl : jv_cl h b = some 2) (hc : (call 68 [.ref b] h).isSome = true) : jv_ev call 135 95 [l0, l1] (.ref b :: st) h = jv_ev call 135 98 [l0, l1] ((((call 68 [.ref b] h).getD (none, h)).1).toList ++ st) ((call 68 [.ref b] h).getD (none, h)).2 := by
  obtain ⟨⟨r, h'⟩, hv⟩ := Option.isSome_iff_exists.mp hc
  rw [hv]
  exact je_virt (y := 68) (as := []) D135_95 rfl (by decide) (by decide) rfl hcl hw hv
theorem D135_98 : decode (jt_code 135) 98 = .ok (.invokestatic 150, 3) := by decide +kernel
theorem E135_98 {call : jv_F} {l0 l1 : Option Value} {v0 v1 : Value}  {st : List Value} {h : jv_H} (hw : jv_wide st = true) (hc : (call 157 [v0, v1] h).isSome = true) : jv_ev call 135 98 [l0, l1] (v1 :: v0 :: st) h = jv_ev call 135 101 [l0, l1] ((((call 157 [v0, v1] h).getD (none, h)).1).toList ++ st) ((call 157 [v0, v1] h).getD (none, h)).2 := by
  obtain ⟨⟨r, h'⟩, hv⟩ := Option.isSome_iff_exists.mp hc
  rw [hv]
  exact je_stat (y := 157) (as := [v0, v1]) D135_98 rfl (by decide) (by decide) rfl hw hv
theorem D135_101 : decode (jt_code 135) 101 = .ok (.ireturn, 1) := by decide +kernel
theorem E135_101 {call : jv_F} {l0 l1 : Option Value} {v : Int32} {h : jv_H} : jv_ev call 135 101 [l0, l1] [.int v] h = some (some (.int v), h) := je_iret (ty := .int) D135_101 rfl rfl rfl
theorem D135_102 : decode (jt_code 135) 102 = .ok (.aload_n 0, 1) := by decide +kernel
theorem E135_102 {call : jv_F} {l1 : Option Value} {a : Nat} {st : List Value} {h : jv_H} : jv_ev call 135 102 [some (.ref a), l1] st h = jv_ev call 135 103 [some (.ref a), l1] (.ref a :: st) h := je_aload_n (r := some a) D135_102 rfl rfl
theorem D135_103 : decode (jt_code 135) 103 = .ok (.getfield 46, 3) := by decide +kernel
theorem E135_103 {call : jv_F} {l0 l1 : Option Value} {a : Nat} {st : List Value} {h : jv_H} (hs : (jv_gf h a 6 7).isSome = true) : jv_ev call 135 103 [l0, l1] (.ref a :: st) h = jv_ev call 135 106 [l0, l1] ((jv_gf h a 6 7).getD .null :: st) h := by
  obtain ⟨v, hv⟩ := Option.isSome_iff_exists.mp hs
  rw [hv]
  exact je_get D135_103 rfl (by decide) hv
theorem D135_106 : decode (jt_code 135) 106 = .ok (.ireturn, 1) := by decide +kernel
theorem E135_106 {call : jv_F} {l0 l1 : Option Value} {v : Int32} {h : jv_H} : jv_ev call 135 106 [l0, l1] [.int v] h = some (some (.int v), h) := je_iret (ty := .int) D135_106 rfl rfl rfl
theorem D135_107 : decode (jt_code 135) 107 = .ok (.iconst 0, 1) := by decide +kernel
theorem E135_107 {call : jv_F} {l0 l1 : Option Value}  {st : List Value} {h : jv_H} : jv_ev call 135 107 [l0, l1] st h = jv_ev call 135 108 [l0, l1] (.int (nI 0) :: st) h := je_iconst D135_107 rfl (by decide)
theorem D135_108 : decode (jt_code 135) 108 = .ok (.ireturn, 1) := by decide +kernel
theorem E135_108 {call : jv_F} {l0 l1 : Option Value} {v : Int32} {h : jv_H} : jv_ev call 135 108 [l0, l1] [.int v] h = some (some (.int v), h) := je_iret (ty := .int) D135_108 rfl rfl rfl
/-! method 136: DrumMachine.frame -/
theorem N136 {d : Nat} {b : Nat} {a0 : Int32} {a1 : Int32} {h : jv_H} : jv_run (d + 1) 136 [.ref b, .int a0, .int a1] h = jv_ev (jv_run d) 136 0 [some (.ref b), some (.int a0), some (.int a1), none] [] h := jv_run_eq (Nat.le_of_ble_eq_true rfl) rfl
theorem D136_0 : decode (jt_code 136) 0 = .ok (.iload_n 1, 1) := by decide +kernel
theorem E136_0 {call : jv_F} {l0 l2 l3 : Option Value} {x : Int32} {st : List Value} {h : jv_H} : jv_ev call 136 0 [l0, some (.int x), l2, l3] st h = jv_ev call 136 1 [l0, some (.int x), l2, l3] (.int x :: st) h := je_iload_n D136_0 rfl rfl
theorem D136_1 : decode (jt_code 136) 1 = .ok (.ifCond .lt 23, 3) := by decide +kernel
theorem E136_1 {call : jv_F} {l0 l1 l2 l3 : Option Value} {x : Int32} {st : List Value} {h : jv_H} : jv_ev call 136 1 [l0, l1, l2, l3] (.int x :: st) h = if x < 0 then jv_ev call 136 24 [l0, l1, l2, l3] st h else jv_ev call 136 4 [l0, l1, l2, l3] st h := je_ifc D136_1 (by decide) rfl rfl
theorem D136_4 : decode (jt_code 136) 4 = .ok (.iload_n 1, 1) := by decide +kernel
theorem E136_4 {call : jv_F} {l0 l2 l3 : Option Value} {x : Int32} {st : List Value} {h : jv_H} : jv_ev call 136 4 [l0, some (.int x), l2, l3] st h = jv_ev call 136 5 [l0, some (.int x), l2, l3] (.int x :: st) h := je_iload_n D136_4 rfl rfl
theorem D136_5 : decode (jt_code 136) 5 = .ok (.aload_n 0, 1) := by decide +kernel
theorem E136_5 {call : jv_F} {l1 l2 l3 : Option Value} {a : Nat} {st : List Value} {h : jv_H} : jv_ev call 136 5 [some (.ref a), l1, l2, l3] st h = jv_ev call 136 6 [some (.ref a), l1, l2, l3] (.ref a :: st) h := je_aload_n (r := some a) D136_5 rfl rfl
theorem D136_6 : decode (jt_code 136) 6 = .ok (.getfield 19, 3) := by decide +kernel
theorem E136_6 {call : jv_F} {l0 l1 l2 l3 : Option Value} {a : Nat} {st : List Value} {h : jv_H} (hs : (jv_gf h a 6 1).isSome = true) : jv_ev call 136 6 [l0, l1, l2, l3] (.ref a :: st) h = jv_ev call 136 9 [l0, l1, l2, l3] ((jv_gf h a 6 1).getD .null :: st) h := by
  obtain ⟨v, hv⟩ := Option.isSome_iff_exists.mp hs
  rw [hv]
  exact je_get D136_6 rfl (by decide) hv
theorem D136_9 : decode (jt_code 136) 9 = .ok (.getfield 156, 3) := by decide +kernel
theorem E136_9 {call : jv_F} {l0 l1 l2 l3 : Option Value} {a : Nat} {st : List Value} {h : jv_H} (hs : (jv_gf h a 2 1).isSome = true) : jv_ev call 136 9 [l0, l1, l2, l3] (.ref a :: st) h = jv_ev call 136 12 [l0, l1, l2, l3] ((jv_gf h a 2 1).getD .null :: st) h := by
  obtain ⟨v, hv⟩ := Option.isSome_iff_exists.mp hs
  rw [hv]
  exact je_get D136_9 rfl (by decide) hv
theorem D136_12 : decode (jt_code 136) 12 = .ok (.if_icmp .ge 12, 3) := by decide +kernel
theorem E136_12 {call : jv_F} {l0 l1 l2 l3 : Option Value} {x y : Int32} {st : List Value} {h : jv_H} : jv_ev call 136 12 [l0, l1, l2, l3] (.int y :: .int x :: st) h = if y ≤ x then jv_ev call 136 24 [l0, l1, l2, l3] st h else jv_ev call 136 15 [l0, l1, l2, l3] st h := je_icmp D136_12 (by decide) rfl rfl
theorem D136_15 : decode (jt_code 136) 15 = .ok (.iload_n 2, 1) := by decide +kernel
theorem E136_15 {call : jv_F} {l0 l1 l3 : Option Value} {x : Int32} {st : List Value} {h : jv_H} : jv_ev call 136 15 [l0, l1, some (.int x), l3] st h = jv_ev call 136 16 [l0, l1, some (.int x), l3] (.int x :: st) h := je_iload_n D136_15 rfl rfl
theorem D136_16 : decode (jt_code 136) 16 = .ok (.ifCond .lt 8, 3) := by decide +kernel
theorem E136_16 {call : jv_F} {l0 l1 l2 l3 : Option Value} {x : Int32} {st : List Value} {h : jv_H} : jv_ev call 136 16 [l0, l1, l2, l3] (.int x :: st) h = if x < 0 then jv_ev call 136 24 [l0, l1, l2, l3] st h else jv_ev call 136 19 [l0, l1, l2, l3] st h := je_ifc D136_16 (by decide) rfl rfl
theorem D136_19 : decode (jt_code 136) 19 = .ok (.iload_n 2, 1) := by decide +kernel
theorem E136_19 {call : jv_F} {l0 l1 l3 : Option Value} {x : Int32} {st : List Value} {h : jv_H} : jv_ev call 136 19 [l0, l1, some (.int x), l3] st h = jv_ev call 136 20 [l0, l1, some (.int x), l3] (.int x :: st) h := je_iload_n D136_19 rfl rfl
theorem D136_20 : decode (jt_code 136) 20 = .ok (.iconst 4, 1) := by decide +kernel
theorem E136_20 {call : jv_F} {l0 l1 l2 l3 : Option Value}  {st : List Value} {h : jv_H} : jv_ev call 136 20 [l0, l1, l2, l3] st h = jv_ev call 136 21 [l0, l1, l2, l3] (.int (nI 4) :: st) h := je_iconst D136_20 rfl (by decide)
theorem D136_21 : decode (jt_code 136) 21 = .ok (.if_icmp .le 5, 3) := by decide +kernel
theorem E136_21 {call : jv_F} {l0 l1 l2 l3 : Option Value} {x y : Int32} {st : List Value} {h : jv_H} : jv_ev call 136 21 [l0, l1, l2, l3] (.int y :: .int x :: st) h = if x ≤ y then jv_ev call 136 26 [l0, l1, l2, l3] st h else jv_ev call 136 24 [l0, l1, l2, l3] st h := je_icmp D136_21 (by decide) rfl rfl
theorem D136_24 : decode (jt_code 136) 24 = .ok (.iconst (-1), 1) := by decide +kernel
theorem E136_24 {call : jv_F} {l0 l1 l2 l3 : Option Value}  {st : List Value} {h : jv_H} : jv_ev call 136 24 [l0, l1, l2, l3] st h = jv_ev call 136 25 [l0, l1, l2, l3] (.int (-1) :: st) h := je_iconst D136_24 rfl (by decide)
theorem D136_25 : decode (jt_code 136) 25 = .ok (.ireturn, 1) := by decide +kernel
theorem E136_25 {call : jv_F} {l0 l1 l2 l3 : Option Value} {v : Int32} {h : jv_H} : jv_ev call 136 25 [l0, l1, l2, l3] [.int v] h = some (some (.int v), h) := je_iret (ty := .int) D136_25 rfl rfl rfl
theorem D136_26 : decode (jt_code 136) 26 = .ok (.aload_n 0, 1) := by decide +kernel
theorem E136_26 {call : jv_F} {l1 l2 l3 : Option Value} {a : Nat} {st : List Value} {h : jv_H} : jv_ev call 136 26 [some (.ref a), l1, l2, l3] st h = jv_ev call 136 27 [some (.ref a), l1, l2, l3] (.ref a :: st) h := je_aload_n (r := some a) D136_26 rfl rfl
theorem D136_27 : decode (jt_code 136) 27 = .ok (.getfield 19, 3) := by decide +kernel
theorem E136_27 {call : jv_F} {l0 l1 l2 l3 : Option Value} {a : Nat} {st : List Value} {h : jv_H} (hs : (jv_gf h a 6 1).isSome = true) : jv_ev call 136 27 [l0, l1, l2, l3] (.ref a :: st) h = jv_ev call 136 30 [l0, l1, l2, l3] ((jv_gf h a 6 1).getD .null :: st) h := by
  obtain ⟨v, hv⟩ := Option.isSome_iff_exists.mp hs
  rw [hv]
  exact je_get D136_27 rfl (by decide) hv
theorem D136_30 : decode (jt_code 136) 30 = .ok (.iload_n 1, 1) := by decide +kernel
theorem E136_30 {call : jv_F} {l0 l2 l3 : Option Value} {x : Int32} {st : List Value} {h : jv_H} : jv_ev call 136 30 [l0, some (.int x), l2, l3] st h = jv_ev call 136 31 [l0, some (.int x), l2, l3] (.int x :: st) h := je_iload_n D136_30 rfl rfl
theorem D136_31 : decode (jt_code 136) 31 = .ok (.invokevirtual 159, 3) := by decide +kernel
theorem E136_31 {call : jv_F} {l0 l1 l2 l3 : Option Value} {b : Nat} {v0 : Value}  {st : List Value} {h : jv_H} (hw : jv_wide st = true) (hcl : jv_cl h b = some 2) (hc : (call 69 [.ref b, v0] h).isSome = true) : jv_ev call 136 31 [l0, l1, l2, l3] (v0 :: .ref b :: st) h = jv_ev call 136 34 [l0, l1, l2, l3] ((((call 69 [.ref b, v0] h).getD (none, h)).1).toList ++ st) ((call 69 [.ref b, v0] h).getD (none, h)).2 := by
  obtain ⟨⟨r, h'⟩, hv⟩ := Option.isSome_iff_exists.mp hc
  rw [hv]
  exact je_virt (y := 69) (as := [v0]) D136_31 rfl (by decide) (by decide) rfl hcl hw hv
theorem D136_34 : decode (jt_code 136) 34 = .ok (.astore_n 3, 1) := by decide +kernel
theorem E136_34 {call : jv_F} {l0 l1 l2 l3 : Option Value} {a : Nat} {st : List Value} {h : jv_H} (hk : ¬ jv_is2 (some l2) = true) : jv_ev call 136 34 [l0, l1, l2, l3] (.ref a :: st) h = jv_ev call 136 35 [l0, l1, l2, some (.ref a)] st h := je_astore_n (r := some a) D136_34 rfl (Nat.le_of_ble_eq_true rfl) (by show jv_st1 _ 3 _ = _; simp only [jv_st1, jv_kill, List.getElem?_cons_succ, List.getElem?_cons_zero, hk, if_false]; rfl)
theorem E136_34r {call : jv_F} {l0 l1 l2 l3 : Option Value} {r : Option Nat} {st : List Value} {h : jv_H} (hk : ¬ jv_is2 (some l2) = true) : jv_ev call 136 34 [l0, l1, l2, l3] (va_rf r :: st) h = jv_ev call 136 35 [l0, l1, l2, some (va_rf r)] st h := je_astore_n (r := r) D136_34 rfl (Nat.le_of_ble_eq_true rfl) (by show jv_st1 _ 3 _ = _; simp only [jv_st1, jv_kill, List.getElem?_cons_succ, List.getElem?_cons_zero, hk, if_false]; rfl)
theorem D136_35 : decode (jt_code 136) 35 = .ok (.aload_n 3, 1) := by decide +kernel
theorem E136_35 {call : jv_F} {l0 l1 l2 : Option Value} {a : Nat} {st : List Value} {h : jv_H} : jv_ev call 136 35 [l0, l1, l2, some (.ref a)] st h = jv_ev call 136 36 [l0, l1, l2, some (.ref a)] (.ref a :: st) h := je_aload_n (r := some a) D136_35 rfl rfl
theorem E136_35r {call : jv_F} {l0 l1 l2 : Option Value} {r : Option Nat} {st : List Value} {h : jv_H} : jv_ev call 136 35 [l0, l1, l2, some (va_rf r)] st h = jv_ev call 136 36 [l0, l1, l2, some (va_rf r)] (va_rf r :: st) h := je_aload_n (r := r) D136_35 rfl rfl
theorem D136_36 : decode (jt_code 136) 36 = .ok (.ifnonnull 14, 3) := by decide +kernel
theorem E136_36r {call : jv_F} {l0 l1 l2 l3 : Option Value} {x : Option Nat} {st : List Value} {h : jv_H} : jv_ev call 136 36 [l0, l1, l2, l3] (va_rf x :: st) h = if x = none then jv_ev call 136 39 [l0, l1, l2, l3] st h else jv_ev call 136 50 [l0, l1, l2, l3] st h := je_ifnonnull D136_36 (by decide) rfl
theorem E136_36 {call : jv_F} {l0 l1 l2 l3 : Option Value} {x : Nat} {st : List Value} {h : jv_H} : jv_ev call 136 36 [l0, l1, l2, l3] (.ref x :: st) h = jv_ev call 136 50 [l0, l1, l2, l3] st h := (je_ifnonnull (x := some x) (t := 50) D136_36 (by decide) rfl).trans (if_neg (by simp))
theorem D136_39 : decode (jt_code 136) 39 = .ok (.iload_n 2, 1) := by decide +kernel
theorem E136_39 {call : jv_F} {l0 l1 l3 : Option Value} {x : Int32} {st : List Value} {h : jv_H} : jv_ev call 136 39 [l0, l1, some (.int x), l3] st h = jv_ev call 136 40 [l0, l1, some (.int x), l3] (.int x :: st) h := je_iload_n D136_39 rfl rfl
theorem D136_40 : decode (jt_code 136) 40 = .ok (.iconst 2, 1) := by decide +kernel
theorem E136_40 {call : jv_F} {l0 l1 l2 l3 : Option Value}  {st : List Value} {h : jv_H} : jv_ev call 136 40 [l0, l1, l2, l3] st h = jv_ev call 136 41 [l0, l1, l2, l3] (.int (nI 2) :: st) h := je_iconst D136_40 rfl (by decide)
theorem D136_41 : decode (jt_code 136) 41 = .ok (.if_icmp .ge 7, 3) := by decide +kernel
theorem E136_41 {call : jv_F} {l0 l1 l2 l3 : Option Value} {x y : Int32} {st : List Value} {h : jv_H} : jv_ev call 136 41 [l0, l1, l2, l3] (.int y :: .int x :: st) h = if y ≤ x then jv_ev call 136 48 [l0, l1, l2, l3] st h else jv_ev call 136 44 [l0, l1, l2, l3] st h := je_icmp D136_41 (by decide) rfl rfl
theorem D136_44 : decode (jt_code 136) 44 = .ok (.iconst (-1), 1) := by decide +kernel
theorem E136_44 {call : jv_F} {l0 l1 l2 l3 : Option Value}  {st : List Value} {h : jv_H} : jv_ev call 136 44 [l0, l1, l2, l3] st h = jv_ev call 136 45 [l0, l1, l2, l3] (.int (-1) :: st) h := je_iconst D136_44 rfl (by decide)
theorem D136_45 : decode (jt_code 136) 45 = .ok (.goto 4, 3) := by decide +kernel
theorem E136_45 {call : jv_F} {l0 l1 l2 l3 : Option Value}  {st : List Value} {h : jv_H} : jv_ev call 136 45 [l0, l1, l2, l3] st h = jv_ev call 136 49 [l0, l1, l2, l3] st h := je_goto D136_45 (by decide)
theorem D136_48 : decode (jt_code 136) 48 = .ok (.iconst 0, 1) := by decide +kernel
theorem E136_48 {call : jv_F} {l0 l1 l2 l3 : Option Value}  {st : List Value} {h : jv_H} : jv_ev call 136 48 [l0, l1, l2, l3] st h = jv_ev call 136 49 [l0, l1, l2, l3] (.int (nI 0) :: st) h := je_iconst D136_48 rfl (by decide)
theorem D136_49 : decode (jt_code 136) 49 = .ok (.ireturn, 1) := by decide +kernel
theorem E136_49 {call : jv_F} {l0 l1 l2 l3 : Option Value} {v : Int32} {h : jv_H} : jv_ev call 136 49 [l0, l1, l2, l3] [.int v] h = some (some (.int v), h) := je_iret (ty := .int) D136_49 rfl rfl rfl
theorem D136_50 : decode (jt_code 136) 50 = .ok (.iload_n 2, 1) := by decide +kernel
theorem E136_50 {call : jv_F} {l0 l1 l3 : Option Value} {x : Int32} {st : List Value} {h : jv_H} : jv_ev call 136 50 [l0, l1, some (.int x), l3] st h = jv_ev call 136 51 [l0, l1, some (.int x), l3] (.int x :: st) h := je_iload_n D136_50 rfl rfl
theorem D136_51 : decode (jt_code 136) 51 = .ok (.tableswitch 71 0 3 #[29, 37, 42, 55], 29) := by decide +kernel
theorem E136_51 {call : jv_F} {l0 l1 l2 l3 : Option Value} {x : Int32} {st : List Value} {h : jv_H} : jv_ev call 136 51 [l0, l1, l2, l3] (.int x :: st) h = if x = (nI 0) then jv_ev call 136 80 [l0, l1, l2, l3] st h else (if x = (nI 1) then jv_ev call 136 88 [l0, l1, l2, l3] st h else (if x = (nI 2) then jv_ev call 136 93 [l0, l1, l2, l3] st h else (if x = (nI 3) then jv_ev call 136 106 [l0, l1, l2, l3] st h else (jv_ev call 136 122 [l0, l1, l2, l3] st h)))) := by
  by_cases h0 : x = nI 0
  · subst h0
    exact je_next D136_51 rfl
  by_cases h1 : x = nI 1
  · subst h1
    exact je_next D136_51 rfl
  by_cases h2 : x = nI 2
  · subst h2
    exact je_next D136_51 rfl
  by_cases h3 : x = nI 3
  · subst h3
    exact je_next D136_51 rfl
  rw [if_neg h0]
  rw [if_neg h1]
  rw [if_neg h2]
  rw [if_neg h3]
  refine je_next D136_51 ?_
  simp only [jv_ins]
  rw [if_pos (show x.toInt < 0 ∨ 3 < x.toInt from jv_tab (lo := 0) (hi := 3) (fun k hk1 hk2 => by
    rcases (show k = 0 ∨ k = 1 ∨ k = 2 ∨ k = 3 by omega) with rfl | rfl | rfl | rfl
    · exact h0
    · exact h1
    · exact h2
    · exact h3) (by decide))]
  exact jv_go_eq (by decide)
theorem D136_80 : decode (jt_code 136) 80 = .ok (.aload_n 3, 1) := by decide +kernel
theorem E136_80 {call : jv_F} {l0 l1 l2 : Option Value} {a : Nat} {st : List Value} {h : jv_H} : jv_ev call 136 80 [l0, l1, l2, some (.ref a)] st h = jv_ev call 136 81 [l0, l1, l2, some (.ref a)] (.ref a :: st) h := je_aload_n (r := some a) D136_80 rfl rfl
theorem E136_80r {call : jv_F} {l0 l1 l2 : Option Value} {r : Option Nat} {st : List Value} {h : jv_H} : jv_ev call 136 80 [l0, l1, l2, some (va_rf r)] st h = jv_ev call 136 81 [l0, l1, l2, some (va_rf r)] (va_rf r :: st) h := je_aload_n (r := r) D136_80 rfl rfl
theorem D136_81 : decode (jt_code 136) 81 = .ok (.getfield 163, 3) := by decide +kernel
theorem E136_81 {call : jv_F} {l0 l1 l2 l3 : Option Value} {a : Nat} {st : List Value} {h : jv_H} (hs : (jv_gf h a 1 0).isSome = true) : jv_ev call 136 81 [l0, l1, l2, l3] (.ref a :: st) h = jv_ev call 136 84 [l0, l1, l2, l3] ((jv_gf h a 1 0).getD .null :: st) h := by
  obtain ⟨v, hv⟩ := Option.isSome_iff_exists.mp hs
  rw [hv]
  exact je_get D136_81 rfl (by decide) hv
theorem D136_84 : decode (jt_code 136) 84 = .ok (.getfield 103, 3) := by decide +kernel
theorem E136_84 {call : jv_F} {l0 l1 l2 l3 : Option Value} {a : Nat} {st : List Value} {h : jv_H} (hs : (jv_gf h a 4 0).isSome = true) : jv_ev call 136 84 [l0, l1, l2, l3] (.ref a :: st) h = jv_ev call 136 87 [l0, l1, l2, l3] ((jv_gf h a 4 0).getD .null :: st) h := by
  obtain ⟨v, hv⟩ := Option.isSome_iff_exists.mp hs
  rw [hv]
  exact je_get D136_84 rfl (by decide) hv
theorem D136_87 : decode (jt_code 136) 87 = .ok (.ireturn, 1) := by decide +kernel
theorem E136_87 {call : jv_F} {l0 l1 l2 l3 : Option Value} {v : Int32} {h : jv_H} : jv_ev call 136 87 [l0, l1, l2, l3] [.int v] h = some (some (.int v), h) := je_iret (ty := .int) D136_87 rfl rfl rfl
theorem D136_88 : decode (jt_code 136) 88 = .ok (.aload_n 3, 1) := by decide +kernel
theorem E136_88 {call : jv_F} {l0 l1 l2 : Option Value} {a : Nat} {st : List Value} {h : jv_H} : jv_ev call 136 88 [l0, l1, l2, some (.ref a)] st h = jv_ev call 136 89 [l0, l1, l2, some (.ref a)] (.ref a :: st) h := je_aload_n (r := some a) D136_88 rfl rfl
theorem E136_88r {call : jv_F} {l0 l1 l2 : Option Value} {r : Option Nat} {st : List Value} {h : jv_H} : jv_ev call 136 88 [l0, l1, l2, some (va_rf r)] st h = jv_ev call 136 89 [l0, l1, l2, some (va_rf r)] (va_rf r :: st) h := je_aload_n (r := r) D136_88 rfl rfl
theorem D136_89 : decode (jt_code 136) 89 = .ok (.getfield 169, 3) := by decide +kernel
theorem E136_89 {call : jv_F} {l0 l1 l2 l3 : Option Value} {a : Nat} {st : List Value} {h : jv_H} (hs : (jv_gf h a 1 1).isSome = true) : jv_ev call 136 89 [l0, l1, l2, l3] (.ref a :: st) h = jv_ev call 136 92 [l0, l1, l2, l3] ((jv_gf h a 1 1).getD .null :: st) h := by
  obtain ⟨v, hv⟩ := Option.isSome_iff_exists.mp hs
  rw [hv]
  exact je_get D136_89 rfl (by decide) hv
theorem D136_92 : decode (jt_code 136) 92 = .ok (.ireturn, 1) := by decide +kernel
theorem E136_92 {call : jv_F} {l0 l1 l2 l3 : Option Value} {v : Int32} {h : jv_H} : jv_ev call 136 92 [l0, l1, l2, l3] [.int v] h = some (some (.int v), h) := je_iret (ty := .int) D136_92 rfl rfl rfl
theorem D136_93 : decode (jt_code 136) 93 = .ok (.aload_n 3, 1) := by decide +kernel
theorem E136_93 {call : jv_F} {l0 l1 l2 : Option Value} {a : Nat} {st : List Value} {h : jv_H} : jv_ev call 136 93 [l0, l1, l2, some (.ref a)] st h = jv_ev call 136 94 [l0, l1, l2, some (.ref a)] (.ref a :: st) h := je_aload_n (r := some a) D136_93 rfl rfl
theorem E136_93r {call : jv_F} {l0 l1 l2 : Option Value} {r : Option Nat} {st : List Value} {h : jv_H} : jv_ev call 136 93 [l0, l1, l2, some (va_rf r)] st h = jv_ev call 136 94 [l0, l1, l2, some (va_rf r)] (va_rf r :: st) h := je_aload_n (r := r) D136_93 rfl rfl
theorem D136_94 : decode (jt_code 136) 94 = .ok (.getfield 170, 3) := by decide +kernel
theorem E136_94 {call : jv_F} {l0 l1 l2 l3 : Option Value} {a : Nat} {st : List Value} {h : jv_H} (hs : (jv_gf h a 1 4).isSome = true) : jv_ev call 136 94 [l0, l1, l2, l3] (.ref a :: st) h = jv_ev call 136 97 [l0, l1, l2, l3] ((jv_gf h a 1 4).getD .null :: st) h := by
  obtain ⟨v, hv⟩ := Option.isSome_iff_exists.mp hs
  rw [hv]
  exact je_get D136_94 rfl (by decide) hv
theorem D136_97 : decode (jt_code 136) 97 = .ok (.ifCond .eq 7, 3) := by decide +kernel
theorem E136_97 {call : jv_F} {l0 l1 l2 l3 : Option Value} {x : Int32} {st : List Value} {h : jv_H} : jv_ev call 136 97 [l0, l1, l2, l3] (.int x :: st) h = if x = 0 then jv_ev call 136 104 [l0, l1, l2, l3] st h else jv_ev call 136 100 [l0, l1, l2, l3] st h := je_ifc D136_97 (by decide) rfl rfl
theorem D136_100 : decode (jt_code 136) 100 = .ok (.iconst 1, 1) := by decide +kernel
theorem E136_100 {call : jv_F} {l0 l1 l2 l3 : Option Value}  {st : List Value} {h : jv_H} : jv_ev call 136 100 [l0, l1, l2, l3] st h = jv_ev call 136 101 [l0, l1, l2, l3] (.int (nI 1) :: st) h := je_iconst D136_100 rfl (by decide)
theorem D136_101 : decode (jt_code 136) 101 = .ok (.goto 4, 3) := by decide +kernel
theorem E136_101 {call : jv_F} {l0 l1 l2 l3 : Option Value}  {st : List Value} {h : jv_H} : jv_ev call 136 101 [l0, l1, l2, l3] st h = jv_ev call 136 105 [l0, l1, l2, l3] st h := je_goto D136_101 (by decide)
theorem D136_104 : decode (jt_code 136) 104 = .ok (.iconst 0, 1) := by decide +kernel
theorem E136_104 {call : jv_F} {l0 l1 l2 l3 : Option Value}  {st : List Value} {h : jv_H} : jv_ev call 136 104 [l0, l1, l2, l3] st h = jv_ev call 136 105 [l0, l1, l2, l3] (.int (nI 0) :: st) h := je_iconst D136_104 rfl (by decide)
theorem D136_105 : decode (jt_code 136) 105 = .ok (.ireturn, 1) := by decide +kernel
theorem E136_105 {call : jv_F} {l0 l1 l2 l3 : Option Value} {v : Int32} {h : jv_H} : jv_ev call 136 105 [l0, l1, l2, l3] [.int v] h = some (some (.int v), h) := je_iret (ty := .int) D136_105 rfl rfl rfl
theorem D136_106 : decode (jt_code 136) 106 = .ok (.aload_n 3, 1) := by decide +kernel
theorem E136_106 {call : jv_F} {l0 l1 l2 : Option Value} {a : Nat} {st : List Value} {h : jv_H} : jv_ev call 136 106 [l0, l1, l2, some (.ref a)] st h = jv_ev call 136 107 [l0, l1, l2, some (.ref a)] (.ref a :: st) h := je_aload_n (r := some a) D136_106 rfl rfl
theorem E136_106r {call : jv_F} {l0 l1 l2 : Option Value} {r : Option Nat} {st : List Value} {h : jv_H} : jv_ev call 136 106 [l0, l1, l2, some (va_rf r)] st h = jv_ev call 136 107 [l0, l1, l2, some (va_rf r)] (va_rf r :: st) h := je_aload_n (r := r) D136_106 rfl rfl
theorem D136_107 : decode (jt_code 136) 107 = .ok (.getfield 170, 3) := by decide +kernel
theorem E136_107 {call : jv_F} {l0 l1 l2 l3 : Option Value} {a : Nat} {st : List Value} {h : jv_H} (hs : (jv_gf h a 1 4).isSome = true) : jv_ev call 136 107 [l0, l1, l2, l3] (.ref a :: st) h = jv_ev call 136 110 [l0, l1, l2, l3] ((jv_gf h a 1 4).getD .null :: st) h := by
  obtain ⟨v, hv⟩ := Option.isSome_iff_exists.mp hs
  rw [hv]
  exact je_get D136_107 rfl (by decide) hv
theorem D136_110 : decode (jt_code 136) 110 = .ok (.ifCond .eq 7, 3) := by decide +kernel
theorem E136_110 {call : jv_F} {l0 l1 l2 l3 : Option Value} {x : Int32} {st : List Value} {h : jv_H} : jv_ev call 136 110 [l0, l1, l2, l3] (.int x :: st) h = if x = 0 then jv_ev call 136 117 [l0, l1, l2, l3] st h else jv_ev call 136 113 [l0, l1, l2, l3] st h := je_ifc D136_110 (by decide) rfl rfl
theorem D136_113 : decode (jt_code 136) 113 = .ok (.iconst 0, 1) := by decide +kernel
theorem E136_113 {call : jv_F} {l0 l1 l2 l3 : Option Value}  {st : List Value} {h : jv_H} : jv_ev call 136 113 [l0, l1, l2, l3] st h = jv_ev call 136 114 [l0, l1, l2, l3] (.int (nI 0) :: st) h := je_iconst D136_113 rfl (by decide)
theorem D136_114 : decode (jt_code 136) 114 = .ok (.goto 7, 3) := by decide +kernel
theorem E136_114 {call : jv_F} {l0 l1 l2 l3 : Option Value}  {st : List Value} {h : jv_H} : jv_ev call 136 114 [l0, l1, l2, l3] st h = jv_ev call 136 121 [l0, l1, l2, l3] st h := je_goto D136_114 (by decide)
theorem D136_117 : decode (jt_code 136) 117 = .ok (.aload_n 3, 1) := by decide +kernel
theorem E136_117 {call : jv_F} {l0 l1 l2 : Option Value} {a : Nat} {st : List Value} {h : jv_H} : jv_ev call 136 117 [l0, l1, l2, some (.ref a)] st h = jv_ev call 136 118 [l0, l1, l2, some (.ref a)] (.ref a :: st) h := je_aload_n (r := some a) D136_117 rfl rfl
theorem E136_117r {call : jv_F} {l0 l1 l2 : Option Value} {r : Option Nat} {st : List Value} {h : jv_H} : jv_ev call 136 117 [l0, l1, l2, some (va_rf r)] st h = jv_ev call 136 118 [l0, l1, l2, some (va_rf r)] (va_rf r :: st) h := je_aload_n (r := r) D136_117 rfl rfl
theorem D136_118 : decode (jt_code 136) 118 = .ok (.getfield 174, 3) := by decide +kernel
theorem E136_118 {call : jv_F} {l0 l1 l2 l3 : Option Value} {a : Nat} {st : List Value} {h : jv_H} (hs : (jv_gf h a 1 6).isSome = true) : jv_ev call 136 118 [l0, l1, l2, l3] (.ref a :: st) h = jv_ev call 136 121 [l0, l1, l2, l3] ((jv_gf h a 1 6).getD .null :: st) h := by
  obtain ⟨v, hv⟩ := Option.isSome_iff_exists.mp hs
  rw [hv]
  exact je_get D136_118 rfl (by decide) hv
theorem D136_121 : decode (jt_code 136) 121 = .ok (.ireturn, 1) := by decide +kernel
theorem E136_121 {call : jv_F} {l0 l1 l2 l3 : Option Value} {v : Int32} {h : jv_H} : jv_ev call 136 121 [l0, l1, l2, l3] [.int v] h = some (some (.int v), h) := je_iret (ty := .int) D136_121 rfl rfl rfl
theorem D136_122 : decode (jt_code 136) 122 = .ok (.aload_n 3, 1) := by decide +kernel
theorem E136_122 {call : jv_F} {l0 l1 l2 : Option Value} {a : Nat} {st : List Value} {h : jv_H} : jv_ev call 136 122 [l0, l1, l2, some (.ref a)] st h = jv_ev call 136 123 [l0, l1, l2, some (.ref a)] (.ref a :: st) h := je_aload_n (r := some a) D136_122 rfl rfl
theorem E136_122r {call : jv_F} {l0 l1 l2 : Option Value} {r : Option Nat} {st : List Value} {h : jv_H} : jv_ev call 136 122 [l0, l1, l2, some (va_rf r)] st h = jv_ev call 136 123 [l0, l1, l2, some (va_rf r)] (va_rf r :: st) h := je_aload_n (r := r) D136_122 rfl rfl
theorem D136_123 : decode (jt_code 136) 123 = .ok (.getfield 170, 3) := by decide +kernel
theorem E136_123 {call : jv_F} {l0 l1 l2 l3 : Option Value} {a : Nat} {st : List Value} {h : jv_H} (hs : (jv_gf h a 1 4).isSome = true) : jv_ev call 136 123 [l0, l1, l2, l3] (.ref a :: st) h = jv_ev call 136 126 [l0, l1, l2, l3] ((jv_gf h a 1 4).getD .null :: st) h := by
  obtain ⟨v, hv⟩ := Option.isSome_iff_exists.mp hs
  rw [hv]
  exact je_get D136_123 rfl (by decide) hv
theorem D136_126 : decode (jt_code 136) 126 = .ok (.ifCond .eq 7, 3) := by decide +kernel
theorem E136_126 {call : jv_F} {l0 l1 l2 l3 : Option Value} {x : Int32} {st : List Value} {h : jv_H} : jv_ev call 136 126 [l0, l1, l2, l3] (.int x :: st) h = if x = 0 then jv_ev call 136 133 [l0, l1, l2, l3] st h else jv_ev call 136 129 [l0, l1, l2, l3] st h := je_ifc D136_126 (by decide) rfl rfl
theorem D136_129 : decode (jt_code 136) 129 = .ok (.iconst 0, 1) := by decide +kernel
theorem E136_129 {call : jv_F} {l0 l1 l2 l3 : Option Value}  {st : List Value} {h : jv_H} : jv_ev call 136 129 [l0, l1, l2, l3] st h = jv_ev call 136 130 [l0, l1, l2, l3] (.int (nI 0) :: st) h := je_iconst D136_129 rfl (by decide)
theorem D136_130 : decode (jt_code 136) 130 = .ok (.goto 7, 3) := by decide +kernel
theorem E136_130 {call : jv_F} {l0 l1 l2 l3 : Option Value}  {st : List Value} {h : jv_H} : jv_ev call 136 130 [l0, l1, l2, l3] st h = jv_ev call 136 137 [l0, l1, l2, l3] st h := je_goto D136_130 (by decide)
theorem D136_133 : decode (jt_code 136) 133 = .ok (.aload_n 3, 1) := by decide +kernel
theorem E136_133 {call : jv_F} {l0 l1 l2 : Option Value} {a : Nat} {st : List Value} {h : jv_H} : jv_ev call 136 133 [l0, l1, l2, some (.ref a)] st h = jv_ev call 136 134 [l0, l1, l2, some (.ref a)] (.ref a :: st) h := je_aload_n (r := some a) D136_133 rfl rfl
theorem E136_133r {call : jv_F} {l0 l1 l2 : Option Value} {r : Option Nat} {st : List Value} {h : jv_H} : jv_ev call 136 133 [l0, l1, l2, some (va_rf r)] st h = jv_ev call 136 134 [l0, l1, l2, some (va_rf r)] (va_rf r :: st) h := je_aload_n (r := r) D136_133 rfl rfl
theorem D136_134 : decode (jt_code 136) 134 = .ok (.getfield 177, 3) := by decide +kernel
theorem E136_134 {call : jv_F} {l0 l1 l2 l3 : Option Value} {a : Nat} {st : List Value} {h : jv_H} (hs : (jv_gf h a 1 7).isSome = true) : jv_ev call 136 134 [l0, l1, l2, l3] (.ref a :: st) h = jv_ev call 136 137 [l0, l1, l2, l3] ((jv_gf h a 1 7).getD .null :: st) h := by
  obtain ⟨v, hv⟩ := Option.isSome_iff_exists.mp hs
  rw [hv]
  exact je_get D136_134 rfl (by decide) hv
theorem D136_137 : decode (jt_code 136) 137 = .ok (.ireturn, 1) := by decide +kernel
theorem E136_137 {call : jv_F} {l0 l1 l2 l3 : Option Value} {v : Int32} {h : jv_H} : jv_ev call 136 137 [l0, l1, l2, l3] [.int v] h = some (some (.int v), h) := je_iret (ty := .int) D136_137 rfl rfl rfl
/-! method 137: DrumMachine.sector -/
theorem N137 {d : Nat} {b : Nat} {a0 : Int32} {h : jv_H} : jv_run (d + 1) 137 [.ref b, .int a0] h = jv_ev (jv_run d) 137 0 [some (.ref b), some (.int a0), none] [] h := jv_run_eq (Nat.le_of_ble_eq_true rfl) rfl
theorem D137_0 : decode (jt_code 137) 0 = .ok (.aload_n 0, 1) := by decide +kernel
theorem E137_0 {call : jv_F} {l1 l2 : Option Value} {a : Nat} {st : List Value} {h : jv_H} : jv_ev call 137 0 [some (.ref a), l1, l2] st h = jv_ev call 137 1 [some (.ref a), l1, l2] (.ref a :: st) h := je_aload_n (r := some a) D137_0 rfl rfl
theorem D137_1 : decode (jt_code 137) 1 = .ok (.getfield 26, 3) := by decide +kernel
theorem E137_1 {call : jv_F} {l0 l1 l2 : Option Value} {a : Nat} {st : List Value} {h : jv_H} (hs : (jv_gf h a 6 2).isSome = true) : jv_ev call 137 1 [l0, l1, l2] (.ref a :: st) h = jv_ev call 137 4 [l0, l1, l2] ((jv_gf h a 6 2).getD .null :: st) h := by
  obtain ⟨v, hv⟩ := Option.isSome_iff_exists.mp hs
  rw [hv]
  exact je_get D137_1 rfl (by decide) hv
theorem D137_4 : decode (jt_code 137) 4 = .ok (.iload_n 1, 1) := by decide +kernel
theorem E137_4 {call : jv_F} {l0 l2 : Option Value} {x : Int32} {st : List Value} {h : jv_H} : jv_ev call 137 4 [l0, some (.int x), l2] st h = jv_ev call 137 5 [l0, some (.int x), l2] (.int x :: st) h := je_iload_n D137_4 rfl rfl
theorem D137_5 : decode (jt_code 137) 5 = .ok (.invokevirtual 180, 3) := by decide +kernel
theorem E137_5 {call : jv_F} {l0 l1 l2 : Option Value} {b : Nat} {v0 : Value}  {st : List Value} {h : jv_H} (hw : jv_wide st = true) (hcl : jv_cl h b = some 3) (hc : (call 77 [.ref b, v0] h).isSome = true) : jv_ev call 137 5 [l0, l1, l2] (v0 :: .ref b :: st) h = jv_ev call 137 8 [l0, l1, l2] ((((call 77 [.ref b, v0] h).getD (none, h)).1).toList ++ st) ((call 77 [.ref b, v0] h).getD (none, h)).2 := by
  obtain ⟨⟨r, h'⟩, hv⟩ := Option.isSome_iff_exists.mp hc
  rw [hv]
  exact je_virt (y := 77) (as := [v0]) D137_5 rfl (by decide) (by decide) rfl hcl hw hv
theorem D137_8 : decode (jt_code 137) 8 = .ok (.astore_n 2, 1) := by decide +kernel
theorem E137_8 {call : jv_F} {l0 l1 l2 : Option Value} {a : Nat} {st : List Value} {h : jv_H} (hk : ¬ jv_is2 (some l1) = true) : jv_ev call 137 8 [l0, l1, l2] (.ref a :: st) h = jv_ev call 137 9 [l0, l1, some (.ref a)] st h := je_astore_n (r := some a) D137_8 rfl (Nat.le_of_ble_eq_true rfl) (by show jv_st1 _ 2 _ = _; simp only [jv_st1, jv_kill, List.getElem?_cons_succ, List.getElem?_cons_zero, hk, if_false]; rfl)
theorem E137_8r {call : jv_F} {l0 l1 l2 : Option Value} {r : Option Nat} {st : List Value} {h : jv_H} (hk : ¬ jv_is2 (some l1) = true) : jv_ev call 137 8 [l0, l1, l2] (va_rf r :: st) h = jv_ev call 137 9 [l0, l1, some (va_rf r)] st h := je_astore_n (r := r) D137_8 rfl (Nat.le_of_ble_eq_true rfl) (by show jv_st1 _ 2 _ = _; simp only [jv_st1, jv_kill, List.getElem?_cons_succ, List.getElem?_cons_zero, hk, if_false]; rfl)
theorem D137_9 : decode (jt_code 137) 9 = .ok (.aload_n 2, 1) := by decide +kernel
theorem E137_9 {call : jv_F} {l0 l1 : Option Value} {a : Nat} {st : List Value} {h : jv_H} : jv_ev call 137 9 [l0, l1, some (.ref a)] st h = jv_ev call 137 10 [l0, l1, some (.ref a)] (.ref a :: st) h := je_aload_n (r := some a) D137_9 rfl rfl
theorem E137_9r {call : jv_F} {l0 l1 : Option Value} {r : Option Nat} {st : List Value} {h : jv_H} : jv_ev call 137 9 [l0, l1, some (va_rf r)] st h = jv_ev call 137 10 [l0, l1, some (va_rf r)] (va_rf r :: st) h := je_aload_n (r := r) D137_9 rfl rfl
theorem D137_10 : decode (jt_code 137) 10 = .ok (.ifnonnull 7, 3) := by decide +kernel
theorem E137_10r {call : jv_F} {l0 l1 l2 : Option Value} {x : Option Nat} {st : List Value} {h : jv_H} : jv_ev call 137 10 [l0, l1, l2] (va_rf x :: st) h = if x = none then jv_ev call 137 13 [l0, l1, l2] st h else jv_ev call 137 17 [l0, l1, l2] st h := je_ifnonnull D137_10 (by decide) rfl
theorem E137_10 {call : jv_F} {l0 l1 l2 : Option Value} {x : Nat} {st : List Value} {h : jv_H} : jv_ev call 137 10 [l0, l1, l2] (.ref x :: st) h = jv_ev call 137 17 [l0, l1, l2] st h := (je_ifnonnull (x := some x) (t := 17) D137_10 (by decide) rfl).trans (if_neg (by simp))
theorem D137_13 : decode (jt_code 137) 13 = .ok (.iconst (-1), 1) := by decide +kernel
theorem E137_13 {call : jv_F} {l0 l1 l2 : Option Value}  {st : List Value} {h : jv_H} : jv_ev call 137 13 [l0, l1, l2] st h = jv_ev call 137 14 [l0, l1, l2] (.int (-1) :: st) h := je_iconst D137_13 rfl (by decide)
theorem D137_14 : decode (jt_code 137) 14 = .ok (.goto 19, 3) := by decide +kernel
theorem E137_14 {call : jv_F} {l0 l1 l2 : Option Value}  {st : List Value} {h : jv_H} : jv_ev call 137 14 [l0, l1, l2] st h = jv_ev call 137 33 [l0, l1, l2] st h := je_goto D137_14 (by decide)
theorem D137_17 : decode (jt_code 137) 17 = .ok (.sipush 1000, 3) := by decide +kernel
theorem E137_17 {call : jv_F} {l0 l1 l2 : Option Value}  {st : List Value} {h : jv_H} : jv_ev call 137 17 [l0, l1, l2] st h = jv_ev call 137 20 [l0, l1, l2] (.int (nI 1000) :: st) h := je_sipush D137_17 rfl (by decide)
theorem D137_20 : decode (jt_code 137) 20 = .ok (.aload_n 2, 1) := by decide +kernel
theorem E137_20 {call : jv_F} {l0 l1 : Option Value} {a : Nat} {st : List Value} {h : jv_H} : jv_ev call 137 20 [l0, l1, some (.ref a)] st h = jv_ev call 137 21 [l0, l1, some (.ref a)] (.ref a :: st) h := je_aload_n (r := some a) D137_20 rfl rfl
theorem E137_20r {call : jv_F} {l0 l1 : Option Value} {r : Option Nat} {st : List Value} {h : jv_H} : jv_ev call 137 20 [l0, l1, some (va_rf r)] st h = jv_ev call 137 21 [l0, l1, some (va_rf r)] (va_rf r :: st) h := je_aload_n (r := r) D137_20 rfl rfl
theorem D137_21 : decode (jt_code 137) 21 = .ok (.getfield 163, 3) := by decide +kernel
theorem E137_21 {call : jv_F} {l0 l1 l2 : Option Value} {a : Nat} {st : List Value} {h : jv_H} (hs : (jv_gf h a 1 0).isSome = true) : jv_ev call 137 21 [l0, l1, l2] (.ref a :: st) h = jv_ev call 137 24 [l0, l1, l2] ((jv_gf h a 1 0).getD .null :: st) h := by
  obtain ⟨v, hv⟩ := Option.isSome_iff_exists.mp hs
  rw [hv]
  exact je_get D137_21 rfl (by decide) hv
theorem D137_24 : decode (jt_code 137) 24 = .ok (.getfield 103, 3) := by decide +kernel
theorem E137_24 {call : jv_F} {l0 l1 l2 : Option Value} {a : Nat} {st : List Value} {h : jv_H} (hs : (jv_gf h a 4 0).isSome = true) : jv_ev call 137 24 [l0, l1, l2] (.ref a :: st) h = jv_ev call 137 27 [l0, l1, l2] ((jv_gf h a 4 0).getD .null :: st) h := by
  obtain ⟨v, hv⟩ := Option.isSome_iff_exists.mp hs
  rw [hv]
  exact je_get D137_24 rfl (by decide) hv
theorem D137_27 : decode (jt_code 137) 27 = .ok (.imul, 1) := by decide +kernel
theorem E137_27 {call : jv_F} {l0 l1 l2 : Option Value} {x y : Int32} {st : List Value} {h : jv_H} : jv_ev call 137 27 [l0, l1, l2] (.int y :: .int x :: st) h = jv_ev call 137 28 [l0, l1, l2] (.int (x * y) :: st) h := je_b2 (f := fun x y => x * y) D137_27 rfl (fun _ => rfl)
theorem D137_28 : decode (jt_code 137) 28 = .ok (.aload_n 2, 1) := by decide +kernel
theorem E137_28 {call : jv_F} {l0 l1 : Option Value} {a : Nat} {st : List Value} {h : jv_H} : jv_ev call 137 28 [l0, l1, some (.ref a)] st h = jv_ev call 137 29 [l0, l1, some (.ref a)] (.ref a :: st) h := je_aload_n (r := some a) D137_28 rfl rfl
theorem E137_28r {call : jv_F} {l0 l1 : Option Value} {r : Option Nat} {st : List Value} {h : jv_H} : jv_ev call 137 28 [l0, l1, some (va_rf r)] st h = jv_ev call 137 29 [l0, l1, some (va_rf r)] (va_rf r :: st) h := je_aload_n (r := r) D137_28 rfl rfl
theorem D137_29 : decode (jt_code 137) 29 = .ok (.getfield 169, 3) := by decide +kernel
theorem E137_29 {call : jv_F} {l0 l1 l2 : Option Value} {a : Nat} {st : List Value} {h : jv_H} (hs : (jv_gf h a 1 1).isSome = true) : jv_ev call 137 29 [l0, l1, l2] (.ref a :: st) h = jv_ev call 137 32 [l0, l1, l2] ((jv_gf h a 1 1).getD .null :: st) h := by
  obtain ⟨v, hv⟩ := Option.isSome_iff_exists.mp hs
  rw [hv]
  exact je_get D137_29 rfl (by decide) hv
theorem D137_32 : decode (jt_code 137) 32 = .ok (.iadd, 1) := by decide +kernel
theorem E137_32 {call : jv_F} {l0 l1 l2 : Option Value} {x y : Int32} {st : List Value} {h : jv_H} : jv_ev call 137 32 [l0, l1, l2] (.int y :: .int x :: st) h = jv_ev call 137 33 [l0, l1, l2] (.int (x + y) :: st) h := je_b2 (f := fun x y => x + y) D137_32 rfl (fun _ => rfl)
theorem D137_33 : decode (jt_code 137) 33 = .ok (.ireturn, 1) := by decide +kernel
theorem E137_33 {call : jv_F} {l0 l1 l2 : Option Value} {v : Int32} {h : jv_H} : jv_ev call 137 33 [l0, l1, l2] [.int v] h = some (some (.int v), h) := je_iret (ty := .int) D137_33 rfl rfl rfl
/-! method 138: DrumMachine.digest -/
theorem N138 {d : Nat} {b : Nat} {h : jv_H} : jv_run (d + 1) 138 [.ref b] h = jv_ev (jv_run d) 138 0 [some (.ref b), none, none, none, none] [] h := jv_run_eq (Nat.le_of_ble_eq_true rfl) rfl
theorem D138_0 : decode (jt_code 138) 0 = .ok (.ldc2_w 183, 3) := by decide +kernel
theorem E138_0 {call : jv_F} {l0 l1 l2 l3 l4 : Option Value}  {st : List Value} {h : jv_H} : jv_ev call 138 0 [l0, l1, l2, l3, l4] st h = jv_ev call 138 3 [l0, l1, l2, l3, l4] (.long 7 :: st) h := je_ldc2 D138_0 rfl (by decide)
theorem D138_3 : decode (jt_code 138) 3 = .ok (.lstore_n 1, 1) := by decide +kernel
theorem E138_3 {call : jv_F} {l0 l1 l2 l3 l4 : Option Value} {x : Int64} {st : List Value} {h : jv_H} (hk : ¬ jv_is2 (some l0) = true) : jv_ev call 138 3 [l0, l1, l2, l3, l4] (.long x :: st) h = jv_ev call 138 4 [l0, some (.long x), none, l3, l4] st h := je_lstore_n D138_3 rfl (Nat.le_of_ble_eq_true rfl) (by show jv_st2 _ 1 _ = _; simp only [jv_st2, jv_kill, List.getElem?_cons_succ, List.getElem?_cons_zero, hk, if_false]; rfl)
theorem D138_4 : decode (jt_code 138) 4 = .ok (.iconst 0, 1) := by decide +kernel
theorem E138_4 {call : jv_F} {l0 l1 l2 l3 l4 : Option Value}  {st : List Value} {h : jv_H} : jv_ev call 138 4 [l0, l1, l2, l3, l4] st h = jv_ev call 138 5 [l0, l1, l2, l3, l4] (.int (nI 0) :: st) h := je_iconst D138_4 rfl (by decide)
theorem D138_5 : decode (jt_code 138) 5 = .ok (.istore_n 3, 1) := by decide +kernel
theorem E138_5 {call : jv_F} {l0 l1 l2 l3 l4 : Option Value} {x : Int32} {st : List Value} {h : jv_H} (hk : ¬ jv_is2 (some l2) = true) : jv_ev call 138 5 [l0, l1, l2, l3, l4] (.int x :: st) h = jv_ev call 138 6 [l0, l1, l2, some (.int x), l4] st h := je_istore_n D138_5 rfl (Nat.le_of_ble_eq_true rfl) (by show jv_st1 _ 3 _ = _; simp only [jv_st1, jv_kill, List.getElem?_cons_succ, List.getElem?_cons_zero, hk, if_false]; rfl)
theorem D138_6 : decode (jt_code 138) 6 = .ok (.iload_n 3, 1) := by decide +kernel
theorem E138_6 {call : jv_F} {l0 l1 l2 l4 : Option Value} {x : Int32} {st : List Value} {h : jv_H} : jv_ev call 138 6 [l0, l1, l2, some (.int x), l4] st h = jv_ev call 138 7 [l0, l1, l2, some (.int x), l4] (.int x :: st) h := je_iload_n D138_6 rfl rfl
theorem D138_7 : decode (jt_code 138) 7 = .ok (.aload_n 0, 1) := by decide +kernel
theorem E138_7 {call : jv_F} {l1 l2 l3 l4 : Option Value} {a : Nat} {st : List Value} {h : jv_H} : jv_ev call 138 7 [some (.ref a), l1, l2, l3, l4] st h = jv_ev call 138 8 [some (.ref a), l1, l2, l3, l4] (.ref a :: st) h := je_aload_n (r := some a) D138_7 rfl rfl
theorem D138_8 : decode (jt_code 138) 8 = .ok (.getfield 36, 3) := by decide +kernel
theorem E138_8 {call : jv_F} {l0 l1 l2 l3 l4 : Option Value} {a : Nat} {st : List Value} {h : jv_H} (hs : (jv_gf h a 6 4).isSome = true) : jv_ev call 138 8 [l0, l1, l2, l3, l4] (.ref a :: st) h = jv_ev call 138 11 [l0, l1, l2, l3, l4] ((jv_gf h a 6 4).getD .null :: st) h := by
  obtain ⟨v, hv⟩ := Option.isSome_iff_exists.mp hs
  rw [hv]
  exact je_get D138_8 rfl (by decide) hv
theorem D138_11 : decode (jt_code 138) 11 = .ok (.if_icmp .ge 32, 3) := by decide +kernel
theorem E138_11 {call : jv_F} {l0 l1 l2 l3 l4 : Option Value} {x y : Int32} {st : List Value} {h : jv_H} : jv_ev call 138 11 [l0, l1, l2, l3, l4] (.int y :: .int x :: st) h = if y ≤ x then jv_ev call 138 43 [l0, l1, l2, l3, l4] st h else jv_ev call 138 14 [l0, l1, l2, l3, l4] st h := je_icmp D138_11 (by decide) rfl rfl
theorem D138_14 : decode (jt_code 138) 14 = .ok (.aload_n 0, 1) := by decide +kernel
theorem E138_14 {call : jv_F} {l1 l2 l3 l4 : Option Value} {a : Nat} {st : List Value} {h : jv_H} : jv_ev call 138 14 [some (.ref a), l1, l2, l3, l4] st h = jv_ev call 138 15 [some (.ref a), l1, l2, l3, l4] (.ref a :: st) h := je_aload_n (r := some a) D138_14 rfl rfl
theorem D138_15 : decode (jt_code 138) 15 = .ok (.iload_n 3, 1) := by decide +kernel
theorem E138_15 {call : jv_F} {l0 l1 l2 l4 : Option Value} {x : Int32} {st : List Value} {h : jv_H} : jv_ev call 138 15 [l0, l1, l2, some (.int x), l4] st h = jv_ev call 138 16 [l0, l1, l2, some (.int x), l4] (.int x :: st) h := je_iload_n D138_15 rfl rfl
theorem D138_16 : decode (jt_code 138) 16 = .ok (.invokevirtual 109, 3) := by decide +kernel
theorem E138_16 {call : jv_F} {l0 l1 l2 l3 l4 : Option Value} {b : Nat} {v0 : Value}  {st : List Value} {h : jv_H} (hw : jv_wide st = true) (hcl : jv_cl h b = some 6) (hc : (call 139 [.ref b, v0] h).isSome = true) : jv_ev call 138 16 [l0, l1, l2, l3, l4] (v0 :: .ref b :: st) h = jv_ev call 138 19 [l0, l1, l2, l3, l4] ((((call 139 [.ref b, v0] h).getD (none, h)).1).toList ++ st) ((call 139 [.ref b, v0] h).getD (none, h)).2 := by
  obtain ⟨⟨r, h'⟩, hv⟩ := Option.isSome_iff_exists.mp hc
  rw [hv]
  exact je_virt (y := 139) (as := [v0]) D138_16 rfl (by decide) (by decide) rfl hcl hw hv
theorem D138_19 : decode (jt_code 138) 19 = .ok (.astore 4, 2) := by decide +kernel
theorem E138_19 {call : jv_F} {l0 l1 l2 l3 l4 : Option Value} {a : Nat} {st : List Value} {h : jv_H} (hk : ¬ jv_is2 (some l3) = true) : jv_ev call 138 19 [l0, l1, l2, l3, l4] (.ref a :: st) h = jv_ev call 138 21 [l0, l1, l2, l3, some (.ref a)] st h := je_astore (r := some a) D138_19 rfl (Nat.le_of_ble_eq_true rfl) (by show jv_st1 _ 4 _ = _; simp only [jv_st1, jv_kill, List.getElem?_cons_succ, List.getElem?_cons_zero, hk, if_false]; rfl)
theorem E138_19r {call : jv_F} {l0 l1 l2 l3 l4 : Option Value} {r : Option Nat} {st : List Value} {h : jv_H} (hk : ¬ jv_is2 (some l3) = true) : jv_ev call 138 19 [l0, l1, l2, l3, l4] (va_rf r :: st) h = jv_ev call 138 21 [l0, l1, l2, l3, some (va_rf r)] st h := je_astore (r := r) D138_19 rfl (Nat.le_of_ble_eq_true rfl) (by show jv_st1 _ 4 _ = _; simp only [jv_st1, jv_kill, List.getElem?_cons_succ, List.getElem?_cons_zero, hk, if_false]; rfl)
theorem D138_21 : decode (jt_code 138) 21 = .ok (.aload 4, 2) := by decide +kernel
theorem E138_21 {call : jv_F} {l0 l1 l2 l3 : Option Value} {a : Nat} {st : List Value} {h : jv_H} : jv_ev call 138 21 [l0, l1, l2, l3, some (.ref a)] st h = jv_ev call 138 23 [l0, l1, l2, l3, some (.ref a)] (.ref a :: st) h := je_aload (r := some a) D138_21 rfl rfl
theorem E138_21r {call : jv_F} {l0 l1 l2 l3 : Option Value} {r : Option Nat} {st : List Value} {h : jv_H} : jv_ev call 138 21 [l0, l1, l2, l3, some (va_rf r)] st h = jv_ev call 138 23 [l0, l1, l2, l3, some (va_rf r)] (va_rf r :: st) h := je_aload (r := r) D138_21 rfl rfl
theorem D138_23 : decode (jt_code 138) 23 = .ok (.ifnonnull 7, 3) := by decide +kernel
theorem E138_23r {call : jv_F} {l0 l1 l2 l3 l4 : Option Value} {x : Option Nat} {st : List Value} {h : jv_H} : jv_ev call 138 23 [l0, l1, l2, l3, l4] (va_rf x :: st) h = if x = none then jv_ev call 138 26 [l0, l1, l2, l3, l4] st h else jv_ev call 138 30 [l0, l1, l2, l3, l4] st h := je_ifnonnull D138_23 (by decide) rfl
theorem E138_23 {call : jv_F} {l0 l1 l2 l3 l4 : Option Value} {x : Nat} {st : List Value} {h : jv_H} : jv_ev call 138 23 [l0, l1, l2, l3, l4] (.ref x :: st) h = jv_ev call 138 30 [l0, l1, l2, l3, l4] st h := (je_ifnonnull (x := some x) (t := 30) D138_23 (by decide) rfl).trans (if_neg (by simp))
theorem D138_26 : decode (jt_code 138) 26 = .ok (.lload_n 1, 1) := by decide +kernel
theorem E138_26 {call : jv_F} {l0 l2 l3 l4 : Option Value} {x : Int64} {st : List Value} {h : jv_H} : jv_ev call 138 26 [l0, some (.long x), l2, l3, l4] st h = jv_ev call 138 27 [l0, some (.long x), l2, l3, l4] (.long x :: st) h := je_lload_n D138_26 rfl rfl
theorem D138_27 : decode (jt_code 138) 27 = .ok (.goto 9, 3) := by decide +kernel
theorem E138_27 {call : jv_F} {l0 l1 l2 l3 l4 : Option Value}  {st : List Value} {h : jv_H} : jv_ev call 138 27 [l0, l1, l2, l3, l4] st h = jv_ev call 138 36 [l0, l1, l2, l3, l4] st h := je_goto D138_27 (by decide)
theorem D138_30 : decode (jt_code 138) 30 = .ok (.aload 4, 2) := by decide +kernel
theorem E138_30 {call : jv_F} {l0 l1 l2 l3 : Option Value} {a : Nat} {st : List Value} {h : jv_H} : jv_ev call 138 30 [l0, l1, l2, l3, some (.ref a)] st h = jv_ev call 138 32 [l0, l1, l2, l3, some (.ref a)] (.ref a :: st) h := je_aload (r := some a) D138_30 rfl rfl
theorem E138_30r {call : jv_F} {l0 l1 l2 l3 : Option Value} {r : Option Nat} {st : List Value} {h : jv_H} : jv_ev call 138 30 [l0, l1, l2, l3, some (va_rf r)] st h = jv_ev call 138 32 [l0, l1, l2, l3, some (va_rf r)] (va_rf r :: st) h := je_aload (r := r) D138_30 rfl rfl
theorem D138_32 : decode (jt_code 138) 32 = .ok (.lload_n 1, 1) := by decide +kernel
theorem E138_32 {call : jv_F} {l0 l2 l3 l4 : Option Value} {x : Int64} {st : List Value} {h : jv_H} : jv_ev call 138 32 [l0, some (.long x), l2, l3, l4] st h = jv_ev call 138 33 [l0, some (.long x), l2, l3, l4] (.long x :: st) h := je_lload_n D138_32 rfl rfl
theorem D138_33 : decode (jt_code 138) 33 = .ok (.invokevirtual 185, 3) := by decide +kernel
theorem E138_33 {call : jv_F} {l0 l1 l2 l3 l4 : Option Value} {b : Nat} {v0 : Value}  {st : List Value} {h : jv_H} (hw : jv_wide st = true) (hcl : jv_cl h b = some 4) (hc : (call 115 [.ref b, v0] h).isSome = true) : jv_ev call 138 33 [l0, l1, l2, l3, l4] (v0 :: .ref b :: st) h = jv_ev call 138 36 [l0, l1, l2, l3, l4] ((((call 115 [.ref b, v0] h).getD (none, h)).1).toList ++ st) ((call 115 [.ref b, v0] h).getD (none, h)).2 := by
  obtain ⟨⟨r, h'⟩, hv⟩ := Option.isSome_iff_exists.mp hc
  rw [hv]
  exact je_virt (y := 115) (as := [v0]) D138_33 rfl (by decide) (by decide) rfl hcl hw hv
theorem D138_36 : decode (jt_code 138) 36 = .ok (.lstore_n 1, 1) := by decide +kernel
theorem E138_36 {call : jv_F} {l0 l1 l2 l3 l4 : Option Value} {x : Int64} {st : List Value} {h : jv_H} (hk : ¬ jv_is2 (some l0) = true) : jv_ev call 138 36 [l0, l1, l2, l3, l4] (.long x :: st) h = jv_ev call 138 37 [l0, some (.long x), none, l3, l4] st h := je_lstore_n D138_36 rfl (Nat.le_of_ble_eq_true rfl) (by show jv_st2 _ 1 _ = _; simp only [jv_st2, jv_kill, List.getElem?_cons_succ, List.getElem?_cons_zero, hk, if_false]; rfl)
theorem D138_37 : decode (jt_code 138) 37 = .ok (.iinc 3 1, 3) := by decide +kernel
theorem E138_37 {call : jv_F} {l0 l1 l2 l4 : Option Value} {x : Int32} {st : List Value} {h : jv_H} (hk : ¬ jv_is2 (some l2) = true) : jv_ev call 138 37 [l0, l1, l2, some (.int x), l4] st h = jv_ev call 138 40 [l0, l1, l2, some (.int (x + (nI 1))), l4] st h := je_iinc D138_37 rfl rfl (v := x + (nI 1)) (by rfl) (by show jv_st1 _ 3 _ = _; simp only [jv_st1, jv_kill, List.getElem?_cons_succ, List.getElem?_cons_zero, hk, if_false]; rfl)
theorem D138_40 : decode (jt_code 138) 40 = .ok (.goto (-34), 3) := by decide +kernel
theorem E138_40 {call : jv_F} {l0 l1 l2 l3 l4 : Option Value}  {st : List Value} {h : jv_H} : jv_ev call 138 40 [l0, l1, l2, l3, l4] st h = jv_ev call 138 6 [l0, l1, l2, l3, l4] st h := je_goto D138_40 (by decide)
theorem D138_43 : decode (jt_code 138) 43 = .ok (.lload_n 1, 1) := by decide +kernel
theorem E138_43 {call : jv_F} {l0 l2 l3 l4 : Option Value} {x : Int64} {st : List Value} {h : jv_H} : jv_ev call 138 43 [l0, some (.long x), l2, l3, l4] st h = jv_ev call 138 44 [l0, some (.long x), l2, l3, l4] (.long x :: st) h := je_lload_n D138_43 rfl rfl
theorem D138_44 : decode (jt_code 138) 44 = .ok (.ldc2_w 189, 3) := by decide +kernel
theorem E138_44 {call : jv_F} {l0 l1 l2 l3 l4 : Option Value}  {st : List Value} {h : jv_H} : jv_ev call 138 44 [l0, l1, l2, l3, l4] st h = jv_ev call 138 47 [l0, l1, l2, l3, l4] (.long 31 :: st) h := je_ldc2 D138_44 rfl (by decide)
theorem D138_47 : decode (jt_code 138) 47 = .ok (.lmul, 1) := by decide +kernel
theorem E138_47 {call : jv_F} {l0 l1 l2 l3 l4 : Option Value} {x y : Int64} {st : List Value} {h : jv_H} : jv_ev call 138 47 [l0, l1, l2, l3, l4] (.long y :: .long x :: st) h = jv_ev call 138 48 [l0, l1, l2, l3, l4] (.long (x * y) :: st) h := je_l2 (f := fun x y => x * y) D138_47 rfl (fun _ => rfl)
theorem D138_48 : decode (jt_code 138) 48 = .ok (.aload_n 0, 1) := by decide +kernel
theorem E138_48 {call : jv_F} {l1 l2 l3 l4 : Option Value} {a : Nat} {st : List Value} {h : jv_H} : jv_ev call 138 48 [some (.ref a), l1, l2, l3, l4] st h = jv_ev call 138 49 [some (.ref a), l1, l2, l3, l4] (.ref a :: st) h := je_aload_n (r := some a) D138_48 rfl rfl
theorem D138_49 : decode (jt_code 138) 49 = .ok (.getfield 49, 3) := by decide +kernel
theorem E138_49 {call : jv_F} {l0 l1 l2 l3 l4 : Option Value} {a : Nat} {st : List Value} {h : jv_H} (hs : (jv_gf h a 6 8).isSome = true) : jv_ev call 138 49 [l0, l1, l2, l3, l4] (.ref a :: st) h = jv_ev call 138 52 [l0, l1, l2, l3, l4] ((jv_gf h a 6 8).getD .null :: st) h := by
  obtain ⟨v, hv⟩ := Option.isSome_iff_exists.mp hs
  rw [hv]
  exact je_get D138_49 rfl (by decide) hv
theorem D138_52 : decode (jt_code 138) 52 = .ok (.i2l, 1) := by decide +kernel
theorem E138_52 {call : jv_F} {l0 l1 l2 l3 l4 : Option Value} {x : Int32} {st : List Value} {h : jv_H} : jv_ev call 138 52 [l0, l1, l2, l3, l4] (.int x :: st) h = jv_ev call 138 53 [l0, l1, l2, l3, l4] (.long x.toInt64 :: st) h := je_i2l D138_52 rfl
theorem D138_53 : decode (jt_code 138) 53 = .ok (.ladd, 1) := by decide +kernel
theorem E138_53 {call : jv_F} {l0 l1 l2 l3 l4 : Option Value} {x y : Int64} {st : List Value} {h : jv_H} : jv_ev call 138 53 [l0, l1, l2, l3, l4] (.long y :: .long x :: st) h = jv_ev call 138 54 [l0, l1, l2, l3, l4] (.long (x + y) :: st) h := je_l2 (f := fun x y => x + y) D138_53 rfl (fun _ => rfl)
theorem D138_54 : decode (jt_code 138) 54 = .ok (.lstore_n 1, 1) := by decide +kernel
theorem E138_54 {call : jv_F} {l0 l1 l2 l3 l4 : Option Value} {x : Int64} {st : List Value} {h : jv_H} (hk : ¬ jv_is2 (some l0) = true) : jv_ev call 138 54 [l0, l1, l2, l3, l4] (.long x :: st) h = jv_ev call 138 55 [l0, some (.long x), none, l3, l4] st h := je_lstore_n D138_54 rfl (Nat.le_of_ble_eq_true rfl) (by show jv_st2 _ 1 _ = _; simp only [jv_st2, jv_kill, List.getElem?_cons_succ, List.getElem?_cons_zero, hk, if_false]; rfl)
theorem D138_55 : decode (jt_code 138) 55 = .ok (.iconst 0, 1) := by decide +kernel
theorem E138_55 {call : jv_F} {l0 l1 l2 l3 l4 : Option Value}  {st : List Value} {h : jv_H} : jv_ev call 138 55 [l0, l1, l2, l3, l4] st h = jv_ev call 138 56 [l0, l1, l2, l3, l4] (.int (nI 0) :: st) h := je_iconst D138_55 rfl (by decide)
theorem D138_56 : decode (jt_code 138) 56 = .ok (.istore_n 3, 1) := by decide +kernel
theorem E138_56 {call : jv_F} {l0 l1 l2 l3 l4 : Option Value} {x : Int32} {st : List Value} {h : jv_H} (hk : ¬ jv_is2 (some l2) = true) : jv_ev call 138 56 [l0, l1, l2, l3, l4] (.int x :: st) h = jv_ev call 138 57 [l0, l1, l2, some (.int x), l4] st h := je_istore_n D138_56 rfl (Nat.le_of_ble_eq_true rfl) (by show jv_st1 _ 3 _ = _; simp only [jv_st1, jv_kill, List.getElem?_cons_succ, List.getElem?_cons_zero, hk, if_false]; rfl)
theorem D138_57 : decode (jt_code 138) 57 = .ok (.iload_n 3, 1) := by decide +kernel
theorem E138_57 {call : jv_F} {l0 l1 l2 l4 : Option Value} {x : Int32} {st : List Value} {h : jv_H} : jv_ev call 138 57 [l0, l1, l2, some (.int x), l4] st h = jv_ev call 138 58 [l0, l1, l2, some (.int x), l4] (.int x :: st) h := je_iload_n D138_57 rfl rfl
theorem D138_58 : decode (jt_code 138) 58 = .ok (.bipush 7, 2) := by decide +kernel
theorem E138_58 {call : jv_F} {l0 l1 l2 l3 l4 : Option Value}  {st : List Value} {h : jv_H} : jv_ev call 138 58 [l0, l1, l2, l3, l4] st h = jv_ev call 138 60 [l0, l1, l2, l3, l4] (.int (nI 7) :: st) h := je_bipush D138_58 rfl (by decide)
theorem D138_60 : decode (jt_code 138) 60 = .ok (.if_icmp .gt 22, 3) := by decide +kernel
theorem E138_60 {call : jv_F} {l0 l1 l2 l3 l4 : Option Value} {x y : Int32} {st : List Value} {h : jv_H} : jv_ev call 138 60 [l0, l1, l2, l3, l4] (.int y :: .int x :: st) h = if y < x then jv_ev call 138 82 [l0, l1, l2, l3, l4] st h else jv_ev call 138 63 [l0, l1, l2, l3, l4] st h := je_icmp D138_60 (by decide) rfl rfl
theorem D138_63 : decode (jt_code 138) 63 = .ok (.lload_n 1, 1) := by decide +kernel
theorem E138_63 {call : jv_F} {l0 l2 l3 l4 : Option Value} {x : Int64} {st : List Value} {h : jv_H} : jv_ev call 138 63 [l0, some (.long x), l2, l3, l4] st h = jv_ev call 138 64 [l0, some (.long x), l2, l3, l4] (.long x :: st) h := je_lload_n D138_63 rfl rfl
theorem D138_64 : decode (jt_code 138) 64 = .ok (.ldc2_w 189, 3) := by decide +kernel
theorem E138_64 {call : jv_F} {l0 l1 l2 l3 l4 : Option Value}  {st : List Value} {h : jv_H} : jv_ev call 138 64 [l0, l1, l2, l3, l4] st h = jv_ev call 138 67 [l0, l1, l2, l3, l4] (.long 31 :: st) h := je_ldc2 D138_64 rfl (by decide)
theorem D138_67 : decode (jt_code 138) 67 = .ok (.lmul, 1) := by decide +kernel
theorem E138_67 {call : jv_F} {l0 l1 l2 l3 l4 : Option Value} {x y : Int64} {st : List Value} {h : jv_H} : jv_ev call 138 67 [l0, l1, l2, l3, l4] (.long y :: .long x :: st) h = jv_ev call 138 68 [l0, l1, l2, l3, l4] (.long (x * y) :: st) h := je_l2 (f := fun x y => x * y) D138_67 rfl (fun _ => rfl)
theorem D138_68 : decode (jt_code 138) 68 = .ok (.aload_n 0, 1) := by decide +kernel
theorem E138_68 {call : jv_F} {l1 l2 l3 l4 : Option Value} {a : Nat} {st : List Value} {h : jv_H} : jv_ev call 138 68 [some (.ref a), l1, l2, l3, l4] st h = jv_ev call 138 69 [some (.ref a), l1, l2, l3, l4] (.ref a :: st) h := je_aload_n (r := some a) D138_68 rfl rfl
theorem D138_69 : decode (jt_code 138) 69 = .ok (.iload_n 3, 1) := by decide +kernel
theorem E138_69 {call : jv_F} {l0 l1 l2 l4 : Option Value} {x : Int32} {st : List Value} {h : jv_H} : jv_ev call 138 69 [l0, l1, l2, some (.int x), l4] st h = jv_ev call 138 70 [l0, l1, l2, some (.int x), l4] (.int x :: st) h := je_iload_n D138_69 rfl rfl
theorem D138_70 : decode (jt_code 138) 70 = .ok (.invokevirtual 191, 3) := by decide +kernel
theorem E138_70 {call : jv_F} {l0 l1 l2 l3 l4 : Option Value} {b : Nat} {v0 : Value}  {st : List Value} {h : jv_H} (hw : jv_wide st = true) (hcl : jv_cl h b = some 6) (hc : (call 135 [.ref b, v0] h).isSome = true) : jv_ev call 138 70 [l0, l1, l2, l3, l4] (v0 :: .ref b :: st) h = jv_ev call 138 73 [l0, l1, l2, l3, l4] ((((call 135 [.ref b, v0] h).getD (none, h)).1).toList ++ st) ((call 135 [.ref b, v0] h).getD (none, h)).2 := by
  obtain ⟨⟨r, h'⟩, hv⟩ := Option.isSome_iff_exists.mp hc
  rw [hv]
  exact je_virt (y := 135) (as := [v0]) D138_70 rfl (by decide) (by decide) rfl hcl hw hv
theorem D138_73 : decode (jt_code 138) 73 = .ok (.i2l, 1) := by decide +kernel
theorem E138_73 {call : jv_F} {l0 l1 l2 l3 l4 : Option Value} {x : Int32} {st : List Value} {h : jv_H} : jv_ev call 138 73 [l0, l1, l2, l3, l4] (.int x :: st) h = jv_ev call 138 74 [l0, l1, l2, l3, l4] (.long x.toInt64 :: st) h := je_i2l D138_73 rfl
theorem D138_74 : decode (jt_code 138) 74 = .ok (.ladd, 1) := by decide +kernel
theorem E138_74 {call : jv_F} {l0 l1 l2 l3 l4 : Option Value} {x y : Int64} {st : List Value} {h : jv_H} : jv_ev call 138 74 [l0, l1, l2, l3, l4] (.long y :: .long x :: st) h = jv_ev call 138 75 [l0, l1, l2, l3, l4] (.long (x + y) :: st) h := je_l2 (f := fun x y => x + y) D138_74 rfl (fun _ => rfl)
theorem D138_75 : decode (jt_code 138) 75 = .ok (.lstore_n 1, 1) := by decide +kernel
theorem E138_75 {call : jv_F} {l0 l1 l2 l3 l4 : Option Value} {x : Int64} {st : List Value} {h : jv_H} (hk : ¬ jv_is2 (some l0) = true) : jv_ev call 138 75 [l0, l1, l2, l3, l4] (.long x :: st) h = jv_ev call 138 76 [l0, some (.long x), none, l3, l4] st h := je_lstore_n D138_75 rfl (Nat.le_of_ble_eq_true rfl) (by show jv_st2 _ 1 _ = _; simp only [jv_st2, jv_kill, List.getElem?_cons_succ, List.getElem?_cons_zero, hk, if_false]; rfl)
theorem D138_76 : decode (jt_code 138) 76 = .ok (.iinc 3 1, 3) := by decide +kernel
theorem E138_76 {call : jv_F} {l0 l1 l2 l4 : Option Value} {x : Int32} {st : List Value} {h : jv_H} (hk : ¬ jv_is2 (some l2) = true) : jv_ev call 138 76 [l0, l1, l2, some (.int x), l4] st h = jv_ev call 138 79 [l0, l1, l2, some (.int (x + (nI 1))), l4] st h := je_iinc D138_76 rfl rfl (v := x + (nI 1)) (by rfl) (by show jv_st1 _ 3 _ = _; simp only [jv_st1, jv_kill, List.getElem?_cons_succ, List.getElem?_cons_zero, hk, if_false]; rfl)
theorem D138_79 : decode (jt_code 138) 79 = .ok (.goto (-22), 3) := by decide +kernel
theorem E138_79 {call : jv_F} {l0 l1 l2 l3 l4 : Option Value}  {st : List Value} {h : jv_H} : jv_ev call 138 79 [l0, l1, l2, l3, l4] st h = jv_ev call 138 57 [l0, l1, l2, l3, l4] st h := je_goto D138_79 (by decide)
theorem D138_82 : decode (jt_code 138) 82 = .ok (.iconst 0, 1) := by decide +kernel
theorem E138_82 {call : jv_F} {l0 l1 l2 l3 l4 : Option Value}  {st : List Value} {h : jv_H} : jv_ev call 138 82 [l0, l1, l2, l3, l4] st h = jv_ev call 138 83 [l0, l1, l2, l3, l4] (.int (nI 0) :: st) h := je_iconst D138_82 rfl (by decide)
theorem D138_83 : decode (jt_code 138) 83 = .ok (.istore_n 3, 1) := by decide +kernel
theorem E138_83 {call : jv_F} {l0 l1 l2 l3 l4 : Option Value} {x : Int32} {st : List Value} {h : jv_H} (hk : ¬ jv_is2 (some l2) = true) : jv_ev call 138 83 [l0, l1, l2, l3, l4] (.int x :: st) h = jv_ev call 138 84 [l0, l1, l2, some (.int x), l4] st h := je_istore_n D138_83 rfl (Nat.le_of_ble_eq_true rfl) (by show jv_st1 _ 3 _ = _; simp only [jv_st1, jv_kill, List.getElem?_cons_succ, List.getElem?_cons_zero, hk, if_false]; rfl)
theorem D138_84 : decode (jt_code 138) 84 = .ok (.iload_n 3, 1) := by decide +kernel
theorem E138_84 {call : jv_F} {l0 l1 l2 l4 : Option Value} {x : Int32} {st : List Value} {h : jv_H} : jv_ev call 138 84 [l0, l1, l2, some (.int x), l4] st h = jv_ev call 138 85 [l0, l1, l2, some (.int x), l4] (.int x :: st) h := je_iload_n D138_84 rfl rfl
theorem D138_85 : decode (jt_code 138) 85 = .ok (.aload_n 0, 1) := by decide +kernel
theorem E138_85 {call : jv_F} {l1 l2 l3 l4 : Option Value} {a : Nat} {st : List Value} {h : jv_H} : jv_ev call 138 85 [some (.ref a), l1, l2, l3, l4] st h = jv_ev call 138 86 [some (.ref a), l1, l2, l3, l4] (.ref a :: st) h := je_aload_n (r := some a) D138_85 rfl rfl
theorem D138_86 : decode (jt_code 138) 86 = .ok (.getfield 19, 3) := by decide +kernel
theorem E138_86 {call : jv_F} {l0 l1 l2 l3 l4 : Option Value} {a : Nat} {st : List Value} {h : jv_H} (hs : (jv_gf h a 6 1).isSome = true) : jv_ev call 138 86 [l0, l1, l2, l3, l4] (.ref a :: st) h = jv_ev call 138 89 [l0, l1, l2, l3, l4] ((jv_gf h a 6 1).getD .null :: st) h := by
  obtain ⟨v, hv⟩ := Option.isSome_iff_exists.mp hs
  rw [hv]
  exact je_get D138_86 rfl (by decide) hv
theorem D138_89 : decode (jt_code 138) 89 = .ok (.getfield 156, 3) := by decide +kernel
theorem E138_89 {call : jv_F} {l0 l1 l2 l3 l4 : Option Value} {a : Nat} {st : List Value} {h : jv_H} (hs : (jv_gf h a 2 1).isSome = true) : jv_ev call 138 89 [l0, l1, l2, l3, l4] (.ref a :: st) h = jv_ev call 138 92 [l0, l1, l2, l3, l4] ((jv_gf h a 2 1).getD .null :: st) h := by
  obtain ⟨v, hv⟩ := Option.isSome_iff_exists.mp hs
  rw [hv]
  exact je_get D138_89 rfl (by decide) hv
theorem D138_92 : decode (jt_code 138) 92 = .ok (.if_icmp .ge 39, 3) := by decide +kernel
theorem E138_92 {call : jv_F} {l0 l1 l2 l3 l4 : Option Value} {x y : Int32} {st : List Value} {h : jv_H} : jv_ev call 138 92 [l0, l1, l2, l3, l4] (.int y :: .int x :: st) h = if y ≤ x then jv_ev call 138 131 [l0, l1, l2, l3, l4] st h else jv_ev call 138 95 [l0, l1, l2, l3, l4] st h := je_icmp D138_92 (by decide) rfl rfl
theorem D138_95 : decode (jt_code 138) 95 = .ok (.iconst 0, 1) := by decide +kernel
theorem E138_95 {call : jv_F} {l0 l1 l2 l3 l4 : Option Value}  {st : List Value} {h : jv_H} : jv_ev call 138 95 [l0, l1, l2, l3, l4] st h = jv_ev call 138 96 [l0, l1, l2, l3, l4] (.int (nI 0) :: st) h := je_iconst D138_95 rfl (by decide)
theorem D138_96 : decode (jt_code 138) 96 = .ok (.istore 4, 2) := by decide +kernel
theorem E138_96 {call : jv_F} {l0 l1 l2 l3 l4 : Option Value} {x : Int32} {st : List Value} {h : jv_H} (hk : ¬ jv_is2 (some l3) = true) : jv_ev call 138 96 [l0, l1, l2, l3, l4] (.int x :: st) h = jv_ev call 138 98 [l0, l1, l2, l3, some (.int x)] st h := je_istore D138_96 rfl (Nat.le_of_ble_eq_true rfl) (by show jv_st1 _ 4 _ = _; simp only [jv_st1, jv_kill, List.getElem?_cons_succ, List.getElem?_cons_zero, hk, if_false]; rfl)
theorem D138_98 : decode (jt_code 138) 98 = .ok (.iload 4, 2) := by decide +kernel
theorem E138_98 {call : jv_F} {l0 l1 l2 l3 : Option Value} {x : Int32} {st : List Value} {h : jv_H} : jv_ev call 138 98 [l0, l1, l2, l3, some (.int x)] st h = jv_ev call 138 100 [l0, l1, l2, l3, some (.int x)] (.int x :: st) h := je_iload D138_98 rfl rfl
theorem D138_100 : decode (jt_code 138) 100 = .ok (.iconst 4, 1) := by decide +kernel
theorem E138_100 {call : jv_F} {l0 l1 l2 l3 l4 : Option Value}  {st : List Value} {h : jv_H} : jv_ev call 138 100 [l0, l1, l2, l3, l4] st h = jv_ev call 138 101 [l0, l1, l2, l3, l4] (.int (nI 4) :: st) h := je_iconst D138_100 rfl (by decide)
theorem D138_101 : decode (jt_code 138) 101 = .ok (.if_icmp .gt 24, 3) := by decide +kernel
theorem E138_101 {call : jv_F} {l0 l1 l2 l3 l4 : Option Value} {x y : Int32} {st : List Value} {h : jv_H} : jv_ev call 138 101 [l0, l1, l2, l3, l4] (.int y :: .int x :: st) h = if y < x then jv_ev call 138 125 [l0, l1, l2, l3, l4] st h else jv_ev call 138 104 [l0, l1, l2, l3, l4] st h := je_icmp D138_101 (by decide) rfl rfl
theorem D138_104 : decode (jt_code 138) 104 = .ok (.lload_n 1, 1) := by decide +kernel
theorem E138_104 {call : jv_F} {l0 l2 l3 l4 : Option Value} {x : Int64} {st : List Value} {h : jv_H} : jv_ev call 138 104 [l0, some (.long x), l2, l3, l4] st h = jv_ev call 138 105 [l0, some (.long x), l2, l3, l4] (.long x :: st) h := je_lload_n D138_104 rfl rfl
theorem D138_105 : decode (jt_code 138) 105 = .ok (.ldc2_w 189, 3) := by decide +kernel
theorem E138_105 {call : jv_F} {l0 l1 l2 l3 l4 : Option Value}  {st : List Value} {h : jv_H} : jv_ev call 138 105 [l0, l1, l2, l3, l4] st h = jv_ev call 138 108 [l0, l1, l2, l3, l4] (.long 31 :: st) h := je_ldc2 D138_105 rfl (by decide)
theorem D138_108 : decode (jt_code 138) 108 = .ok (.lmul, 1) := by decide +kernel
theorem E138_108 {call : jv_F} {l0 l1 l2 l3 l4 : Option Value} {x y : Int64} {st : List Value} {h : jv_H} : jv_ev call 138 108 [l0, l1, l2, l3, l4] (.long y :: .long x :: st) h = jv_ev call 138 109 [l0, l1, l2, l3, l4] (.long (x * y) :: st) h := je_l2 (f := fun x y => x * y) D138_108 rfl (fun _ => rfl)
theorem D138_109 : decode (jt_code 138) 109 = .ok (.aload_n 0, 1) := by decide +kernel
theorem E138_109 {call : jv_F} {l1 l2 l3 l4 : Option Value} {a : Nat} {st : List Value} {h : jv_H} : jv_ev call 138 109 [some (.ref a), l1, l2, l3, l4] st h = jv_ev call 138 110 [some (.ref a), l1, l2, l3, l4] (.ref a :: st) h := je_aload_n (r := some a) D138_109 rfl rfl
theorem D138_110 : decode (jt_code 138) 110 = .ok (.iload_n 3, 1) := by decide +kernel
theorem E138_110 {call : jv_F} {l0 l1 l2 l4 : Option Value} {x : Int32} {st : List Value} {h : jv_H} : jv_ev call 138 110 [l0, l1, l2, some (.int x), l4] st h = jv_ev call 138 111 [l0, l1, l2, some (.int x), l4] (.int x :: st) h := je_iload_n D138_110 rfl rfl
theorem D138_111 : decode (jt_code 138) 111 = .ok (.iload 4, 2) := by decide +kernel
theorem E138_111 {call : jv_F} {l0 l1 l2 l3 : Option Value} {x : Int32} {st : List Value} {h : jv_H} : jv_ev call 138 111 [l0, l1, l2, l3, some (.int x)] st h = jv_ev call 138 113 [l0, l1, l2, l3, some (.int x)] (.int x :: st) h := je_iload D138_111 rfl rfl
theorem D138_113 : decode (jt_code 138) 113 = .ok (.invokevirtual 194, 3) := by decide +kernel
theorem E138_113 {call : jv_F} {l0 l1 l2 l3 l4 : Option Value} {b : Nat} {v0 v1 : Value}  {st : List Value} {h : jv_H} (hw : jv_wide st = true) (hcl : jv_cl h b = some 6) (hc : (call 136 [.ref b, v0, v1] h).isSome = true) : jv_ev call 138 113 [l0, l1, l2, l3, l4] (v1 :: v0 :: .ref b :: st) h = jv_ev call 138 116 [l0, l1, l2, l3, l4] ((((call 136 [.ref b, v0, v1] h).getD (none, h)).1).toList ++ st) ((call 136 [.ref b, v0, v1] h).getD (none, h)).2 := by
  obtain ⟨⟨r, h'⟩, hv⟩ := Option.isSome_iff_exists.mp hc
  rw [hv]
  exact je_virt (y := 136) (as := [v0, v1]) D138_113 rfl (by decide) (by decide) rfl hcl hw hv
theorem D138_116 : decode (jt_code 138) 116 = .ok (.i2l, 1) := by decide +kernel
theorem E138_116 {call : jv_F} {l0 l1 l2 l3 l4 : Option Value} {x : Int32} {st : List Value} {h : jv_H} : jv_ev call 138 116 [l0, l1, l2, l3, l4] (.int x :: st) h = jv_ev call 138 117 [l0, l1, l2, l3, l4] (.long x.toInt64 :: st) h := je_i2l D138_116 rfl
theorem D138_117 : decode (jt_code 138) 117 = .ok (.ladd, 1) := by decide +kernel
theorem E138_117 {call : jv_F} {l0 l1 l2 l3 l4 : Option Value} {x y : Int64} {st : List Value} {h : jv_H} : jv_ev call 138 117 [l0, l1, l2, l3, l4] (.long y :: .long x :: st) h = jv_ev call 138 118 [l0, l1, l2, l3, l4] (.long (x + y) :: st) h := je_l2 (f := fun x y => x + y) D138_117 rfl (fun _ => rfl)
theorem D138_118 : decode (jt_code 138) 118 = .ok (.lstore_n 1, 1) := by decide +kernel
theorem E138_118 {call : jv_F} {l0 l1 l2 l3 l4 : Option Value} {x : Int64} {st : List Value} {h : jv_H} (hk : ¬ jv_is2 (some l0) = true) : jv_ev call 138 118 [l0, l1, l2, l3, l4] (.long x :: st) h = jv_ev call 138 119 [l0, some (.long x), none, l3, l4] st h := je_lstore_n D138_118 rfl (Nat.le_of_ble_eq_true rfl) (by show jv_st2 _ 1 _ = _; simp only [jv_st2, jv_kill, List.getElem?_cons_succ, List.getElem?_cons_zero, hk, if_false]; rfl)
theorem D138_119 : decode (jt_code 138) 119 = .ok (.iinc 4 1, 3) := by decide +kernel
theorem E138_119 {call : jv_F} {l0 l1 l2 l3 : Option Value} {x : Int32} {st : List Value} {h : jv_H} (hk : ¬ jv_is2 (some l3) = true) : jv_ev call 138 119 [l0, l1, l2, l3, some (.int x)] st h = jv_ev call 138 122 [l0, l1, l2, l3, some (.int (x + (nI 1)))] st h := je_iinc D138_119 rfl rfl (v := x + (nI 1)) (by rfl) (by show jv_st1 _ 4 _ = _; simp only [jv_st1, jv_kill, List.getElem?_cons_succ, List.getElem?_cons_zero, hk, if_false]; rfl)
theorem D138_122 : decode (jt_code 138) 122 = .ok (.goto (-24), 3) := by decide +kernel
theorem E138_122 {call : jv_F} {l0 l1 l2 l3 l4 : Option Value}  {st : List Value} {h : jv_H} : jv_ev call 138 122 [l0, l1, l2, l3, l4] st h = jv_ev call 138 98 [l0, l1, l2, l3, l4] st h := je_goto D138_122 (by decide)
theorem D138_125 : decode (jt_code 138) 125 = .ok (.iinc 3 1, 3) := by decide +kernel
theorem E138_125 {call : jv_F} {l0 l1 l2 l4 : Option Value} {x : Int32} {st : List Value} {h : jv_H} (hk : ¬ jv_is2 (some l2) = true) : jv_ev call 138 125 [l0, l1, l2, some (.int x), l4] st h = jv_ev call 138 128 [l0, l1, l2, some (.int (x + (nI 1))), l4] st h := je_iinc D138_125 rfl rfl (v := x + (nI 1)) (by rfl) (by show jv_st1 _ 3 _ = _; simp only [jv_st1, jv_kill, List.getElem?_cons_succ, List.getElem?_cons_zero, hk, if_false]; rfl)
theorem D138_128 : decode (jt_code 138) 128 = .ok (.goto (-44), 3) := by decide +kernel
theorem E138_128 {call : jv_F} {l0 l1 l2 l3 l4 : Option Value}  {st : List Value} {h : jv_H} : jv_ev call 138 128 [l0, l1, l2, l3, l4] st h = jv_ev call 138 84 [l0, l1, l2, l3, l4] st h := je_goto D138_128 (by decide)
theorem D138_131 : decode (jt_code 138) 131 = .ok (.lload_n 1, 1) := by decide +kernel
theorem E138_131 {call : jv_F} {l0 l2 l3 l4 : Option Value} {x : Int64} {st : List Value} {h : jv_H} : jv_ev call 138 131 [l0, some (.long x), l2, l3, l4] st h = jv_ev call 138 132 [l0, some (.long x), l2, l3, l4] (.long x :: st) h := je_lload_n D138_131 rfl rfl
theorem D138_132 : decode (jt_code 138) 132 = .ok (.lreturn, 1) := by decide +kernel
theorem E138_132 {call : jv_F} {l0 l1 l2 l3 l4 : Option Value} {v : Int64} {h : jv_H} : jv_ev call 138 132 [l0, l1, l2, l3, l4] [.long v] h = some (some (.long v), h) := je_lret D138_132 rfl
/-! method 139: DrumMachine.find -/
theorem N139 {d : Nat} {b : Nat} {a0 : Int32} {h : jv_H} : jv_run (d + 1) 139 [.ref b, .int a0] h = jv_ev (jv_run d) 139 0 [some (.ref b), some (.int a0)] [] h := jv_run_eq (Nat.le_of_ble_eq_true rfl) rfl
theorem D139_0 : decode (jt_code 139) 0 = .ok (.iload_n 1, 1) := by decide +kernel
theorem E139_0 {call : jv_F} {l0 : Option Value} {x : Int32} {st : List Value} {h : jv_H} : jv_ev call 139 0 [l0, some (.int x)] st h = jv_ev call 139 1 [l0, some (.int x)] (.int x :: st) h := je_iload_n D139_0 rfl rfl
theorem D139_1 : decode (jt_code 139) 1 = .ok (.ifCond .lt 26, 3) := by decide +kernel
theorem E139_1 {call : jv_F} {l0 l1 : Option Value} {x : Int32} {st : List Value} {h : jv_H} : jv_ev call 139 1 [l0, l1] (.int x :: st) h = if x < 0 then jv_ev call 139 27 [l0, l1] st h else jv_ev call 139 4 [l0, l1] st h := je_ifc D139_1 (by decide) rfl rfl
theorem D139_4 : decode (jt_code 139) 4 = .ok (.iload_n 1, 1) := by decide +kernel
theorem E139_4 {call : jv_F} {l0 : Option Value} {x : Int32} {st : List Value} {h : jv_H} : jv_ev call 139 4 [l0, some (.int x)] st h = jv_ev call 139 5 [l0, some (.int x)] (.int x :: st) h := je_iload_n D139_4 rfl rfl
theorem D139_5 : decode (jt_code 139) 5 = .ok (.aload_n 0, 1) := by decide +kernel
theorem E139_5 {call : jv_F} {l1 : Option Value} {a : Nat} {st : List Value} {h : jv_H} : jv_ev call 139 5 [some (.ref a), l1] st h = jv_ev call 139 6 [some (.ref a), l1] (.ref a :: st) h := je_aload_n (r := some a) D139_5 rfl rfl
theorem D139_6 : decode (jt_code 139) 6 = .ok (.getfield 36, 3) := by decide +kernel
theorem E139_6 {call : jv_F} {l0 l1 : Option Value} {a : Nat} {st : List Value} {h : jv_H} (hs : (jv_gf h a 6 4).isSome = true) : jv_ev call 139 6 [l0, l1] (.ref a :: st) h = jv_ev call 139 9 [l0, l1] ((jv_gf h a 6 4).getD .null :: st) h := by
  obtain ⟨v, hv⟩ := Option.isSome_iff_exists.mp hs
  rw [hv]
  exact je_get D139_6 rfl (by decide) hv
theorem D139_9 : decode (jt_code 139) 9 = .ok (.if_icmp .ge 18, 3) := by decide +kernel
theorem E139_9 {call : jv_F} {l0 l1 : Option Value} {x y : Int32} {st : List Value} {h : jv_H} : jv_ev call 139 9 [l0, l1] (.int y :: .int x :: st) h = if y ≤ x then jv_ev call 139 27 [l0, l1] st h else jv_ev call 139 12 [l0, l1] st h := je_icmp D139_9 (by decide) rfl rfl
theorem D139_12 : decode (jt_code 139) 12 = .ok (.iload_n 1, 1) := by decide +kernel
theorem E139_12 {call : jv_F} {l0 : Option Value} {x : Int32} {st : List Value} {h : jv_H} : jv_ev call 139 12 [l0, some (.int x)] st h = jv_ev call 139 13 [l0, some (.int x)] (.int x :: st) h := je_iload_n D139_12 rfl rfl
theorem D139_13 : decode (jt_code 139) 13 = .ok (.bipush 12, 2) := by decide +kernel
theorem E139_13 {call : jv_F} {l0 l1 : Option Value}  {st : List Value} {h : jv_H} : jv_ev call 139 13 [l0, l1] st h = jv_ev call 139 15 [l0, l1] (.int (nI 12) :: st) h := je_bipush D139_13 rfl (by decide)
theorem D139_15 : decode (jt_code 139) 15 = .ok (.if_icmp .ge 12, 3) := by decide +kernel
theorem E139_15 {call : jv_F} {l0 l1 : Option Value} {x y : Int32} {st : List Value} {h : jv_H} : jv_ev call 139 15 [l0, l1] (.int y :: .int x :: st) h = if y ≤ x then jv_ev call 139 27 [l0, l1] st h else jv_ev call 139 18 [l0, l1] st h := je_icmp D139_15 (by decide) rfl rfl
theorem D139_18 : decode (jt_code 139) 18 = .ok (.aload_n 0, 1) := by decide +kernel
theorem E139_18 {call : jv_F} {l1 : Option Value} {a : Nat} {st : List Value} {h : jv_H} : jv_ev call 139 18 [some (.ref a), l1] st h = jv_ev call 139 19 [some (.ref a), l1] (.ref a :: st) h := je_aload_n (r := some a) D139_18 rfl rfl
theorem D139_19 : decode (jt_code 139) 19 = .ok (.getfield 32, 3) := by decide +kernel
theorem E139_19 {call : jv_F} {l0 l1 : Option Value} {a : Nat} {st : List Value} {h : jv_H} (hs : (jv_gf h a 6 3).isSome = true) : jv_ev call 139 19 [l0, l1] (.ref a :: st) h = jv_ev call 139 22 [l0, l1] ((jv_gf h a 6 3).getD .null :: st) h := by
  obtain ⟨v, hv⟩ := Option.isSome_iff_exists.mp hs
  rw [hv]
  exact je_get D139_19 rfl (by decide) hv
theorem D139_22 : decode (jt_code 139) 22 = .ok (.iload_n 1, 1) := by decide +kernel
theorem E139_22 {call : jv_F} {l0 : Option Value} {x : Int32} {st : List Value} {h : jv_H} : jv_ev call 139 22 [l0, some (.int x)] st h = jv_ev call 139 23 [l0, some (.int x)] (.int x :: st) h := je_iload_n D139_22 rfl rfl
theorem D139_23 : decode (jt_code 139) 23 = .ok (.aaload, 1) := by decide +kernel
theorem E139_23 {call : jv_F} {l0 l1 : Option Value} {a : Nat} {j : Int32} {C : String} {st : List Value} {h : jv_H} (hC : jv_kn h a = some C) (hs : (jv_al h a (.object C) j).isSome = true) : jv_ev call 139 23 [l0, l1] (.int j :: .ref a :: st) h = jv_ev call 139 24 [l0, l1] ((jv_al h a (.object C) j).getD .null :: st) h := by
  obtain ⟨v, hv⟩ := Option.isSome_iff_exists.mp hs
  rw [hv]
  exact je_aald D139_23 rfl hC hv
theorem D139_24 : decode (jt_code 139) 24 = .ok (.goto 4, 3) := by decide +kernel
theorem E139_24 {call : jv_F} {l0 l1 : Option Value}  {st : List Value} {h : jv_H} : jv_ev call 139 24 [l0, l1] st h = jv_ev call 139 28 [l0, l1] st h := je_goto D139_24 (by decide)
theorem D139_27 : decode (jt_code 139) 27 = .ok (.aconst_null, 1) := by decide +kernel
theorem E139_27 {call : jv_F} {l0 l1 : Option Value}  {st : List Value} {h : jv_H} : jv_ev call 139 27 [l0, l1] st h = jv_ev call 139 28 [l0, l1] (.null :: st) h := je_null D139_27 rfl
theorem D139_28 : decode (jt_code 139) 28 = .ok (.areturn, 1) := by decide +kernel
theorem E139_28r {call : jv_F} {l0 l1 : Option Value} {r : Option Nat} {h : jv_H} : jv_ev call 139 28 [l0, l1] [va_rf r] h = some (some (va_rf r), h) := je_aret D139_28 rfl
theorem E139_28 {call : jv_F} {l0 l1 : Option Value} {a : Nat} {h : jv_H} : jv_ev call 139 28 [l0, l1] [.ref a] h = some (some (.ref a), h) := je_aret (r := some a) D139_28 rfl
theorem E139_28n {call : jv_F} {l0 l1 : Option Value}  {h : jv_H} : jv_ev call 139 28 [l0, l1] [.null] h = some (some .null, h) := je_aret (r := none) D139_28 rfl
/-! method 157: java/lang/Math.min -/
theorem N157 {d : Nat} {a0 : Int32} {a1 : Int32} {h : jv_H} : jv_run (d + 1) 157 [.int a0, .int a1] h = jv_ev (jv_run d) 157 0 [some (.int a0), some (.int a1)] [] h := jv_run_eq (Nat.le_of_ble_eq_true rfl) rfl
theorem D157_0 : decode (jt_code 157) 0 = .ok (.iload_n 0, 1) := by decide +kernel
theorem E157_0 {call : jv_F} {l1 : Option Value} {x : Int32} {st : List Value} {h : jv_H} : jv_ev call 157 0 [some (.int x), l1] st h = jv_ev call 157 1 [some (.int x), l1] (.int x :: st) h := je_iload_n D157_0 rfl rfl
theorem D157_1 : decode (jt_code 157) 1 = .ok (.iload_n 1, 1) := by decide +kernel
theorem E157_1 {call : jv_F} {l0 : Option Value} {x : Int32} {st : List Value} {h : jv_H} : jv_ev call 157 1 [l0, some (.int x)] st h = jv_ev call 157 2 [l0, some (.int x)] (.int x :: st) h := je_iload_n D157_1 rfl rfl
theorem D157_2 : decode (jt_code 157) 2 = .ok (.if_icmp .gt 7, 3) := by decide +kernel
theorem E157_2 {call : jv_F} {l0 l1 : Option Value} {x y : Int32} {st : List Value} {h : jv_H} : jv_ev call 157 2 [l0, l1] (.int y :: .int x :: st) h = if y < x then jv_ev call 157 9 [l0, l1] st h else jv_ev call 157 5 [l0, l1] st h := je_icmp D157_2 (by decide) rfl rfl
theorem D157_5 : decode (jt_code 157) 5 = .ok (.iload_n 0, 1) := by decide +kernel
theorem E157_5 {call : jv_F} {l1 : Option Value} {x : Int32} {st : List Value} {h : jv_H} : jv_ev call 157 5 [some (.int x), l1] st h = jv_ev call 157 6 [some (.int x), l1] (.int x :: st) h := je_iload_n D157_5 rfl rfl
theorem D157_6 : decode (jt_code 157) 6 = .ok (.goto 4, 3) := by decide +kernel
theorem E157_6 {call : jv_F} {l0 l1 : Option Value}  {st : List Value} {h : jv_H} : jv_ev call 157 6 [l0, l1] st h = jv_ev call 157 10 [l0, l1] st h := je_goto D157_6 (by decide)
theorem D157_9 : decode (jt_code 157) 9 = .ok (.iload_n 1, 1) := by decide +kernel
theorem E157_9 {call : jv_F} {l0 : Option Value} {x : Int32} {st : List Value} {h : jv_H} : jv_ev call 157 9 [l0, some (.int x)] st h = jv_ev call 157 10 [l0, some (.int x)] (.int x :: st) h := je_iload_n D157_9 rfl rfl
theorem D157_10 : decode (jt_code 157) 10 = .ok (.ireturn, 1) := by decide +kernel
theorem E157_10 {call : jv_F} {l0 l1 : Option Value} {v : Int32} {h : jv_H} : jv_ev call 157 10 [l0, l1] [.int v] h = some (some (.int v), h) := je_iret (ty := .int) D157_10 rfl rfl rfl
end
section
/-! method 60: DrumMachine$Block.<init> -/
theorem N60 {d : Nat} {b : Nat} {a0 : Option Nat} {a1 : Int32} {h : jv_H} : jv_run (d + 1) 60 [.ref b, va_rf a0, .int a1] h = jv_ev (jv_run d) 60 0 [some (.ref b), some (va_rf a0), some (.int a1)] [] h := by
  cases a0 <;>
  exact jv_run_eq (Nat.le_of_ble_eq_true rfl) rfl
theorem D60_0 : decode (jt_code 60) 0 = .ok (.aload_n 0, 1) := by decide +kernel
theorem E60_0 {call : jv_F} {l1 l2 : Option Value} {a : Nat} {st : List Value} {h : jv_H} : jv_ev call 60 0 [some (.ref a), l1, l2] st h = jv_ev call 60 1 [some (.ref a), l1, l2] (.ref a :: st) h := je_aload_n (r := some a) D60_0 rfl rfl
theorem D60_1 : decode (jt_code 60) 1 = .ok (.invokespecial 3, 3) := by decide +kernel
theorem E60_1 {call : jv_F} {l0 l1 l2 : Option Value} {b : Nat} {st : List Value} {h : jv_H} (hw : jv_wide st = true) : jv_ev call 60 1 [l0, l1, l2] (.ref b :: st) h = jv_ev call 60 4 [l0, l1, l2] st h := je_obj D60_1 rfl (by decide) hw
theorem D60_4 : decode (jt_code 60) 4 = .ok (.aload_n 0, 1) := by decide +kernel
theorem E60_4 {call : jv_F} {l1 l2 : Option Value} {a : Nat} {st : List Value} {h : jv_H} : jv_ev call 60 4 [some (.ref a), l1, l2] st h = jv_ev call 60 5 [some (.ref a), l1, l2] (.ref a :: st) h := je_aload_n (r := some a) D60_4 rfl rfl
theorem D60_5 : decode (jt_code 60) 5 = .ok (.iconst (-1), 1) := by decide +kernel
theorem E60_5 {call : jv_F} {l0 l1 l2 : Option Value}  {st : List Value} {h : jv_H} : jv_ev call 60 5 [l0, l1, l2] st h = jv_ev call 60 6 [l0, l1, l2] (.int (-1) :: st) h := je_iconst D60_5 rfl (by decide)
theorem D60_6 : decode (jt_code 60) 6 = .ok (.putfield 9, 3) := by decide +kernel
theorem E60_6 {call : jv_F} {l0 l1 l2 : Option Value} {a : Nat} {v : Value} {st : List Value} {h : jv_H} (hs : (jv_pf h a 1 2 v).isSome = true) : jv_ev call 60 6 [l0, l1, l2] (v :: .ref a :: st) h = jv_ev call 60 9 [l0, l1, l2] st ((jv_pf h a 1 2 v).getD h) := by
  obtain ⟨h', hv⟩ := Option.isSome_iff_exists.mp hs
  rw [hv]
  exact je_put D60_6 rfl (by decide) (by decide) hv
theorem D60_9 : decode (jt_code 60) 9 = .ok (.aload_n 0, 1) := by decide +kernel
theorem E60_9 {call : jv_F} {l1 l2 : Option Value} {a : Nat} {st : List Value} {h : jv_H} : jv_ev call 60 9 [some (.ref a), l1, l2] st h = jv_ev call 60 10 [some (.ref a), l1, l2] (.ref a :: st) h := je_aload_n (r := some a) D60_9 rfl rfl
theorem D60_10 : decode (jt_code 60) 10 = .ok (.iconst (-1), 1) := by decide +kernel
theorem E60_10 {call : jv_F} {l0 l1 l2 : Option Value}  {st : List Value} {h : jv_H} : jv_ev call 60 10 [l0, l1, l2] st h = jv_ev call 60 11 [l0, l1, l2] (.int (-1) :: st) h := je_iconst D60_10 rfl (by decide)
theorem D60_11 : decode (jt_code 60) 11 = .ok (.putfield 15, 3) := by decide +kernel
theorem E60_11 {call : jv_F} {l0 l1 l2 : Option Value} {a : Nat} {v : Value} {st : List Value} {h : jv_H} (hs : (jv_pf h a 1 3 v).isSome = true) : jv_ev call 60 11 [l0, l1, l2] (v :: .ref a :: st) h = jv_ev call 60 14 [l0, l1, l2] st ((jv_pf h a 1 3 v).getD h) := by
  obtain ⟨h', hv⟩ := Option.isSome_iff_exists.mp hs
  rw [hv]
  exact je_put D60_11 rfl (by decide) (by decide) hv
theorem D60_14 : decode (jt_code 60) 14 = .ok (.aload_n 0, 1) := by decide +kernel
theorem E60_14 {call : jv_F} {l1 l2 : Option Value} {a : Nat} {st : List Value} {h : jv_H} : jv_ev call 60 14 [some (.ref a), l1, l2] st h = jv_ev call 60 15 [some (.ref a), l1, l2] (.ref a :: st) h := je_aload_n (r := some a) D60_14 rfl rfl
theorem D60_15 : decode (jt_code 60) 15 = .ok (.iconst 0, 1) := by decide +kernel
theorem E60_15 {call : jv_F} {l0 l1 l2 : Option Value}  {st : List Value} {h : jv_H} : jv_ev call 60 15 [l0, l1, l2] st h = jv_ev call 60 16 [l0, l1, l2] (.int (nI 0) :: st) h := je_iconst D60_15 rfl (by decide)
theorem D60_16 : decode (jt_code 60) 16 = .ok (.putfield 18, 3) := by decide +kernel
theorem E60_16 {call : jv_F} {l0 l1 l2 : Option Value} {a : Nat} {v : Value} {st : List Value} {h : jv_H} (hs : (jv_pf h a 1 4 v).isSome = true) : jv_ev call 60 16 [l0, l1, l2] (v :: .ref a :: st) h = jv_ev call 60 19 [l0, l1, l2] st ((jv_pf h a 1 4 v).getD h) := by
  obtain ⟨h', hv⟩ := Option.isSome_iff_exists.mp hs
  rw [hv]
  exact je_put D60_16 rfl (by decide) (by decide) hv
theorem D60_19 : decode (jt_code 60) 19 = .ok (.aload_n 0, 1) := by decide +kernel
theorem E60_19 {call : jv_F} {l1 l2 : Option Value} {a : Nat} {st : List Value} {h : jv_H} : jv_ev call 60 19 [some (.ref a), l1, l2] st h = jv_ev call 60 20 [some (.ref a), l1, l2] (.ref a :: st) h := je_aload_n (r := some a) D60_19 rfl rfl
theorem D60_20 : decode (jt_code 60) 20 = .ok (.iconst 0, 1) := by decide +kernel
theorem E60_20 {call : jv_F} {l0 l1 l2 : Option Value}  {st : List Value} {h : jv_H} : jv_ev call 60 20 [l0, l1, l2] st h = jv_ev call 60 21 [l0, l1, l2] (.int (nI 0) :: st) h := je_iconst D60_20 rfl (by decide)
theorem D60_21 : decode (jt_code 60) 21 = .ok (.putfield 22, 3) := by decide +kernel
theorem E60_21 {call : jv_F} {l0 l1 l2 : Option Value} {a : Nat} {v : Value} {st : List Value} {h : jv_H} (hs : (jv_pf h a 1 5 v).isSome = true) : jv_ev call 60 21 [l0, l1, l2] (v :: .ref a :: st) h = jv_ev call 60 24 [l0, l1, l2] st ((jv_pf h a 1 5 v).getD h) := by
  obtain ⟨h', hv⟩ := Option.isSome_iff_exists.mp hs
  rw [hv]
  exact je_put D60_21 rfl (by decide) (by decide) hv
theorem D60_24 : decode (jt_code 60) 24 = .ok (.aload_n 0, 1) := by decide +kernel
theorem E60_24 {call : jv_F} {l1 l2 : Option Value} {a : Nat} {st : List Value} {h : jv_H} : jv_ev call 60 24 [some (.ref a), l1, l2] st h = jv_ev call 60 25 [some (.ref a), l1, l2] (.ref a :: st) h := je_aload_n (r := some a) D60_24 rfl rfl
theorem D60_25 : decode (jt_code 60) 25 = .ok (.iconst 0, 1) := by decide +kernel
theorem E60_25 {call : jv_F} {l0 l1 l2 : Option Value}  {st : List Value} {h : jv_H} : jv_ev call 60 25 [l0, l1, l2] st h = jv_ev call 60 26 [l0, l1, l2] (.int (nI 0) :: st) h := je_iconst D60_25 rfl (by decide)
theorem D60_26 : decode (jt_code 60) 26 = .ok (.putfield 25, 3) := by decide +kernel
theorem E60_26 {call : jv_F} {l0 l1 l2 : Option Value} {a : Nat} {v : Value} {st : List Value} {h : jv_H} (hs : (jv_pf h a 1 6 v).isSome = true) : jv_ev call 60 26 [l0, l1, l2] (v :: .ref a :: st) h = jv_ev call 60 29 [l0, l1, l2] st ((jv_pf h a 1 6 v).getD h) := by
  obtain ⟨h', hv⟩ := Option.isSome_iff_exists.mp hs
  rw [hv]
  exact je_put D60_26 rfl (by decide) (by decide) hv
theorem D60_29 : decode (jt_code 60) 29 = .ok (.aload_n 0, 1) := by decide +kernel
theorem E60_29 {call : jv_F} {l1 l2 : Option Value} {a : Nat} {st : List Value} {h : jv_H} : jv_ev call 60 29 [some (.ref a), l1, l2] st h = jv_ev call 60 30 [some (.ref a), l1, l2] (.ref a :: st) h := je_aload_n (r := some a) D60_29 rfl rfl
theorem D60_30 : decode (jt_code 60) 30 = .ok (.iconst 0, 1) := by decide +kernel
theorem E60_30 {call : jv_F} {l0 l1 l2 : Option Value}  {st : List Value} {h : jv_H} : jv_ev call 60 30 [l0, l1, l2] st h = jv_ev call 60 31 [l0, l1, l2] (.int (nI 0) :: st) h := je_iconst D60_30 rfl (by decide)
theorem D60_31 : decode (jt_code 60) 31 = .ok (.putfield 28, 3) := by decide +kernel
theorem E60_31 {call : jv_F} {l0 l1 l2 : Option Value} {a : Nat} {v : Value} {st : List Value} {h : jv_H} (hs : (jv_pf h a 1 7 v).isSome = true) : jv_ev call 60 31 [l0, l1, l2] (v :: .ref a :: st) h = jv_ev call 60 34 [l0, l1, l2] st ((jv_pf h a 1 7 v).getD h) := by
  obtain ⟨h', hv⟩ := Option.isSome_iff_exists.mp hs
  rw [hv]
  exact je_put D60_31 rfl (by decide) (by decide) hv
theorem D60_34 : decode (jt_code 60) 34 = .ok (.aload_n 0, 1) := by decide +kernel
theorem E60_34 {call : jv_F} {l1 l2 : Option Value} {a : Nat} {st : List Value} {h : jv_H} : jv_ev call 60 34 [some (.ref a), l1, l2] st h = jv_ev call 60 35 [some (.ref a), l1, l2] (.ref a :: st) h := je_aload_n (r := some a) D60_34 rfl rfl
theorem D60_35 : decode (jt_code 60) 35 = .ok (.iconst (-1), 1) := by decide +kernel
theorem E60_35 {call : jv_F} {l0 l1 l2 : Option Value}  {st : List Value} {h : jv_H} : jv_ev call 60 35 [l0, l1, l2] st h = jv_ev call 60 36 [l0, l1, l2] (.int (-1) :: st) h := je_iconst D60_35 rfl (by decide)
theorem D60_36 : decode (jt_code 60) 36 = .ok (.putfield 31, 3) := by decide +kernel
theorem E60_36 {call : jv_F} {l0 l1 l2 : Option Value} {a : Nat} {v : Value} {st : List Value} {h : jv_H} (hs : (jv_pf h a 1 8 v).isSome = true) : jv_ev call 60 36 [l0, l1, l2] (v :: .ref a :: st) h = jv_ev call 60 39 [l0, l1, l2] st ((jv_pf h a 1 8 v).getD h) := by
  obtain ⟨h', hv⟩ := Option.isSome_iff_exists.mp hs
  rw [hv]
  exact je_put D60_36 rfl (by decide) (by decide) hv
theorem D60_39 : decode (jt_code 60) 39 = .ok (.aload_n 0, 1) := by decide +kernel
theorem E60_39 {call : jv_F} {l1 l2 : Option Value} {a : Nat} {st : List Value} {h : jv_H} : jv_ev call 60 39 [some (.ref a), l1, l2] st h = jv_ev call 60 40 [some (.ref a), l1, l2] (.ref a :: st) h := je_aload_n (r := some a) D60_39 rfl rfl
theorem D60_40 : decode (jt_code 60) 40 = .ok (.iconst (-1), 1) := by decide +kernel
theorem E60_40 {call : jv_F} {l0 l1 l2 : Option Value}  {st : List Value} {h : jv_H} : jv_ev call 60 40 [l0, l1, l2] st h = jv_ev call 60 41 [l0, l1, l2] (.int (-1) :: st) h := je_iconst D60_40 rfl (by decide)
theorem D60_41 : decode (jt_code 60) 41 = .ok (.putfield 34, 3) := by decide +kernel
theorem E60_41 {call : jv_F} {l0 l1 l2 : Option Value} {a : Nat} {v : Value} {st : List Value} {h : jv_H} (hs : (jv_pf h a 1 9 v).isSome = true) : jv_ev call 60 41 [l0, l1, l2] (v :: .ref a :: st) h = jv_ev call 60 44 [l0, l1, l2] st ((jv_pf h a 1 9 v).getD h) := by
  obtain ⟨h', hv⟩ := Option.isSome_iff_exists.mp hs
  rw [hv]
  exact je_put D60_41 rfl (by decide) (by decide) hv
theorem D60_44 : decode (jt_code 60) 44 = .ok (.aload_n 0, 1) := by decide +kernel
theorem E60_44 {call : jv_F} {l1 l2 : Option Value} {a : Nat} {st : List Value} {h : jv_H} : jv_ev call 60 44 [some (.ref a), l1, l2] st h = jv_ev call 60 45 [some (.ref a), l1, l2] (.ref a :: st) h := je_aload_n (r := some a) D60_44 rfl rfl
theorem D60_45 : decode (jt_code 60) 45 = .ok (.aload_n 1, 1) := by decide +kernel
theorem E60_45 {call : jv_F} {l0 l2 : Option Value} {a : Nat} {st : List Value} {h : jv_H} : jv_ev call 60 45 [l0, some (.ref a), l2] st h = jv_ev call 60 46 [l0, some (.ref a), l2] (.ref a :: st) h := je_aload_n (r := some a) D60_45 rfl rfl
theorem E60_45r {call : jv_F} {l0 l2 : Option Value} {r : Option Nat} {st : List Value} {h : jv_H} : jv_ev call 60 45 [l0, some (va_rf r), l2] st h = jv_ev call 60 46 [l0, some (va_rf r), l2] (va_rf r :: st) h := je_aload_n (r := r) D60_45 rfl rfl
theorem D60_46 : decode (jt_code 60) 46 = .ok (.putfield 37, 3) := by decide +kernel
theorem E60_46 {call : jv_F} {l0 l1 l2 : Option Value} {a : Nat} {v : Value} {st : List Value} {h : jv_H} (hs : (jv_pf h a 1 0 v).isSome = true) : jv_ev call 60 46 [l0, l1, l2] (v :: .ref a :: st) h = jv_ev call 60 49 [l0, l1, l2] st ((jv_pf h a 1 0 v).getD h) := by
  obtain ⟨h', hv⟩ := Option.isSome_iff_exists.mp hs
  rw [hv]
  exact je_put D60_46 rfl (by decide) (by decide) hv
theorem D60_49 : decode (jt_code 60) 49 = .ok (.aload_n 0, 1) := by decide +kernel
theorem E60_49 {call : jv_F} {l1 l2 : Option Value} {a : Nat} {st : List Value} {h : jv_H} : jv_ev call 60 49 [some (.ref a), l1, l2] st h = jv_ev call 60 50 [some (.ref a), l1, l2] (.ref a :: st) h := je_aload_n (r := some a) D60_49 rfl rfl
theorem D60_50 : decode (jt_code 60) 50 = .ok (.iload_n 2, 1) := by decide +kernel
theorem E60_50 {call : jv_F} {l0 l1 : Option Value} {x : Int32} {st : List Value} {h : jv_H} : jv_ev call 60 50 [l0, l1, some (.int x)] st h = jv_ev call 60 51 [l0, l1, some (.int x)] (.int x :: st) h := je_iload_n D60_50 rfl rfl
theorem D60_51 : decode (jt_code 60) 51 = .ok (.putfield 41, 3) := by decide +kernel
theorem E60_51 {call : jv_F} {l0 l1 l2 : Option Value} {a : Nat} {v : Value} {st : List Value} {h : jv_H} (hs : (jv_pf h a 1 1 v).isSome = true) : jv_ev call 60 51 [l0, l1, l2] (v :: .ref a :: st) h = jv_ev call 60 54 [l0, l1, l2] st ((jv_pf h a 1 1 v).getD h) := by
  obtain ⟨h', hv⟩ := Option.isSome_iff_exists.mp hs
  rw [hv]
  exact je_put D60_51 rfl (by decide) (by decide) hv
theorem D60_54 : decode (jt_code 60) 54 = .ok (.return_, 1) := by decide +kernel
theorem E60_54 {call : jv_F} {l0 l1 l2 : Option Value}  {h : jv_H} : jv_ev call 60 54 [l0, l1, l2] [] h = some (none, h) := je_ret D60_54 rfl
/-! method 81: DrumMachine$Drum.ask -/
theorem N81 {d : Nat} {b : Nat} {a0 : Option Nat} {h : jv_H} : jv_run (d + 1) 81 [.ref b, va_rf a0] h = jv_ev (jv_run d) 81 0 [some (.ref b), some (va_rf a0)] [] h := by
  cases a0 <;>
  exact jv_run_eq (Nat.le_of_ble_eq_true rfl) rfl
theorem D81_0 : decode (jt_code 81) 0 = .ok (.aload_n 0, 1) := by decide +kernel
theorem E81_0 {call : jv_F} {l1 : Option Value} {a : Nat} {st : List Value} {h : jv_H} : jv_ev call 81 0 [some (.ref a), l1] st h = jv_ev call 81 1 [some (.ref a), l1] (.ref a :: st) h := je_aload_n (r := some a) D81_0 rfl rfl
theorem D81_1 : decode (jt_code 81) 1 = .ok (.getfield 20, 3) := by decide +kernel
theorem E81_1 {call : jv_F} {l0 l1 : Option Value} {a : Nat} {st : List Value} {h : jv_H} (hs : (jv_gf h a 3 2).isSome = true) : jv_ev call 81 1 [l0, l1] (.ref a :: st) h = jv_ev call 81 4 [l0, l1] ((jv_gf h a 3 2).getD .null :: st) h := by
  obtain ⟨v, hv⟩ := Option.isSome_iff_exists.mp hs
  rw [hv]
  exact je_get D81_1 rfl (by decide) hv
theorem D81_4 : decode (jt_code 81) 4 = .ok (.bipush 17, 2) := by decide +kernel
theorem E81_4 {call : jv_F} {l0 l1 : Option Value}  {st : List Value} {h : jv_H} : jv_ev call 81 4 [l0, l1] st h = jv_ev call 81 6 [l0, l1] (.int (nI 17) :: st) h := je_bipush D81_4 rfl (by decide)
theorem D81_6 : decode (jt_code 81) 6 = .ok (.if_icmp .ge 46, 3) := by decide +kernel
theorem E81_6 {call : jv_F} {l0 l1 : Option Value} {x y : Int32} {st : List Value} {h : jv_H} : jv_ev call 81 6 [l0, l1] (.int y :: .int x :: st) h = if y ≤ x then jv_ev call 81 52 [l0, l1] st h else jv_ev call 81 9 [l0, l1] st h := je_icmp D81_6 (by decide) rfl rfl
theorem D81_9 : decode (jt_code 81) 9 = .ok (.aload_n 0, 1) := by decide +kernel
theorem E81_9 {call : jv_F} {l1 : Option Value} {a : Nat} {st : List Value} {h : jv_H} : jv_ev call 81 9 [some (.ref a), l1] st h = jv_ev call 81 10 [some (.ref a), l1] (.ref a :: st) h := je_aload_n (r := some a) D81_9 rfl rfl
theorem D81_10 : decode (jt_code 81) 10 = .ok (.getfield 17, 3) := by decide +kernel
theorem E81_10 {call : jv_F} {l0 l1 : Option Value} {a : Nat} {st : List Value} {h : jv_H} (hs : (jv_gf h a 3 1).isSome = true) : jv_ev call 81 10 [l0, l1] (.ref a :: st) h = jv_ev call 81 13 [l0, l1] ((jv_gf h a 3 1).getD .null :: st) h := by
  obtain ⟨v, hv⟩ := Option.isSome_iff_exists.mp hs
  rw [hv]
  exact je_get D81_10 rfl (by decide) hv
theorem D81_13 : decode (jt_code 81) 13 = .ok (.aload_n 0, 1) := by decide +kernel
theorem E81_13 {call : jv_F} {l1 : Option Value} {a : Nat} {st : List Value} {h : jv_H} : jv_ev call 81 13 [some (.ref a), l1] st h = jv_ev call 81 14 [some (.ref a), l1] (.ref a :: st) h := je_aload_n (r := some a) D81_13 rfl rfl
theorem D81_14 : decode (jt_code 81) 14 = .ok (.getfield 20, 3) := by decide +kernel
theorem E81_14 {call : jv_F} {l0 l1 : Option Value} {a : Nat} {st : List Value} {h : jv_H} (hs : (jv_gf h a 3 2).isSome = true) : jv_ev call 81 14 [l0, l1] (.ref a :: st) h = jv_ev call 81 17 [l0, l1] ((jv_gf h a 3 2).getD .null :: st) h := by
  obtain ⟨v, hv⟩ := Option.isSome_iff_exists.mp hs
  rw [hv]
  exact je_get D81_14 rfl (by decide) hv
theorem D81_17 : decode (jt_code 81) 17 = .ok (.aload_n 1, 1) := by decide +kernel
theorem E81_17 {call : jv_F} {l0 : Option Value} {a : Nat} {st : List Value} {h : jv_H} : jv_ev call 81 17 [l0, some (.ref a)] st h = jv_ev call 81 18 [l0, some (.ref a)] (.ref a :: st) h := je_aload_n (r := some a) D81_17 rfl rfl
theorem E81_17r {call : jv_F} {l0 : Option Value} {r : Option Nat} {st : List Value} {h : jv_H} : jv_ev call 81 17 [l0, some (va_rf r)] st h = jv_ev call 81 18 [l0, some (va_rf r)] (va_rf r :: st) h := je_aload_n (r := r) D81_17 rfl rfl
theorem D81_18 : decode (jt_code 81) 18 = .ok (.aastore, 1) := by decide +kernel
theorem E81_18 {call : jv_F} {l0 l1 : Option Value} {a : Nat} {j : Int32} {C : String} {v : Value} {st : List Value} {h : jv_H} (hC : jv_kn h a = some C) (hA : jv_isA h C v = true) (hs : (jv_as h a (.object C) j v).isSome = true) : jv_ev call 81 18 [l0, l1] (v :: .int j :: .ref a :: st) h = jv_ev call 81 19 [l0, l1] st ((jv_as h a (.object C) j v).getD h) := by
  obtain ⟨h', hv⟩ := Option.isSome_iff_exists.mp hs
  rw [hv]
  exact je_aast D81_18 rfl hC hA hv
theorem D81_19 : decode (jt_code 81) 19 = .ok (.aload_n 0, 1) := by decide +kernel
theorem E81_19 {call : jv_F} {l1 : Option Value} {a : Nat} {st : List Value} {h : jv_H} : jv_ev call 81 19 [some (.ref a), l1] st h = jv_ev call 81 20 [some (.ref a), l1] (.ref a :: st) h := je_aload_n (r := some a) D81_19 rfl rfl
theorem D81_20 : decode (jt_code 81) 20 = .ok (.dup, 1) := by decide +kernel
theorem E81_20 {call : jv_F} {l0 l1 : Option Value} {a : Nat} {st : List Value} {h : jv_H} : jv_ev call 81 20 [l0, l1] (.ref a :: st) h = jv_ev call 81 21 [l0, l1] (.ref a :: .ref a :: st) h := je_dup D81_20 rfl rfl
theorem E81_20i {call : jv_F} {l0 l1 : Option Value} {x : Int32} {st : List Value} {h : jv_H} : jv_ev call 81 20 [l0, l1] (.int x :: st) h = jv_ev call 81 21 [l0, l1] (.int x :: .int x :: st) h := je_dup D81_20 rfl rfl
theorem D81_21 : decode (jt_code 81) 21 = .ok (.getfield 20, 3) := by decide +kernel
theorem E81_21 {call : jv_F} {l0 l1 : Option Value} {a : Nat} {st : List Value} {h : jv_H} (hs : (jv_gf h a 3 2).isSome = true) : jv_ev call 81 21 [l0, l1] (.ref a :: st) h = jv_ev call 81 24 [l0, l1] ((jv_gf h a 3 2).getD .null :: st) h := by
  obtain ⟨v, hv⟩ := Option.isSome_iff_exists.mp hs
  rw [hv]
  exact je_get D81_21 rfl (by decide) hv
theorem D81_24 : decode (jt_code 81) 24 = .ok (.iconst 1, 1) := by decide +kernel
theorem E81_24 {call : jv_F} {l0 l1 : Option Value}  {st : List Value} {h : jv_H} : jv_ev call 81 24 [l0, l1] st h = jv_ev call 81 25 [l0, l1] (.int (nI 1) :: st) h := je_iconst D81_24 rfl (by decide)
theorem D81_25 : decode (jt_code 81) 25 = .ok (.iadd, 1) := by decide +kernel
theorem E81_25 {call : jv_F} {l0 l1 : Option Value} {x y : Int32} {st : List Value} {h : jv_H} : jv_ev call 81 25 [l0, l1] (.int y :: .int x :: st) h = jv_ev call 81 26 [l0, l1] (.int (x + y) :: st) h := je_b2 (f := fun x y => x + y) D81_25 rfl (fun _ => rfl)
theorem D81_26 : decode (jt_code 81) 26 = .ok (.putfield 20, 3) := by decide +kernel
theorem E81_26 {call : jv_F} {l0 l1 : Option Value} {a : Nat} {v : Value} {st : List Value} {h : jv_H} (hs : (jv_pf h a 3 2 v).isSome = true) : jv_ev call 81 26 [l0, l1] (v :: .ref a :: st) h = jv_ev call 81 29 [l0, l1] st ((jv_pf h a 3 2 v).getD h) := by
  obtain ⟨h', hv⟩ := Option.isSome_iff_exists.mp hs
  rw [hv]
  exact je_put D81_26 rfl (by decide) (by decide) hv
theorem D81_29 : decode (jt_code 81) 29 = .ok (.aload_n 0, 1) := by decide +kernel
theorem E81_29 {call : jv_F} {l1 : Option Value} {a : Nat} {st : List Value} {h : jv_H} : jv_ev call 81 29 [some (.ref a), l1] st h = jv_ev call 81 30 [some (.ref a), l1] (.ref a :: st) h := je_aload_n (r := some a) D81_29 rfl rfl
theorem D81_30 : decode (jt_code 81) 30 = .ok (.aload_n 0, 1) := by decide +kernel
theorem E81_30 {call : jv_F} {l1 : Option Value} {a : Nat} {st : List Value} {h : jv_H} : jv_ev call 81 30 [some (.ref a), l1] st h = jv_ev call 81 31 [some (.ref a), l1] (.ref a :: st) h := je_aload_n (r := some a) D81_30 rfl rfl
theorem D81_31 : decode (jt_code 81) 31 = .ok (.getfield 31, 3) := by decide +kernel
theorem E81_31 {call : jv_F} {l0 l1 : Option Value} {a : Nat} {st : List Value} {h : jv_H} (hs : (jv_gf h a 3 5).isSome = true) : jv_ev call 81 31 [l0, l1] (.ref a :: st) h = jv_ev call 81 34 [l0, l1] ((jv_gf h a 3 5).getD .null :: st) h := by
  obtain ⟨v, hv⟩ := Option.isSome_iff_exists.mp hs
  rw [hv]
  exact je_get D81_31 rfl (by decide) hv
theorem D81_34 : decode (jt_code 81) 34 = .ok (.ifCond .ne 10, 3) := by decide +kernel
theorem E81_34 {call : jv_F} {l0 l1 : Option Value} {x : Int32} {st : List Value} {h : jv_H} : jv_ev call 81 34 [l0, l1] (.int x :: st) h = if ¬ x = 0 then jv_ev call 81 44 [l0, l1] st h else jv_ev call 81 37 [l0, l1] st h := je_ifc D81_34 (by decide) rfl rfl
theorem D81_37 : decode (jt_code 81) 37 = .ok (.aload_n 1, 1) := by decide +kernel
theorem E81_37 {call : jv_F} {l0 : Option Value} {a : Nat} {st : List Value} {h : jv_H} : jv_ev call 81 37 [l0, some (.ref a)] st h = jv_ev call 81 38 [l0, some (.ref a)] (.ref a :: st) h := je_aload_n (r := some a) D81_37 rfl rfl
theorem E81_37r {call : jv_F} {l0 : Option Value} {r : Option Nat} {st : List Value} {h : jv_H} : jv_ev call 81 37 [l0, some (va_rf r)] st h = jv_ev call 81 38 [l0, some (va_rf r)] (va_rf r :: st) h := je_aload_n (r := r) D81_37 rfl rfl
theorem D81_38 : decode (jt_code 81) 38 = .ok (.getfield 48, 3) := by decide +kernel
theorem E81_38 {call : jv_F} {l0 l1 : Option Value} {a : Nat} {st : List Value} {h : jv_H} (hs : (jv_gf h a 1 5).isSome = true) : jv_ev call 81 38 [l0, l1] (.ref a :: st) h = jv_ev call 81 41 [l0, l1] ((jv_gf h a 1 5).getD .null :: st) h := by
  obtain ⟨v, hv⟩ := Option.isSome_iff_exists.mp hs
  rw [hv]
  exact je_get D81_38 rfl (by decide) hv
theorem D81_41 : decode (jt_code 81) 41 = .ok (.ifCond .eq 7, 3) := by decide +kernel
theorem E81_41 {call : jv_F} {l0 l1 : Option Value} {x : Int32} {st : List Value} {h : jv_H} : jv_ev call 81 41 [l0, l1] (.int x :: st) h = if x = 0 then jv_ev call 81 48 [l0, l1] st h else jv_ev call 81 44 [l0, l1] st h := je_ifc D81_41 (by decide) rfl rfl
theorem D81_44 : decode (jt_code 81) 44 = .ok (.iconst 1, 1) := by decide +kernel
theorem E81_44 {call : jv_F} {l0 l1 : Option Value}  {st : List Value} {h : jv_H} : jv_ev call 81 44 [l0, l1] st h = jv_ev call 81 45 [l0, l1] (.int (nI 1) :: st) h := je_iconst D81_44 rfl (by decide)
theorem D81_45 : decode (jt_code 81) 45 = .ok (.goto 4, 3) := by decide +kernel
theorem E81_45 {call : jv_F} {l0 l1 : Option Value}  {st : List Value} {h : jv_H} : jv_ev call 81 45 [l0, l1] st h = jv_ev call 81 49 [l0, l1] st h := je_goto D81_45 (by decide)
theorem D81_48 : decode (jt_code 81) 48 = .ok (.iconst 0, 1) := by decide +kernel
theorem E81_48 {call : jv_F} {l0 l1 : Option Value}  {st : List Value} {h : jv_H} : jv_ev call 81 48 [l0, l1] st h = jv_ev call 81 49 [l0, l1] (.int (nI 0) :: st) h := je_iconst D81_48 rfl (by decide)
theorem D81_49 : decode (jt_code 81) 49 = .ok (.putfield 31, 3) := by decide +kernel
theorem E81_49 {call : jv_F} {l0 l1 : Option Value} {a : Nat} {v : Value} {st : List Value} {h : jv_H} (hs : (jv_pf h a 3 5 v).isSome = true) : jv_ev call 81 49 [l0, l1] (v :: .ref a :: st) h = jv_ev call 81 52 [l0, l1] st ((jv_pf h a 3 5 v).getD h) := by
  obtain ⟨h', hv⟩ := Option.isSome_iff_exists.mp hs
  rw [hv]
  exact je_put D81_49 rfl (by decide) (by decide) hv
theorem D81_52 : decode (jt_code 81) 52 = .ok (.return_, 1) := by decide +kernel
theorem E81_52 {call : jv_F} {l0 l1 : Option Value}  {h : jv_H} : jv_ev call 81 52 [l0, l1] [] h = some (none, h) := je_ret D81_52 rfl
/-! method 82: DrumMachine$Drum.cancel -/
theorem N82 {d : Nat} {b : Nat} {a0 : Option Nat} {h : jv_H} : jv_run (d + 1) 82 [.ref b, va_rf a0] h = jv_ev (jv_run d) 82 0 [some (.ref b), some (va_rf a0), none] [] h := by
  cases a0 <;>
  exact jv_run_eq (Nat.le_of_ble_eq_true rfl) rfl
theorem D82_0 : decode (jt_code 82) 0 = .ok (.iconst 0, 1) := by decide +kernel
theorem E82_0 {call : jv_F} {l0 l1 l2 : Option Value}  {st : List Value} {h : jv_H} : jv_ev call 82 0 [l0, l1, l2] st h = jv_ev call 82 1 [l0, l1, l2] (.int (nI 0) :: st) h := je_iconst D82_0 rfl (by decide)
theorem D82_1 : decode (jt_code 82) 1 = .ok (.istore_n 2, 1) := by decide +kernel
theorem E82_1 {call : jv_F} {l0 l1 l2 : Option Value} {x : Int32} {st : List Value} {h : jv_H} (hk : ¬ jv_is2 (some l1) = true) : jv_ev call 82 1 [l0, l1, l2] (.int x :: st) h = jv_ev call 82 2 [l0, l1, some (.int x)] st h := je_istore_n D82_1 rfl (Nat.le_of_ble_eq_true rfl) (by show jv_st1 _ 2 _ = _; simp only [jv_st1, jv_kill, List.getElem?_cons_succ, List.getElem?_cons_zero, hk, if_false]; rfl)
theorem D82_2 : decode (jt_code 82) 2 = .ok (.iload_n 2, 1) := by decide +kernel
theorem E82_2 {call : jv_F} {l0 l1 : Option Value} {x : Int32} {st : List Value} {h : jv_H} : jv_ev call 82 2 [l0, l1, some (.int x)] st h = jv_ev call 82 3 [l0, l1, some (.int x)] (.int x :: st) h := je_iload_n D82_2 rfl rfl
theorem D82_3 : decode (jt_code 82) 3 = .ok (.aload_n 0, 1) := by decide +kernel
theorem E82_3 {call : jv_F} {l1 l2 : Option Value} {a : Nat} {st : List Value} {h : jv_H} : jv_ev call 82 3 [some (.ref a), l1, l2] st h = jv_ev call 82 4 [some (.ref a), l1, l2] (.ref a :: st) h := je_aload_n (r := some a) D82_3 rfl rfl
theorem D82_4 : decode (jt_code 82) 4 = .ok (.getfield 20, 3) := by decide +kernel
theorem E82_4 {call : jv_F} {l0 l1 l2 : Option Value} {a : Nat} {st : List Value} {h : jv_H} (hs : (jv_gf h a 3 2).isSome = true) : jv_ev call 82 4 [l0, l1, l2] (.ref a :: st) h = jv_ev call 82 7 [l0, l1, l2] ((jv_gf h a 3 2).getD .null :: st) h := by
  obtain ⟨v, hv⟩ := Option.isSome_iff_exists.mp hs
  rw [hv]
  exact je_get D82_4 rfl (by decide) hv
theorem D82_7 : decode (jt_code 82) 7 = .ok (.if_icmp .ge 54, 3) := by decide +kernel
theorem E82_7 {call : jv_F} {l0 l1 l2 : Option Value} {x y : Int32} {st : List Value} {h : jv_H} : jv_ev call 82 7 [l0, l1, l2] (.int y :: .int x :: st) h = if y ≤ x then jv_ev call 82 61 [l0, l1, l2] st h else jv_ev call 82 10 [l0, l1, l2] st h := je_icmp D82_7 (by decide) rfl rfl
theorem D82_10 : decode (jt_code 82) 10 = .ok (.iload_n 2, 1) := by decide +kernel
theorem E82_10 {call : jv_F} {l0 l1 : Option Value} {x : Int32} {st : List Value} {h : jv_H} : jv_ev call 82 10 [l0, l1, some (.int x)] st h = jv_ev call 82 11 [l0, l1, some (.int x)] (.int x :: st) h := je_iload_n D82_10 rfl rfl
theorem D82_11 : decode (jt_code 82) 11 = .ok (.bipush 17, 2) := by decide +kernel
theorem E82_11 {call : jv_F} {l0 l1 l2 : Option Value}  {st : List Value} {h : jv_H} : jv_ev call 82 11 [l0, l1, l2] st h = jv_ev call 82 13 [l0, l1, l2] (.int (nI 17) :: st) h := je_bipush D82_11 rfl (by decide)
theorem D82_13 : decode (jt_code 82) 13 = .ok (.if_icmp .ge 48, 3) := by decide +kernel
theorem E82_13 {call : jv_F} {l0 l1 l2 : Option Value} {x y : Int32} {st : List Value} {h : jv_H} : jv_ev call 82 13 [l0, l1, l2] (.int y :: .int x :: st) h = if y ≤ x then jv_ev call 82 61 [l0, l1, l2] st h else jv_ev call 82 16 [l0, l1, l2] st h := je_icmp D82_13 (by decide) rfl rfl
theorem D82_16 : decode (jt_code 82) 16 = .ok (.aload_n 0, 1) := by decide +kernel
theorem E82_16 {call : jv_F} {l1 l2 : Option Value} {a : Nat} {st : List Value} {h : jv_H} : jv_ev call 82 16 [some (.ref a), l1, l2] st h = jv_ev call 82 17 [some (.ref a), l1, l2] (.ref a :: st) h := je_aload_n (r := some a) D82_16 rfl rfl
theorem D82_17 : decode (jt_code 82) 17 = .ok (.getfield 17, 3) := by decide +kernel
theorem E82_17 {call : jv_F} {l0 l1 l2 : Option Value} {a : Nat} {st : List Value} {h : jv_H} (hs : (jv_gf h a 3 1).isSome = true) : jv_ev call 82 17 [l0, l1, l2] (.ref a :: st) h = jv_ev call 82 20 [l0, l1, l2] ((jv_gf h a 3 1).getD .null :: st) h := by
  obtain ⟨v, hv⟩ := Option.isSome_iff_exists.mp hs
  rw [hv]
  exact je_get D82_17 rfl (by decide) hv
theorem D82_20 : decode (jt_code 82) 20 = .ok (.iload_n 2, 1) := by decide +kernel
theorem E82_20 {call : jv_F} {l0 l1 : Option Value} {x : Int32} {st : List Value} {h : jv_H} : jv_ev call 82 20 [l0, l1, some (.int x)] st h = jv_ev call 82 21 [l0, l1, some (.int x)] (.int x :: st) h := je_iload_n D82_20 rfl rfl
theorem D82_21 : decode (jt_code 82) 21 = .ok (.aaload, 1) := by decide +kernel
theorem E82_21 {call : jv_F} {l0 l1 l2 : Option Value} {a : Nat} {j : Int32} {C : String} {st : List Value} {h : jv_H} (hC : jv_kn h a = some C) (hs : (jv_al h a (.object C) j).isSome = true) : jv_ev call 82 21 [l0, l1, l2] (.int j :: .ref a :: st) h = jv_ev call 82 22 [l0, l1, l2] ((jv_al h a (.object C) j).getD .null :: st) h := by
  obtain ⟨v, hv⟩ := Option.isSome_iff_exists.mp hs
  rw [hv]
  exact je_aald D82_21 rfl hC hv
theorem D82_22 : decode (jt_code 82) 22 = .ok (.aload_n 1, 1) := by decide +kernel
theorem E82_22 {call : jv_F} {l0 l2 : Option Value} {a : Nat} {st : List Value} {h : jv_H} : jv_ev call 82 22 [l0, some (.ref a), l2] st h = jv_ev call 82 23 [l0, some (.ref a), l2] (.ref a :: st) h := je_aload_n (r := some a) D82_22 rfl rfl
theorem E82_22r {call : jv_F} {l0 l2 : Option Value} {r : Option Nat} {st : List Value} {h : jv_H} : jv_ev call 82 22 [l0, some (va_rf r), l2] st h = jv_ev call 82 23 [l0, some (va_rf r), l2] (va_rf r :: st) h := je_aload_n (r := r) D82_22 rfl rfl
theorem D82_23 : decode (jt_code 82) 23 = .ok (.if_acmp .ne 32, 3) := by decide +kernel
theorem E82_23 {call : jv_F} {l0 l1 l2 : Option Value} {x y : Option Nat} {st : List Value} {h : jv_H} : jv_ev call 82 23 [l0, l1, l2] (va_rf y :: va_rf x :: st) h = if x = y then jv_ev call 82 26 [l0, l1, l2] st h else jv_ev call 82 55 [l0, l1, l2] st h := je_acmp_ne D82_23 (by decide) rfl
theorem E82_23f {call : jv_F} {l0 l1 l2 : Option Value} {x : Option Nat} {y : Nat} {st : List Value} {h : jv_H} : jv_ev call 82 23 [l0, l1, l2] (.ref y :: va_rf x :: st) h = if x = some y then jv_ev call 82 26 [l0, l1, l2] st h else jv_ev call 82 55 [l0, l1, l2] st h := je_acmp_ne (y := some y) D82_23 (by decide) rfl
theorem E82_23g {call : jv_F} {l0 l1 l2 : Option Value} {x : Nat} {y : Option Nat} {st : List Value} {h : jv_H} : jv_ev call 82 23 [l0, l1, l2] (va_rf y :: .ref x :: st) h = if some x = y then jv_ev call 82 26 [l0, l1, l2] st h else jv_ev call 82 55 [l0, l1, l2] st h := je_acmp_ne (x := some x) D82_23 (by decide) rfl
theorem D82_26 : decode (jt_code 82) 26 = .ok (.aload_n 0, 1) := by decide +kernel
theorem E82_26 {call : jv_F} {l1 l2 : Option Value} {a : Nat} {st : List Value} {h : jv_H} : jv_ev call 82 26 [some (.ref a), l1, l2] st h = jv_ev call 82 27 [some (.ref a), l1, l2] (.ref a :: st) h := je_aload_n (r := some a) D82_26 rfl rfl
theorem D82_27 : decode (jt_code 82) 27 = .ok (.iload_n 2, 1) := by decide +kernel
theorem E82_27 {call : jv_F} {l0 l1 : Option Value} {x : Int32} {st : List Value} {h : jv_H} : jv_ev call 82 27 [l0, l1, some (.int x)] st h = jv_ev call 82 28 [l0, l1, some (.int x)] (.int x :: st) h := je_iload_n D82_27 rfl rfl
theorem D82_28 : decode (jt_code 82) 28 = .ok (.invokevirtual 51, 3) := by decide +kernel
theorem E82_28 {call : jv_F} {l0 l1 l2 : Option Value} {b : Nat} {v0 : Value}  {st : List Value} {h : jv_H} (hw : jv_wide st = true) (hcl : jv_cl h b = some 3) (hc : (call 83 [.ref b, v0] h).isSome = true) : jv_ev call 82 28 [l0, l1, l2] (v0 :: .ref b :: st) h = jv_ev call 82 31 [l0, l1, l2] ((((call 83 [.ref b, v0] h).getD (none, h)).1).toList ++ st) ((call 83 [.ref b, v0] h).getD (none, h)).2 := by
  obtain ⟨⟨r, h'⟩, hv⟩ := Option.isSome_iff_exists.mp hc
  rw [hv]
  exact je_virt (y := 83) (as := [v0]) D82_28 rfl (by decide) (by decide) rfl hcl hw hv
theorem D82_31 : decode (jt_code 82) 31 = .ok (.aload_n 0, 1) := by decide +kernel
theorem E82_31 {call : jv_F} {l1 l2 : Option Value} {a : Nat} {st : List Value} {h : jv_H} : jv_ev call 82 31 [some (.ref a), l1, l2] st h = jv_ev call 82 32 [some (.ref a), l1, l2] (.ref a :: st) h := je_aload_n (r := some a) D82_31 rfl rfl
theorem D82_32 : decode (jt_code 82) 32 = .ok (.aload_n 0, 1) := by decide +kernel
theorem E82_32 {call : jv_F} {l1 l2 : Option Value} {a : Nat} {st : List Value} {h : jv_H} : jv_ev call 82 32 [some (.ref a), l1, l2] st h = jv_ev call 82 33 [some (.ref a), l1, l2] (.ref a :: st) h := je_aload_n (r := some a) D82_32 rfl rfl
theorem D82_33 : decode (jt_code 82) 33 = .ok (.getfield 31, 3) := by decide +kernel
theorem E82_33 {call : jv_F} {l0 l1 l2 : Option Value} {a : Nat} {st : List Value} {h : jv_H} (hs : (jv_gf h a 3 5).isSome = true) : jv_ev call 82 33 [l0, l1, l2] (.ref a :: st) h = jv_ev call 82 36 [l0, l1, l2] ((jv_gf h a 3 5).getD .null :: st) h := by
  obtain ⟨v, hv⟩ := Option.isSome_iff_exists.mp hs
  rw [hv]
  exact je_get D82_33 rfl (by decide) hv
theorem D82_36 : decode (jt_code 82) 36 = .ok (.ifCond .eq 14, 3) := by decide +kernel
theorem E82_36 {call : jv_F} {l0 l1 l2 : Option Value} {x : Int32} {st : List Value} {h : jv_H} : jv_ev call 82 36 [l0, l1, l2] (.int x :: st) h = if x = 0 then jv_ev call 82 50 [l0, l1, l2] st h else jv_ev call 82 39 [l0, l1, l2] st h := je_ifc D82_36 (by decide) rfl rfl
theorem D82_39 : decode (jt_code 82) 39 = .ok (.aload_n 1, 1) := by decide +kernel
theorem E82_39 {call : jv_F} {l0 l2 : Option Value} {a : Nat} {st : List Value} {h : jv_H} : jv_ev call 82 39 [l0, some (.ref a), l2] st h = jv_ev call 82 40 [l0, some (.ref a), l2] (.ref a :: st) h := je_aload_n (r := some a) D82_39 rfl rfl
theorem E82_39r {call : jv_F} {l0 l2 : Option Value} {r : Option Nat} {st : List Value} {h : jv_H} : jv_ev call 82 39 [l0, some (va_rf r), l2] st h = jv_ev call 82 40 [l0, some (va_rf r), l2] (va_rf r :: st) h := je_aload_n (r := r) D82_39 rfl rfl
theorem D82_40 : decode (jt_code 82) 40 = .ok (.getfield 48, 3) := by decide +kernel
theorem E82_40 {call : jv_F} {l0 l1 l2 : Option Value} {a : Nat} {st : List Value} {h : jv_H} (hs : (jv_gf h a 1 5).isSome = true) : jv_ev call 82 40 [l0, l1, l2] (.ref a :: st) h = jv_ev call 82 43 [l0, l1, l2] ((jv_gf h a 1 5).getD .null :: st) h := by
  obtain ⟨v, hv⟩ := Option.isSome_iff_exists.mp hs
  rw [hv]
  exact je_get D82_40 rfl (by decide) hv
theorem D82_43 : decode (jt_code 82) 43 = .ok (.ifCond .ne 7, 3) := by decide +kernel
theorem E82_43 {call : jv_F} {l0 l1 l2 : Option Value} {x : Int32} {st : List Value} {h : jv_H} : jv_ev call 82 43 [l0, l1, l2] (.int x :: st) h = if ¬ x = 0 then jv_ev call 82 50 [l0, l1, l2] st h else jv_ev call 82 46 [l0, l1, l2] st h := je_ifc D82_43 (by decide) rfl rfl
theorem D82_46 : decode (jt_code 82) 46 = .ok (.iconst 1, 1) := by decide +kernel
theorem E82_46 {call : jv_F} {l0 l1 l2 : Option Value}  {st : List Value} {h : jv_H} : jv_ev call 82 46 [l0, l1, l2] st h = jv_ev call 82 47 [l0, l1, l2] (.int (nI 1) :: st) h := je_iconst D82_46 rfl (by decide)
theorem D82_47 : decode (jt_code 82) 47 = .ok (.goto 4, 3) := by decide +kernel
theorem E82_47 {call : jv_F} {l0 l1 l2 : Option Value}  {st : List Value} {h : jv_H} : jv_ev call 82 47 [l0, l1, l2] st h = jv_ev call 82 51 [l0, l1, l2] st h := je_goto D82_47 (by decide)
theorem D82_50 : decode (jt_code 82) 50 = .ok (.iconst 0, 1) := by decide +kernel
theorem E82_50 {call : jv_F} {l0 l1 l2 : Option Value}  {st : List Value} {h : jv_H} : jv_ev call 82 50 [l0, l1, l2] st h = jv_ev call 82 51 [l0, l1, l2] (.int (nI 0) :: st) h := je_iconst D82_50 rfl (by decide)
theorem D82_51 : decode (jt_code 82) 51 = .ok (.putfield 31, 3) := by decide +kernel
theorem E82_51 {call : jv_F} {l0 l1 l2 : Option Value} {a : Nat} {v : Value} {st : List Value} {h : jv_H} (hs : (jv_pf h a 3 5 v).isSome = true) : jv_ev call 82 51 [l0, l1, l2] (v :: .ref a :: st) h = jv_ev call 82 54 [l0, l1, l2] st ((jv_pf h a 3 5 v).getD h) := by
  obtain ⟨h', hv⟩ := Option.isSome_iff_exists.mp hs
  rw [hv]
  exact je_put D82_51 rfl (by decide) (by decide) hv
theorem D82_54 : decode (jt_code 82) 54 = .ok (.return_, 1) := by decide +kernel
theorem E82_54 {call : jv_F} {l0 l1 l2 : Option Value}  {h : jv_H} : jv_ev call 82 54 [l0, l1, l2] [] h = some (none, h) := je_ret D82_54 rfl
theorem D82_55 : decode (jt_code 82) 55 = .ok (.iinc 2 1, 3) := by decide +kernel
theorem E82_55 {call : jv_F} {l0 l1 : Option Value} {x : Int32} {st : List Value} {h : jv_H} (hk : ¬ jv_is2 (some l1) = true) : jv_ev call 82 55 [l0, l1, some (.int x)] st h = jv_ev call 82 58 [l0, l1, some (.int (x + (nI 1)))] st h := je_iinc D82_55 rfl rfl (v := x + (nI 1)) (by rfl) (by show jv_st1 _ 2 _ = _; simp only [jv_st1, jv_kill, List.getElem?_cons_succ, List.getElem?_cons_zero, hk, if_false]; rfl)
theorem D82_58 : decode (jt_code 82) 58 = .ok (.goto (-56), 3) := by decide +kernel
theorem E82_58 {call : jv_F} {l0 l1 l2 : Option Value}  {st : List Value} {h : jv_H} : jv_ev call 82 58 [l0, l1, l2] st h = jv_ev call 82 2 [l0, l1, l2] st h := je_goto D82_58 (by decide)
theorem D82_61 : decode (jt_code 82) 61 = .ok (.return_, 1) := by decide +kernel
theorem E82_61 {call : jv_F} {l0 l1 l2 : Option Value}  {h : jv_H} : jv_ev call 82 61 [l0, l1, l2] [] h = some (none, h) := je_ret D82_61 rfl
/-! method 83: DrumMachine$Drum.dropAsked -/
theorem N83 {d : Nat} {b : Nat} {a0 : Int32} {h : jv_H} : jv_run (d + 1) 83 [.ref b, .int a0] h = jv_ev (jv_run d) 83 0 [some (.ref b), some (.int a0), none] [] h := jv_run_eq (Nat.le_of_ble_eq_true rfl) rfl
theorem D83_0 : decode (jt_code 83) 0 = .ok (.iload_n 1, 1) := by decide +kernel
theorem E83_0 {call : jv_F} {l0 l2 : Option Value} {x : Int32} {st : List Value} {h : jv_H} : jv_ev call 83 0 [l0, some (.int x), l2] st h = jv_ev call 83 1 [l0, some (.int x), l2] (.int x :: st) h := je_iload_n D83_0 rfl rfl
theorem D83_1 : decode (jt_code 83) 1 = .ok (.istore_n 2, 1) := by decide +kernel
theorem E83_1 {call : jv_F} {l0 l1 l2 : Option Value} {x : Int32} {st : List Value} {h : jv_H} (hk : ¬ jv_is2 (some l1) = true) : jv_ev call 83 1 [l0, l1, l2] (.int x :: st) h = jv_ev call 83 2 [l0, l1, some (.int x)] st h := je_istore_n D83_1 rfl (Nat.le_of_ble_eq_true rfl) (by show jv_st1 _ 2 _ = _; simp only [jv_st1, jv_kill, List.getElem?_cons_succ, List.getElem?_cons_zero, hk, if_false]; rfl)
theorem D83_2 : decode (jt_code 83) 2 = .ok (.iload_n 2, 1) := by decide +kernel
theorem E83_2 {call : jv_F} {l0 l1 : Option Value} {x : Int32} {st : List Value} {h : jv_H} : jv_ev call 83 2 [l0, l1, some (.int x)] st h = jv_ev call 83 3 [l0, l1, some (.int x)] (.int x :: st) h := je_iload_n D83_2 rfl rfl
theorem D83_3 : decode (jt_code 83) 3 = .ok (.ifCond .lt 41, 3) := by decide +kernel
theorem E83_3 {call : jv_F} {l0 l1 l2 : Option Value} {x : Int32} {st : List Value} {h : jv_H} : jv_ev call 83 3 [l0, l1, l2] (.int x :: st) h = if x < 0 then jv_ev call 83 44 [l0, l1, l2] st h else jv_ev call 83 6 [l0, l1, l2] st h := je_ifc D83_3 (by decide) rfl rfl
theorem D83_6 : decode (jt_code 83) 6 = .ok (.iload_n 2, 1) := by decide +kernel
theorem E83_6 {call : jv_F} {l0 l1 : Option Value} {x : Int32} {st : List Value} {h : jv_H} : jv_ev call 83 6 [l0, l1, some (.int x)] st h = jv_ev call 83 7 [l0, l1, some (.int x)] (.int x :: st) h := je_iload_n D83_6 rfl rfl
theorem D83_7 : decode (jt_code 83) 7 = .ok (.iconst 1, 1) := by decide +kernel
theorem E83_7 {call : jv_F} {l0 l1 l2 : Option Value}  {st : List Value} {h : jv_H} : jv_ev call 83 7 [l0, l1, l2] st h = jv_ev call 83 8 [l0, l1, l2] (.int (nI 1) :: st) h := je_iconst D83_7 rfl (by decide)
theorem D83_8 : decode (jt_code 83) 8 = .ok (.iadd, 1) := by decide +kernel
theorem E83_8 {call : jv_F} {l0 l1 l2 : Option Value} {x y : Int32} {st : List Value} {h : jv_H} : jv_ev call 83 8 [l0, l1, l2] (.int y :: .int x :: st) h = jv_ev call 83 9 [l0, l1, l2] (.int (x + y) :: st) h := je_b2 (f := fun x y => x + y) D83_8 rfl (fun _ => rfl)
theorem D83_9 : decode (jt_code 83) 9 = .ok (.aload_n 0, 1) := by decide +kernel
theorem E83_9 {call : jv_F} {l1 l2 : Option Value} {a : Nat} {st : List Value} {h : jv_H} : jv_ev call 83 9 [some (.ref a), l1, l2] st h = jv_ev call 83 10 [some (.ref a), l1, l2] (.ref a :: st) h := je_aload_n (r := some a) D83_9 rfl rfl
theorem D83_10 : decode (jt_code 83) 10 = .ok (.getfield 20, 3) := by decide +kernel
theorem E83_10 {call : jv_F} {l0 l1 l2 : Option Value} {a : Nat} {st : List Value} {h : jv_H} (hs : (jv_gf h a 3 2).isSome = true) : jv_ev call 83 10 [l0, l1, l2] (.ref a :: st) h = jv_ev call 83 13 [l0, l1, l2] ((jv_gf h a 3 2).getD .null :: st) h := by
  obtain ⟨v, hv⟩ := Option.isSome_iff_exists.mp hs
  rw [hv]
  exact je_get D83_10 rfl (by decide) hv
theorem D83_13 : decode (jt_code 83) 13 = .ok (.if_icmp .ge 31, 3) := by decide +kernel
theorem E83_13 {call : jv_F} {l0 l1 l2 : Option Value} {x y : Int32} {st : List Value} {h : jv_H} : jv_ev call 83 13 [l0, l1, l2] (.int y :: .int x :: st) h = if y ≤ x then jv_ev call 83 44 [l0, l1, l2] st h else jv_ev call 83 16 [l0, l1, l2] st h := je_icmp D83_13 (by decide) rfl rfl
theorem D83_16 : decode (jt_code 83) 16 = .ok (.iload_n 2, 1) := by decide +kernel
theorem E83_16 {call : jv_F} {l0 l1 : Option Value} {x : Int32} {st : List Value} {h : jv_H} : jv_ev call 83 16 [l0, l1, some (.int x)] st h = jv_ev call 83 17 [l0, l1, some (.int x)] (.int x :: st) h := je_iload_n D83_16 rfl rfl
theorem D83_17 : decode (jt_code 83) 17 = .ok (.iconst 1, 1) := by decide +kernel
theorem E83_17 {call : jv_F} {l0 l1 l2 : Option Value}  {st : List Value} {h : jv_H} : jv_ev call 83 17 [l0, l1, l2] st h = jv_ev call 83 18 [l0, l1, l2] (.int (nI 1) :: st) h := je_iconst D83_17 rfl (by decide)
theorem D83_18 : decode (jt_code 83) 18 = .ok (.iadd, 1) := by decide +kernel
theorem E83_18 {call : jv_F} {l0 l1 l2 : Option Value} {x y : Int32} {st : List Value} {h : jv_H} : jv_ev call 83 18 [l0, l1, l2] (.int y :: .int x :: st) h = jv_ev call 83 19 [l0, l1, l2] (.int (x + y) :: st) h := je_b2 (f := fun x y => x + y) D83_18 rfl (fun _ => rfl)
theorem D83_19 : decode (jt_code 83) 19 = .ok (.bipush 17, 2) := by decide +kernel
theorem E83_19 {call : jv_F} {l0 l1 l2 : Option Value}  {st : List Value} {h : jv_H} : jv_ev call 83 19 [l0, l1, l2] st h = jv_ev call 83 21 [l0, l1, l2] (.int (nI 17) :: st) h := je_bipush D83_19 rfl (by decide)
theorem D83_21 : decode (jt_code 83) 21 = .ok (.if_icmp .ge 23, 3) := by decide +kernel
theorem E83_21 {call : jv_F} {l0 l1 l2 : Option Value} {x y : Int32} {st : List Value} {h : jv_H} : jv_ev call 83 21 [l0, l1, l2] (.int y :: .int x :: st) h = if y ≤ x then jv_ev call 83 44 [l0, l1, l2] st h else jv_ev call 83 24 [l0, l1, l2] st h := je_icmp D83_21 (by decide) rfl rfl
theorem D83_24 : decode (jt_code 83) 24 = .ok (.aload_n 0, 1) := by decide +kernel
theorem E83_24 {call : jv_F} {l1 l2 : Option Value} {a : Nat} {st : List Value} {h : jv_H} : jv_ev call 83 24 [some (.ref a), l1, l2] st h = jv_ev call 83 25 [some (.ref a), l1, l2] (.ref a :: st) h := je_aload_n (r := some a) D83_24 rfl rfl
theorem D83_25 : decode (jt_code 83) 25 = .ok (.getfield 17, 3) := by decide +kernel
theorem E83_25 {call : jv_F} {l0 l1 l2 : Option Value} {a : Nat} {st : List Value} {h : jv_H} (hs : (jv_gf h a 3 1).isSome = true) : jv_ev call 83 25 [l0, l1, l2] (.ref a :: st) h = jv_ev call 83 28 [l0, l1, l2] ((jv_gf h a 3 1).getD .null :: st) h := by
  obtain ⟨v, hv⟩ := Option.isSome_iff_exists.mp hs
  rw [hv]
  exact je_get D83_25 rfl (by decide) hv
theorem D83_28 : decode (jt_code 83) 28 = .ok (.iload_n 2, 1) := by decide +kernel
theorem E83_28 {call : jv_F} {l0 l1 : Option Value} {x : Int32} {st : List Value} {h : jv_H} : jv_ev call 83 28 [l0, l1, some (.int x)] st h = jv_ev call 83 29 [l0, l1, some (.int x)] (.int x :: st) h := je_iload_n D83_28 rfl rfl
theorem D83_29 : decode (jt_code 83) 29 = .ok (.aload_n 0, 1) := by decide +kernel
theorem E83_29 {call : jv_F} {l1 l2 : Option Value} {a : Nat} {st : List Value} {h : jv_H} : jv_ev call 83 29 [some (.ref a), l1, l2] st h = jv_ev call 83 30 [some (.ref a), l1, l2] (.ref a :: st) h := je_aload_n (r := some a) D83_29 rfl rfl
theorem D83_30 : decode (jt_code 83) 30 = .ok (.getfield 17, 3) := by decide +kernel
theorem E83_30 {call : jv_F} {l0 l1 l2 : Option Value} {a : Nat} {st : List Value} {h : jv_H} (hs : (jv_gf h a 3 1).isSome = true) : jv_ev call 83 30 [l0, l1, l2] (.ref a :: st) h = jv_ev call 83 33 [l0, l1, l2] ((jv_gf h a 3 1).getD .null :: st) h := by
  obtain ⟨v, hv⟩ := Option.isSome_iff_exists.mp hs
  rw [hv]
  exact je_get D83_30 rfl (by decide) hv
theorem D83_33 : decode (jt_code 83) 33 = .ok (.iload_n 2, 1) := by decide +kernel
theorem E83_33 {call : jv_F} {l0 l1 : Option Value} {x : Int32} {st : List Value} {h : jv_H} : jv_ev call 83 33 [l0, l1, some (.int x)] st h = jv_ev call 83 34 [l0, l1, some (.int x)] (.int x :: st) h := je_iload_n D83_33 rfl rfl
theorem D83_34 : decode (jt_code 83) 34 = .ok (.iconst 1, 1) := by decide +kernel
theorem E83_34 {call : jv_F} {l0 l1 l2 : Option Value}  {st : List Value} {h : jv_H} : jv_ev call 83 34 [l0, l1, l2] st h = jv_ev call 83 35 [l0, l1, l2] (.int (nI 1) :: st) h := je_iconst D83_34 rfl (by decide)
theorem D83_35 : decode (jt_code 83) 35 = .ok (.iadd, 1) := by decide +kernel
theorem E83_35 {call : jv_F} {l0 l1 l2 : Option Value} {x y : Int32} {st : List Value} {h : jv_H} : jv_ev call 83 35 [l0, l1, l2] (.int y :: .int x :: st) h = jv_ev call 83 36 [l0, l1, l2] (.int (x + y) :: st) h := je_b2 (f := fun x y => x + y) D83_35 rfl (fun _ => rfl)
theorem D83_36 : decode (jt_code 83) 36 = .ok (.aaload, 1) := by decide +kernel
theorem E83_36 {call : jv_F} {l0 l1 l2 : Option Value} {a : Nat} {j : Int32} {C : String} {st : List Value} {h : jv_H} (hC : jv_kn h a = some C) (hs : (jv_al h a (.object C) j).isSome = true) : jv_ev call 83 36 [l0, l1, l2] (.int j :: .ref a :: st) h = jv_ev call 83 37 [l0, l1, l2] ((jv_al h a (.object C) j).getD .null :: st) h := by
  obtain ⟨v, hv⟩ := Option.isSome_iff_exists.mp hs
  rw [hv]
  exact je_aald D83_36 rfl hC hv
theorem D83_37 : decode (jt_code 83) 37 = .ok (.aastore, 1) := by decide +kernel
theorem E83_37 {call : jv_F} {l0 l1 l2 : Option Value} {a : Nat} {j : Int32} {C : String} {v : Value} {st : List Value} {h : jv_H} (hC : jv_kn h a = some C) (hA : jv_isA h C v = true) (hs : (jv_as h a (.object C) j v).isSome = true) : jv_ev call 83 37 [l0, l1, l2] (v :: .int j :: .ref a :: st) h = jv_ev call 83 38 [l0, l1, l2] st ((jv_as h a (.object C) j v).getD h) := by
  obtain ⟨h', hv⟩ := Option.isSome_iff_exists.mp hs
  rw [hv]
  exact je_aast D83_37 rfl hC hA hv
theorem D83_38 : decode (jt_code 83) 38 = .ok (.iinc 2 1, 3) := by decide +kernel
theorem E83_38 {call : jv_F} {l0 l1 : Option Value} {x : Int32} {st : List Value} {h : jv_H} (hk : ¬ jv_is2 (some l1) = true) : jv_ev call 83 38 [l0, l1, some (.int x)] st h = jv_ev call 83 41 [l0, l1, some (.int (x + (nI 1)))] st h := je_iinc D83_38 rfl rfl (v := x + (nI 1)) (by rfl) (by show jv_st1 _ 2 _ = _; simp only [jv_st1, jv_kill, List.getElem?_cons_succ, List.getElem?_cons_zero, hk, if_false]; rfl)
theorem D83_41 : decode (jt_code 83) 41 = .ok (.goto (-39), 3) := by decide +kernel
theorem E83_41 {call : jv_F} {l0 l1 l2 : Option Value}  {st : List Value} {h : jv_H} : jv_ev call 83 41 [l0, l1, l2] st h = jv_ev call 83 2 [l0, l1, l2] st h := je_goto D83_41 (by decide)
theorem D83_44 : decode (jt_code 83) 44 = .ok (.aload_n 0, 1) := by decide +kernel
theorem E83_44 {call : jv_F} {l1 l2 : Option Value} {a : Nat} {st : List Value} {h : jv_H} : jv_ev call 83 44 [some (.ref a), l1, l2] st h = jv_ev call 83 45 [some (.ref a), l1, l2] (.ref a :: st) h := je_aload_n (r := some a) D83_44 rfl rfl
theorem D83_45 : decode (jt_code 83) 45 = .ok (.dup, 1) := by decide +kernel
theorem E83_45 {call : jv_F} {l0 l1 l2 : Option Value} {a : Nat} {st : List Value} {h : jv_H} : jv_ev call 83 45 [l0, l1, l2] (.ref a :: st) h = jv_ev call 83 46 [l0, l1, l2] (.ref a :: .ref a :: st) h := je_dup D83_45 rfl rfl
theorem E83_45i {call : jv_F} {l0 l1 l2 : Option Value} {x : Int32} {st : List Value} {h : jv_H} : jv_ev call 83 45 [l0, l1, l2] (.int x :: st) h = jv_ev call 83 46 [l0, l1, l2] (.int x :: .int x :: st) h := je_dup D83_45 rfl rfl
theorem D83_46 : decode (jt_code 83) 46 = .ok (.getfield 20, 3) := by decide +kernel
theorem E83_46 {call : jv_F} {l0 l1 l2 : Option Value} {a : Nat} {st : List Value} {h : jv_H} (hs : (jv_gf h a 3 2).isSome = true) : jv_ev call 83 46 [l0, l1, l2] (.ref a :: st) h = jv_ev call 83 49 [l0, l1, l2] ((jv_gf h a 3 2).getD .null :: st) h := by
  obtain ⟨v, hv⟩ := Option.isSome_iff_exists.mp hs
  rw [hv]
  exact je_get D83_46 rfl (by decide) hv
theorem D83_49 : decode (jt_code 83) 49 = .ok (.iconst 1, 1) := by decide +kernel
theorem E83_49 {call : jv_F} {l0 l1 l2 : Option Value}  {st : List Value} {h : jv_H} : jv_ev call 83 49 [l0, l1, l2] st h = jv_ev call 83 50 [l0, l1, l2] (.int (nI 1) :: st) h := je_iconst D83_49 rfl (by decide)
theorem D83_50 : decode (jt_code 83) 50 = .ok (.isub, 1) := by decide +kernel
theorem E83_50 {call : jv_F} {l0 l1 l2 : Option Value} {x y : Int32} {st : List Value} {h : jv_H} : jv_ev call 83 50 [l0, l1, l2] (.int y :: .int x :: st) h = jv_ev call 83 51 [l0, l1, l2] (.int (x - y) :: st) h := je_b2 (f := fun x y => x - y) D83_50 rfl (fun _ => rfl)
theorem D83_51 : decode (jt_code 83) 51 = .ok (.putfield 20, 3) := by decide +kernel
theorem E83_51 {call : jv_F} {l0 l1 l2 : Option Value} {a : Nat} {v : Value} {st : List Value} {h : jv_H} (hs : (jv_pf h a 3 2 v).isSome = true) : jv_ev call 83 51 [l0, l1, l2] (v :: .ref a :: st) h = jv_ev call 83 54 [l0, l1, l2] st ((jv_pf h a 3 2 v).getD h) := by
  obtain ⟨h', hv⟩ := Option.isSome_iff_exists.mp hs
  rw [hv]
  exact je_put D83_51 rfl (by decide) (by decide) hv
theorem D83_54 : decode (jt_code 83) 54 = .ok (.return_, 1) := by decide +kernel
theorem E83_54 {call : jv_F} {l0 l1 l2 : Option Value}  {h : jv_H} : jv_ev call 83 54 [l0, l1, l2] [] h = some (none, h) := je_ret D83_54 rfl
/-! method 84: DrumMachine$Drum.begin -/
theorem N84 {d : Nat} {b : Nat} {a0 : Int32} {h : jv_H} : jv_run (d + 1) 84 [.ref b, .int a0] h = jv_ev (jv_run d) 84 0 [some (.ref b), some (.int a0), none, none] [] h := jv_run_eq (Nat.le_of_ble_eq_true rfl) rfl
theorem D84_0 : decode (jt_code 84) 0 = .ok (.aload_n 0, 1) := by decide +kernel
theorem E84_0 {call : jv_F} {l1 l2 l3 : Option Value} {a : Nat} {st : List Value} {h : jv_H} : jv_ev call 84 0 [some (.ref a), l1, l2, l3] st h = jv_ev call 84 1 [some (.ref a), l1, l2, l3] (.ref a :: st) h := je_aload_n (r := some a) D84_0 rfl rfl
theorem D84_1 : decode (jt_code 84) 1 = .ok (.getfield 17, 3) := by decide +kernel
theorem E84_1 {call : jv_F} {l0 l1 l2 l3 : Option Value} {a : Nat} {st : List Value} {h : jv_H} (hs : (jv_gf h a 3 1).isSome = true) : jv_ev call 84 1 [l0, l1, l2, l3] (.ref a :: st) h = jv_ev call 84 4 [l0, l1, l2, l3] ((jv_gf h a 3 1).getD .null :: st) h := by
  obtain ⟨v, hv⟩ := Option.isSome_iff_exists.mp hs
  rw [hv]
  exact je_get D84_1 rfl (by decide) hv
theorem D84_4 : decode (jt_code 84) 4 = .ok (.iconst 0, 1) := by decide +kernel
theorem E84_4 {call : jv_F} {l0 l1 l2 l3 : Option Value}  {st : List Value} {h : jv_H} : jv_ev call 84 4 [l0, l1, l2, l3] st h = jv_ev call 84 5 [l0, l1, l2, l3] (.int (nI 0) :: st) h := je_iconst D84_4 rfl (by decide)
theorem D84_5 : decode (jt_code 84) 5 = .ok (.aaload, 1) := by decide +kernel
theorem E84_5 {call : jv_F} {l0 l1 l2 l3 : Option Value} {a : Nat} {j : Int32} {C : String} {st : List Value} {h : jv_H} (hC : jv_kn h a = some C) (hs : (jv_al h a (.object C) j).isSome = true) : jv_ev call 84 5 [l0, l1, l2, l3] (.int j :: .ref a :: st) h = jv_ev call 84 6 [l0, l1, l2, l3] ((jv_al h a (.object C) j).getD .null :: st) h := by
  obtain ⟨v, hv⟩ := Option.isSome_iff_exists.mp hs
  rw [hv]
  exact je_aald D84_5 rfl hC hv
theorem D84_6 : decode (jt_code 84) 6 = .ok (.astore_n 2, 1) := by decide +kernel
theorem E84_6 {call : jv_F} {l0 l1 l2 l3 : Option Value} {a : Nat} {st : List Value} {h : jv_H} (hk : ¬ jv_is2 (some l1) = true) : jv_ev call 84 6 [l0, l1, l2, l3] (.ref a :: st) h = jv_ev call 84 7 [l0, l1, some (.ref a), l3] st h := je_astore_n (r := some a) D84_6 rfl (Nat.le_of_ble_eq_true rfl) (by show jv_st1 _ 2 _ = _; simp only [jv_st1, jv_kill, List.getElem?_cons_succ, List.getElem?_cons_zero, hk, if_false]; rfl)
theorem E84_6r {call : jv_F} {l0 l1 l2 l3 : Option Value} {r : Option Nat} {st : List Value} {h : jv_H} (hk : ¬ jv_is2 (some l1) = true) : jv_ev call 84 6 [l0, l1, l2, l3] (va_rf r :: st) h = jv_ev call 84 7 [l0, l1, some (va_rf r), l3] st h := je_astore_n (r := r) D84_6 rfl (Nat.le_of_ble_eq_true rfl) (by show jv_st1 _ 2 _ = _; simp only [jv_st1, jv_kill, List.getElem?_cons_succ, List.getElem?_cons_zero, hk, if_false]; rfl)
theorem D84_7 : decode (jt_code 84) 7 = .ok (.aload_n 0, 1) := by decide +kernel
theorem E84_7 {call : jv_F} {l1 l2 l3 : Option Value} {a : Nat} {st : List Value} {h : jv_H} : jv_ev call 84 7 [some (.ref a), l1, l2, l3] st h = jv_ev call 84 8 [some (.ref a), l1, l2, l3] (.ref a :: st) h := je_aload_n (r := some a) D84_7 rfl rfl
theorem D84_8 : decode (jt_code 84) 8 = .ok (.getfield 24, 3) := by decide +kernel
theorem E84_8 {call : jv_F} {l0 l1 l2 l3 : Option Value} {a : Nat} {st : List Value} {h : jv_H} (hs : (jv_gf h a 3 3).isSome = true) : jv_ev call 84 8 [l0, l1, l2, l3] (.ref a :: st) h = jv_ev call 84 11 [l0, l1, l2, l3] ((jv_gf h a 3 3).getD .null :: st) h := by
  obtain ⟨v, hv⟩ := Option.isSome_iff_exists.mp hs
  rw [hv]
  exact je_get D84_8 rfl (by decide) hv
theorem D84_11 : decode (jt_code 84) 11 = .ok (.ifnonnull 14, 3) := by decide +kernel
theorem E84_11r {call : jv_F} {l0 l1 l2 l3 : Option Value} {x : Option Nat} {st : List Value} {h : jv_H} : jv_ev call 84 11 [l0, l1, l2, l3] (va_rf x :: st) h = if x = none then jv_ev call 84 14 [l0, l1, l2, l3] st h else jv_ev call 84 25 [l0, l1, l2, l3] st h := je_ifnonnull D84_11 (by decide) rfl
theorem E84_11 {call : jv_F} {l0 l1 l2 l3 : Option Value} {x : Nat} {st : List Value} {h : jv_H} : jv_ev call 84 11 [l0, l1, l2, l3] (.ref x :: st) h = jv_ev call 84 25 [l0, l1, l2, l3] st h := (je_ifnonnull (x := some x) (t := 25) D84_11 (by decide) rfl).trans (if_neg (by simp))
theorem D84_14 : decode (jt_code 84) 14 = .ok (.aload_n 0, 1) := by decide +kernel
theorem E84_14 {call : jv_F} {l1 l2 l3 : Option Value} {a : Nat} {st : List Value} {h : jv_H} : jv_ev call 84 14 [some (.ref a), l1, l2, l3] st h = jv_ev call 84 15 [some (.ref a), l1, l2, l3] (.ref a :: st) h := je_aload_n (r := some a) D84_14 rfl rfl
theorem D84_15 : decode (jt_code 84) 15 = .ok (.getfield 20, 3) := by decide +kernel
theorem E84_15 {call : jv_F} {l0 l1 l2 l3 : Option Value} {a : Nat} {st : List Value} {h : jv_H} (hs : (jv_gf h a 3 2).isSome = true) : jv_ev call 84 15 [l0, l1, l2, l3] (.ref a :: st) h = jv_ev call 84 18 [l0, l1, l2, l3] ((jv_gf h a 3 2).getD .null :: st) h := by
  obtain ⟨v, hv⟩ := Option.isSome_iff_exists.mp hs
  rw [hv]
  exact je_get D84_15 rfl (by decide) hv
theorem D84_18 : decode (jt_code 84) 18 = .ok (.ifCond .eq 7, 3) := by decide +kernel
theorem E84_18 {call : jv_F} {l0 l1 l2 l3 : Option Value} {x : Int32} {st : List Value} {h : jv_H} : jv_ev call 84 18 [l0, l1, l2, l3] (.int x :: st) h = if x = 0 then jv_ev call 84 25 [l0, l1, l2, l3] st h else jv_ev call 84 21 [l0, l1, l2, l3] st h := je_ifc D84_18 (by decide) rfl rfl
theorem D84_21 : decode (jt_code 84) 21 = .ok (.aload_n 2, 1) := by decide +kernel
theorem E84_21 {call : jv_F} {l0 l1 l3 : Option Value} {a : Nat} {st : List Value} {h : jv_H} : jv_ev call 84 21 [l0, l1, some (.ref a), l3] st h = jv_ev call 84 22 [l0, l1, some (.ref a), l3] (.ref a :: st) h := je_aload_n (r := some a) D84_21 rfl rfl
theorem E84_21r {call : jv_F} {l0 l1 l3 : Option Value} {r : Option Nat} {st : List Value} {h : jv_H} : jv_ev call 84 21 [l0, l1, some (va_rf r), l3] st h = jv_ev call 84 22 [l0, l1, some (va_rf r), l3] (va_rf r :: st) h := je_aload_n (r := r) D84_21 rfl rfl
theorem D84_22 : decode (jt_code 84) 22 = .ok (.ifnonnull 4, 3) := by decide +kernel
theorem E84_22r {call : jv_F} {l0 l1 l2 l3 : Option Value} {x : Option Nat} {st : List Value} {h : jv_H} : jv_ev call 84 22 [l0, l1, l2, l3] (va_rf x :: st) h = if x = none then jv_ev call 84 25 [l0, l1, l2, l3] st h else jv_ev call 84 26 [l0, l1, l2, l3] st h := je_ifnonnull D84_22 (by decide) rfl
theorem E84_22 {call : jv_F} {l0 l1 l2 l3 : Option Value} {x : Nat} {st : List Value} {h : jv_H} : jv_ev call 84 22 [l0, l1, l2, l3] (.ref x :: st) h = jv_ev call 84 26 [l0, l1, l2, l3] st h := (je_ifnonnull (x := some x) (t := 26) D84_22 (by decide) rfl).trans (if_neg (by simp))
theorem D84_25 : decode (jt_code 84) 25 = .ok (.return_, 1) := by decide +kernel
theorem E84_25 {call : jv_F} {l0 l1 l2 l3 : Option Value}  {h : jv_H} : jv_ev call 84 25 [l0, l1, l2, l3] [] h = some (none, h) := je_ret D84_25 rfl
theorem D84_26 : decode (jt_code 84) 26 = .ok (.aload_n 2, 1) := by decide +kernel
theorem E84_26 {call : jv_F} {l0 l1 l3 : Option Value} {a : Nat} {st : List Value} {h : jv_H} : jv_ev call 84 26 [l0, l1, some (.ref a), l3] st h = jv_ev call 84 27 [l0, l1, some (.ref a), l3] (.ref a :: st) h := je_aload_n (r := some a) D84_26 rfl rfl
theorem E84_26r {call : jv_F} {l0 l1 l3 : Option Value} {r : Option Nat} {st : List Value} {h : jv_H} : jv_ev call 84 26 [l0, l1, some (va_rf r), l3] st h = jv_ev call 84 27 [l0, l1, some (va_rf r), l3] (va_rf r :: st) h := je_aload_n (r := r) D84_26 rfl rfl
theorem D84_27 : decode (jt_code 84) 27 = .ok (.getfield 48, 3) := by decide +kernel
theorem E84_27 {call : jv_F} {l0 l1 l2 l3 : Option Value} {a : Nat} {st : List Value} {h : jv_H} (hs : (jv_gf h a 1 5).isSome = true) : jv_ev call 84 27 [l0, l1, l2, l3] (.ref a :: st) h = jv_ev call 84 30 [l0, l1, l2, l3] ((jv_gf h a 1 5).getD .null :: st) h := by
  obtain ⟨v, hv⟩ := Option.isSome_iff_exists.mp hs
  rw [hv]
  exact je_get D84_27 rfl (by decide) hv
theorem D84_30 : decode (jt_code 84) 30 = .ok (.ifCond .eq 11, 3) := by decide +kernel
theorem E84_30 {call : jv_F} {l0 l1 l2 l3 : Option Value} {x : Int32} {st : List Value} {h : jv_H} : jv_ev call 84 30 [l0, l1, l2, l3] (.int x :: st) h = if x = 0 then jv_ev call 84 41 [l0, l1, l2, l3] st h else jv_ev call 84 33 [l0, l1, l2, l3] st h := je_ifc D84_30 (by decide) rfl rfl
theorem D84_33 : decode (jt_code 84) 33 = .ok (.aload_n 0, 1) := by decide +kernel
theorem E84_33 {call : jv_F} {l1 l2 l3 : Option Value} {a : Nat} {st : List Value} {h : jv_H} : jv_ev call 84 33 [some (.ref a), l1, l2, l3] st h = jv_ev call 84 34 [some (.ref a), l1, l2, l3] (.ref a :: st) h := je_aload_n (r := some a) D84_33 rfl rfl
theorem D84_34 : decode (jt_code 84) 34 = .ok (.iload_n 1, 1) := by decide +kernel
theorem E84_34 {call : jv_F} {l0 l2 l3 : Option Value} {x : Int32} {st : List Value} {h : jv_H} : jv_ev call 84 34 [l0, some (.int x), l2, l3] st h = jv_ev call 84 35 [l0, some (.int x), l2, l3] (.int x :: st) h := je_iload_n D84_34 rfl rfl
theorem D84_35 : decode (jt_code 84) 35 = .ok (.invokevirtual 55, 3) := by decide +kernel
theorem E84_35 {call : jv_F} {l0 l1 l2 l3 : Option Value} {b : Nat} {v0 : Value}  {st : List Value} {h : jv_H} (hw : jv_wide st = true) (hcl : jv_cl h b = some 3) (hc : (call 86 [.ref b, v0] h).isSome = true) : jv_ev call 84 35 [l0, l1, l2, l3] (v0 :: .ref b :: st) h = jv_ev call 84 38 [l0, l1, l2, l3] ((((call 86 [.ref b, v0] h).getD (none, h)).1).toList ++ st) ((call 86 [.ref b, v0] h).getD (none, h)).2 := by
  obtain ⟨⟨r, h'⟩, hv⟩ := Option.isSome_iff_exists.mp hc
  rw [hv]
  exact je_virt (y := 86) (as := [v0]) D84_35 rfl (by decide) (by decide) rfl hcl hw hv
theorem D84_38 : decode (jt_code 84) 38 = .ok (.goto 7, 3) := by decide +kernel
theorem E84_38 {call : jv_F} {l0 l1 l2 l3 : Option Value}  {st : List Value} {h : jv_H} : jv_ev call 84 38 [l0, l1, l2, l3] st h = jv_ev call 84 45 [l0, l1, l2, l3] st h := je_goto D84_38 (by decide)
theorem D84_41 : decode (jt_code 84) 41 = .ok (.aload_n 2, 1) := by decide +kernel
theorem E84_41 {call : jv_F} {l0 l1 l3 : Option Value} {a : Nat} {st : List Value} {h : jv_H} : jv_ev call 84 41 [l0, l1, some (.ref a), l3] st h = jv_ev call 84 42 [l0, l1, some (.ref a), l3] (.ref a :: st) h := je_aload_n (r := some a) D84_41 rfl rfl
theorem E84_41r {call : jv_F} {l0 l1 l3 : Option Value} {r : Option Nat} {st : List Value} {h : jv_H} : jv_ev call 84 41 [l0, l1, some (va_rf r), l3] st h = jv_ev call 84 42 [l0, l1, some (va_rf r), l3] (va_rf r :: st) h := je_aload_n (r := r) D84_41 rfl rfl
theorem D84_42 : decode (jt_code 84) 42 = .ok (.getfield 45, 3) := by decide +kernel
theorem E84_42 {call : jv_F} {l0 l1 l2 l3 : Option Value} {a : Nat} {st : List Value} {h : jv_H} (hs : (jv_gf h a 1 3).isSome = true) : jv_ev call 84 42 [l0, l1, l2, l3] (.ref a :: st) h = jv_ev call 84 45 [l0, l1, l2, l3] ((jv_gf h a 1 3).getD .null :: st) h := by
  obtain ⟨v, hv⟩ := Option.isSome_iff_exists.mp hs
  rw [hv]
  exact je_get D84_42 rfl (by decide) hv
theorem D84_45 : decode (jt_code 84) 45 = .ok (.istore_n 3, 1) := by decide +kernel
theorem E84_45 {call : jv_F} {l0 l1 l2 l3 : Option Value} {x : Int32} {st : List Value} {h : jv_H} (hk : ¬ jv_is2 (some l2) = true) : jv_ev call 84 45 [l0, l1, l2, l3] (.int x :: st) h = jv_ev call 84 46 [l0, l1, l2, some (.int x)] st h := je_istore_n D84_45 rfl (Nat.le_of_ble_eq_true rfl) (by show jv_st1 _ 3 _ = _; simp only [jv_st1, jv_kill, List.getElem?_cons_succ, List.getElem?_cons_zero, hk, if_false]; rfl)
theorem D84_46 : decode (jt_code 84) 46 = .ok (.iload_n 3, 1) := by decide +kernel
theorem E84_46 {call : jv_F} {l0 l1 l2 : Option Value} {x : Int32} {st : List Value} {h : jv_H} : jv_ev call 84 46 [l0, l1, l2, some (.int x)] st h = jv_ev call 84 47 [l0, l1, l2, some (.int x)] (.int x :: st) h := je_iload_n D84_46 rfl rfl
theorem D84_47 : decode (jt_code 84) 47 = .ok (.iconst (-1), 1) := by decide +kernel
theorem E84_47 {call : jv_F} {l0 l1 l2 l3 : Option Value}  {st : List Value} {h : jv_H} : jv_ev call 84 47 [l0, l1, l2, l3] st h = jv_ev call 84 48 [l0, l1, l2, l3] (.int (-1) :: st) h := je_iconst D84_47 rfl (by decide)
theorem D84_48 : decode (jt_code 84) 48 = .ok (.if_icmp .ne 4, 3) := by decide +kernel
theorem E84_48 {call : jv_F} {l0 l1 l2 l3 : Option Value} {x y : Int32} {st : List Value} {h : jv_H} : jv_ev call 84 48 [l0, l1, l2, l3] (.int y :: .int x :: st) h = if ¬ x = y then jv_ev call 84 52 [l0, l1, l2, l3] st h else jv_ev call 84 51 [l0, l1, l2, l3] st h := je_icmp D84_48 (by decide) rfl rfl
theorem D84_51 : decode (jt_code 84) 51 = .ok (.return_, 1) := by decide +kernel
theorem E84_51 {call : jv_F} {l0 l1 l2 l3 : Option Value}  {h : jv_H} : jv_ev call 84 51 [l0, l1, l2, l3] [] h = some (none, h) := je_ret D84_51 rfl
theorem D84_52 : decode (jt_code 84) 52 = .ok (.aload_n 2, 1) := by decide +kernel
theorem E84_52 {call : jv_F} {l0 l1 l3 : Option Value} {a : Nat} {st : List Value} {h : jv_H} : jv_ev call 84 52 [l0, l1, some (.ref a), l3] st h = jv_ev call 84 53 [l0, l1, some (.ref a), l3] (.ref a :: st) h := je_aload_n (r := some a) D84_52 rfl rfl
theorem E84_52r {call : jv_F} {l0 l1 l3 : Option Value} {r : Option Nat} {st : List Value} {h : jv_H} : jv_ev call 84 52 [l0, l1, some (va_rf r), l3] st h = jv_ev call 84 53 [l0, l1, some (va_rf r), l3] (va_rf r :: st) h := je_aload_n (r := r) D84_52 rfl rfl
theorem D84_53 : decode (jt_code 84) 53 = .ok (.getfield 48, 3) := by decide +kernel
theorem E84_53 {call : jv_F} {l0 l1 l2 l3 : Option Value} {a : Nat} {st : List Value} {h : jv_H} (hs : (jv_gf h a 1 5).isSome = true) : jv_ev call 84 53 [l0, l1, l2, l3] (.ref a :: st) h = jv_ev call 84 56 [l0, l1, l2, l3] ((jv_gf h a 1 5).getD .null :: st) h := by
  obtain ⟨v, hv⟩ := Option.isSome_iff_exists.mp hs
  rw [hv]
  exact je_get D84_53 rfl (by decide) hv
theorem D84_56 : decode (jt_code 84) 56 = .ok (.ifCond .eq 22, 3) := by decide +kernel
theorem E84_56 {call : jv_F} {l0 l1 l2 l3 : Option Value} {x : Int32} {st : List Value} {h : jv_H} : jv_ev call 84 56 [l0, l1, l2, l3] (.int x :: st) h = if x = 0 then jv_ev call 84 78 [l0, l1, l2, l3] st h else jv_ev call 84 59 [l0, l1, l2, l3] st h := je_ifc D84_56 (by decide) rfl rfl
theorem D84_59 : decode (jt_code 84) 59 = .ok (.aload_n 0, 1) := by decide +kernel
theorem E84_59 {call : jv_F} {l1 l2 l3 : Option Value} {a : Nat} {st : List Value} {h : jv_H} : jv_ev call 84 59 [some (.ref a), l1, l2, l3] st h = jv_ev call 84 60 [some (.ref a), l1, l2, l3] (.ref a :: st) h := je_aload_n (r := some a) D84_59 rfl rfl
theorem D84_60 : decode (jt_code 84) 60 = .ok (.aload_n 2, 1) := by decide +kernel
theorem E84_60 {call : jv_F} {l0 l1 l3 : Option Value} {a : Nat} {st : List Value} {h : jv_H} : jv_ev call 84 60 [l0, l1, some (.ref a), l3] st h = jv_ev call 84 61 [l0, l1, some (.ref a), l3] (.ref a :: st) h := je_aload_n (r := some a) D84_60 rfl rfl
theorem E84_60r {call : jv_F} {l0 l1 l3 : Option Value} {r : Option Nat} {st : List Value} {h : jv_H} : jv_ev call 84 60 [l0, l1, some (va_rf r), l3] st h = jv_ev call 84 61 [l0, l1, some (va_rf r), l3] (va_rf r :: st) h := je_aload_n (r := r) D84_60 rfl rfl
theorem D84_61 : decode (jt_code 84) 61 = .ok (.iload_n 3, 1) := by decide +kernel
theorem E84_61 {call : jv_F} {l0 l1 l2 : Option Value} {x : Int32} {st : List Value} {h : jv_H} : jv_ev call 84 61 [l0, l1, l2, some (.int x)] st h = jv_ev call 84 62 [l0, l1, l2, some (.int x)] (.int x :: st) h := je_iload_n D84_61 rfl rfl
theorem D84_62 : decode (jt_code 84) 62 = .ok (.invokevirtual 41, 3) := by decide +kernel
theorem E84_62 {call : jv_F} {l0 l1 l2 l3 : Option Value} {b : Nat} {v0 v1 : Value}  {st : List Value} {h : jv_H} (hw : jv_wide st = true) (hcl : jv_cl h b = some 3) (hc : (call 79 [.ref b, v0, v1] h).isSome = true) : jv_ev call 84 62 [l0, l1, l2, l3] (v1 :: v0 :: .ref b :: st) h = jv_ev call 84 65 [l0, l1, l2, l3] ((((call 79 [.ref b, v0, v1] h).getD (none, h)).1).toList ++ st) ((call 79 [.ref b, v0, v1] h).getD (none, h)).2 := by
  obtain ⟨⟨r, h'⟩, hv⟩ := Option.isSome_iff_exists.mp hc
  rw [hv]
  exact je_virt (y := 79) (as := [v0, v1]) D84_62 rfl (by decide) (by decide) rfl hcl hw hv
theorem D84_65 : decode (jt_code 84) 65 = .ok (.aload_n 0, 1) := by decide +kernel
theorem E84_65 {call : jv_F} {l1 l2 l3 : Option Value} {a : Nat} {st : List Value} {h : jv_H} : jv_ev call 84 65 [some (.ref a), l1, l2, l3] st h = jv_ev call 84 66 [some (.ref a), l1, l2, l3] (.ref a :: st) h := je_aload_n (r := some a) D84_65 rfl rfl
theorem D84_66 : decode (jt_code 84) 66 = .ok (.dup, 1) := by decide +kernel
theorem E84_66 {call : jv_F} {l0 l1 l2 l3 : Option Value} {a : Nat} {st : List Value} {h : jv_H} : jv_ev call 84 66 [l0, l1, l2, l3] (.ref a :: st) h = jv_ev call 84 67 [l0, l1, l2, l3] (.ref a :: .ref a :: st) h := je_dup D84_66 rfl rfl
theorem E84_66i {call : jv_F} {l0 l1 l2 l3 : Option Value} {x : Int32} {st : List Value} {h : jv_H} : jv_ev call 84 66 [l0, l1, l2, l3] (.int x :: st) h = jv_ev call 84 67 [l0, l1, l2, l3] (.int x :: .int x :: st) h := je_dup D84_66 rfl rfl
theorem D84_67 : decode (jt_code 84) 67 = .ok (.getfield 38, 3) := by decide +kernel
theorem E84_67 {call : jv_F} {l0 l1 l2 l3 : Option Value} {a : Nat} {st : List Value} {h : jv_H} (hs : (jv_gf h a 3 7).isSome = true) : jv_ev call 84 67 [l0, l1, l2, l3] (.ref a :: st) h = jv_ev call 84 70 [l0, l1, l2, l3] ((jv_gf h a 3 7).getD .null :: st) h := by
  obtain ⟨v, hv⟩ := Option.isSome_iff_exists.mp hs
  rw [hv]
  exact je_get D84_67 rfl (by decide) hv
theorem D84_70 : decode (jt_code 84) 70 = .ok (.iconst 1, 1) := by decide +kernel
theorem E84_70 {call : jv_F} {l0 l1 l2 l3 : Option Value}  {st : List Value} {h : jv_H} : jv_ev call 84 70 [l0, l1, l2, l3] st h = jv_ev call 84 71 [l0, l1, l2, l3] (.int (nI 1) :: st) h := je_iconst D84_70 rfl (by decide)
theorem D84_71 : decode (jt_code 84) 71 = .ok (.iadd, 1) := by decide +kernel
theorem E84_71 {call : jv_F} {l0 l1 l2 l3 : Option Value} {x y : Int32} {st : List Value} {h : jv_H} : jv_ev call 84 71 [l0, l1, l2, l3] (.int y :: .int x :: st) h = jv_ev call 84 72 [l0, l1, l2, l3] (.int (x + y) :: st) h := je_b2 (f := fun x y => x + y) D84_71 rfl (fun _ => rfl)
theorem D84_72 : decode (jt_code 84) 72 = .ok (.putfield 38, 3) := by decide +kernel
theorem E84_72 {call : jv_F} {l0 l1 l2 l3 : Option Value} {a : Nat} {v : Value} {st : List Value} {h : jv_H} (hs : (jv_pf h a 3 7 v).isSome = true) : jv_ev call 84 72 [l0, l1, l2, l3] (v :: .ref a :: st) h = jv_ev call 84 75 [l0, l1, l2, l3] st ((jv_pf h a 3 7 v).getD h) := by
  obtain ⟨h', hv⟩ := Option.isSome_iff_exists.mp hs
  rw [hv]
  exact je_put D84_72 rfl (by decide) (by decide) hv
theorem D84_75 : decode (jt_code 84) 75 = .ok (.goto 18, 3) := by decide +kernel
theorem E84_75 {call : jv_F} {l0 l1 l2 l3 : Option Value}  {st : List Value} {h : jv_H} : jv_ev call 84 75 [l0, l1, l2, l3] st h = jv_ev call 84 93 [l0, l1, l2, l3] st h := je_goto D84_75 (by decide)
theorem D84_78 : decode (jt_code 84) 78 = .ok (.aload_n 0, 1) := by decide +kernel
theorem E84_78 {call : jv_F} {l1 l2 l3 : Option Value} {a : Nat} {st : List Value} {h : jv_H} : jv_ev call 84 78 [some (.ref a), l1, l2, l3] st h = jv_ev call 84 79 [some (.ref a), l1, l2, l3] (.ref a :: st) h := je_aload_n (r := some a) D84_78 rfl rfl
theorem D84_79 : decode (jt_code 84) 79 = .ok (.aload_n 2, 1) := by decide +kernel
theorem E84_79 {call : jv_F} {l0 l1 l3 : Option Value} {a : Nat} {st : List Value} {h : jv_H} : jv_ev call 84 79 [l0, l1, some (.ref a), l3] st h = jv_ev call 84 80 [l0, l1, some (.ref a), l3] (.ref a :: st) h := je_aload_n (r := some a) D84_79 rfl rfl
theorem E84_79r {call : jv_F} {l0 l1 l3 : Option Value} {r : Option Nat} {st : List Value} {h : jv_H} : jv_ev call 84 79 [l0, l1, some (va_rf r), l3] st h = jv_ev call 84 80 [l0, l1, some (va_rf r), l3] (va_rf r :: st) h := je_aload_n (r := r) D84_79 rfl rfl
theorem D84_80 : decode (jt_code 84) 80 = .ok (.invokevirtual 59, 3) := by decide +kernel
theorem E84_80 {call : jv_F} {l0 l1 l2 l3 : Option Value} {b : Nat} {v0 : Value}  {st : List Value} {h : jv_H} (hw : jv_wide st = true) (hcl : jv_cl h b = some 3) (hc : (call 80 [.ref b, v0] h).isSome = true) : jv_ev call 84 80 [l0, l1, l2, l3] (v0 :: .ref b :: st) h = jv_ev call 84 83 [l0, l1, l2, l3] ((((call 80 [.ref b, v0] h).getD (none, h)).1).toList ++ st) ((call 80 [.ref b, v0] h).getD (none, h)).2 := by
  obtain ⟨⟨r, h'⟩, hv⟩ := Option.isSome_iff_exists.mp hc
  rw [hv]
  exact je_virt (y := 80) (as := [v0]) D84_80 rfl (by decide) (by decide) rfl hcl hw hv
theorem D84_83 : decode (jt_code 84) 83 = .ok (.aload_n 0, 1) := by decide +kernel
theorem E84_83 {call : jv_F} {l1 l2 l3 : Option Value} {a : Nat} {st : List Value} {h : jv_H} : jv_ev call 84 83 [some (.ref a), l1, l2, l3] st h = jv_ev call 84 84 [some (.ref a), l1, l2, l3] (.ref a :: st) h := je_aload_n (r := some a) D84_83 rfl rfl
theorem D84_84 : decode (jt_code 84) 84 = .ok (.dup, 1) := by decide +kernel
theorem E84_84 {call : jv_F} {l0 l1 l2 l3 : Option Value} {a : Nat} {st : List Value} {h : jv_H} : jv_ev call 84 84 [l0, l1, l2, l3] (.ref a :: st) h = jv_ev call 84 85 [l0, l1, l2, l3] (.ref a :: .ref a :: st) h := je_dup D84_84 rfl rfl
theorem E84_84i {call : jv_F} {l0 l1 l2 l3 : Option Value} {x : Int32} {st : List Value} {h : jv_H} : jv_ev call 84 84 [l0, l1, l2, l3] (.int x :: st) h = jv_ev call 84 85 [l0, l1, l2, l3] (.int x :: .int x :: st) h := je_dup D84_84 rfl rfl
theorem D84_85 : decode (jt_code 84) 85 = .ok (.getfield 35, 3) := by decide +kernel
theorem E84_85 {call : jv_F} {l0 l1 l2 l3 : Option Value} {a : Nat} {st : List Value} {h : jv_H} (hs : (jv_gf h a 3 6).isSome = true) : jv_ev call 84 85 [l0, l1, l2, l3] (.ref a :: st) h = jv_ev call 84 88 [l0, l1, l2, l3] ((jv_gf h a 3 6).getD .null :: st) h := by
  obtain ⟨v, hv⟩ := Option.isSome_iff_exists.mp hs
  rw [hv]
  exact je_get D84_85 rfl (by decide) hv
theorem D84_88 : decode (jt_code 84) 88 = .ok (.iconst 1, 1) := by decide +kernel
theorem E84_88 {call : jv_F} {l0 l1 l2 l3 : Option Value}  {st : List Value} {h : jv_H} : jv_ev call 84 88 [l0, l1, l2, l3] st h = jv_ev call 84 89 [l0, l1, l2, l3] (.int (nI 1) :: st) h := je_iconst D84_88 rfl (by decide)
theorem D84_89 : decode (jt_code 84) 89 = .ok (.iadd, 1) := by decide +kernel
theorem E84_89 {call : jv_F} {l0 l1 l2 l3 : Option Value} {x y : Int32} {st : List Value} {h : jv_H} : jv_ev call 84 89 [l0, l1, l2, l3] (.int y :: .int x :: st) h = jv_ev call 84 90 [l0, l1, l2, l3] (.int (x + y) :: st) h := je_b2 (f := fun x y => x + y) D84_89 rfl (fun _ => rfl)
theorem D84_90 : decode (jt_code 84) 90 = .ok (.putfield 35, 3) := by decide +kernel
theorem E84_90 {call : jv_F} {l0 l1 l2 l3 : Option Value} {a : Nat} {v : Value} {st : List Value} {h : jv_H} (hs : (jv_pf h a 3 6 v).isSome = true) : jv_ev call 84 90 [l0, l1, l2, l3] (v :: .ref a :: st) h = jv_ev call 84 93 [l0, l1, l2, l3] st ((jv_pf h a 3 6 v).getD h) := by
  obtain ⟨h', hv⟩ := Option.isSome_iff_exists.mp hs
  rw [hv]
  exact je_put D84_90 rfl (by decide) (by decide) hv
theorem D84_93 : decode (jt_code 84) 93 = .ok (.aload_n 0, 1) := by decide +kernel
theorem E84_93 {call : jv_F} {l1 l2 l3 : Option Value} {a : Nat} {st : List Value} {h : jv_H} : jv_ev call 84 93 [some (.ref a), l1, l2, l3] st h = jv_ev call 84 94 [some (.ref a), l1, l2, l3] (.ref a :: st) h := je_aload_n (r := some a) D84_93 rfl rfl
theorem D84_94 : decode (jt_code 84) 94 = .ok (.iconst 0, 1) := by decide +kernel
theorem E84_94 {call : jv_F} {l0 l1 l2 l3 : Option Value}  {st : List Value} {h : jv_H} : jv_ev call 84 94 [l0, l1, l2, l3] st h = jv_ev call 84 95 [l0, l1, l2, l3] (.int (nI 0) :: st) h := je_iconst D84_94 rfl (by decide)
theorem D84_95 : decode (jt_code 84) 95 = .ok (.invokevirtual 51, 3) := by decide +kernel
theorem E84_95 {call : jv_F} {l0 l1 l2 l3 : Option Value} {b : Nat} {v0 : Value}  {st : List Value} {h : jv_H} (hw : jv_wide st = true) (hcl : jv_cl h b = some 3) (hc : (call 83 [.ref b, v0] h).isSome = true) : jv_ev call 84 95 [l0, l1, l2, l3] (v0 :: .ref b :: st) h = jv_ev call 84 98 [l0, l1, l2, l3] ((((call 83 [.ref b, v0] h).getD (none, h)).1).toList ++ st) ((call 83 [.ref b, v0] h).getD (none, h)).2 := by
  obtain ⟨⟨r, h'⟩, hv⟩ := Option.isSome_iff_exists.mp hc
  rw [hv]
  exact je_virt (y := 83) (as := [v0]) D84_95 rfl (by decide) (by decide) rfl hcl hw hv
theorem D84_98 : decode (jt_code 84) 98 = .ok (.aload_n 0, 1) := by decide +kernel
theorem E84_98 {call : jv_F} {l1 l2 l3 : Option Value} {a : Nat} {st : List Value} {h : jv_H} : jv_ev call 84 98 [some (.ref a), l1, l2, l3] st h = jv_ev call 84 99 [some (.ref a), l1, l2, l3] (.ref a :: st) h := je_aload_n (r := some a) D84_98 rfl rfl
theorem D84_99 : decode (jt_code 84) 99 = .ok (.aload_n 2, 1) := by decide +kernel
theorem E84_99 {call : jv_F} {l0 l1 l3 : Option Value} {a : Nat} {st : List Value} {h : jv_H} : jv_ev call 84 99 [l0, l1, some (.ref a), l3] st h = jv_ev call 84 100 [l0, l1, some (.ref a), l3] (.ref a :: st) h := je_aload_n (r := some a) D84_99 rfl rfl
theorem E84_99r {call : jv_F} {l0 l1 l3 : Option Value} {r : Option Nat} {st : List Value} {h : jv_H} : jv_ev call 84 99 [l0, l1, some (va_rf r), l3] st h = jv_ev call 84 100 [l0, l1, some (va_rf r), l3] (va_rf r :: st) h := je_aload_n (r := r) D84_99 rfl rfl
theorem D84_100 : decode (jt_code 84) 100 = .ok (.putfield 24, 3) := by decide +kernel
theorem E84_100 {call : jv_F} {l0 l1 l2 l3 : Option Value} {a : Nat} {v : Value} {st : List Value} {h : jv_H} (hs : (jv_pf h a 3 3 v).isSome = true) : jv_ev call 84 100 [l0, l1, l2, l3] (v :: .ref a :: st) h = jv_ev call 84 103 [l0, l1, l2, l3] st ((jv_pf h a 3 3 v).getD h) := by
  obtain ⟨h', hv⟩ := Option.isSome_iff_exists.mp hs
  rw [hv]
  exact je_put D84_100 rfl (by decide) (by decide) hv
theorem D84_103 : decode (jt_code 84) 103 = .ok (.aload_n 0, 1) := by decide +kernel
theorem E84_103 {call : jv_F} {l1 l2 l3 : Option Value} {a : Nat} {st : List Value} {h : jv_H} : jv_ev call 84 103 [some (.ref a), l1, l2, l3] st h = jv_ev call 84 104 [some (.ref a), l1, l2, l3] (.ref a :: st) h := je_aload_n (r := some a) D84_103 rfl rfl
theorem D84_104 : decode (jt_code 84) 104 = .ok (.iload_n 1, 1) := by decide +kernel
theorem E84_104 {call : jv_F} {l0 l2 l3 : Option Value} {x : Int32} {st : List Value} {h : jv_H} : jv_ev call 84 104 [l0, some (.int x), l2, l3] st h = jv_ev call 84 105 [l0, some (.int x), l2, l3] (.int x :: st) h := je_iload_n D84_104 rfl rfl
theorem D84_105 : decode (jt_code 84) 105 = .ok (.iload_n 3, 1) := by decide +kernel
theorem E84_105 {call : jv_F} {l0 l1 l2 : Option Value} {x : Int32} {st : List Value} {h : jv_H} : jv_ev call 84 105 [l0, l1, l2, some (.int x)] st h = jv_ev call 84 106 [l0, l1, l2, some (.int x)] (.int x :: st) h := je_iload_n D84_105 rfl rfl
theorem D84_106 : decode (jt_code 84) 106 = .ok (.iload_n 1, 1) := by decide +kernel
theorem E84_106 {call : jv_F} {l0 l2 l3 : Option Value} {x : Int32} {st : List Value} {h : jv_H} : jv_ev call 84 106 [l0, some (.int x), l2, l3] st h = jv_ev call 84 107 [l0, some (.int x), l2, l3] (.int x :: st) h := je_iload_n D84_106 rfl rfl
theorem D84_107 : decode (jt_code 84) 107 = .ok (.invokestatic 63, 3) := by decide +kernel
theorem E84_107 {call : jv_F} {l0 l1 l2 l3 : Option Value} {v0 v1 : Value}  {st : List Value} {h : jv_H} (hw : jv_wide st = true) (hc : (call 87 [v0, v1] h).isSome = true) : jv_ev call 84 107 [l0, l1, l2, l3] (v1 :: v0 :: st) h = jv_ev call 84 110 [l0, l1, l2, l3] ((((call 87 [v0, v1] h).getD (none, h)).1).toList ++ st) ((call 87 [v0, v1] h).getD (none, h)).2 := by
  obtain ⟨⟨r, h'⟩, hv⟩ := Option.isSome_iff_exists.mp hc
  rw [hv]
  exact je_stat (y := 87) (as := [v0, v1]) D84_107 rfl (by decide) (by decide) rfl hw hv
theorem D84_110 : decode (jt_code 84) 110 = .ok (.iadd, 1) := by decide +kernel
theorem E84_110 {call : jv_F} {l0 l1 l2 l3 : Option Value} {x y : Int32} {st : List Value} {h : jv_H} : jv_ev call 84 110 [l0, l1, l2, l3] (.int y :: .int x :: st) h = jv_ev call 84 111 [l0, l1, l2, l3] (.int (x + y) :: st) h := je_b2 (f := fun x y => x + y) D84_110 rfl (fun _ => rfl)
theorem D84_111 : decode (jt_code 84) 111 = .ok (.iconst 2, 1) := by decide +kernel
theorem E84_111 {call : jv_F} {l0 l1 l2 l3 : Option Value}  {st : List Value} {h : jv_H} : jv_ev call 84 111 [l0, l1, l2, l3] st h = jv_ev call 84 112 [l0, l1, l2, l3] (.int (nI 2) :: st) h := je_iconst D84_111 rfl (by decide)
theorem D84_112 : decode (jt_code 84) 112 = .ok (.iadd, 1) := by decide +kernel
theorem E84_112 {call : jv_F} {l0 l1 l2 l3 : Option Value} {x y : Int32} {st : List Value} {h : jv_H} : jv_ev call 84 112 [l0, l1, l2, l3] (.int y :: .int x :: st) h = jv_ev call 84 113 [l0, l1, l2, l3] (.int (x + y) :: st) h := je_b2 (f := fun x y => x + y) D84_112 rfl (fun _ => rfl)
theorem D84_113 : decode (jt_code 84) 113 = .ok (.putfield 28, 3) := by decide +kernel
theorem E84_113 {call : jv_F} {l0 l1 l2 l3 : Option Value} {a : Nat} {v : Value} {st : List Value} {h : jv_H} (hs : (jv_pf h a 3 4 v).isSome = true) : jv_ev call 84 113 [l0, l1, l2, l3] (v :: .ref a :: st) h = jv_ev call 84 116 [l0, l1, l2, l3] st ((jv_pf h a 3 4 v).getD h) := by
  obtain ⟨h', hv⟩ := Option.isSome_iff_exists.mp hs
  rw [hv]
  exact je_put D84_113 rfl (by decide) (by decide) hv
theorem D84_116 : decode (jt_code 84) 116 = .ok (.return_, 1) := by decide +kernel
theorem E84_116 {call : jv_F} {l0 l1 l2 l3 : Option Value}  {h : jv_H} : jv_ev call 84 116 [l0, l1, l2, l3] [] h = some (none, h) := je_ret D84_116 rfl
/-! method 91: DrumMachine$Job.isInStore -/
theorem N91 {d : Nat} {a0 : Int32} {h : jv_H} : jv_run (d + 1) 91 [.int a0] h = jv_ev (jv_run d) 91 0 [some (.int a0)] [] h := jv_run_eq (Nat.le_of_ble_eq_true rfl) rfl
theorem D91_0 : decode (jt_code 91) 0 = .ok (.iload_n 0, 1) := by decide +kernel
theorem E91_0 {call : jv_F} {x : Int32} {st : List Value} {h : jv_H} : jv_ev call 91 0 [some (.int x)] st h = jv_ev call 91 1 [some (.int x)] (.int x :: st) h := je_iload_n D91_0 rfl rfl
theorem D91_1 : decode (jt_code 91) 1 = .ok (.ifCond .lt 14, 3) := by decide +kernel
theorem E91_1 {call : jv_F} {l0 : Option Value} {x : Int32} {st : List Value} {h : jv_H} : jv_ev call 91 1 [l0] (.int x :: st) h = if x < 0 then jv_ev call 91 15 [l0] st h else jv_ev call 91 4 [l0] st h := je_ifc D91_1 (by decide) rfl rfl
theorem D91_4 : decode (jt_code 91) 4 = .ok (.iload_n 0, 1) := by decide +kernel
theorem E91_4 {call : jv_F} {x : Int32} {st : List Value} {h : jv_H} : jv_ev call 91 4 [some (.int x)] st h = jv_ev call 91 5 [some (.int x)] (.int x :: st) h := je_iload_n D91_4 rfl rfl
theorem D91_5 : decode (jt_code 91) 5 = .ok (.sipush 1024, 3) := by decide +kernel
theorem E91_5 {call : jv_F} {l0 : Option Value}  {st : List Value} {h : jv_H} : jv_ev call 91 5 [l0] st h = jv_ev call 91 8 [l0] (.int (nI 1024) :: st) h := je_sipush D91_5 rfl (by decide)
theorem D91_8 : decode (jt_code 91) 8 = .ok (.if_icmp .ge 7, 3) := by decide +kernel
theorem E91_8 {call : jv_F} {l0 : Option Value} {x y : Int32} {st : List Value} {h : jv_H} : jv_ev call 91 8 [l0] (.int y :: .int x :: st) h = if y ≤ x then jv_ev call 91 15 [l0] st h else jv_ev call 91 11 [l0] st h := je_icmp D91_8 (by decide) rfl rfl
theorem D91_11 : decode (jt_code 91) 11 = .ok (.iconst 1, 1) := by decide +kernel
theorem E91_11 {call : jv_F} {l0 : Option Value}  {st : List Value} {h : jv_H} : jv_ev call 91 11 [l0] st h = jv_ev call 91 12 [l0] (.int (nI 1) :: st) h := je_iconst D91_11 rfl (by decide)
theorem D91_12 : decode (jt_code 91) 12 = .ok (.goto 4, 3) := by decide +kernel
theorem E91_12 {call : jv_F} {l0 : Option Value}  {st : List Value} {h : jv_H} : jv_ev call 91 12 [l0] st h = jv_ev call 91 16 [l0] st h := je_goto D91_12 (by decide)
theorem D91_15 : decode (jt_code 91) 15 = .ok (.iconst 0, 1) := by decide +kernel
theorem E91_15 {call : jv_F} {l0 : Option Value}  {st : List Value} {h : jv_H} : jv_ev call 91 15 [l0] st h = jv_ev call 91 16 [l0] (.int (nI 0) :: st) h := je_iconst D91_15 rfl (by decide)
theorem D91_16 : decode (jt_code 91) 16 = .ok (.ireturn, 1) := by decide +kernel
theorem E91_16 {call : jv_F} {l0 : Option Value} {v : Int32} {h : jv_H} (hn : narrow .boolean (.int v) = .int v) (hf : fits .boolean (.int v) = true) : jv_ev call 91 16 [l0] [.int v] h = some (some (.int v), h) := je_iret (ty := .boolean) D91_16 rfl hn hf
/-! method 92: DrumMachine$Job.isReady -/
theorem N92 {d : Nat} {b : Nat} {a0 : Int32} {h : jv_H} : jv_run (d + 1) 92 [.ref b, .int a0] h = jv_ev (jv_run d) 92 0 [some (.ref b), some (.int a0)] [] h := jv_run_eq (Nat.le_of_ble_eq_true rfl) rfl
theorem D92_0 : decode (jt_code 92) 0 = .ok (.aload_n 0, 1) := by decide +kernel
theorem E92_0 {call : jv_F} {l1 : Option Value} {a : Nat} {st : List Value} {h : jv_H} : jv_ev call 92 0 [some (.ref a), l1] st h = jv_ev call 92 1 [some (.ref a), l1] (.ref a :: st) h := je_aload_n (r := some a) D92_0 rfl rfl
theorem D92_1 : decode (jt_code 92) 1 = .ok (.getfield 56, 3) := by decide +kernel
theorem E92_1 {call : jv_F} {l0 l1 : Option Value} {a : Nat} {st : List Value} {h : jv_H} (hs : (jv_gf h a 4 15).isSome = true) : jv_ev call 92 1 [l0, l1] (.ref a :: st) h = jv_ev call 92 4 [l0, l1] ((jv_gf h a 4 15).getD .null :: st) h := by
  obtain ⟨v, hv⟩ := Option.isSome_iff_exists.mp hs
  rw [hv]
  exact je_get D92_1 rfl (by decide) hv
theorem D92_4 : decode (jt_code 92) 4 = .ok (.ifCond .eq 5, 3) := by decide +kernel
theorem E92_4 {call : jv_F} {l0 l1 : Option Value} {x : Int32} {st : List Value} {h : jv_H} : jv_ev call 92 4 [l0, l1] (.int x :: st) h = if x = 0 then jv_ev call 92 9 [l0, l1] st h else jv_ev call 92 7 [l0, l1] st h := je_ifc D92_4 (by decide) rfl rfl
theorem D92_7 : decode (jt_code 92) 7 = .ok (.iload_n 1, 1) := by decide +kernel
theorem E92_7 {call : jv_F} {l0 : Option Value} {x : Int32} {st : List Value} {h : jv_H} : jv_ev call 92 7 [l0, some (.int x)] st h = jv_ev call 92 8 [l0, some (.int x)] (.int x :: st) h := je_iload_n D92_7 rfl rfl
theorem D92_8 : decode (jt_code 92) 8 = .ok (.ireturn, 1) := by decide +kernel
theorem E92_8 {call : jv_F} {l0 l1 : Option Value} {v : Int32} {h : jv_H} (hn : narrow .boolean (.int v) = .int v) (hf : fits .boolean (.int v) = true) : jv_ev call 92 8 [l0, l1] [.int v] h = some (some (.int v), h) := je_iret (ty := .boolean) D92_8 rfl hn hf
theorem D92_9 : decode (jt_code 92) 9 = .ok (.aload_n 0, 1) := by decide +kernel
theorem E92_9 {call : jv_F} {l1 : Option Value} {a : Nat} {st : List Value} {h : jv_H} : jv_ev call 92 9 [some (.ref a), l1] st h = jv_ev call 92 10 [some (.ref a), l1] (.ref a :: st) h := je_aload_n (r := some a) D92_9 rfl rfl
theorem D92_10 : decode (jt_code 92) 10 = .ok (.getfield 52, 3) := by decide +kernel
theorem E92_10 {call : jv_F} {l0 l1 : Option Value} {a : Nat} {st : List Value} {h : jv_H} (hs : (jv_gf h a 4 14).isSome = true) : jv_ev call 92 10 [l0, l1] (.ref a :: st) h = jv_ev call 92 13 [l0, l1] ((jv_gf h a 4 14).getD .null :: st) h := by
  obtain ⟨v, hv⟩ := Option.isSome_iff_exists.mp hs
  rw [hv]
  exact je_get D92_10 rfl (by decide) hv
theorem D92_13 : decode (jt_code 92) 13 = .ok (.ifnull 13, 3) := by decide +kernel
theorem E92_13r {call : jv_F} {l0 l1 : Option Value} {x : Option Nat} {st : List Value} {h : jv_H} : jv_ev call 92 13 [l0, l1] (va_rf x :: st) h = if x = none then jv_ev call 92 26 [l0, l1] st h else jv_ev call 92 16 [l0, l1] st h := je_ifnull D92_13 (by decide) rfl
theorem E92_13 {call : jv_F} {l0 l1 : Option Value} {x : Nat} {st : List Value} {h : jv_H} : jv_ev call 92 13 [l0, l1] (.ref x :: st) h = jv_ev call 92 16 [l0, l1] st h := (je_ifnull (x := some x) (t := 26) D92_13 (by decide) rfl).trans (if_neg (by simp))
theorem D92_16 : decode (jt_code 92) 16 = .ok (.aload_n 0, 1) := by decide +kernel
theorem E92_16 {call : jv_F} {l1 : Option Value} {a : Nat} {st : List Value} {h : jv_H} : jv_ev call 92 16 [some (.ref a), l1] st h = jv_ev call 92 17 [some (.ref a), l1] (.ref a :: st) h := je_aload_n (r := some a) D92_16 rfl rfl
theorem D92_17 : decode (jt_code 92) 17 = .ok (.getfield 52, 3) := by decide +kernel
theorem E92_17 {call : jv_F} {l0 l1 : Option Value} {a : Nat} {st : List Value} {h : jv_H} (hs : (jv_gf h a 4 14).isSome = true) : jv_ev call 92 17 [l0, l1] (.ref a :: st) h = jv_ev call 92 20 [l0, l1] ((jv_gf h a 4 14).getD .null :: st) h := by
  obtain ⟨v, hv⟩ := Option.isSome_iff_exists.mp hs
  rw [hv]
  exact je_get D92_17 rfl (by decide) hv
theorem D92_20 : decode (jt_code 92) 20 = .ok (.getfield 85, 3) := by decide +kernel
theorem E92_20 {call : jv_F} {l0 l1 : Option Value} {a : Nat} {st : List Value} {h : jv_H} (hs : (jv_gf h a 1 4).isSome = true) : jv_ev call 92 20 [l0, l1] (.ref a :: st) h = jv_ev call 92 23 [l0, l1] ((jv_gf h a 1 4).getD .null :: st) h := by
  obtain ⟨v, hv⟩ := Option.isSome_iff_exists.mp hs
  rw [hv]
  exact je_get D92_20 rfl (by decide) hv
theorem D92_23 : decode (jt_code 92) 23 = .ok (.ifCond .ne 7, 3) := by decide +kernel
theorem E92_23 {call : jv_F} {l0 l1 : Option Value} {x : Int32} {st : List Value} {h : jv_H} : jv_ev call 92 23 [l0, l1] (.int x :: st) h = if ¬ x = 0 then jv_ev call 92 30 [l0, l1] st h else jv_ev call 92 26 [l0, l1] st h := je_ifc D92_23 (by decide) rfl rfl
theorem D92_26 : decode (jt_code 92) 26 = .ok (.iconst 1, 1) := by decide +kernel
theorem E92_26 {call : jv_F} {l0 l1 : Option Value}  {st : List Value} {h : jv_H} : jv_ev call 92 26 [l0, l1] st h = jv_ev call 92 27 [l0, l1] (.int (nI 1) :: st) h := je_iconst D92_26 rfl (by decide)
theorem D92_27 : decode (jt_code 92) 27 = .ok (.goto 4, 3) := by decide +kernel
theorem E92_27 {call : jv_F} {l0 l1 : Option Value}  {st : List Value} {h : jv_H} : jv_ev call 92 27 [l0, l1] st h = jv_ev call 92 31 [l0, l1] st h := je_goto D92_27 (by decide)
theorem D92_30 : decode (jt_code 92) 30 = .ok (.iconst 0, 1) := by decide +kernel
theorem E92_30 {call : jv_F} {l0 l1 : Option Value}  {st : List Value} {h : jv_H} : jv_ev call 92 30 [l0, l1] st h = jv_ev call 92 31 [l0, l1] (.int (nI 0) :: st) h := je_iconst D92_30 rfl (by decide)
theorem D92_31 : decode (jt_code 92) 31 = .ok (.ireturn, 1) := by decide +kernel
theorem E92_31 {call : jv_F} {l0 l1 : Option Value} {v : Int32} {h : jv_H} (hn : narrow .boolean (.int v) = .int v) (hf : fits .boolean (.int v) = true) : jv_ev call 92 31 [l0, l1] [.int v] h = some (some (.int v), h) := je_iret (ty := .boolean) D92_31 rfl hn hf
/-! method 95: DrumMachine$Job.blockOf -/
theorem N95 {d : Nat} {b : Nat} {a0 : Int32} {h : jv_H} : jv_run (d + 1) 95 [.ref b, .int a0] h = jv_ev (jv_run d) 95 0 [some (.ref b), some (.int a0)] [] h := jv_run_eq (Nat.le_of_ble_eq_true rfl) rfl
theorem D95_0 : decode (jt_code 95) 0 = .ok (.iload_n 1, 1) := by decide +kernel
theorem E95_0 {call : jv_F} {l0 : Option Value} {x : Int32} {st : List Value} {h : jv_H} : jv_ev call 95 0 [l0, some (.int x)] st h = jv_ev call 95 1 [l0, some (.int x)] (.int x :: st) h := je_iload_n D95_0 rfl rfl
theorem D95_1 : decode (jt_code 95) 1 = .ok (.invokestatic 92, 3) := by decide +kernel
theorem E95_1 {call : jv_F} {l0 l1 : Option Value} {v0 : Value}  {st : List Value} {h : jv_H} (hw : jv_wide st = true) (hc : (call 91 [v0] h).isSome = true) : jv_ev call 95 1 [l0, l1] (v0 :: st) h = jv_ev call 95 4 [l0, l1] ((((call 91 [v0] h).getD (none, h)).1).toList ++ st) ((call 91 [v0] h).getD (none, h)).2 := by
  obtain ⟨⟨r, h'⟩, hv⟩ := Option.isSome_iff_exists.mp hc
  rw [hv]
  exact je_stat (y := 91) (as := [v0]) D95_1 rfl (by decide) (by decide) rfl hw hv
theorem D95_4 : decode (jt_code 95) 4 = .ok (.ifCond .eq 15, 3) := by decide +kernel
theorem E95_4 {call : jv_F} {l0 l1 : Option Value} {x : Int32} {st : List Value} {h : jv_H} : jv_ev call 95 4 [l0, l1] (.int x :: st) h = if x = 0 then jv_ev call 95 19 [l0, l1] st h else jv_ev call 95 7 [l0, l1] st h := je_ifc D95_4 (by decide) rfl rfl
theorem D95_7 : decode (jt_code 95) 7 = .ok (.aload_n 0, 1) := by decide +kernel
theorem E95_7 {call : jv_F} {l1 : Option Value} {a : Nat} {st : List Value} {h : jv_H} : jv_ev call 95 7 [some (.ref a), l1] st h = jv_ev call 95 8 [some (.ref a), l1] (.ref a :: st) h := je_aload_n (r := some a) D95_7 rfl rfl
theorem D95_8 : decode (jt_code 95) 8 = .ok (.getfield 29, 3) := by decide +kernel
theorem E95_8 {call : jv_F} {l0 l1 : Option Value} {a : Nat} {st : List Value} {h : jv_H} (hs : (jv_gf h a 4 6).isSome = true) : jv_ev call 95 8 [l0, l1] (.ref a :: st) h = jv_ev call 95 11 [l0, l1] ((jv_gf h a 4 6).getD .null :: st) h := by
  obtain ⟨v, hv⟩ := Option.isSome_iff_exists.mp hs
  rw [hv]
  exact je_get D95_8 rfl (by decide) hv
theorem D95_11 : decode (jt_code 95) 11 = .ok (.iload_n 1, 1) := by decide +kernel
theorem E95_11 {call : jv_F} {l0 : Option Value} {x : Int32} {st : List Value} {h : jv_H} : jv_ev call 95 11 [l0, some (.int x)] st h = jv_ev call 95 12 [l0, some (.int x)] (.int x :: st) h := je_iload_n D95_11 rfl rfl
theorem D95_12 : decode (jt_code 95) 12 = .ok (.bipush 16, 2) := by decide +kernel
theorem E95_12 {call : jv_F} {l0 l1 : Option Value}  {st : List Value} {h : jv_H} : jv_ev call 95 12 [l0, l1] st h = jv_ev call 95 14 [l0, l1] (.int (nI 16) :: st) h := je_bipush D95_12 rfl (by decide)
theorem D95_14 : decode (jt_code 95) 14 = .ok (.idiv, 1) := by decide +kernel
theorem E95_14 {call : jv_F} {l0 l1 : Option Value} {x y : Int32} {st : List Value} {h : jv_H} (hy : ¬ y = 0) : jv_ev call 95 14 [l0, l1] (.int y :: .int x :: st) h = jv_ev call 95 15 [l0, l1] (.int (x / y) :: st) h := je_idiv D95_14 rfl hy
theorem D95_15 : decode (jt_code 95) 15 = .ok (.aaload, 1) := by decide +kernel
theorem E95_15 {call : jv_F} {l0 l1 : Option Value} {a : Nat} {j : Int32} {C : String} {st : List Value} {h : jv_H} (hC : jv_kn h a = some C) (hs : (jv_al h a (.object C) j).isSome = true) : jv_ev call 95 15 [l0, l1] (.int j :: .ref a :: st) h = jv_ev call 95 16 [l0, l1] ((jv_al h a (.object C) j).getD .null :: st) h := by
  obtain ⟨v, hv⟩ := Option.isSome_iff_exists.mp hs
  rw [hv]
  exact je_aald D95_15 rfl hC hv
theorem D95_16 : decode (jt_code 95) 16 = .ok (.goto 4, 3) := by decide +kernel
theorem E95_16 {call : jv_F} {l0 l1 : Option Value}  {st : List Value} {h : jv_H} : jv_ev call 95 16 [l0, l1] st h = jv_ev call 95 20 [l0, l1] st h := je_goto D95_16 (by decide)
theorem D95_19 : decode (jt_code 95) 19 = .ok (.aconst_null, 1) := by decide +kernel
theorem E95_19 {call : jv_F} {l0 l1 : Option Value}  {st : List Value} {h : jv_H} : jv_ev call 95 19 [l0, l1] st h = jv_ev call 95 20 [l0, l1] (.null :: st) h := je_null D95_19 rfl
theorem D95_20 : decode (jt_code 95) 20 = .ok (.areturn, 1) := by decide +kernel
theorem E95_20r {call : jv_F} {l0 l1 : Option Value} {r : Option Nat} {h : jv_H} : jv_ev call 95 20 [l0, l1] [va_rf r] h = some (some (va_rf r), h) := je_aret D95_20 rfl
theorem E95_20 {call : jv_F} {l0 l1 : Option Value} {a : Nat} {h : jv_H} : jv_ev call 95 20 [l0, l1] [.ref a] h = some (some (.ref a), h) := je_aret (r := some a) D95_20 rfl
theorem E95_20n {call : jv_F} {l0 l1 : Option Value}  {h : jv_H} : jv_ev call 95 20 [l0, l1] [.null] h = some (some .null, h) := je_aret (r := none) D95_20 rfl
/-! method 96: DrumMachine$Job.setBlock -/
theorem N96 {d : Nat} {b : Nat} {a0 : Int32} {a1 : Option Nat} {h : jv_H} : jv_run (d + 1) 96 [.ref b, .int a0, va_rf a1] h = jv_ev (jv_run d) 96 0 [some (.ref b), some (.int a0), some (va_rf a1)] [] h := by
  cases a1 <;>
  exact jv_run_eq (Nat.le_of_ble_eq_true rfl) rfl
theorem D96_0 : decode (jt_code 96) 0 = .ok (.iload_n 1, 1) := by decide +kernel
theorem E96_0 {call : jv_F} {l0 l2 : Option Value} {x : Int32} {st : List Value} {h : jv_H} : jv_ev call 96 0 [l0, some (.int x), l2] st h = jv_ev call 96 1 [l0, some (.int x), l2] (.int x :: st) h := je_iload_n D96_0 rfl rfl
theorem D96_1 : decode (jt_code 96) 1 = .ok (.ifCond .lt 16, 3) := by decide +kernel
theorem E96_1 {call : jv_F} {l0 l1 l2 : Option Value} {x : Int32} {st : List Value} {h : jv_H} : jv_ev call 96 1 [l0, l1, l2] (.int x :: st) h = if x < 0 then jv_ev call 96 17 [l0, l1, l2] st h else jv_ev call 96 4 [l0, l1, l2] st h := je_ifc D96_1 (by decide) rfl rfl
theorem D96_4 : decode (jt_code 96) 4 = .ok (.iload_n 1, 1) := by decide +kernel
theorem E96_4 {call : jv_F} {l0 l2 : Option Value} {x : Int32} {st : List Value} {h : jv_H} : jv_ev call 96 4 [l0, some (.int x), l2] st h = jv_ev call 96 5 [l0, some (.int x), l2] (.int x :: st) h := je_iload_n D96_4 rfl rfl
theorem D96_5 : decode (jt_code 96) 5 = .ok (.bipush 64, 2) := by decide +kernel
theorem E96_5 {call : jv_F} {l0 l1 l2 : Option Value}  {st : List Value} {h : jv_H} : jv_ev call 96 5 [l0, l1, l2] st h = jv_ev call 96 7 [l0, l1, l2] (.int (nI 64) :: st) h := je_bipush D96_5 rfl (by decide)
theorem D96_7 : decode (jt_code 96) 7 = .ok (.if_icmp .ge 10, 3) := by decide +kernel
theorem E96_7 {call : jv_F} {l0 l1 l2 : Option Value} {x y : Int32} {st : List Value} {h : jv_H} : jv_ev call 96 7 [l0, l1, l2] (.int y :: .int x :: st) h = if y ≤ x then jv_ev call 96 17 [l0, l1, l2] st h else jv_ev call 96 10 [l0, l1, l2] st h := je_icmp D96_7 (by decide) rfl rfl
theorem D96_10 : decode (jt_code 96) 10 = .ok (.aload_n 0, 1) := by decide +kernel
theorem E96_10 {call : jv_F} {l1 l2 : Option Value} {a : Nat} {st : List Value} {h : jv_H} : jv_ev call 96 10 [some (.ref a), l1, l2] st h = jv_ev call 96 11 [some (.ref a), l1, l2] (.ref a :: st) h := je_aload_n (r := some a) D96_10 rfl rfl
theorem D96_11 : decode (jt_code 96) 11 = .ok (.getfield 29, 3) := by decide +kernel
theorem E96_11 {call : jv_F} {l0 l1 l2 : Option Value} {a : Nat} {st : List Value} {h : jv_H} (hs : (jv_gf h a 4 6).isSome = true) : jv_ev call 96 11 [l0, l1, l2] (.ref a :: st) h = jv_ev call 96 14 [l0, l1, l2] ((jv_gf h a 4 6).getD .null :: st) h := by
  obtain ⟨v, hv⟩ := Option.isSome_iff_exists.mp hs
  rw [hv]
  exact je_get D96_11 rfl (by decide) hv
theorem D96_14 : decode (jt_code 96) 14 = .ok (.iload_n 1, 1) := by decide +kernel
theorem E96_14 {call : jv_F} {l0 l2 : Option Value} {x : Int32} {st : List Value} {h : jv_H} : jv_ev call 96 14 [l0, some (.int x), l2] st h = jv_ev call 96 15 [l0, some (.int x), l2] (.int x :: st) h := je_iload_n D96_14 rfl rfl
theorem D96_15 : decode (jt_code 96) 15 = .ok (.aload_n 2, 1) := by decide +kernel
theorem E96_15 {call : jv_F} {l0 l1 : Option Value} {a : Nat} {st : List Value} {h : jv_H} : jv_ev call 96 15 [l0, l1, some (.ref a)] st h = jv_ev call 96 16 [l0, l1, some (.ref a)] (.ref a :: st) h := je_aload_n (r := some a) D96_15 rfl rfl
theorem E96_15r {call : jv_F} {l0 l1 : Option Value} {r : Option Nat} {st : List Value} {h : jv_H} : jv_ev call 96 15 [l0, l1, some (va_rf r)] st h = jv_ev call 96 16 [l0, l1, some (va_rf r)] (va_rf r :: st) h := je_aload_n (r := r) D96_15 rfl rfl
theorem D96_16 : decode (jt_code 96) 16 = .ok (.aastore, 1) := by decide +kernel
theorem E96_16 {call : jv_F} {l0 l1 l2 : Option Value} {a : Nat} {j : Int32} {C : String} {v : Value} {st : List Value} {h : jv_H} (hC : jv_kn h a = some C) (hA : jv_isA h C v = true) (hs : (jv_as h a (.object C) j v).isSome = true) : jv_ev call 96 16 [l0, l1, l2] (v :: .int j :: .ref a :: st) h = jv_ev call 96 17 [l0, l1, l2] st ((jv_as h a (.object C) j v).getD h) := by
  obtain ⟨h', hv⟩ := Option.isSome_iff_exists.mp hs
  rw [hv]
  exact je_aast D96_16 rfl hC hA hv
theorem D96_17 : decode (jt_code 96) 17 = .ok (.return_, 1) := by decide +kernel
theorem E96_17 {call : jv_F} {l0 l1 l2 : Option Value}  {h : jv_H} : jv_ev call 96 17 [l0, l1, l2] [] h = some (none, h) := je_ret D96_17 rfl
/-! method 97: DrumMachine$Job.load -/
theorem N97 {d : Nat} {b : Nat} {a0 : Int32} {h : jv_H} : jv_run (d + 1) 97 [.ref b, .int a0] h = jv_ev (jv_run d) 97 0 [some (.ref b), some (.int a0)] [] h := jv_run_eq (Nat.le_of_ble_eq_true rfl) rfl
theorem D97_0 : decode (jt_code 97) 0 = .ok (.iload_n 1, 1) := by decide +kernel
theorem E97_0 {call : jv_F} {l0 : Option Value} {x : Int32} {st : List Value} {h : jv_H} : jv_ev call 97 0 [l0, some (.int x)] st h = jv_ev call 97 1 [l0, some (.int x)] (.int x :: st) h := je_iload_n D97_0 rfl rfl
theorem D97_1 : decode (jt_code 97) 1 = .ok (.invokestatic 92, 3) := by decide +kernel
theorem E97_1 {call : jv_F} {l0 l1 : Option Value} {v0 : Value}  {st : List Value} {h : jv_H} (hw : jv_wide st = true) (hc : (call 91 [v0] h).isSome = true) : jv_ev call 97 1 [l0, l1] (v0 :: st) h = jv_ev call 97 4 [l0, l1] ((((call 91 [v0] h).getD (none, h)).1).toList ++ st) ((call 91 [v0] h).getD (none, h)).2 := by
  obtain ⟨⟨r, h'⟩, hv⟩ := Option.isSome_iff_exists.mp hc
  rw [hv]
  exact je_stat (y := 91) (as := [v0]) D97_1 rfl (by decide) (by decide) rfl hw hv
theorem D97_4 : decode (jt_code 97) 4 = .ok (.ifCond .eq 12, 3) := by decide +kernel
theorem E97_4 {call : jv_F} {l0 l1 : Option Value} {x : Int32} {st : List Value} {h : jv_H} : jv_ev call 97 4 [l0, l1] (.int x :: st) h = if x = 0 then jv_ev call 97 16 [l0, l1] st h else jv_ev call 97 7 [l0, l1] st h := je_ifc D97_4 (by decide) rfl rfl
theorem D97_7 : decode (jt_code 97) 7 = .ok (.aload_n 0, 1) := by decide +kernel
theorem E97_7 {call : jv_F} {l1 : Option Value} {a : Nat} {st : List Value} {h : jv_H} : jv_ev call 97 7 [some (.ref a), l1] st h = jv_ev call 97 8 [some (.ref a), l1] (.ref a :: st) h := je_aload_n (r := some a) D97_7 rfl rfl
theorem D97_8 : decode (jt_code 97) 8 = .ok (.getfield 23, 3) := by decide +kernel
theorem E97_8 {call : jv_F} {l0 l1 : Option Value} {a : Nat} {st : List Value} {h : jv_H} (hs : (jv_gf h a 4 5).isSome = true) : jv_ev call 97 8 [l0, l1] (.ref a :: st) h = jv_ev call 97 11 [l0, l1] ((jv_gf h a 4 5).getD .null :: st) h := by
  obtain ⟨v, hv⟩ := Option.isSome_iff_exists.mp hs
  rw [hv]
  exact je_get D97_8 rfl (by decide) hv
theorem D97_11 : decode (jt_code 97) 11 = .ok (.iload_n 1, 1) := by decide +kernel
theorem E97_11 {call : jv_F} {l0 : Option Value} {x : Int32} {st : List Value} {h : jv_H} : jv_ev call 97 11 [l0, some (.int x)] st h = jv_ev call 97 12 [l0, some (.int x)] (.int x :: st) h := je_iload_n D97_11 rfl rfl
theorem D97_12 : decode (jt_code 97) 12 = .ok (.laload, 1) := by decide +kernel
theorem E97_12 {call : jv_F} {l0 l1 : Option Value} {a : Nat} {j : Int32} {st : List Value} {h : jv_H} (hs : (jv_al h a .long j).isSome = true) : jv_ev call 97 12 [l0, l1] (.int j :: .ref a :: st) h = jv_ev call 97 13 [l0, l1] ((jv_al h a .long j).getD .null :: st) h := by
  obtain ⟨v, hv⟩ := Option.isSome_iff_exists.mp hs
  rw [hv]
  exact je_lald D97_12 rfl hv
theorem D97_13 : decode (jt_code 97) 13 = .ok (.goto 4, 3) := by decide +kernel
theorem E97_13 {call : jv_F} {l0 l1 : Option Value}  {st : List Value} {h : jv_H} : jv_ev call 97 13 [l0, l1] st h = jv_ev call 97 17 [l0, l1] st h := je_goto D97_13 (by decide)
theorem D97_16 : decode (jt_code 97) 16 = .ok (.lconst 0, 1) := by decide +kernel
theorem E97_16 {call : jv_F} {l0 l1 : Option Value}  {st : List Value} {h : jv_H} : jv_ev call 97 16 [l0, l1] st h = jv_ev call 97 17 [l0, l1] (.long 0 :: st) h := je_lconst D97_16 rfl (by decide)
theorem D97_17 : decode (jt_code 97) 17 = .ok (.lreturn, 1) := by decide +kernel
theorem E97_17 {call : jv_F} {l0 l1 : Option Value} {v : Int64} {h : jv_H} : jv_ev call 97 17 [l0, l1] [.long v] h = some (some (.long v), h) := je_lret D97_17 rfl
/-! method 98: DrumMachine$Job.keep -/
theorem N98 {d : Nat} {b : Nat} {a0 : Int32} {a1 : Int64} {h : jv_H} : jv_run (d + 1) 98 [.ref b, .int a0, .long a1] h = jv_ev (jv_run d) 98 0 [some (.ref b), some (.int a0), some (.long a1), none] [] h := jv_run_eq (Nat.le_of_ble_eq_true rfl) rfl
theorem D98_0 : decode (jt_code 98) 0 = .ok (.iload_n 1, 1) := by decide +kernel
theorem E98_0 {call : jv_F} {l0 l2 l3 : Option Value} {x : Int32} {st : List Value} {h : jv_H} : jv_ev call 98 0 [l0, some (.int x), l2, l3] st h = jv_ev call 98 1 [l0, some (.int x), l2, l3] (.int x :: st) h := je_iload_n D98_0 rfl rfl
theorem D98_1 : decode (jt_code 98) 1 = .ok (.invokestatic 92, 3) := by decide +kernel
theorem E98_1 {call : jv_F} {l0 l1 l2 l3 : Option Value} {v0 : Value}  {st : List Value} {h : jv_H} (hw : jv_wide st = true) (hc : (call 91 [v0] h).isSome = true) : jv_ev call 98 1 [l0, l1, l2, l3] (v0 :: st) h = jv_ev call 98 4 [l0, l1, l2, l3] ((((call 91 [v0] h).getD (none, h)).1).toList ++ st) ((call 91 [v0] h).getD (none, h)).2 := by
  obtain ⟨⟨r, h'⟩, hv⟩ := Option.isSome_iff_exists.mp hc
  rw [hv]
  exact je_stat (y := 91) (as := [v0]) D98_1 rfl (by decide) (by decide) rfl hw hv
theorem D98_4 : decode (jt_code 98) 4 = .ok (.ifCond .eq 10, 3) := by decide +kernel
theorem E98_4 {call : jv_F} {l0 l1 l2 l3 : Option Value} {x : Int32} {st : List Value} {h : jv_H} : jv_ev call 98 4 [l0, l1, l2, l3] (.int x :: st) h = if x = 0 then jv_ev call 98 14 [l0, l1, l2, l3] st h else jv_ev call 98 7 [l0, l1, l2, l3] st h := je_ifc D98_4 (by decide) rfl rfl
theorem D98_7 : decode (jt_code 98) 7 = .ok (.aload_n 0, 1) := by decide +kernel
theorem E98_7 {call : jv_F} {l1 l2 l3 : Option Value} {a : Nat} {st : List Value} {h : jv_H} : jv_ev call 98 7 [some (.ref a), l1, l2, l3] st h = jv_ev call 98 8 [some (.ref a), l1, l2, l3] (.ref a :: st) h := je_aload_n (r := some a) D98_7 rfl rfl
theorem D98_8 : decode (jt_code 98) 8 = .ok (.getfield 23, 3) := by decide +kernel
theorem E98_8 {call : jv_F} {l0 l1 l2 l3 : Option Value} {a : Nat} {st : List Value} {h : jv_H} (hs : (jv_gf h a 4 5).isSome = true) : jv_ev call 98 8 [l0, l1, l2, l3] (.ref a :: st) h = jv_ev call 98 11 [l0, l1, l2, l3] ((jv_gf h a 4 5).getD .null :: st) h := by
  obtain ⟨v, hv⟩ := Option.isSome_iff_exists.mp hs
  rw [hv]
  exact je_get D98_8 rfl (by decide) hv
theorem D98_11 : decode (jt_code 98) 11 = .ok (.iload_n 1, 1) := by decide +kernel
theorem E98_11 {call : jv_F} {l0 l2 l3 : Option Value} {x : Int32} {st : List Value} {h : jv_H} : jv_ev call 98 11 [l0, some (.int x), l2, l3] st h = jv_ev call 98 12 [l0, some (.int x), l2, l3] (.int x :: st) h := je_iload_n D98_11 rfl rfl
theorem D98_12 : decode (jt_code 98) 12 = .ok (.lload_n 2, 1) := by decide +kernel
theorem E98_12 {call : jv_F} {l0 l1 l3 : Option Value} {x : Int64} {st : List Value} {h : jv_H} : jv_ev call 98 12 [l0, l1, some (.long x), l3] st h = jv_ev call 98 13 [l0, l1, some (.long x), l3] (.long x :: st) h := je_lload_n D98_12 rfl rfl
theorem D98_13 : decode (jt_code 98) 13 = .ok (.lastore, 1) := by decide +kernel
theorem E98_13 {call : jv_F} {l0 l1 l2 l3 : Option Value} {a : Nat} {j : Int32} {x : Int64} {st : List Value} {h : jv_H} (hs : (jv_as h a .long j (.long x)).isSome = true) : jv_ev call 98 13 [l0, l1, l2, l3] (.long x :: .int j :: .ref a :: st) h = jv_ev call 98 14 [l0, l1, l2, l3] st ((jv_as h a .long j (.long x)).getD h) := by
  obtain ⟨h', hv⟩ := Option.isSome_iff_exists.mp hs
  rw [hv]
  exact je_last D98_13 rfl hv
theorem D98_14 : decode (jt_code 98) 14 = .ok (.return_, 1) := by decide +kernel
theorem E98_14 {call : jv_F} {l0 l1 l2 l3 : Option Value}  {h : jv_H} : jv_ev call 98 14 [l0, l1, l2, l3] [] h = some (none, h) := je_ret D98_14 rfl
/-! method 108: DrumMachine$Job.printByte -/
theorem N108 {d : Nat} {b : Nat} {a0 : Int32} {h : jv_H} : jv_run (d + 1) 108 [.ref b, .int a0] h = jv_ev (jv_run d) 108 0 [some (.ref b), some (.int a0)] [] h := jv_run_eq (Nat.le_of_ble_eq_true rfl) rfl
theorem D108_0 : decode (jt_code 108) 0 = .ok (.aload_n 0, 1) := by decide +kernel
theorem E108_0 {call : jv_F} {l1 : Option Value} {a : Nat} {st : List Value} {h : jv_H} : jv_ev call 108 0 [some (.ref a), l1] st h = jv_ev call 108 1 [some (.ref a), l1] (.ref a :: st) h := je_aload_n (r := some a) D108_0 rfl rfl
theorem D108_1 : decode (jt_code 108) 1 = .ok (.getfield 39, 3) := by decide +kernel
theorem E108_1 {call : jv_F} {l0 l1 : Option Value} {a : Nat} {st : List Value} {h : jv_H} (hs : (jv_gf h a 4 10).isSome = true) : jv_ev call 108 1 [l0, l1] (.ref a :: st) h = jv_ev call 108 4 [l0, l1] ((jv_gf h a 4 10).getD .null :: st) h := by
  obtain ⟨v, hv⟩ := Option.isSome_iff_exists.mp hs
  rw [hv]
  exact je_get D108_1 rfl (by decide) hv
theorem D108_4 : decode (jt_code 108) 4 = .ok (.ifCond .lt 13, 3) := by decide +kernel
theorem E108_4 {call : jv_F} {l0 l1 : Option Value} {x : Int32} {st : List Value} {h : jv_H} : jv_ev call 108 4 [l0, l1] (.int x :: st) h = if x < 0 then jv_ev call 108 17 [l0, l1] st h else jv_ev call 108 7 [l0, l1] st h := je_ifc D108_4 (by decide) rfl rfl
theorem D108_7 : decode (jt_code 108) 7 = .ok (.aload_n 0, 1) := by decide +kernel
theorem E108_7 {call : jv_F} {l1 : Option Value} {a : Nat} {st : List Value} {h : jv_H} : jv_ev call 108 7 [some (.ref a), l1] st h = jv_ev call 108 8 [some (.ref a), l1] (.ref a :: st) h := je_aload_n (r := some a) D108_7 rfl rfl
theorem D108_8 : decode (jt_code 108) 8 = .ok (.getfield 39, 3) := by decide +kernel
theorem E108_8 {call : jv_F} {l0 l1 : Option Value} {a : Nat} {st : List Value} {h : jv_H} (hs : (jv_gf h a 4 10).isSome = true) : jv_ev call 108 8 [l0, l1] (.ref a :: st) h = jv_ev call 108 11 [l0, l1] ((jv_gf h a 4 10).getD .null :: st) h := by
  obtain ⟨v, hv⟩ := Option.isSome_iff_exists.mp hs
  rw [hv]
  exact je_get D108_8 rfl (by decide) hv
theorem D108_11 : decode (jt_code 108) 11 = .ok (.sipush 400, 3) := by decide +kernel
theorem E108_11 {call : jv_F} {l0 l1 : Option Value}  {st : List Value} {h : jv_H} : jv_ev call 108 11 [l0, l1] st h = jv_ev call 108 14 [l0, l1] (.int (nI 400) :: st) h := je_sipush D108_11 rfl (by decide)
theorem D108_14 : decode (jt_code 108) 14 = .ok (.if_icmp .lt 6, 3) := by decide +kernel
theorem E108_14 {call : jv_F} {l0 l1 : Option Value} {x y : Int32} {st : List Value} {h : jv_H} : jv_ev call 108 14 [l0, l1] (.int y :: .int x :: st) h = if x < y then jv_ev call 108 20 [l0, l1] st h else jv_ev call 108 17 [l0, l1] st h := je_icmp D108_14 (by decide) rfl rfl
theorem D108_17 : decode (jt_code 108) 17 = .ok (.bipush 7, 2) := by decide +kernel
theorem E108_17 {call : jv_F} {l0 l1 : Option Value}  {st : List Value} {h : jv_H} : jv_ev call 108 17 [l0, l1] st h = jv_ev call 108 19 [l0, l1] (.int (nI 7) :: st) h := je_bipush D108_17 rfl (by decide)
theorem D108_19 : decode (jt_code 108) 19 = .ok (.ireturn, 1) := by decide +kernel
theorem E108_19 {call : jv_F} {l0 l1 : Option Value} {v : Int32} {h : jv_H} : jv_ev call 108 19 [l0, l1] [.int v] h = some (some (.int v), h) := je_iret (ty := .int) D108_19 rfl rfl rfl
theorem D108_20 : decode (jt_code 108) 20 = .ok (.aload_n 0, 1) := by decide +kernel
theorem E108_20 {call : jv_F} {l1 : Option Value} {a : Nat} {st : List Value} {h : jv_H} : jv_ev call 108 20 [some (.ref a), l1] st h = jv_ev call 108 21 [some (.ref a), l1] (.ref a :: st) h := je_aload_n (r := some a) D108_20 rfl rfl
theorem D108_21 : decode (jt_code 108) 21 = .ok (.getfield 36, 3) := by decide +kernel
theorem E108_21 {call : jv_F} {l0 l1 : Option Value} {a : Nat} {st : List Value} {h : jv_H} (hs : (jv_gf h a 4 9).isSome = true) : jv_ev call 108 21 [l0, l1] (.ref a :: st) h = jv_ev call 108 24 [l0, l1] ((jv_gf h a 4 9).getD .null :: st) h := by
  obtain ⟨v, hv⟩ := Option.isSome_iff_exists.mp hs
  rw [hv]
  exact je_get D108_21 rfl (by decide) hv
theorem D108_24 : decode (jt_code 108) 24 = .ok (.aload_n 0, 1) := by decide +kernel
theorem E108_24 {call : jv_F} {l1 : Option Value} {a : Nat} {st : List Value} {h : jv_H} : jv_ev call 108 24 [some (.ref a), l1] st h = jv_ev call 108 25 [some (.ref a), l1] (.ref a :: st) h := je_aload_n (r := some a) D108_24 rfl rfl
theorem D108_25 : decode (jt_code 108) 25 = .ok (.getfield 39, 3) := by decide +kernel
theorem E108_25 {call : jv_F} {l0 l1 : Option Value} {a : Nat} {st : List Value} {h : jv_H} (hs : (jv_gf h a 4 10).isSome = true) : jv_ev call 108 25 [l0, l1] (.ref a :: st) h = jv_ev call 108 28 [l0, l1] ((jv_gf h a 4 10).getD .null :: st) h := by
  obtain ⟨v, hv⟩ := Option.isSome_iff_exists.mp hs
  rw [hv]
  exact je_get D108_25 rfl (by decide) hv
theorem D108_28 : decode (jt_code 108) 28 = .ok (.iload_n 1, 1) := by decide +kernel
theorem E108_28 {call : jv_F} {l0 : Option Value} {x : Int32} {st : List Value} {h : jv_H} : jv_ev call 108 28 [l0, some (.int x)] st h = jv_ev call 108 29 [l0, some (.int x)] (.int x :: st) h := je_iload_n D108_28 rfl rfl
theorem D108_29 : decode (jt_code 108) 29 = .ok (.iastore, 1) := by decide +kernel
theorem E108_29 {call : jv_F} {l0 l1 : Option Value} {a : Nat} {j : Int32} {x : Int32} {st : List Value} {h : jv_H} (hs : (jv_as h a .int j (.int x)).isSome = true) : jv_ev call 108 29 [l0, l1] (.int x :: .int j :: .ref a :: st) h = jv_ev call 108 30 [l0, l1] st ((jv_as h a .int j (.int x)).getD h) := by
  obtain ⟨h', hv⟩ := Option.isSome_iff_exists.mp hs
  rw [hv]
  exact je_iast D108_29 rfl hv
theorem D108_30 : decode (jt_code 108) 30 = .ok (.aload_n 0, 1) := by decide +kernel
theorem E108_30 {call : jv_F} {l1 : Option Value} {a : Nat} {st : List Value} {h : jv_H} : jv_ev call 108 30 [some (.ref a), l1] st h = jv_ev call 108 31 [some (.ref a), l1] (.ref a :: st) h := je_aload_n (r := some a) D108_30 rfl rfl
theorem D108_31 : decode (jt_code 108) 31 = .ok (.dup, 1) := by decide +kernel
theorem E108_31 {call : jv_F} {l0 l1 : Option Value} {a : Nat} {st : List Value} {h : jv_H} : jv_ev call 108 31 [l0, l1] (.ref a :: st) h = jv_ev call 108 32 [l0, l1] (.ref a :: .ref a :: st) h := je_dup D108_31 rfl rfl
theorem E108_31i {call : jv_F} {l0 l1 : Option Value} {x : Int32} {st : List Value} {h : jv_H} : jv_ev call 108 31 [l0, l1] (.int x :: st) h = jv_ev call 108 32 [l0, l1] (.int x :: .int x :: st) h := je_dup D108_31 rfl rfl
theorem D108_32 : decode (jt_code 108) 32 = .ok (.getfield 39, 3) := by decide +kernel
theorem E108_32 {call : jv_F} {l0 l1 : Option Value} {a : Nat} {st : List Value} {h : jv_H} (hs : (jv_gf h a 4 10).isSome = true) : jv_ev call 108 32 [l0, l1] (.ref a :: st) h = jv_ev call 108 35 [l0, l1] ((jv_gf h a 4 10).getD .null :: st) h := by
  obtain ⟨v, hv⟩ := Option.isSome_iff_exists.mp hs
  rw [hv]
  exact je_get D108_32 rfl (by decide) hv
theorem D108_35 : decode (jt_code 108) 35 = .ok (.iconst 1, 1) := by decide +kernel
theorem E108_35 {call : jv_F} {l0 l1 : Option Value}  {st : List Value} {h : jv_H} : jv_ev call 108 35 [l0, l1] st h = jv_ev call 108 36 [l0, l1] (.int (nI 1) :: st) h := je_iconst D108_35 rfl (by decide)
theorem D108_36 : decode (jt_code 108) 36 = .ok (.iadd, 1) := by decide +kernel
theorem E108_36 {call : jv_F} {l0 l1 : Option Value} {x y : Int32} {st : List Value} {h : jv_H} : jv_ev call 108 36 [l0, l1] (.int y :: .int x :: st) h = jv_ev call 108 37 [l0, l1] (.int (x + y) :: st) h := je_b2 (f := fun x y => x + y) D108_36 rfl (fun _ => rfl)
theorem D108_37 : decode (jt_code 108) 37 = .ok (.putfield 39, 3) := by decide +kernel
theorem E108_37 {call : jv_F} {l0 l1 : Option Value} {a : Nat} {v : Value} {st : List Value} {h : jv_H} (hs : (jv_pf h a 4 10 v).isSome = true) : jv_ev call 108 37 [l0, l1] (v :: .ref a :: st) h = jv_ev call 108 40 [l0, l1] st ((jv_pf h a 4 10 v).getD h) := by
  obtain ⟨h', hv⟩ := Option.isSome_iff_exists.mp hs
  rw [hv]
  exact je_put D108_37 rfl (by decide) (by decide) hv
theorem D108_40 : decode (jt_code 108) 40 = .ok (.iconst 0, 1) := by decide +kernel
theorem E108_40 {call : jv_F} {l0 l1 : Option Value}  {st : List Value} {h : jv_H} : jv_ev call 108 40 [l0, l1] st h = jv_ev call 108 41 [l0, l1] (.int (nI 0) :: st) h := je_iconst D108_40 rfl (by decide)
theorem D108_41 : decode (jt_code 108) 41 = .ok (.ireturn, 1) := by decide +kernel
theorem E108_41 {call : jv_F} {l0 l1 : Option Value} {v : Int32} {h : jv_H} : jv_ev call 108 41 [l0, l1] [.int v] h = some (some (.int v), h) := je_iret (ty := .int) D108_41 rfl rfl rfl
/-! method 109: DrumMachine$Job.printNumber -/
theorem N109 {d : Nat} {b : Nat} {h : jv_H} : jv_run (d + 1) 109 [.ref b] h = jv_ev (jv_run d) 109 0 [some (.ref b), none, none, none, none, none, none] [] h := jv_run_eq (Nat.le_of_ble_eq_true rfl) rfl
theorem D109_0 : decode (jt_code 109) 0 = .ok (.aload_n 0, 1) := by decide +kernel
theorem E109_0 {call : jv_F} {l1 l2 l3 l4 l5 l6 : Option Value} {a : Nat} {st : List Value} {h : jv_H} : jv_ev call 109 0 [some (.ref a), l1, l2, l3, l4, l5, l6] st h = jv_ev call 109 1 [some (.ref a), l1, l2, l3, l4, l5, l6] (.ref a :: st) h := je_aload_n (r := some a) D109_0 rfl rfl
theorem D109_1 : decode (jt_code 109) 1 = .ok (.getfield 9, 3) := by decide +kernel
theorem E109_1 {call : jv_F} {l0 l1 l2 l3 l4 l5 l6 : Option Value} {a : Nat} {st : List Value} {h : jv_H} (hs : (jv_gf h a 4 2).isSome = true) : jv_ev call 109 1 [l0, l1, l2, l3, l4, l5, l6] (.ref a :: st) h = jv_ev call 109 4 [l0, l1, l2, l3, l4, l5, l6] ((jv_gf h a 4 2).getD .null :: st) h := by
  obtain ⟨v, hv⟩ := Option.isSome_iff_exists.mp hs
  rw [hv]
  exact je_get D109_1 rfl (by decide) hv
theorem D109_4 : decode (jt_code 109) 4 = .ok (.invokestatic 169, 3) := by decide +kernel
theorem E109_4 {call : jv_F} {l0 l1 l2 l3 l4 l5 l6 : Option Value} {v0 : Value}  {st : List Value} {h : jv_H} (hw : jv_wide st = true) (hc : (call 155 [v0] h).isSome = true) : jv_ev call 109 4 [l0, l1, l2, l3, l4, l5, l6] (v0 :: st) h = jv_ev call 109 7 [l0, l1, l2, l3, l4, l5, l6] ((((call 155 [v0] h).getD (none, h)).1).toList ++ st) ((call 155 [v0] h).getD (none, h)).2 := by
  obtain ⟨⟨r, h'⟩, hv⟩ := Option.isSome_iff_exists.mp hc
  rw [hv]
  exact je_stat (y := 155) (as := [v0]) D109_4 rfl (by decide) (by decide) rfl hw hv
theorem D109_7 : decode (jt_code 109) 7 = .ok (.lstore_n 1, 1) := by decide +kernel
theorem E109_7 {call : jv_F} {l0 l1 l2 l3 l4 l5 l6 : Option Value} {x : Int64} {st : List Value} {h : jv_H} (hk : ¬ jv_is2 (some l0) = true) : jv_ev call 109 7 [l0, l1, l2, l3, l4, l5, l6] (.long x :: st) h = jv_ev call 109 8 [l0, some (.long x), none, l3, l4, l5, l6] st h := je_lstore_n D109_7 rfl (Nat.le_of_ble_eq_true rfl) (by show jv_st2 _ 1 _ = _; simp only [jv_st2, jv_kill, List.getElem?_cons_succ, List.getElem?_cons_zero, hk, if_false]; rfl)
theorem D109_8 : decode (jt_code 109) 8 = .ok (.aload_n 0, 1) := by decide +kernel
theorem E109_8 {call : jv_F} {l1 l2 l3 l4 l5 l6 : Option Value} {a : Nat} {st : List Value} {h : jv_H} : jv_ev call 109 8 [some (.ref a), l1, l2, l3, l4, l5, l6] st h = jv_ev call 109 9 [some (.ref a), l1, l2, l3, l4, l5, l6] (.ref a :: st) h := je_aload_n (r := some a) D109_8 rfl rfl
theorem D109_9 : decode (jt_code 109) 9 = .ok (.getfield 9, 3) := by decide +kernel
theorem E109_9 {call : jv_F} {l0 l1 l2 l3 l4 l5 l6 : Option Value} {a : Nat} {st : List Value} {h : jv_H} (hs : (jv_gf h a 4 2).isSome = true) : jv_ev call 109 9 [l0, l1, l2, l3, l4, l5, l6] (.ref a :: st) h = jv_ev call 109 12 [l0, l1, l2, l3, l4, l5, l6] ((jv_gf h a 4 2).getD .null :: st) h := by
  obtain ⟨v, hv⟩ := Option.isSome_iff_exists.mp hs
  rw [hv]
  exact je_get D109_9 rfl (by decide) hv
theorem D109_12 : decode (jt_code 109) 12 = .ok (.lconst 0, 1) := by decide +kernel
theorem E109_12 {call : jv_F} {l0 l1 l2 l3 l4 l5 l6 : Option Value}  {st : List Value} {h : jv_H} : jv_ev call 109 12 [l0, l1, l2, l3, l4, l5, l6] st h = jv_ev call 109 13 [l0, l1, l2, l3, l4, l5, l6] (.long 0 :: st) h := je_lconst D109_12 rfl (by decide)
theorem D109_13 : decode (jt_code 109) 13 = .ok (.lcmp, 1) := by decide +kernel
theorem E109_13 {call : jv_F} {l0 l1 l2 l3 l4 l5 l6 : Option Value} {x y : Int64} {st : List Value} {h : jv_H} : jv_ev call 109 13 [l0, l1, l2, l3, l4, l5, l6] (.long y :: .long x :: st) h = jv_ev call 109 14 [l0, l1, l2, l3, l4, l5, l6] (.int (lg_cmp x y) :: st) h := je_lcmp D109_13 rfl
theorem D109_14 : decode (jt_code 109) 14 = .ok (.ifCond .ge 12, 3) := by decide +kernel
theorem E109_14 {call : jv_F} {l0 l1 l2 l3 l4 l5 l6 : Option Value} {x : Int32} {st : List Value} {h : jv_H} : jv_ev call 109 14 [l0, l1, l2, l3, l4, l5, l6] (.int x :: st) h = if 0 ≤ x then jv_ev call 109 26 [l0, l1, l2, l3, l4, l5, l6] st h else jv_ev call 109 17 [l0, l1, l2, l3, l4, l5, l6] st h := je_ifc D109_14 (by decide) rfl rfl
theorem D109_17 : decode (jt_code 109) 17 = .ok (.aload_n 0, 1) := by decide +kernel
theorem E109_17 {call : jv_F} {l1 l2 l3 l4 l5 l6 : Option Value} {a : Nat} {st : List Value} {h : jv_H} : jv_ev call 109 17 [some (.ref a), l1, l2, l3, l4, l5, l6] st h = jv_ev call 109 18 [some (.ref a), l1, l2, l3, l4, l5, l6] (.ref a :: st) h := je_aload_n (r := some a) D109_17 rfl rfl
theorem D109_18 : decode (jt_code 109) 18 = .ok (.bipush 45, 2) := by decide +kernel
theorem E109_18 {call : jv_F} {l0 l1 l2 l3 l4 l5 l6 : Option Value}  {st : List Value} {h : jv_H} : jv_ev call 109 18 [l0, l1, l2, l3, l4, l5, l6] st h = jv_ev call 109 20 [l0, l1, l2, l3, l4, l5, l6] (.int (nI 45) :: st) h := je_bipush D109_18 rfl (by decide)
theorem D109_20 : decode (jt_code 109) 20 = .ok (.invokevirtual 148, 3) := by decide +kernel
theorem E109_20 {call : jv_F} {l0 l1 l2 l3 l4 l5 l6 : Option Value} {b : Nat} {v0 : Value}  {st : List Value} {h : jv_H} (hw : jv_wide st = true) (hcl : jv_cl h b = some 4) (hc : (call 108 [.ref b, v0] h).isSome = true) : jv_ev call 109 20 [l0, l1, l2, l3, l4, l5, l6] (v0 :: .ref b :: st) h = jv_ev call 109 23 [l0, l1, l2, l3, l4, l5, l6] ((((call 108 [.ref b, v0] h).getD (none, h)).1).toList ++ st) ((call 108 [.ref b, v0] h).getD (none, h)).2 := by
  obtain ⟨⟨r, h'⟩, hv⟩ := Option.isSome_iff_exists.mp hc
  rw [hv]
  exact je_virt (y := 108) (as := [v0]) D109_20 rfl (by decide) (by decide) rfl hcl hw hv
theorem D109_23 : decode (jt_code 109) 23 = .ok (.goto 4, 3) := by decide +kernel
theorem E109_23 {call : jv_F} {l0 l1 l2 l3 l4 l5 l6 : Option Value}  {st : List Value} {h : jv_H} : jv_ev call 109 23 [l0, l1, l2, l3, l4, l5, l6] st h = jv_ev call 109 27 [l0, l1, l2, l3, l4, l5, l6] st h := je_goto D109_23 (by decide)
theorem D109_26 : decode (jt_code 109) 26 = .ok (.iconst 0, 1) := by decide +kernel
theorem E109_26 {call : jv_F} {l0 l1 l2 l3 l4 l5 l6 : Option Value}  {st : List Value} {h : jv_H} : jv_ev call 109 26 [l0, l1, l2, l3, l4, l5, l6] st h = jv_ev call 109 27 [l0, l1, l2, l3, l4, l5, l6] (.int (nI 0) :: st) h := je_iconst D109_26 rfl (by decide)
theorem D109_27 : decode (jt_code 109) 27 = .ok (.istore_n 3, 1) := by decide +kernel
theorem E109_27 {call : jv_F} {l0 l1 l2 l3 l4 l5 l6 : Option Value} {x : Int32} {st : List Value} {h : jv_H} (hk : ¬ jv_is2 (some l2) = true) : jv_ev call 109 27 [l0, l1, l2, l3, l4, l5, l6] (.int x :: st) h = jv_ev call 109 28 [l0, l1, l2, some (.int x), l4, l5, l6] st h := je_istore_n D109_27 rfl (Nat.le_of_ble_eq_true rfl) (by show jv_st1 _ 3 _ = _; simp only [jv_st1, jv_kill, List.getElem?_cons_succ, List.getElem?_cons_zero, hk, if_false]; rfl)
theorem D109_28 : decode (jt_code 109) 28 = .ok (.lconst 1, 1) := by decide +kernel
theorem E109_28 {call : jv_F} {l0 l1 l2 l3 l4 l5 l6 : Option Value}  {st : List Value} {h : jv_H} : jv_ev call 109 28 [l0, l1, l2, l3, l4, l5, l6] st h = jv_ev call 109 29 [l0, l1, l2, l3, l4, l5, l6] (.long 1 :: st) h := je_lconst D109_28 rfl (by decide)
theorem D109_29 : decode (jt_code 109) 29 = .ok (.lstore 4, 2) := by decide +kernel
theorem E109_29 {call : jv_F} {l0 l1 l2 l3 l4 l5 l6 : Option Value} {x : Int64} {st : List Value} {h : jv_H} (hk : ¬ jv_is2 (some l3) = true) : jv_ev call 109 29 [l0, l1, l2, l3, l4, l5, l6] (.long x :: st) h = jv_ev call 109 31 [l0, l1, l2, l3, some (.long x), none, l6] st h := je_lstore D109_29 rfl (Nat.le_of_ble_eq_true rfl) (by show jv_st2 _ 4 _ = _; simp only [jv_st2, jv_kill, List.getElem?_cons_succ, List.getElem?_cons_zero, hk, if_false]; rfl)
theorem D109_31 : decode (jt_code 109) 31 = .ok (.iconst 0, 1) := by decide +kernel
theorem E109_31 {call : jv_F} {l0 l1 l2 l3 l4 l5 l6 : Option Value}  {st : List Value} {h : jv_H} : jv_ev call 109 31 [l0, l1, l2, l3, l4, l5, l6] st h = jv_ev call 109 32 [l0, l1, l2, l3, l4, l5, l6] (.int (nI 0) :: st) h := je_iconst D109_31 rfl (by decide)
theorem D109_32 : decode (jt_code 109) 32 = .ok (.istore 6, 2) := by decide +kernel
theorem E109_32 {call : jv_F} {l0 l1 l2 l3 l4 l5 l6 : Option Value} {x : Int32} {st : List Value} {h : jv_H} (hk : ¬ jv_is2 (some l5) = true) : jv_ev call 109 32 [l0, l1, l2, l3, l4, l5, l6] (.int x :: st) h = jv_ev call 109 34 [l0, l1, l2, l3, l4, l5, some (.int x)] st h := je_istore D109_32 rfl (Nat.le_of_ble_eq_true rfl) (by show jv_st1 _ 6 _ = _; simp only [jv_st1, jv_kill, List.getElem?_cons_succ, List.getElem?_cons_zero, hk, if_false]; rfl)
theorem D109_34 : decode (jt_code 109) 34 = .ok (.iload 6, 2) := by decide +kernel
theorem E109_34 {call : jv_F} {l0 l1 l2 l3 l4 l5 : Option Value} {x : Int32} {st : List Value} {h : jv_H} : jv_ev call 109 34 [l0, l1, l2, l3, l4, l5, some (.int x)] st h = jv_ev call 109 36 [l0, l1, l2, l3, l4, l5, some (.int x)] (.int x :: st) h := je_iload D109_34 rfl rfl
theorem D109_36 : decode (jt_code 109) 36 = .ok (.bipush 15, 2) := by decide +kernel
theorem E109_36 {call : jv_F} {l0 l1 l2 l3 l4 l5 l6 : Option Value}  {st : List Value} {h : jv_H} : jv_ev call 109 36 [l0, l1, l2, l3, l4, l5, l6] st h = jv_ev call 109 38 [l0, l1, l2, l3, l4, l5, l6] (.int (nI 15) :: st) h := je_bipush D109_36 rfl (by decide)
theorem D109_38 : decode (jt_code 109) 38 = .ok (.if_icmp .ge 28, 3) := by decide +kernel
theorem E109_38 {call : jv_F} {l0 l1 l2 l3 l4 l5 l6 : Option Value} {x y : Int32} {st : List Value} {h : jv_H} : jv_ev call 109 38 [l0, l1, l2, l3, l4, l5, l6] (.int y :: .int x :: st) h = if y ≤ x then jv_ev call 109 66 [l0, l1, l2, l3, l4, l5, l6] st h else jv_ev call 109 41 [l0, l1, l2, l3, l4, l5, l6] st h := je_icmp D109_38 (by decide) rfl rfl
theorem D109_41 : decode (jt_code 109) 41 = .ok (.lload 4, 2) := by decide +kernel
theorem E109_41 {call : jv_F} {l0 l1 l2 l3 l5 l6 : Option Value} {x : Int64} {st : List Value} {h : jv_H} : jv_ev call 109 41 [l0, l1, l2, l3, some (.long x), l5, l6] st h = jv_ev call 109 43 [l0, l1, l2, l3, some (.long x), l5, l6] (.long x :: st) h := je_lload D109_41 rfl rfl
theorem D109_43 : decode (jt_code 109) 43 = .ok (.lload_n 1, 1) := by decide +kernel
theorem E109_43 {call : jv_F} {l0 l2 l3 l4 l5 l6 : Option Value} {x : Int64} {st : List Value} {h : jv_H} : jv_ev call 109 43 [l0, some (.long x), l2, l3, l4, l5, l6] st h = jv_ev call 109 44 [l0, some (.long x), l2, l3, l4, l5, l6] (.long x :: st) h := je_lload_n D109_43 rfl rfl
theorem D109_44 : decode (jt_code 109) 44 = .ok (.ldc2_w 172, 3) := by decide +kernel
theorem E109_44 {call : jv_F} {l0 l1 l2 l3 l4 l5 l6 : Option Value}  {st : List Value} {h : jv_H} : jv_ev call 109 44 [l0, l1, l2, l3, l4, l5, l6] st h = jv_ev call 109 47 [l0, l1, l2, l3, l4, l5, l6] (.long 10 :: st) h := je_ldc2 D109_44 rfl (by decide)
theorem D109_47 : decode (jt_code 109) 47 = .ok (.ldiv, 1) := by decide +kernel
theorem E109_47 {call : jv_F} {l0 l1 l2 l3 l4 l5 l6 : Option Value} {x y : Int64} {st : List Value} {h : jv_H} (hy : ¬ y = 0) : jv_ev call 109 47 [l0, l1, l2, l3, l4, l5, l6] (.long y :: .long x :: st) h = jv_ev call 109 48 [l0, l1, l2, l3, l4, l5, l6] (.long (x / y) :: st) h := je_ldiv D109_47 rfl hy
theorem D109_48 : decode (jt_code 109) 48 = .ok (.lcmp, 1) := by decide +kernel
theorem E109_48 {call : jv_F} {l0 l1 l2 l3 l4 l5 l6 : Option Value} {x y : Int64} {st : List Value} {h : jv_H} : jv_ev call 109 48 [l0, l1, l2, l3, l4, l5, l6] (.long y :: .long x :: st) h = jv_ev call 109 49 [l0, l1, l2, l3, l4, l5, l6] (.int (lg_cmp x y) :: st) h := je_lcmp D109_48 rfl
theorem D109_49 : decode (jt_code 109) 49 = .ok (.ifCond .gt 17, 3) := by decide +kernel
theorem E109_49 {call : jv_F} {l0 l1 l2 l3 l4 l5 l6 : Option Value} {x : Int32} {st : List Value} {h : jv_H} : jv_ev call 109 49 [l0, l1, l2, l3, l4, l5, l6] (.int x :: st) h = if 0 < x then jv_ev call 109 66 [l0, l1, l2, l3, l4, l5, l6] st h else jv_ev call 109 52 [l0, l1, l2, l3, l4, l5, l6] st h := je_ifc D109_49 (by decide) rfl rfl
theorem D109_52 : decode (jt_code 109) 52 = .ok (.lload 4, 2) := by decide +kernel
theorem E109_52 {call : jv_F} {l0 l1 l2 l3 l5 l6 : Option Value} {x : Int64} {st : List Value} {h : jv_H} : jv_ev call 109 52 [l0, l1, l2, l3, some (.long x), l5, l6] st h = jv_ev call 109 54 [l0, l1, l2, l3, some (.long x), l5, l6] (.long x :: st) h := je_lload D109_52 rfl rfl
theorem D109_54 : decode (jt_code 109) 54 = .ok (.ldc2_w 172, 3) := by decide +kernel
theorem E109_54 {call : jv_F} {l0 l1 l2 l3 l4 l5 l6 : Option Value}  {st : List Value} {h : jv_H} : jv_ev call 109 54 [l0, l1, l2, l3, l4, l5, l6] st h = jv_ev call 109 57 [l0, l1, l2, l3, l4, l5, l6] (.long 10 :: st) h := je_ldc2 D109_54 rfl (by decide)
theorem D109_57 : decode (jt_code 109) 57 = .ok (.lmul, 1) := by decide +kernel
theorem E109_57 {call : jv_F} {l0 l1 l2 l3 l4 l5 l6 : Option Value} {x y : Int64} {st : List Value} {h : jv_H} : jv_ev call 109 57 [l0, l1, l2, l3, l4, l5, l6] (.long y :: .long x :: st) h = jv_ev call 109 58 [l0, l1, l2, l3, l4, l5, l6] (.long (x * y) :: st) h := je_l2 (f := fun x y => x * y) D109_57 rfl (fun _ => rfl)
theorem D109_58 : decode (jt_code 109) 58 = .ok (.lstore 4, 2) := by decide +kernel
theorem E109_58 {call : jv_F} {l0 l1 l2 l3 l4 l5 l6 : Option Value} {x : Int64} {st : List Value} {h : jv_H} (hk : ¬ jv_is2 (some l3) = true) : jv_ev call 109 58 [l0, l1, l2, l3, l4, l5, l6] (.long x :: st) h = jv_ev call 109 60 [l0, l1, l2, l3, some (.long x), none, l6] st h := je_lstore D109_58 rfl (Nat.le_of_ble_eq_true rfl) (by show jv_st2 _ 4 _ = _; simp only [jv_st2, jv_kill, List.getElem?_cons_succ, List.getElem?_cons_zero, hk, if_false]; rfl)
theorem D109_60 : decode (jt_code 109) 60 = .ok (.iinc 6 1, 3) := by decide +kernel
theorem E109_60 {call : jv_F} {l0 l1 l2 l3 l4 l5 : Option Value} {x : Int32} {st : List Value} {h : jv_H} (hk : ¬ jv_is2 (some l5) = true) : jv_ev call 109 60 [l0, l1, l2, l3, l4, l5, some (.int x)] st h = jv_ev call 109 63 [l0, l1, l2, l3, l4, l5, some (.int (x + (nI 1)))] st h := je_iinc D109_60 rfl rfl (v := x + (nI 1)) (by rfl) (by show jv_st1 _ 6 _ = _; simp only [jv_st1, jv_kill, List.getElem?_cons_succ, List.getElem?_cons_zero, hk, if_false]; rfl)
theorem D109_63 : decode (jt_code 109) 63 = .ok (.goto (-29), 3) := by decide +kernel
theorem E109_63 {call : jv_F} {l0 l1 l2 l3 l4 l5 l6 : Option Value}  {st : List Value} {h : jv_H} : jv_ev call 109 63 [l0, l1, l2, l3, l4, l5, l6] st h = jv_ev call 109 34 [l0, l1, l2, l3, l4, l5, l6] st h := je_goto D109_63 (by decide)
theorem D109_66 : decode (jt_code 109) 66 = .ok (.iconst 0, 1) := by decide +kernel
theorem E109_66 {call : jv_F} {l0 l1 l2 l3 l4 l5 l6 : Option Value}  {st : List Value} {h : jv_H} : jv_ev call 109 66 [l0, l1, l2, l3, l4, l5, l6] st h = jv_ev call 109 67 [l0, l1, l2, l3, l4, l5, l6] (.int (nI 0) :: st) h := je_iconst D109_66 rfl (by decide)
theorem D109_67 : decode (jt_code 109) 67 = .ok (.istore 6, 2) := by decide +kernel
theorem E109_67 {call : jv_F} {l0 l1 l2 l3 l4 l5 l6 : Option Value} {x : Int32} {st : List Value} {h : jv_H} (hk : ¬ jv_is2 (some l5) = true) : jv_ev call 109 67 [l0, l1, l2, l3, l4, l5, l6] (.int x :: st) h = jv_ev call 109 69 [l0, l1, l2, l3, l4, l5, some (.int x)] st h := je_istore D109_67 rfl (Nat.le_of_ble_eq_true rfl) (by show jv_st1 _ 6 _ = _; simp only [jv_st1, jv_kill, List.getElem?_cons_succ, List.getElem?_cons_zero, hk, if_false]; rfl)
theorem D109_69 : decode (jt_code 109) 69 = .ok (.iload 6, 2) := by decide +kernel
theorem E109_69 {call : jv_F} {l0 l1 l2 l3 l4 l5 : Option Value} {x : Int32} {st : List Value} {h : jv_H} : jv_ev call 109 69 [l0, l1, l2, l3, l4, l5, some (.int x)] st h = jv_ev call 109 71 [l0, l1, l2, l3, l4, l5, some (.int x)] (.int x :: st) h := je_iload D109_69 rfl rfl
theorem D109_71 : decode (jt_code 109) 71 = .ok (.bipush 16, 2) := by decide +kernel
theorem E109_71 {call : jv_F} {l0 l1 l2 l3 l4 l5 l6 : Option Value}  {st : List Value} {h : jv_H} : jv_ev call 109 71 [l0, l1, l2, l3, l4, l5, l6] st h = jv_ev call 109 73 [l0, l1, l2, l3, l4, l5, l6] (.int (nI 16) :: st) h := je_bipush D109_71 rfl (by decide)
theorem D109_73 : decode (jt_code 109) 73 = .ok (.if_icmp .ge 47, 3) := by decide +kernel
theorem E109_73 {call : jv_F} {l0 l1 l2 l3 l4 l5 l6 : Option Value} {x y : Int32} {st : List Value} {h : jv_H} : jv_ev call 109 73 [l0, l1, l2, l3, l4, l5, l6] (.int y :: .int x :: st) h = if y ≤ x then jv_ev call 109 120 [l0, l1, l2, l3, l4, l5, l6] st h else jv_ev call 109 76 [l0, l1, l2, l3, l4, l5, l6] st h := je_icmp D109_73 (by decide) rfl rfl
theorem D109_76 : decode (jt_code 109) 76 = .ok (.lload 4, 2) := by decide +kernel
theorem E109_76 {call : jv_F} {l0 l1 l2 l3 l5 l6 : Option Value} {x : Int64} {st : List Value} {h : jv_H} : jv_ev call 109 76 [l0, l1, l2, l3, some (.long x), l5, l6] st h = jv_ev call 109 78 [l0, l1, l2, l3, some (.long x), l5, l6] (.long x :: st) h := je_lload D109_76 rfl rfl
theorem D109_78 : decode (jt_code 109) 78 = .ok (.lconst 0, 1) := by decide +kernel
theorem E109_78 {call : jv_F} {l0 l1 l2 l3 l4 l5 l6 : Option Value}  {st : List Value} {h : jv_H} : jv_ev call 109 78 [l0, l1, l2, l3, l4, l5, l6] st h = jv_ev call 109 79 [l0, l1, l2, l3, l4, l5, l6] (.long 0 :: st) h := je_lconst D109_78 rfl (by decide)
theorem D109_79 : decode (jt_code 109) 79 = .ok (.lcmp, 1) := by decide +kernel
theorem E109_79 {call : jv_F} {l0 l1 l2 l3 l4 l5 l6 : Option Value} {x y : Int64} {st : List Value} {h : jv_H} : jv_ev call 109 79 [l0, l1, l2, l3, l4, l5, l6] (.long y :: .long x :: st) h = jv_ev call 109 80 [l0, l1, l2, l3, l4, l5, l6] (.int (lg_cmp x y) :: st) h := je_lcmp D109_79 rfl
theorem D109_80 : decode (jt_code 109) 80 = .ok (.ifCond .le 40, 3) := by decide +kernel
theorem E109_80 {call : jv_F} {l0 l1 l2 l3 l4 l5 l6 : Option Value} {x : Int32} {st : List Value} {h : jv_H} : jv_ev call 109 80 [l0, l1, l2, l3, l4, l5, l6] (.int x :: st) h = if x ≤ 0 then jv_ev call 109 120 [l0, l1, l2, l3, l4, l5, l6] st h else jv_ev call 109 83 [l0, l1, l2, l3, l4, l5, l6] st h := je_ifc D109_80 (by decide) rfl rfl
theorem D109_83 : decode (jt_code 109) 83 = .ok (.iload_n 3, 1) := by decide +kernel
theorem E109_83 {call : jv_F} {l0 l1 l2 l4 l5 l6 : Option Value} {x : Int32} {st : List Value} {h : jv_H} : jv_ev call 109 83 [l0, l1, l2, some (.int x), l4, l5, l6] st h = jv_ev call 109 84 [l0, l1, l2, some (.int x), l4, l5, l6] (.int x :: st) h := je_iload_n D109_83 rfl rfl
theorem D109_84 : decode (jt_code 109) 84 = .ok (.ifCond .ne 36, 3) := by decide +kernel
theorem E109_84 {call : jv_F} {l0 l1 l2 l3 l4 l5 l6 : Option Value} {x : Int32} {st : List Value} {h : jv_H} : jv_ev call 109 84 [l0, l1, l2, l3, l4, l5, l6] (.int x :: st) h = if ¬ x = 0 then jv_ev call 109 120 [l0, l1, l2, l3, l4, l5, l6] st h else jv_ev call 109 87 [l0, l1, l2, l3, l4, l5, l6] st h := je_ifc D109_84 (by decide) rfl rfl
theorem D109_87 : decode (jt_code 109) 87 = .ok (.aload_n 0, 1) := by decide +kernel
theorem E109_87 {call : jv_F} {l1 l2 l3 l4 l5 l6 : Option Value} {a : Nat} {st : List Value} {h : jv_H} : jv_ev call 109 87 [some (.ref a), l1, l2, l3, l4, l5, l6] st h = jv_ev call 109 88 [some (.ref a), l1, l2, l3, l4, l5, l6] (.ref a :: st) h := je_aload_n (r := some a) D109_87 rfl rfl
theorem D109_88 : decode (jt_code 109) 88 = .ok (.ldc2_w 174, 3) := by decide +kernel
theorem E109_88 {call : jv_F} {l0 l1 l2 l3 l4 l5 l6 : Option Value}  {st : List Value} {h : jv_H} : jv_ev call 109 88 [l0, l1, l2, l3, l4, l5, l6] st h = jv_ev call 109 91 [l0, l1, l2, l3, l4, l5, l6] (.long 48 :: st) h := je_ldc2 D109_88 rfl (by decide)
theorem D109_91 : decode (jt_code 109) 91 = .ok (.lload_n 1, 1) := by decide +kernel
theorem E109_91 {call : jv_F} {l0 l2 l3 l4 l5 l6 : Option Value} {x : Int64} {st : List Value} {h : jv_H} : jv_ev call 109 91 [l0, some (.long x), l2, l3, l4, l5, l6] st h = jv_ev call 109 92 [l0, some (.long x), l2, l3, l4, l5, l6] (.long x :: st) h := je_lload_n D109_91 rfl rfl
theorem D109_92 : decode (jt_code 109) 92 = .ok (.lload 4, 2) := by decide +kernel
theorem E109_92 {call : jv_F} {l0 l1 l2 l3 l5 l6 : Option Value} {x : Int64} {st : List Value} {h : jv_H} : jv_ev call 109 92 [l0, l1, l2, l3, some (.long x), l5, l6] st h = jv_ev call 109 94 [l0, l1, l2, l3, some (.long x), l5, l6] (.long x :: st) h := je_lload D109_92 rfl rfl
theorem D109_94 : decode (jt_code 109) 94 = .ok (.ldiv, 1) := by decide +kernel
theorem E109_94 {call : jv_F} {l0 l1 l2 l3 l4 l5 l6 : Option Value} {x y : Int64} {st : List Value} {h : jv_H} (hy : ¬ y = 0) : jv_ev call 109 94 [l0, l1, l2, l3, l4, l5, l6] (.long y :: .long x :: st) h = jv_ev call 109 95 [l0, l1, l2, l3, l4, l5, l6] (.long (x / y) :: st) h := je_ldiv D109_94 rfl hy
theorem D109_95 : decode (jt_code 109) 95 = .ok (.ladd, 1) := by decide +kernel
theorem E109_95 {call : jv_F} {l0 l1 l2 l3 l4 l5 l6 : Option Value} {x y : Int64} {st : List Value} {h : jv_H} : jv_ev call 109 95 [l0, l1, l2, l3, l4, l5, l6] (.long y :: .long x :: st) h = jv_ev call 109 96 [l0, l1, l2, l3, l4, l5, l6] (.long (x + y) :: st) h := je_l2 (f := fun x y => x + y) D109_95 rfl (fun _ => rfl)
theorem D109_96 : decode (jt_code 109) 96 = .ok (.l2i, 1) := by decide +kernel
theorem E109_96 {call : jv_F} {l0 l1 l2 l3 l4 l5 l6 : Option Value} {x : Int64} {st : List Value} {h : jv_H} : jv_ev call 109 96 [l0, l1, l2, l3, l4, l5, l6] (.long x :: st) h = jv_ev call 109 97 [l0, l1, l2, l3, l4, l5, l6] (.int x.toInt32 :: st) h := je_l2i D109_96 rfl
theorem D109_97 : decode (jt_code 109) 97 = .ok (.invokevirtual 148, 3) := by decide +kernel
theorem E109_97 {call : jv_F} {l0 l1 l2 l3 l4 l5 l6 : Option Value} {b : Nat} {v0 : Value}  {st : List Value} {h : jv_H} (hw : jv_wide st = true) (hcl : jv_cl h b = some 4) (hc : (call 108 [.ref b, v0] h).isSome = true) : jv_ev call 109 97 [l0, l1, l2, l3, l4, l5, l6] (v0 :: .ref b :: st) h = jv_ev call 109 100 [l0, l1, l2, l3, l4, l5, l6] ((((call 108 [.ref b, v0] h).getD (none, h)).1).toList ++ st) ((call 108 [.ref b, v0] h).getD (none, h)).2 := by
  obtain ⟨⟨r, h'⟩, hv⟩ := Option.isSome_iff_exists.mp hc
  rw [hv]
  exact je_virt (y := 108) (as := [v0]) D109_97 rfl (by decide) (by decide) rfl hcl hw hv
theorem D109_100 : decode (jt_code 109) 100 = .ok (.istore_n 3, 1) := by decide +kernel
theorem E109_100 {call : jv_F} {l0 l1 l2 l3 l4 l5 l6 : Option Value} {x : Int32} {st : List Value} {h : jv_H} (hk : ¬ jv_is2 (some l2) = true) : jv_ev call 109 100 [l0, l1, l2, l3, l4, l5, l6] (.int x :: st) h = jv_ev call 109 101 [l0, l1, l2, some (.int x), l4, l5, l6] st h := je_istore_n D109_100 rfl (Nat.le_of_ble_eq_true rfl) (by show jv_st1 _ 3 _ = _; simp only [jv_st1, jv_kill, List.getElem?_cons_succ, List.getElem?_cons_zero, hk, if_false]; rfl)
theorem D109_101 : decode (jt_code 109) 101 = .ok (.lload_n 1, 1) := by decide +kernel
theorem E109_101 {call : jv_F} {l0 l2 l3 l4 l5 l6 : Option Value} {x : Int64} {st : List Value} {h : jv_H} : jv_ev call 109 101 [l0, some (.long x), l2, l3, l4, l5, l6] st h = jv_ev call 109 102 [l0, some (.long x), l2, l3, l4, l5, l6] (.long x :: st) h := je_lload_n D109_101 rfl rfl
theorem D109_102 : decode (jt_code 109) 102 = .ok (.lload 4, 2) := by decide +kernel
theorem E109_102 {call : jv_F} {l0 l1 l2 l3 l5 l6 : Option Value} {x : Int64} {st : List Value} {h : jv_H} : jv_ev call 109 102 [l0, l1, l2, l3, some (.long x), l5, l6] st h = jv_ev call 109 104 [l0, l1, l2, l3, some (.long x), l5, l6] (.long x :: st) h := je_lload D109_102 rfl rfl
theorem D109_104 : decode (jt_code 109) 104 = .ok (.lrem, 1) := by decide +kernel
theorem E109_104 {call : jv_F} {l0 l1 l2 l3 l4 l5 l6 : Option Value} {x y : Int64} {st : List Value} {h : jv_H} (hy : ¬ y = 0) : jv_ev call 109 104 [l0, l1, l2, l3, l4, l5, l6] (.long y :: .long x :: st) h = jv_ev call 109 105 [l0, l1, l2, l3, l4, l5, l6] (.long (x - x / y * y) :: st) h := je_lrem D109_104 rfl hy
theorem D109_105 : decode (jt_code 109) 105 = .ok (.lstore_n 1, 1) := by decide +kernel
theorem E109_105 {call : jv_F} {l0 l1 l2 l3 l4 l5 l6 : Option Value} {x : Int64} {st : List Value} {h : jv_H} (hk : ¬ jv_is2 (some l0) = true) : jv_ev call 109 105 [l0, l1, l2, l3, l4, l5, l6] (.long x :: st) h = jv_ev call 109 106 [l0, some (.long x), none, l3, l4, l5, l6] st h := je_lstore_n D109_105 rfl (Nat.le_of_ble_eq_true rfl) (by show jv_st2 _ 1 _ = _; simp only [jv_st2, jv_kill, List.getElem?_cons_succ, List.getElem?_cons_zero, hk, if_false]; rfl)
theorem D109_106 : decode (jt_code 109) 106 = .ok (.lload 4, 2) := by decide +kernel
theorem E109_106 {call : jv_F} {l0 l1 l2 l3 l5 l6 : Option Value} {x : Int64} {st : List Value} {h : jv_H} : jv_ev call 109 106 [l0, l1, l2, l3, some (.long x), l5, l6] st h = jv_ev call 109 108 [l0, l1, l2, l3, some (.long x), l5, l6] (.long x :: st) h := je_lload D109_106 rfl rfl
theorem D109_108 : decode (jt_code 109) 108 = .ok (.ldc2_w 172, 3) := by decide +kernel
theorem E109_108 {call : jv_F} {l0 l1 l2 l3 l4 l5 l6 : Option Value}  {st : List Value} {h : jv_H} : jv_ev call 109 108 [l0, l1, l2, l3, l4, l5, l6] st h = jv_ev call 109 111 [l0, l1, l2, l3, l4, l5, l6] (.long 10 :: st) h := je_ldc2 D109_108 rfl (by decide)
theorem D109_111 : decode (jt_code 109) 111 = .ok (.ldiv, 1) := by decide +kernel
theorem E109_111 {call : jv_F} {l0 l1 l2 l3 l4 l5 l6 : Option Value} {x y : Int64} {st : List Value} {h : jv_H} (hy : ¬ y = 0) : jv_ev call 109 111 [l0, l1, l2, l3, l4, l5, l6] (.long y :: .long x :: st) h = jv_ev call 109 112 [l0, l1, l2, l3, l4, l5, l6] (.long (x / y) :: st) h := je_ldiv D109_111 rfl hy
theorem D109_112 : decode (jt_code 109) 112 = .ok (.lstore 4, 2) := by decide +kernel
theorem E109_112 {call : jv_F} {l0 l1 l2 l3 l4 l5 l6 : Option Value} {x : Int64} {st : List Value} {h : jv_H} (hk : ¬ jv_is2 (some l3) = true) : jv_ev call 109 112 [l0, l1, l2, l3, l4, l5, l6] (.long x :: st) h = jv_ev call 109 114 [l0, l1, l2, l3, some (.long x), none, l6] st h := je_lstore D109_112 rfl (Nat.le_of_ble_eq_true rfl) (by show jv_st2 _ 4 _ = _; simp only [jv_st2, jv_kill, List.getElem?_cons_succ, List.getElem?_cons_zero, hk, if_false]; rfl)
theorem D109_114 : decode (jt_code 109) 114 = .ok (.iinc 6 1, 3) := by decide +kernel
theorem E109_114 {call : jv_F} {l0 l1 l2 l3 l4 l5 : Option Value} {x : Int32} {st : List Value} {h : jv_H} (hk : ¬ jv_is2 (some l5) = true) : jv_ev call 109 114 [l0, l1, l2, l3, l4, l5, some (.int x)] st h = jv_ev call 109 117 [l0, l1, l2, l3, l4, l5, some (.int (x + (nI 1)))] st h := je_iinc D109_114 rfl rfl (v := x + (nI 1)) (by rfl) (by show jv_st1 _ 6 _ = _; simp only [jv_st1, jv_kill, List.getElem?_cons_succ, List.getElem?_cons_zero, hk, if_false]; rfl)
theorem D109_117 : decode (jt_code 109) 117 = .ok (.goto (-48), 3) := by decide +kernel
theorem E109_117 {call : jv_F} {l0 l1 l2 l3 l4 l5 l6 : Option Value}  {st : List Value} {h : jv_H} : jv_ev call 109 117 [l0, l1, l2, l3, l4, l5, l6] st h = jv_ev call 109 69 [l0, l1, l2, l3, l4, l5, l6] st h := je_goto D109_117 (by decide)
theorem D109_120 : decode (jt_code 109) 120 = .ok (.iload_n 3, 1) := by decide +kernel
theorem E109_120 {call : jv_F} {l0 l1 l2 l4 l5 l6 : Option Value} {x : Int32} {st : List Value} {h : jv_H} : jv_ev call 109 120 [l0, l1, l2, some (.int x), l4, l5, l6] st h = jv_ev call 109 121 [l0, l1, l2, some (.int x), l4, l5, l6] (.int x :: st) h := je_iload_n D109_120 rfl rfl
theorem D109_121 : decode (jt_code 109) 121 = .ok (.ifCond .ne 12, 3) := by decide +kernel
theorem E109_121 {call : jv_F} {l0 l1 l2 l3 l4 l5 l6 : Option Value} {x : Int32} {st : List Value} {h : jv_H} : jv_ev call 109 121 [l0, l1, l2, l3, l4, l5, l6] (.int x :: st) h = if ¬ x = 0 then jv_ev call 109 133 [l0, l1, l2, l3, l4, l5, l6] st h else jv_ev call 109 124 [l0, l1, l2, l3, l4, l5, l6] st h := je_ifc D109_121 (by decide) rfl rfl
theorem D109_124 : decode (jt_code 109) 124 = .ok (.aload_n 0, 1) := by decide +kernel
theorem E109_124 {call : jv_F} {l1 l2 l3 l4 l5 l6 : Option Value} {a : Nat} {st : List Value} {h : jv_H} : jv_ev call 109 124 [some (.ref a), l1, l2, l3, l4, l5, l6] st h = jv_ev call 109 125 [some (.ref a), l1, l2, l3, l4, l5, l6] (.ref a :: st) h := je_aload_n (r := some a) D109_124 rfl rfl
theorem D109_125 : decode (jt_code 109) 125 = .ok (.bipush 10, 2) := by decide +kernel
theorem E109_125 {call : jv_F} {l0 l1 l2 l3 l4 l5 l6 : Option Value}  {st : List Value} {h : jv_H} : jv_ev call 109 125 [l0, l1, l2, l3, l4, l5, l6] st h = jv_ev call 109 127 [l0, l1, l2, l3, l4, l5, l6] (.int (nI 10) :: st) h := je_bipush D109_125 rfl (by decide)
theorem D109_127 : decode (jt_code 109) 127 = .ok (.invokevirtual 148, 3) := by decide +kernel
theorem E109_127 {call : jv_F} {l0 l1 l2 l3 l4 l5 l6 : Option Value} {b : Nat} {v0 : Value}  {st : List Value} {h : jv_H} (hw : jv_wide st = true) (hcl : jv_cl h b = some 4) (hc : (call 108 [.ref b, v0] h).isSome = true) : jv_ev call 109 127 [l0, l1, l2, l3, l4, l5, l6] (v0 :: .ref b :: st) h = jv_ev call 109 130 [l0, l1, l2, l3, l4, l5, l6] ((((call 108 [.ref b, v0] h).getD (none, h)).1).toList ++ st) ((call 108 [.ref b, v0] h).getD (none, h)).2 := by
  obtain ⟨⟨r, h'⟩, hv⟩ := Option.isSome_iff_exists.mp hc
  rw [hv]
  exact je_virt (y := 108) (as := [v0]) D109_127 rfl (by decide) (by decide) rfl hcl hw hv
theorem D109_130 : decode (jt_code 109) 130 = .ok (.goto 4, 3) := by decide +kernel
theorem E109_130 {call : jv_F} {l0 l1 l2 l3 l4 l5 l6 : Option Value}  {st : List Value} {h : jv_H} : jv_ev call 109 130 [l0, l1, l2, l3, l4, l5, l6] st h = jv_ev call 109 134 [l0, l1, l2, l3, l4, l5, l6] st h := je_goto D109_130 (by decide)
theorem D109_133 : decode (jt_code 109) 133 = .ok (.iload_n 3, 1) := by decide +kernel
theorem E109_133 {call : jv_F} {l0 l1 l2 l4 l5 l6 : Option Value} {x : Int32} {st : List Value} {h : jv_H} : jv_ev call 109 133 [l0, l1, l2, some (.int x), l4, l5, l6] st h = jv_ev call 109 134 [l0, l1, l2, some (.int x), l4, l5, l6] (.int x :: st) h := je_iload_n D109_133 rfl rfl
theorem D109_134 : decode (jt_code 109) 134 = .ok (.ireturn, 1) := by decide +kernel
theorem E109_134 {call : jv_F} {l0 l1 l2 l3 l4 l5 l6 : Option Value} {v : Int32} {h : jv_H} : jv_ev call 109 134 [l0, l1, l2, l3, l4, l5, l6] [.int v] h = some (some (.int v), h) := je_iret (ty := .int) D109_134 rfl rfl rfl
/-! method 110: DrumMachine$Job.nextByte -/
theorem N110 {d : Nat} {b : Nat} {h : jv_H} : jv_run (d + 1) 110 [.ref b] h = jv_ev (jv_run d) 110 0 [some (.ref b)] [] h := jv_run_eq (Nat.le_of_ble_eq_true rfl) rfl
theorem D110_0 : decode (jt_code 110) 0 = .ok (.aload_n 0, 1) := by decide +kernel
theorem E110_0 {call : jv_F} {a : Nat} {st : List Value} {h : jv_H} : jv_ev call 110 0 [some (.ref a)] st h = jv_ev call 110 1 [some (.ref a)] (.ref a :: st) h := je_aload_n (r := some a) D110_0 rfl rfl
theorem D110_1 : decode (jt_code 110) 1 = .ok (.getfield 33, 3) := by decide +kernel
theorem E110_1 {call : jv_F} {l0 : Option Value} {a : Nat} {st : List Value} {h : jv_H} (hs : (jv_gf h a 4 8).isSome = true) : jv_ev call 110 1 [l0] (.ref a :: st) h = jv_ev call 110 4 [l0] ((jv_gf h a 4 8).getD .null :: st) h := by
  obtain ⟨v, hv⟩ := Option.isSome_iff_exists.mp hs
  rw [hv]
  exact je_get D110_1 rfl (by decide) hv
theorem D110_4 : decode (jt_code 110) 4 = .ok (.ifCond .lt 27, 3) := by decide +kernel
theorem E110_4 {call : jv_F} {l0 : Option Value} {x : Int32} {st : List Value} {h : jv_H} : jv_ev call 110 4 [l0] (.int x :: st) h = if x < 0 then jv_ev call 110 31 [l0] st h else jv_ev call 110 7 [l0] st h := je_ifc D110_4 (by decide) rfl rfl
theorem D110_7 : decode (jt_code 110) 7 = .ok (.aload_n 0, 1) := by decide +kernel
theorem E110_7 {call : jv_F} {a : Nat} {st : List Value} {h : jv_H} : jv_ev call 110 7 [some (.ref a)] st h = jv_ev call 110 8 [some (.ref a)] (.ref a :: st) h := je_aload_n (r := some a) D110_7 rfl rfl
theorem D110_8 : decode (jt_code 110) 8 = .ok (.getfield 33, 3) := by decide +kernel
theorem E110_8 {call : jv_F} {l0 : Option Value} {a : Nat} {st : List Value} {h : jv_H} (hs : (jv_gf h a 4 8).isSome = true) : jv_ev call 110 8 [l0] (.ref a :: st) h = jv_ev call 110 11 [l0] ((jv_gf h a 4 8).getD .null :: st) h := by
  obtain ⟨v, hv⟩ := Option.isSome_iff_exists.mp hs
  rw [hv]
  exact je_get D110_8 rfl (by decide) hv
theorem D110_11 : decode (jt_code 110) 11 = .ok (.aload_n 0, 1) := by decide +kernel
theorem E110_11 {call : jv_F} {a : Nat} {st : List Value} {h : jv_H} : jv_ev call 110 11 [some (.ref a)] st h = jv_ev call 110 12 [some (.ref a)] (.ref a :: st) h := je_aload_n (r := some a) D110_11 rfl rfl
theorem D110_12 : decode (jt_code 110) 12 = .ok (.getfield 79, 3) := by decide +kernel
theorem E110_12 {call : jv_F} {l0 : Option Value} {a : Nat} {st : List Value} {h : jv_H} (hs : (jv_gf h a 4 7).isSome = true) : jv_ev call 110 12 [l0] (.ref a :: st) h = jv_ev call 110 15 [l0] ((jv_gf h a 4 7).getD .null :: st) h := by
  obtain ⟨v, hv⟩ := Option.isSome_iff_exists.mp hs
  rw [hv]
  exact je_get D110_12 rfl (by decide) hv
theorem D110_15 : decode (jt_code 110) 15 = .ok (.arraylength, 1) := by decide +kernel
theorem E110_15 {call : jv_F} {l0 : Option Value} {a : Nat} {st : List Value} {h : jv_H} (hs : (jv_ln h a).isSome = true) : jv_ev call 110 15 [l0] (.ref a :: st) h = jv_ev call 110 16 [l0] (.int (nI ((jv_ln h a).getD 0)) :: st) h := by
  obtain ⟨v, hv⟩ := Option.isSome_iff_exists.mp hs
  rw [hv]
  exact je_alen D110_15 rfl hv
theorem D110_16 : decode (jt_code 110) 16 = .ok (.if_icmp .ge 15, 3) := by decide +kernel
theorem E110_16 {call : jv_F} {l0 : Option Value} {x y : Int32} {st : List Value} {h : jv_H} : jv_ev call 110 16 [l0] (.int y :: .int x :: st) h = if y ≤ x then jv_ev call 110 31 [l0] st h else jv_ev call 110 19 [l0] st h := je_icmp D110_16 (by decide) rfl rfl
theorem D110_19 : decode (jt_code 110) 19 = .ok (.aload_n 0, 1) := by decide +kernel
theorem E110_19 {call : jv_F} {a : Nat} {st : List Value} {h : jv_H} : jv_ev call 110 19 [some (.ref a)] st h = jv_ev call 110 20 [some (.ref a)] (.ref a :: st) h := je_aload_n (r := some a) D110_19 rfl rfl
theorem D110_20 : decode (jt_code 110) 20 = .ok (.getfield 79, 3) := by decide +kernel
theorem E110_20 {call : jv_F} {l0 : Option Value} {a : Nat} {st : List Value} {h : jv_H} (hs : (jv_gf h a 4 7).isSome = true) : jv_ev call 110 20 [l0] (.ref a :: st) h = jv_ev call 110 23 [l0] ((jv_gf h a 4 7).getD .null :: st) h := by
  obtain ⟨v, hv⟩ := Option.isSome_iff_exists.mp hs
  rw [hv]
  exact je_get D110_20 rfl (by decide) hv
theorem D110_23 : decode (jt_code 110) 23 = .ok (.aload_n 0, 1) := by decide +kernel
theorem E110_23 {call : jv_F} {a : Nat} {st : List Value} {h : jv_H} : jv_ev call 110 23 [some (.ref a)] st h = jv_ev call 110 24 [some (.ref a)] (.ref a :: st) h := je_aload_n (r := some a) D110_23 rfl rfl
theorem D110_24 : decode (jt_code 110) 24 = .ok (.getfield 33, 3) := by decide +kernel
theorem E110_24 {call : jv_F} {l0 : Option Value} {a : Nat} {st : List Value} {h : jv_H} (hs : (jv_gf h a 4 8).isSome = true) : jv_ev call 110 24 [l0] (.ref a :: st) h = jv_ev call 110 27 [l0] ((jv_gf h a 4 8).getD .null :: st) h := by
  obtain ⟨v, hv⟩ := Option.isSome_iff_exists.mp hs
  rw [hv]
  exact je_get D110_24 rfl (by decide) hv
theorem D110_27 : decode (jt_code 110) 27 = .ok (.iaload, 1) := by decide +kernel
theorem E110_27 {call : jv_F} {l0 : Option Value} {a : Nat} {j : Int32} {st : List Value} {h : jv_H} (hs : (jv_al h a .int j).isSome = true) : jv_ev call 110 27 [l0] (.int j :: .ref a :: st) h = jv_ev call 110 28 [l0] ((jv_al h a .int j).getD .null :: st) h := by
  obtain ⟨v, hv⟩ := Option.isSome_iff_exists.mp hs
  rw [hv]
  exact je_iald D110_27 rfl hv
theorem D110_28 : decode (jt_code 110) 28 = .ok (.goto 4, 3) := by decide +kernel
theorem E110_28 {call : jv_F} {l0 : Option Value}  {st : List Value} {h : jv_H} : jv_ev call 110 28 [l0] st h = jv_ev call 110 32 [l0] st h := je_goto D110_28 (by decide)
theorem D110_31 : decode (jt_code 110) 31 = .ok (.iconst (-1), 1) := by decide +kernel
theorem E110_31 {call : jv_F} {l0 : Option Value}  {st : List Value} {h : jv_H} : jv_ev call 110 31 [l0] st h = jv_ev call 110 32 [l0] (.int (-1) :: st) h := je_iconst D110_31 rfl (by decide)
theorem D110_32 : decode (jt_code 110) 32 = .ok (.ireturn, 1) := by decide +kernel
theorem E110_32 {call : jv_F} {l0 : Option Value} {v : Int32} {h : jv_H} : jv_ev call 110 32 [l0] [.int v] h = some (some (.int v), h) := je_iret (ty := .int) D110_32 rfl rfl rfl
/-! method 113: DrumMachine$Job.divide -/
theorem N113 {d : Nat} {b : Nat} {a0 : Int64} {a1 : Int32} {h : jv_H} : jv_run (d + 1) 113 [.ref b, .long a0, .int a1] h = jv_ev (jv_run d) 113 0 [some (.ref b), some (.long a0), none, some (.int a1), none, none] [] h := jv_run_eq (Nat.le_of_ble_eq_true rfl) rfl
theorem D113_0 : decode (jt_code 113) 0 = .ok (.ldc2_w 179, 3) := by decide +kernel
theorem E113_0 {call : jv_F} {l0 l1 l2 l3 l4 l5 : Option Value}  {st : List Value} {h : jv_H} : jv_ev call 113 0 [l0, l1, l2, l3, l4, l5] st h = jv_ev call 113 3 [l0, l1, l2, l3, l4, l5] (.long (-140737488355328) :: st) h := je_ldc2 D113_0 rfl (by decide)
theorem D113_3 : decode (jt_code 113) 3 = .ok (.lstore 4, 2) := by decide +kernel
theorem E113_3 {call : jv_F} {l0 l1 l2 l3 l4 l5 : Option Value} {x : Int64} {st : List Value} {h : jv_H} (hk : ¬ jv_is2 (some l3) = true) : jv_ev call 113 3 [l0, l1, l2, l3, l4, l5] (.long x :: st) h = jv_ev call 113 5 [l0, l1, l2, l3, some (.long x), none] st h := je_lstore D113_3 rfl (Nat.le_of_ble_eq_true rfl) (by show jv_st2 _ 4 _ = _; simp only [jv_st2, jv_kill, List.getElem?_cons_succ, List.getElem?_cons_zero, hk, if_false]; rfl)
theorem D113_5 : decode (jt_code 113) 5 = .ok (.lload_n 1, 1) := by decide +kernel
theorem E113_5 {call : jv_F} {l0 l2 l3 l4 l5 : Option Value} {x : Int64} {st : List Value} {h : jv_H} : jv_ev call 113 5 [l0, some (.long x), l2, l3, l4, l5] st h = jv_ev call 113 6 [l0, some (.long x), l2, l3, l4, l5] (.long x :: st) h := je_lload_n D113_5 rfl rfl
theorem D113_6 : decode (jt_code 113) 6 = .ok (.lconst 0, 1) := by decide +kernel
theorem E113_6 {call : jv_F} {l0 l1 l2 l3 l4 l5 : Option Value}  {st : List Value} {h : jv_H} : jv_ev call 113 6 [l0, l1, l2, l3, l4, l5] st h = jv_ev call 113 7 [l0, l1, l2, l3, l4, l5] (.long 0 :: st) h := je_lconst D113_6 rfl (by decide)
theorem D113_7 : decode (jt_code 113) 7 = .ok (.lcmp, 1) := by decide +kernel
theorem E113_7 {call : jv_F} {l0 l1 l2 l3 l4 l5 : Option Value} {x y : Int64} {st : List Value} {h : jv_H} : jv_ev call 113 7 [l0, l1, l2, l3, l4, l5] (.long y :: .long x :: st) h = jv_ev call 113 8 [l0, l1, l2, l3, l4, l5] (.int (lg_cmp x y) :: st) h := je_lcmp D113_7 rfl
theorem D113_8 : decode (jt_code 113) 8 = .ok (.ifCond .eq 20, 3) := by decide +kernel
theorem E113_8 {call : jv_F} {l0 l1 l2 l3 l4 l5 : Option Value} {x : Int32} {st : List Value} {h : jv_H} : jv_ev call 113 8 [l0, l1, l2, l3, l4, l5] (.int x :: st) h = if x = 0 then jv_ev call 113 28 [l0, l1, l2, l3, l4, l5] st h else jv_ev call 113 11 [l0, l1, l2, l3, l4, l5] st h := je_ifc D113_8 (by decide) rfl rfl
theorem D113_11 : decode (jt_code 113) 11 = .ok (.lload_n 1, 1) := by decide +kernel
theorem E113_11 {call : jv_F} {l0 l2 l3 l4 l5 : Option Value} {x : Int64} {st : List Value} {h : jv_H} : jv_ev call 113 11 [l0, some (.long x), l2, l3, l4, l5] st h = jv_ev call 113 12 [l0, some (.long x), l2, l3, l4, l5] (.long x :: st) h := je_lload_n D113_11 rfl rfl
theorem D113_12 : decode (jt_code 113) 12 = .ok (.lload 4, 2) := by decide +kernel
theorem E113_12 {call : jv_F} {l0 l1 l2 l3 l5 : Option Value} {x : Int64} {st : List Value} {h : jv_H} : jv_ev call 113 12 [l0, l1, l2, l3, some (.long x), l5] st h = jv_ev call 113 14 [l0, l1, l2, l3, some (.long x), l5] (.long x :: st) h := je_lload D113_12 rfl rfl
theorem D113_14 : decode (jt_code 113) 14 = .ok (.lcmp, 1) := by decide +kernel
theorem E113_14 {call : jv_F} {l0 l1 l2 l3 l4 l5 : Option Value} {x y : Int64} {st : List Value} {h : jv_H} : jv_ev call 113 14 [l0, l1, l2, l3, l4, l5] (.long y :: .long x :: st) h = jv_ev call 113 15 [l0, l1, l2, l3, l4, l5] (.int (lg_cmp x y) :: st) h := je_lcmp D113_14 rfl
theorem D113_15 : decode (jt_code 113) 15 = .ok (.ifCond .eq 13, 3) := by decide +kernel
theorem E113_15 {call : jv_F} {l0 l1 l2 l3 l4 l5 : Option Value} {x : Int32} {st : List Value} {h : jv_H} : jv_ev call 113 15 [l0, l1, l2, l3, l4, l5] (.int x :: st) h = if x = 0 then jv_ev call 113 28 [l0, l1, l2, l3, l4, l5] st h else jv_ev call 113 18 [l0, l1, l2, l3, l4, l5] st h := je_ifc D113_15 (by decide) rfl rfl
theorem D113_18 : decode (jt_code 113) 18 = .ok (.aload_n 0, 1) := by decide +kernel
theorem E113_18 {call : jv_F} {l1 l2 l3 l4 l5 : Option Value} {a : Nat} {st : List Value} {h : jv_H} : jv_ev call 113 18 [some (.ref a), l1, l2, l3, l4, l5] st h = jv_ev call 113 19 [some (.ref a), l1, l2, l3, l4, l5] (.ref a :: st) h := je_aload_n (r := some a) D113_18 rfl rfl
theorem D113_19 : decode (jt_code 113) 19 = .ok (.getfield 9, 3) := by decide +kernel
theorem E113_19 {call : jv_F} {l0 l1 l2 l3 l4 l5 : Option Value} {a : Nat} {st : List Value} {h : jv_H} (hs : (jv_gf h a 4 2).isSome = true) : jv_ev call 113 19 [l0, l1, l2, l3, l4, l5] (.ref a :: st) h = jv_ev call 113 22 [l0, l1, l2, l3, l4, l5] ((jv_gf h a 4 2).getD .null :: st) h := by
  obtain ⟨v, hv⟩ := Option.isSome_iff_exists.mp hs
  rw [hv]
  exact je_get D113_19 rfl (by decide) hv
theorem D113_22 : decode (jt_code 113) 22 = .ok (.lload 4, 2) := by decide +kernel
theorem E113_22 {call : jv_F} {l0 l1 l2 l3 l5 : Option Value} {x : Int64} {st : List Value} {h : jv_H} : jv_ev call 113 22 [l0, l1, l2, l3, some (.long x), l5] st h = jv_ev call 113 24 [l0, l1, l2, l3, some (.long x), l5] (.long x :: st) h := je_lload D113_22 rfl rfl
theorem D113_24 : decode (jt_code 113) 24 = .ok (.lcmp, 1) := by decide +kernel
theorem E113_24 {call : jv_F} {l0 l1 l2 l3 l4 l5 : Option Value} {x y : Int64} {st : List Value} {h : jv_H} : jv_ev call 113 24 [l0, l1, l2, l3, l4, l5] (.long y :: .long x :: st) h = jv_ev call 113 25 [l0, l1, l2, l3, l4, l5] (.int (lg_cmp x y) :: st) h := je_lcmp D113_24 rfl
theorem D113_25 : decode (jt_code 113) 25 = .ok (.ifCond .ne 6, 3) := by decide +kernel
theorem E113_25 {call : jv_F} {l0 l1 l2 l3 l4 l5 : Option Value} {x : Int32} {st : List Value} {h : jv_H} : jv_ev call 113 25 [l0, l1, l2, l3, l4, l5] (.int x :: st) h = if ¬ x = 0 then jv_ev call 113 31 [l0, l1, l2, l3, l4, l5] st h else jv_ev call 113 28 [l0, l1, l2, l3, l4, l5] st h := je_ifc D113_25 (by decide) rfl rfl
theorem D113_28 : decode (jt_code 113) 28 = .ok (.bipush 6, 2) := by decide +kernel
theorem E113_28 {call : jv_F} {l0 l1 l2 l3 l4 l5 : Option Value}  {st : List Value} {h : jv_H} : jv_ev call 113 28 [l0, l1, l2, l3, l4, l5] st h = jv_ev call 113 30 [l0, l1, l2, l3, l4, l5] (.int (nI 6) :: st) h := je_bipush D113_28 rfl (by decide)
theorem D113_30 : decode (jt_code 113) 30 = .ok (.ireturn, 1) := by decide +kernel
theorem E113_30 {call : jv_F} {l0 l1 l2 l3 l4 l5 : Option Value} {v : Int32} {h : jv_H} : jv_ev call 113 30 [l0, l1, l2, l3, l4, l5] [.int v] h = some (some (.int v), h) := je_iret (ty := .int) D113_30 rfl rfl rfl
theorem D113_31 : decode (jt_code 113) 31 = .ok (.aload_n 0, 1) := by decide +kernel
theorem E113_31 {call : jv_F} {l1 l2 l3 l4 l5 : Option Value} {a : Nat} {st : List Value} {h : jv_H} : jv_ev call 113 31 [some (.ref a), l1, l2, l3, l4, l5] st h = jv_ev call 113 32 [some (.ref a), l1, l2, l3, l4, l5] (.ref a :: st) h := je_aload_n (r := some a) D113_31 rfl rfl
theorem D113_32 : decode (jt_code 113) 32 = .ok (.iload_n 3, 1) := by decide +kernel
theorem E113_32 {call : jv_F} {l0 l1 l2 l4 l5 : Option Value} {x : Int32} {st : List Value} {h : jv_H} : jv_ev call 113 32 [l0, l1, l2, some (.int x), l4, l5] st h = jv_ev call 113 33 [l0, l1, l2, some (.int x), l4, l5] (.int x :: st) h := je_iload_n D113_32 rfl rfl
theorem D113_33 : decode (jt_code 113) 33 = .ok (.ifCond .eq 12, 3) := by decide +kernel
theorem E113_33 {call : jv_F} {l0 l1 l2 l3 l4 l5 : Option Value} {x : Int32} {st : List Value} {h : jv_H} : jv_ev call 113 33 [l0, l1, l2, l3, l4, l5] (.int x :: st) h = if x = 0 then jv_ev call 113 45 [l0, l1, l2, l3, l4, l5] st h else jv_ev call 113 36 [l0, l1, l2, l3, l4, l5] st h := je_ifc D113_33 (by decide) rfl rfl
theorem D113_36 : decode (jt_code 113) 36 = .ok (.aload_n 0, 1) := by decide +kernel
theorem E113_36 {call : jv_F} {l1 l2 l3 l4 l5 : Option Value} {a : Nat} {st : List Value} {h : jv_H} : jv_ev call 113 36 [some (.ref a), l1, l2, l3, l4, l5] st h = jv_ev call 113 37 [some (.ref a), l1, l2, l3, l4, l5] (.ref a :: st) h := je_aload_n (r := some a) D113_36 rfl rfl
theorem D113_37 : decode (jt_code 113) 37 = .ok (.getfield 9, 3) := by decide +kernel
theorem E113_37 {call : jv_F} {l0 l1 l2 l3 l4 l5 : Option Value} {a : Nat} {st : List Value} {h : jv_H} (hs : (jv_gf h a 4 2).isSome = true) : jv_ev call 113 37 [l0, l1, l2, l3, l4, l5] (.ref a :: st) h = jv_ev call 113 40 [l0, l1, l2, l3, l4, l5] ((jv_gf h a 4 2).getD .null :: st) h := by
  obtain ⟨v, hv⟩ := Option.isSome_iff_exists.mp hs
  rw [hv]
  exact je_get D113_37 rfl (by decide) hv
theorem D113_40 : decode (jt_code 113) 40 = .ok (.lload_n 1, 1) := by decide +kernel
theorem E113_40 {call : jv_F} {l0 l2 l3 l4 l5 : Option Value} {x : Int64} {st : List Value} {h : jv_H} : jv_ev call 113 40 [l0, some (.long x), l2, l3, l4, l5] st h = jv_ev call 113 41 [l0, some (.long x), l2, l3, l4, l5] (.long x :: st) h := je_lload_n D113_40 rfl rfl
theorem D113_41 : decode (jt_code 113) 41 = .ok (.lrem, 1) := by decide +kernel
theorem E113_41 {call : jv_F} {l0 l1 l2 l3 l4 l5 : Option Value} {x y : Int64} {st : List Value} {h : jv_H} (hy : ¬ y = 0) : jv_ev call 113 41 [l0, l1, l2, l3, l4, l5] (.long y :: .long x :: st) h = jv_ev call 113 42 [l0, l1, l2, l3, l4, l5] (.long (x - x / y * y) :: st) h := je_lrem D113_41 rfl hy
theorem D113_42 : decode (jt_code 113) 42 = .ok (.goto 9, 3) := by decide +kernel
theorem E113_42 {call : jv_F} {l0 l1 l2 l3 l4 l5 : Option Value}  {st : List Value} {h : jv_H} : jv_ev call 113 42 [l0, l1, l2, l3, l4, l5] st h = jv_ev call 113 51 [l0, l1, l2, l3, l4, l5] st h := je_goto D113_42 (by decide)
theorem D113_45 : decode (jt_code 113) 45 = .ok (.aload_n 0, 1) := by decide +kernel
theorem E113_45 {call : jv_F} {l1 l2 l3 l4 l5 : Option Value} {a : Nat} {st : List Value} {h : jv_H} : jv_ev call 113 45 [some (.ref a), l1, l2, l3, l4, l5] st h = jv_ev call 113 46 [some (.ref a), l1, l2, l3, l4, l5] (.ref a :: st) h := je_aload_n (r := some a) D113_45 rfl rfl
theorem D113_46 : decode (jt_code 113) 46 = .ok (.getfield 9, 3) := by decide +kernel
theorem E113_46 {call : jv_F} {l0 l1 l2 l3 l4 l5 : Option Value} {a : Nat} {st : List Value} {h : jv_H} (hs : (jv_gf h a 4 2).isSome = true) : jv_ev call 113 46 [l0, l1, l2, l3, l4, l5] (.ref a :: st) h = jv_ev call 113 49 [l0, l1, l2, l3, l4, l5] ((jv_gf h a 4 2).getD .null :: st) h := by
  obtain ⟨v, hv⟩ := Option.isSome_iff_exists.mp hs
  rw [hv]
  exact je_get D113_46 rfl (by decide) hv
theorem D113_49 : decode (jt_code 113) 49 = .ok (.lload_n 1, 1) := by decide +kernel
theorem E113_49 {call : jv_F} {l0 l2 l3 l4 l5 : Option Value} {x : Int64} {st : List Value} {h : jv_H} : jv_ev call 113 49 [l0, some (.long x), l2, l3, l4, l5] st h = jv_ev call 113 50 [l0, some (.long x), l2, l3, l4, l5] (.long x :: st) h := je_lload_n D113_49 rfl rfl
theorem D113_50 : decode (jt_code 113) 50 = .ok (.ldiv, 1) := by decide +kernel
theorem E113_50 {call : jv_F} {l0 l1 l2 l3 l4 l5 : Option Value} {x y : Int64} {st : List Value} {h : jv_H} (hy : ¬ y = 0) : jv_ev call 113 50 [l0, l1, l2, l3, l4, l5] (.long y :: .long x :: st) h = jv_ev call 113 51 [l0, l1, l2, l3, l4, l5] (.long (x / y) :: st) h := je_ldiv D113_50 rfl hy
theorem D113_51 : decode (jt_code 113) 51 = .ok (.putfield 9, 3) := by decide +kernel
theorem E113_51 {call : jv_F} {l0 l1 l2 l3 l4 l5 : Option Value} {a : Nat} {v : Value} {st : List Value} {h : jv_H} (hs : (jv_pf h a 4 2 v).isSome = true) : jv_ev call 113 51 [l0, l1, l2, l3, l4, l5] (v :: .ref a :: st) h = jv_ev call 113 54 [l0, l1, l2, l3, l4, l5] st ((jv_pf h a 4 2 v).getD h) := by
  obtain ⟨h', hv⟩ := Option.isSome_iff_exists.mp hs
  rw [hv]
  exact je_put D113_51 rfl (by decide) (by decide) hv
theorem D113_54 : decode (jt_code 113) 54 = .ok (.iconst 0, 1) := by decide +kernel
theorem E113_54 {call : jv_F} {l0 l1 l2 l3 l4 l5 : Option Value}  {st : List Value} {h : jv_H} : jv_ev call 113 54 [l0, l1, l2, l3, l4, l5] st h = jv_ev call 113 55 [l0, l1, l2, l3, l4, l5] (.int (nI 0) :: st) h := je_iconst D113_54 rfl (by decide)
theorem D113_55 : decode (jt_code 113) 55 = .ok (.ireturn, 1) := by decide +kernel
theorem E113_55 {call : jv_F} {l0 l1 l2 l3 l4 l5 : Option Value} {v : Int32} {h : jv_H} : jv_ev call 113 55 [l0, l1, l2, l3, l4, l5] [.int v] h = some (some (.int v), h) := je_iret (ty := .int) D113_55 rfl rfl rfl
/-! method 114: DrumMachine$Job.takeRoot -/
theorem N114 {d : Nat} {b : Nat} {h : jv_H} : jv_run (d + 1) 114 [.ref b] h = jv_ev (jv_run d) 114 0 [some (.ref b), none, none, none, none, none, none] [] h := jv_run_eq (Nat.le_of_ble_eq_true rfl) rfl
theorem D114_0 : decode (jt_code 114) 0 = .ok (.aload_n 0, 1) := by decide +kernel
theorem E114_0 {call : jv_F} {l1 l2 l3 l4 l5 l6 : Option Value} {a : Nat} {st : List Value} {h : jv_H} : jv_ev call 114 0 [some (.ref a), l1, l2, l3, l4, l5, l6] st h = jv_ev call 114 1 [some (.ref a), l1, l2, l3, l4, l5, l6] (.ref a :: st) h := je_aload_n (r := some a) D114_0 rfl rfl
theorem D114_1 : decode (jt_code 114) 1 = .ok (.getfield 9, 3) := by decide +kernel
theorem E114_1 {call : jv_F} {l0 l1 l2 l3 l4 l5 l6 : Option Value} {a : Nat} {st : List Value} {h : jv_H} (hs : (jv_gf h a 4 2).isSome = true) : jv_ev call 114 1 [l0, l1, l2, l3, l4, l5, l6] (.ref a :: st) h = jv_ev call 114 4 [l0, l1, l2, l3, l4, l5, l6] ((jv_gf h a 4 2).getD .null :: st) h := by
  obtain ⟨v, hv⟩ := Option.isSome_iff_exists.mp hs
  rw [hv]
  exact je_get D114_1 rfl (by decide) hv
theorem D114_4 : decode (jt_code 114) 4 = .ok (.lconst 0, 1) := by decide +kernel
theorem E114_4 {call : jv_F} {l0 l1 l2 l3 l4 l5 l6 : Option Value}  {st : List Value} {h : jv_H} : jv_ev call 114 4 [l0, l1, l2, l3, l4, l5, l6] st h = jv_ev call 114 5 [l0, l1, l2, l3, l4, l5, l6] (.long 0 :: st) h := je_lconst D114_4 rfl (by decide)
theorem D114_5 : decode (jt_code 114) 5 = .ok (.lcmp, 1) := by decide +kernel
theorem E114_5 {call : jv_F} {l0 l1 l2 l3 l4 l5 l6 : Option Value} {x y : Int64} {st : List Value} {h : jv_H} : jv_ev call 114 5 [l0, l1, l2, l3, l4, l5, l6] (.long y :: .long x :: st) h = jv_ev call 114 6 [l0, l1, l2, l3, l4, l5, l6] (.int (lg_cmp x y) :: st) h := je_lcmp D114_5 rfl
theorem D114_6 : decode (jt_code 114) 6 = .ok (.ifCond .ge 6, 3) := by decide +kernel
theorem E114_6 {call : jv_F} {l0 l1 l2 l3 l4 l5 l6 : Option Value} {x : Int32} {st : List Value} {h : jv_H} : jv_ev call 114 6 [l0, l1, l2, l3, l4, l5, l6] (.int x :: st) h = if 0 ≤ x then jv_ev call 114 12 [l0, l1, l2, l3, l4, l5, l6] st h else jv_ev call 114 9 [l0, l1, l2, l3, l4, l5, l6] st h := je_ifc D114_6 (by decide) rfl rfl
theorem D114_9 : decode (jt_code 114) 9 = .ok (.bipush 6, 2) := by decide +kernel
theorem E114_9 {call : jv_F} {l0 l1 l2 l3 l4 l5 l6 : Option Value}  {st : List Value} {h : jv_H} : jv_ev call 114 9 [l0, l1, l2, l3, l4, l5, l6] st h = jv_ev call 114 11 [l0, l1, l2, l3, l4, l5, l6] (.int (nI 6) :: st) h := je_bipush D114_9 rfl (by decide)
theorem D114_11 : decode (jt_code 114) 11 = .ok (.ireturn, 1) := by decide +kernel
theorem E114_11 {call : jv_F} {l0 l1 l2 l3 l4 l5 l6 : Option Value} {v : Int32} {h : jv_H} : jv_ev call 114 11 [l0, l1, l2, l3, l4, l5, l6] [.int v] h = some (some (.int v), h) := je_iret (ty := .int) D114_11 rfl rfl rfl
theorem D114_12 : decode (jt_code 114) 12 = .ok (.lconst 0, 1) := by decide +kernel
theorem E114_12 {call : jv_F} {l0 l1 l2 l3 l4 l5 l6 : Option Value}  {st : List Value} {h : jv_H} : jv_ev call 114 12 [l0, l1, l2, l3, l4, l5, l6] st h = jv_ev call 114 13 [l0, l1, l2, l3, l4, l5, l6] (.long 0 :: st) h := je_lconst D114_12 rfl (by decide)
theorem D114_13 : decode (jt_code 114) 13 = .ok (.lstore_n 1, 1) := by decide +kernel
theorem E114_13 {call : jv_F} {l0 l1 l2 l3 l4 l5 l6 : Option Value} {x : Int64} {st : List Value} {h : jv_H} (hk : ¬ jv_is2 (some l0) = true) : jv_ev call 114 13 [l0, l1, l2, l3, l4, l5, l6] (.long x :: st) h = jv_ev call 114 14 [l0, some (.long x), none, l3, l4, l5, l6] st h := je_lstore_n D114_13 rfl (Nat.le_of_ble_eq_true rfl) (by show jv_st2 _ 1 _ = _; simp only [jv_st2, jv_kill, List.getElem?_cons_succ, List.getElem?_cons_zero, hk, if_false]; rfl)
theorem D114_14 : decode (jt_code 114) 14 = .ok (.ldc2_w 181, 3) := by decide +kernel
theorem E114_14 {call : jv_F} {l0 l1 l2 l3 l4 l5 l6 : Option Value}  {st : List Value} {h : jv_H} : jv_ev call 114 14 [l0, l1, l2, l3, l4, l5, l6] st h = jv_ev call 114 17 [l0, l1, l2, l3, l4, l5, l6] (.long 8388608 :: st) h := je_ldc2 D114_14 rfl (by decide)
theorem D114_17 : decode (jt_code 114) 17 = .ok (.lstore_n 3, 1) := by decide +kernel
theorem E114_17 {call : jv_F} {l0 l1 l2 l3 l4 l5 l6 : Option Value} {x : Int64} {st : List Value} {h : jv_H} (hk : ¬ jv_is2 (some l2) = true) : jv_ev call 114 17 [l0, l1, l2, l3, l4, l5, l6] (.long x :: st) h = jv_ev call 114 18 [l0, l1, l2, some (.long x), none, l5, l6] st h := je_lstore_n D114_17 rfl (Nat.le_of_ble_eq_true rfl) (by show jv_st2 _ 3 _ = _; simp only [jv_st2, jv_kill, List.getElem?_cons_succ, List.getElem?_cons_zero, hk, if_false]; rfl)
theorem D114_18 : decode (jt_code 114) 18 = .ok (.lload_n 3, 1) := by decide +kernel
theorem E114_18 {call : jv_F} {l0 l1 l2 l4 l5 l6 : Option Value} {x : Int64} {st : List Value} {h : jv_H} : jv_ev call 114 18 [l0, l1, l2, some (.long x), l4, l5, l6] st h = jv_ev call 114 19 [l0, l1, l2, some (.long x), l4, l5, l6] (.long x :: st) h := je_lload_n D114_18 rfl rfl
theorem D114_19 : decode (jt_code 114) 19 = .ok (.lconst 0, 1) := by decide +kernel
theorem E114_19 {call : jv_F} {l0 l1 l2 l3 l4 l5 l6 : Option Value}  {st : List Value} {h : jv_H} : jv_ev call 114 19 [l0, l1, l2, l3, l4, l5, l6] st h = jv_ev call 114 20 [l0, l1, l2, l3, l4, l5, l6] (.long 0 :: st) h := je_lconst D114_19 rfl (by decide)
theorem D114_20 : decode (jt_code 114) 20 = .ok (.lcmp, 1) := by decide +kernel
theorem E114_20 {call : jv_F} {l0 l1 l2 l3 l4 l5 l6 : Option Value} {x y : Int64} {st : List Value} {h : jv_H} : jv_ev call 114 20 [l0, l1, l2, l3, l4, l5, l6] (.long y :: .long x :: st) h = jv_ev call 114 21 [l0, l1, l2, l3, l4, l5, l6] (.int (lg_cmp x y) :: st) h := je_lcmp D114_20 rfl
theorem D114_21 : decode (jt_code 114) 21 = .ok (.ifCond .le 31, 3) := by decide +kernel
theorem E114_21 {call : jv_F} {l0 l1 l2 l3 l4 l5 l6 : Option Value} {x : Int32} {st : List Value} {h : jv_H} : jv_ev call 114 21 [l0, l1, l2, l3, l4, l5, l6] (.int x :: st) h = if x ≤ 0 then jv_ev call 114 52 [l0, l1, l2, l3, l4, l5, l6] st h else jv_ev call 114 24 [l0, l1, l2, l3, l4, l5, l6] st h := je_ifc D114_21 (by decide) rfl rfl
theorem D114_24 : decode (jt_code 114) 24 = .ok (.lload_n 1, 1) := by decide +kernel
theorem E114_24 {call : jv_F} {l0 l2 l3 l4 l5 l6 : Option Value} {x : Int64} {st : List Value} {h : jv_H} : jv_ev call 114 24 [l0, some (.long x), l2, l3, l4, l5, l6] st h = jv_ev call 114 25 [l0, some (.long x), l2, l3, l4, l5, l6] (.long x :: st) h := je_lload_n D114_24 rfl rfl
theorem D114_25 : decode (jt_code 114) 25 = .ok (.lload_n 3, 1) := by decide +kernel
theorem E114_25 {call : jv_F} {l0 l1 l2 l4 l5 l6 : Option Value} {x : Int64} {st : List Value} {h : jv_H} : jv_ev call 114 25 [l0, l1, l2, some (.long x), l4, l5, l6] st h = jv_ev call 114 26 [l0, l1, l2, some (.long x), l4, l5, l6] (.long x :: st) h := je_lload_n D114_25 rfl rfl
theorem D114_26 : decode (jt_code 114) 26 = .ok (.ladd, 1) := by decide +kernel
theorem E114_26 {call : jv_F} {l0 l1 l2 l3 l4 l5 l6 : Option Value} {x y : Int64} {st : List Value} {h : jv_H} : jv_ev call 114 26 [l0, l1, l2, l3, l4, l5, l6] (.long y :: .long x :: st) h = jv_ev call 114 27 [l0, l1, l2, l3, l4, l5, l6] (.long (x + y) :: st) h := je_l2 (f := fun x y => x + y) D114_26 rfl (fun _ => rfl)
theorem D114_27 : decode (jt_code 114) 27 = .ok (.lstore 5, 2) := by decide +kernel
theorem E114_27 {call : jv_F} {l0 l1 l2 l3 l4 l5 l6 : Option Value} {x : Int64} {st : List Value} {h : jv_H} (hk : ¬ jv_is2 (some l4) = true) : jv_ev call 114 27 [l0, l1, l2, l3, l4, l5, l6] (.long x :: st) h = jv_ev call 114 29 [l0, l1, l2, l3, l4, some (.long x), none] st h := je_lstore D114_27 rfl (Nat.le_of_ble_eq_true rfl) (by show jv_st2 _ 5 _ = _; simp only [jv_st2, jv_kill, List.getElem?_cons_succ, List.getElem?_cons_zero, hk, if_false]; rfl)
theorem D114_29 : decode (jt_code 114) 29 = .ok (.lload 5, 2) := by decide +kernel
theorem E114_29 {call : jv_F} {l0 l1 l2 l3 l4 l6 : Option Value} {x : Int64} {st : List Value} {h : jv_H} : jv_ev call 114 29 [l0, l1, l2, l3, l4, some (.long x), l6] st h = jv_ev call 114 31 [l0, l1, l2, l3, l4, some (.long x), l6] (.long x :: st) h := je_lload D114_29 rfl rfl
theorem D114_31 : decode (jt_code 114) 31 = .ok (.lload 5, 2) := by decide +kernel
theorem E114_31 {call : jv_F} {l0 l1 l2 l3 l4 l6 : Option Value} {x : Int64} {st : List Value} {h : jv_H} : jv_ev call 114 31 [l0, l1, l2, l3, l4, some (.long x), l6] st h = jv_ev call 114 33 [l0, l1, l2, l3, l4, some (.long x), l6] (.long x :: st) h := je_lload D114_31 rfl rfl
theorem D114_33 : decode (jt_code 114) 33 = .ok (.lmul, 1) := by decide +kernel
theorem E114_33 {call : jv_F} {l0 l1 l2 l3 l4 l5 l6 : Option Value} {x y : Int64} {st : List Value} {h : jv_H} : jv_ev call 114 33 [l0, l1, l2, l3, l4, l5, l6] (.long y :: .long x :: st) h = jv_ev call 114 34 [l0, l1, l2, l3, l4, l5, l6] (.long (x * y) :: st) h := je_l2 (f := fun x y => x * y) D114_33 rfl (fun _ => rfl)
theorem D114_34 : decode (jt_code 114) 34 = .ok (.aload_n 0, 1) := by decide +kernel
theorem E114_34 {call : jv_F} {l1 l2 l3 l4 l5 l6 : Option Value} {a : Nat} {st : List Value} {h : jv_H} : jv_ev call 114 34 [some (.ref a), l1, l2, l3, l4, l5, l6] st h = jv_ev call 114 35 [some (.ref a), l1, l2, l3, l4, l5, l6] (.ref a :: st) h := je_aload_n (r := some a) D114_34 rfl rfl
theorem D114_35 : decode (jt_code 114) 35 = .ok (.getfield 9, 3) := by decide +kernel
theorem E114_35 {call : jv_F} {l0 l1 l2 l3 l4 l5 l6 : Option Value} {a : Nat} {st : List Value} {h : jv_H} (hs : (jv_gf h a 4 2).isSome = true) : jv_ev call 114 35 [l0, l1, l2, l3, l4, l5, l6] (.ref a :: st) h = jv_ev call 114 38 [l0, l1, l2, l3, l4, l5, l6] ((jv_gf h a 4 2).getD .null :: st) h := by
  obtain ⟨v, hv⟩ := Option.isSome_iff_exists.mp hs
  rw [hv]
  exact je_get D114_35 rfl (by decide) hv
theorem D114_38 : decode (jt_code 114) 38 = .ok (.lcmp, 1) := by decide +kernel
theorem E114_38 {call : jv_F} {l0 l1 l2 l3 l4 l5 l6 : Option Value} {x y : Int64} {st : List Value} {h : jv_H} : jv_ev call 114 38 [l0, l1, l2, l3, l4, l5, l6] (.long y :: .long x :: st) h = jv_ev call 114 39 [l0, l1, l2, l3, l4, l5, l6] (.int (lg_cmp x y) :: st) h := je_lcmp D114_38 rfl
theorem D114_39 : decode (jt_code 114) 39 = .ok (.ifCond .gt 6, 3) := by decide +kernel
theorem E114_39 {call : jv_F} {l0 l1 l2 l3 l4 l5 l6 : Option Value} {x : Int32} {st : List Value} {h : jv_H} : jv_ev call 114 39 [l0, l1, l2, l3, l4, l5, l6] (.int x :: st) h = if 0 < x then jv_ev call 114 45 [l0, l1, l2, l3, l4, l5, l6] st h else jv_ev call 114 42 [l0, l1, l2, l3, l4, l5, l6] st h := je_ifc D114_39 (by decide) rfl rfl
theorem D114_42 : decode (jt_code 114) 42 = .ok (.lload 5, 2) := by decide +kernel
theorem E114_42 {call : jv_F} {l0 l1 l2 l3 l4 l6 : Option Value} {x : Int64} {st : List Value} {h : jv_H} : jv_ev call 114 42 [l0, l1, l2, l3, l4, some (.long x), l6] st h = jv_ev call 114 44 [l0, l1, l2, l3, l4, some (.long x), l6] (.long x :: st) h := je_lload D114_42 rfl rfl
theorem D114_44 : decode (jt_code 114) 44 = .ok (.lstore_n 1, 1) := by decide +kernel
theorem E114_44 {call : jv_F} {l0 l1 l2 l3 l4 l5 l6 : Option Value} {x : Int64} {st : List Value} {h : jv_H} (hk : ¬ jv_is2 (some l0) = true) : jv_ev call 114 44 [l0, l1, l2, l3, l4, l5, l6] (.long x :: st) h = jv_ev call 114 45 [l0, some (.long x), none, l3, l4, l5, l6] st h := je_lstore_n D114_44 rfl (Nat.le_of_ble_eq_true rfl) (by show jv_st2 _ 1 _ = _; simp only [jv_st2, jv_kill, List.getElem?_cons_succ, List.getElem?_cons_zero, hk, if_false]; rfl)
theorem D114_45 : decode (jt_code 114) 45 = .ok (.lload_n 3, 1) := by decide +kernel
theorem E114_45 {call : jv_F} {l0 l1 l2 l4 l5 l6 : Option Value} {x : Int64} {st : List Value} {h : jv_H} : jv_ev call 114 45 [l0, l1, l2, some (.long x), l4, l5, l6] st h = jv_ev call 114 46 [l0, l1, l2, some (.long x), l4, l5, l6] (.long x :: st) h := je_lload_n D114_45 rfl rfl
theorem D114_46 : decode (jt_code 114) 46 = .ok (.iconst 1, 1) := by decide +kernel
theorem E114_46 {call : jv_F} {l0 l1 l2 l3 l4 l5 l6 : Option Value}  {st : List Value} {h : jv_H} : jv_ev call 114 46 [l0, l1, l2, l3, l4, l5, l6] st h = jv_ev call 114 47 [l0, l1, l2, l3, l4, l5, l6] (.int (nI 1) :: st) h := je_iconst D114_46 rfl (by decide)
theorem D114_47 : decode (jt_code 114) 47 = .ok (.lshr, 1) := by decide +kernel
theorem E114_47 {call : jv_F} {l0 l1 l2 l3 l4 l5 l6 : Option Value} {x : Int64} {y : Int32} {st : List Value} {h : jv_H} : jv_ev call 114 47 [l0, l1, l2, l3, l4, l5, l6] (.int y :: .long x :: st) h = jv_ev call 114 48 [l0, l1, l2, l3, l4, l5, l6] (.long (x >>> (y.toInt64 &&& 63)) :: st) h := je_lshr D114_47 rfl
theorem D114_48 : decode (jt_code 114) 48 = .ok (.lstore_n 3, 1) := by decide +kernel
theorem E114_48 {call : jv_F} {l0 l1 l2 l3 l4 l5 l6 : Option Value} {x : Int64} {st : List Value} {h : jv_H} (hk : ¬ jv_is2 (some l2) = true) : jv_ev call 114 48 [l0, l1, l2, l3, l4, l5, l6] (.long x :: st) h = jv_ev call 114 49 [l0, l1, l2, some (.long x), none, l5, l6] st h := je_lstore_n D114_48 rfl (Nat.le_of_ble_eq_true rfl) (by show jv_st2 _ 3 _ = _; simp only [jv_st2, jv_kill, List.getElem?_cons_succ, List.getElem?_cons_zero, hk, if_false]; rfl)
theorem D114_49 : decode (jt_code 114) 49 = .ok (.goto (-31), 3) := by decide +kernel
theorem E114_49 {call : jv_F} {l0 l1 l2 l3 l4 l5 l6 : Option Value}  {st : List Value} {h : jv_H} : jv_ev call 114 49 [l0, l1, l2, l3, l4, l5, l6] st h = jv_ev call 114 18 [l0, l1, l2, l3, l4, l5, l6] st h := je_goto D114_49 (by decide)
theorem D114_52 : decode (jt_code 114) 52 = .ok (.aload_n 0, 1) := by decide +kernel
theorem E114_52 {call : jv_F} {l1 l2 l3 l4 l5 l6 : Option Value} {a : Nat} {st : List Value} {h : jv_H} : jv_ev call 114 52 [some (.ref a), l1, l2, l3, l4, l5, l6] st h = jv_ev call 114 53 [some (.ref a), l1, l2, l3, l4, l5, l6] (.ref a :: st) h := je_aload_n (r := some a) D114_52 rfl rfl
theorem D114_53 : decode (jt_code 114) 53 = .ok (.lload_n 1, 1) := by decide +kernel
theorem E114_53 {call : jv_F} {l0 l2 l3 l4 l5 l6 : Option Value} {x : Int64} {st : List Value} {h : jv_H} : jv_ev call 114 53 [l0, some (.long x), l2, l3, l4, l5, l6] st h = jv_ev call 114 54 [l0, some (.long x), l2, l3, l4, l5, l6] (.long x :: st) h := je_lload_n D114_53 rfl rfl
theorem D114_54 : decode (jt_code 114) 54 = .ok (.putfield 9, 3) := by decide +kernel
theorem E114_54 {call : jv_F} {l0 l1 l2 l3 l4 l5 l6 : Option Value} {a : Nat} {v : Value} {st : List Value} {h : jv_H} (hs : (jv_pf h a 4 2 v).isSome = true) : jv_ev call 114 54 [l0, l1, l2, l3, l4, l5, l6] (v :: .ref a :: st) h = jv_ev call 114 57 [l0, l1, l2, l3, l4, l5, l6] st ((jv_pf h a 4 2 v).getD h) := by
  obtain ⟨h', hv⟩ := Option.isSome_iff_exists.mp hs
  rw [hv]
  exact je_put D114_54 rfl (by decide) (by decide) hv
theorem D114_57 : decode (jt_code 114) 57 = .ok (.iconst 0, 1) := by decide +kernel
theorem E114_57 {call : jv_F} {l0 l1 l2 l3 l4 l5 l6 : Option Value}  {st : List Value} {h : jv_H} : jv_ev call 114 57 [l0, l1, l2, l3, l4, l5, l6] st h = jv_ev call 114 58 [l0, l1, l2, l3, l4, l5, l6] (.int (nI 0) :: st) h := je_iconst D114_57 rfl (by decide)
theorem D114_58 : decode (jt_code 114) 58 = .ok (.ireturn, 1) := by decide +kernel
theorem E114_58 {call : jv_F} {l0 l1 l2 l3 l4 l5 l6 : Option Value} {v : Int32} {h : jv_H} : jv_ev call 114 58 [l0, l1, l2, l3, l4, l5, l6] [.int v] h = some (some (.int v), h) := je_iret (ty := .int) D114_58 rfl rfl rfl
/-! method 121: DrumMachine$Tray.empty -/
theorem N121 {d : Nat} {b : Nat} {h : jv_H} : jv_run (d + 1) 121 [.ref b] h = jv_ev (jv_run d) 121 0 [some (.ref b)] [] h := jv_run_eq (Nat.le_of_ble_eq_true rfl) rfl
theorem D121_0 : decode (jt_code 121) 0 = .ok (.aload_n 0, 1) := by decide +kernel
theorem E121_0 {call : jv_F} {a : Nat} {st : List Value} {h : jv_H} : jv_ev call 121 0 [some (.ref a)] st h = jv_ev call 121 1 [some (.ref a)] (.ref a :: st) h := je_aload_n (r := some a) D121_0 rfl rfl
theorem D121_1 : decode (jt_code 121) 1 = .ok (.iconst 0, 1) := by decide +kernel
theorem E121_1 {call : jv_F} {l0 : Option Value}  {st : List Value} {h : jv_H} : jv_ev call 121 1 [l0] st h = jv_ev call 121 2 [l0] (.int (nI 0) :: st) h := je_iconst D121_1 rfl (by decide)
theorem D121_2 : decode (jt_code 121) 2 = .ok (.putfield 19, 3) := by decide +kernel
theorem E121_2 {call : jv_F} {l0 : Option Value} {a : Nat} {v : Value} {st : List Value} {h : jv_H} (hs : (jv_pf h a 5 2 v).isSome = true) : jv_ev call 121 2 [l0] (v :: .ref a :: st) h = jv_ev call 121 5 [l0] st ((jv_pf h a 5 2 v).getD h) := by
  obtain ⟨h', hv⟩ := Option.isSome_iff_exists.mp hs
  rw [hv]
  exact je_put D121_2 rfl (by decide) (by decide) hv
theorem D121_5 : decode (jt_code 121) 5 = .ok (.aload_n 0, 1) := by decide +kernel
theorem E121_5 {call : jv_F} {a : Nat} {st : List Value} {h : jv_H} : jv_ev call 121 5 [some (.ref a)] st h = jv_ev call 121 6 [some (.ref a)] (.ref a :: st) h := je_aload_n (r := some a) D121_5 rfl rfl
theorem D121_6 : decode (jt_code 121) 6 = .ok (.iconst 0, 1) := by decide +kernel
theorem E121_6 {call : jv_F} {l0 : Option Value}  {st : List Value} {h : jv_H} : jv_ev call 121 6 [l0] st h = jv_ev call 121 7 [l0] (.int (nI 0) :: st) h := je_iconst D121_6 rfl (by decide)
theorem D121_7 : decode (jt_code 121) 7 = .ok (.putfield 23, 3) := by decide +kernel
theorem E121_7 {call : jv_F} {l0 : Option Value} {a : Nat} {v : Value} {st : List Value} {h : jv_H} (hs : (jv_pf h a 5 3 v).isSome = true) : jv_ev call 121 7 [l0] (v :: .ref a :: st) h = jv_ev call 121 10 [l0] st ((jv_pf h a 5 3 v).getD h) := by
  obtain ⟨h', hv⟩ := Option.isSome_iff_exists.mp hs
  rw [hv]
  exact je_put D121_7 rfl (by decide) (by decide) hv
theorem D121_10 : decode (jt_code 121) 10 = .ok (.return_, 1) := by decide +kernel
theorem E121_10 {call : jv_F} {l0 : Option Value}  {h : jv_H} : jv_ev call 121 10 [l0] [] h = some (none, h) := je_ret D121_10 rfl
end
section
/-! methods of the class that the checker doesn't take: by hand -/
section JH
variable {RT : List jk_D} {pr : Nat → Nat → Bool} {ρ : jk_R} {h : jv_H}
theorem jh_get {a q ci k : Nat} {ts : List jk_T} {t : jk_T} (hO : jk_Ok RT ρ h) (ha : ρ a = some q) (hr : RT[q]? = some (.inl (ci, ts))) (ht : ts[k]? = some t) : ∃ v, jv_gf h a ci k = some v ∧ jk_V ρ t v := by
  obtain ⟨d, c, h1, h2, h3⟩ := hO a q ha
  rw [hr] at h1
  cases h1
  rcases c with ⟨ci2, fs⟩ | ⟨kd, n, f⟩
  · obtain ⟨rfl, hV⟩ := h3
    obtain ⟨v, e, hv⟩ := jk_Vs_get hV ht
    refine ⟨v, ?_, hv⟩
    unfold jv_gf
    rw [h2]
    exact (if_pos rfl).trans e
  · exact h3.elim
theorem jh_put {a q ci k : Nat} {ts : List jk_T} {t : jk_T} {v : Value} (hO : jk_Ok RT ρ h) (ha : ρ a = some q) (hr : RT[q]? = some (.inl (ci, ts))) (ht : ts[k]? = some t) (hv : jk_V ρ t v) (hf : jk_fit (jt_fty ci k) t = true) (hp : pr q k = false) : ∃ h', jv_pf h a ci k v = some h' ∧ jk_Ok RT ρ h' ∧ jk_Fr pr ρ h h' ∧ jv_gf h' a ci k = some v ∧ (∀ b c m, ¬ (b = a ∧ m = k) → jv_gf h' b c m = jv_gf h b c m) ∧ ∀ b ty j, jv_al h' b ty j = jv_al h b ty j := by
  obtain ⟨d, c, h1, h2, h3⟩ := hO a q ha
  rw [hr] at h1
  cases h1
  rcases c with ⟨ci2, fs⟩ | ⟨kd, n, f⟩
  · obtain ⟨rfl, hV⟩ := h3
    have hk : k < fs.length := by rw [jk_Vs_len hV]; exact (List.getElem?_eq_some_iff.mp ht).1
    have hfit := jk_fit_ok hf hv
    refine ⟨(jv_up h.1 a (.inl (ci2, fs.set k v)), h.2), ?_, jk_Ok_up hO ha hr ⟨rfl, jk_Vs_set hV ht hv⟩, jk_Fr_up ha h2 ⟨rfl, by simp, fun m hm => ?_⟩, ?_, fun b c m hb => ?_, fun b ty j => ?_⟩
    · unfold jv_pf
      rw [h2]
      exact if_pos ⟨rfl, hk, hfit.1, hfit.2⟩
    · exact List.getElem?_set_ne (fun e => by rw [← e, hp] at hm; cases hm)
    · unfold jv_gf jv_up
      simp only [if_true]
      exact List.getElem?_set_self hk
    · unfold jv_gf jv_up
      simp only
      by_cases e : b = a
      · subst e
        rw [if_pos rfl, h2]
        simp only
        rw [List.getElem?_set_ne (fun e => hb ⟨rfl, e.symm⟩)]
      · rw [if_neg e]
    · unfold jv_al jv_up
      simp only
      by_cases e : b = a
      · subst e
        rw [if_pos rfl, h2]
      · rw [if_neg e]
  · exact h3.elim
theorem jh_ld {a q kd lo : Nat} {t : jk_T} {ty : FieldType} {x : Int32} (hO : jk_Ok RT ρ h) (ha : ρ a = some q) (hr : RT[q]? = some (.inr (kd, lo, t))) (hty : jt_at[kd]? = some ty) (h0 : 0 ≤ x.toInt) (h1 : x.toInt < (lo : Int)) : ∃ v, jv_al h a ty x = some v ∧ jk_V ρ t v := by
  obtain ⟨d, c, g1, g2, g3⟩ := hO a q ha
  rw [hr] at g1
  cases g1
  rcases c with ⟨ci2, fs⟩ | ⟨kd2, n, f⟩
  · exact g3.elim
  · obtain ⟨rfl, hlo, hle, hf⟩ := g3
    have hi := jk_idx (n := n) (lo := lo) (j := (x.toInt, x.toInt)) (x := x) h0 h1 ⟨Int.le_refl _, Int.le_refl _⟩ hlo
    refine ⟨f x.toNatClampNeg, ?_, hf _⟩
    unfold jv_al
    rw [g2]
    exact if_pos ⟨hty, hi⟩
theorem jh_st {a q kd lo : Nat} {t : jk_T} {ty : FieldType} {x : Int32} {v : Value} (hO : jk_Ok RT ρ h) (ha : ρ a = some q) (hr : RT[q]? = some (.inr (kd, lo, t))) (hty : jt_at[kd]? = some ty) (hs : ¬ kd = jt_scr) (h0 : 0 ≤ x.toInt) (h1 : x.toInt < (lo : Int)) (hv : jk_V ρ t v) (hp : pr q 0 = false) : ∃ h', jv_as h a ty x v = some h' ∧ jk_Ok RT ρ h' ∧ jk_Fr pr ρ h h' ∧ ∀ b c m, jv_gf h' b c m = jv_gf h b c m := by
  obtain ⟨d, c, g1, g2, g3⟩ := hO a q ha
  rw [hr] at g1
  cases g1
  rcases c with ⟨ci2, fs⟩ | ⟨kd2, n, f⟩
  · exact g3.elim
  · obtain ⟨rfl, hlo, hle, hf⟩ := g3
    have hi := jk_idx (n := n) (lo := lo) (j := (x.toInt, x.toInt)) (x := x) h0 h1 ⟨Int.le_refl _, Int.le_refl _⟩ hlo
    refine ⟨(jv_up h.1 a (.inr (kd2, n, updV f x.toNatClampNeg v)), h.2), ?_, jk_Ok_up hO ha hr ⟨rfl, hlo, hle, fun i => ?_⟩, jk_Fr_up ha g2 ⟨rfl, rfl, fun z => ?_⟩, fun b c m => ?_⟩
    · unfold jv_as
      rw [g2]
      exact if_pos ⟨hs, hty, hi⟩
    · unfold updV
      split
      · exact hv
      · exact hf i
    · rw [hp] at z
      cases z
    · unfold jv_gf jv_up
      simp only
      by_cases e : b = a
      · subst e
        rw [if_pos rfl, g2]
      · rw [if_neg e]
theorem jh_kn {a q kd lo : Nat} {t : jk_T} {C : String} (hO : jk_Ok RT ρ h) (ha : ρ a = some q) (hr : RT[q]? = some (.inr (kd, lo, t))) (hty : jt_at[kd]? = some (.object C)) (hs : ¬ kd = jt_scr) : jv_kn h a = some C := by
  obtain ⟨d, c, g1, g2, g3⟩ := hO a q ha
  rw [hr] at g1
  cases g1
  rcases c with ⟨ci2, fs⟩ | ⟨kd2, n, f⟩
  · exact g3.elim
  · obtain ⟨rfl, _⟩ := g3
    exact jk_kn_ok ⟨n, f, g2⟩ hs hty
theorem jh_cl {a q ci : Nat} {ts : List jk_T} (hO : jk_Ok RT ρ h) (ha : ρ a = some q) (hr : RT[q]? = some (.inl (ci, ts))) : jv_cl h a = some ci := by
  obtain ⟨d, c, g1, g2, g3⟩ := hO a q ha
  rw [hr] at g1
  cases g1
  rcases c with ⟨ci2, fs⟩ | ⟨kd2, n, f⟩
  · obtain ⟨rfl, _⟩ := g3
    unfold jv_cl
    rw [g2]
  · exact g3.elim
theorem jh_ref {q : Nat} {v : Value} (hv : jk_V ρ (.inr (.inr (q, true))) v) : ∃ a, v = .ref a ∧ ρ a = some q := by
  rcases hv with ⟨e, _⟩ | hv
  · cases e
  · exact hv
theorem jh_rfn {q : Nat} {v : Value} (hv : jk_V ρ (.inr (.inr (q, false))) v) : ∃ r, v = va_rf r ∧ ∀ a, r = some a → ρ a = some q := by
  rcases hv with ⟨_, rfl⟩ | ⟨a, rfl, ha⟩
  · exact ⟨none, rfl, fun a e => by cases e⟩
  · exact ⟨some a, rfl, fun b e => by cases e; exact ha⟩
theorem jh_rfV {q : Nat} {r : Option Nat} (hr : ∀ a, r = some a → ρ a = some q) : jk_V ρ (.inr (.inr (q, false))) (va_rf r) := by
  cases r with
  | none => exact Or.inl ⟨rfl, rfl⟩
  | some a => exact Or.inr ⟨a, rfl, hr a rfl⟩
theorem jh_0 : (0 : Int32).toInt = 0 := by decide
theorem jh_lt0 {x : Int32} : x < 0 ↔ x.toInt < 0 := by rw [Int32.lt_iff_toInt_lt, jh_0]
theorem jh_leN {x : Int32} {n : Nat} (hn : n < 2 ^ 31) : nI n ≤ x ↔ (n : Int) ≤ x.toInt := by rw [Int32.le_iff_toInt_le, nI_toInt hn]
theorem jh_ltN {x : Int32} {n : Nat} (hn : n < 2 ^ 31) : x < nI n ↔ x.toInt < (n : Int) := by rw [Int32.lt_iff_toInt_lt, nI_toInt hn]
theorem jh_add1 {x : Int32} (h1 : x.toInt < 2147483647) : (x + nI 1).toInt = x.toInt + 1 := by
  rw [Int32.toInt_add, nI_toInt (by decide)]
  have := x.le_toInt
  exact Int.bmod_eq_of_le (by omega) (by omega)
theorem jh_sub1 {x : Int32} (h1 : -2147483648 < x.toInt) : (x - nI 1).toInt = x.toInt - 1 := by
  rw [Int32.toInt_sub, nI_toInt (by decide)]
  have := x.toInt_lt
  exact Int.bmod_eq_of_le (by omega) (by omega)
/-- what a method by hand gives -/
def jh_G (rt : Option jk_T) (ρ : jk_R) (h : jv_H) (o : Option jv_Z) : Prop := jk_Gd jc_RT jc_pr rt ρ h o
theorem jh_sp1 {y d q : Nat} {rt : Option jk_T} (hs : jc_sg y = some ([.inr (.inr (q, true))], rt)) (H : ∀ (ρ : jk_R) (h : jv_H) (a : Nat), jk_Ok jc_RT ρ h → ρ a = some q → jk_Gd jc_RT jc_pr rt ρ h (jv_run d y [.ref a] h)) : jk_Sp jc_RT jc_pr jc_sg (jv_run d) y := by
  intro ats rt' e ρ h as hO hV
  rw [hs] at e
  cases e
  rcases as with _ | ⟨v, _ | ⟨w, as⟩⟩
  · exact hV.elim
  · obtain ⟨a, rfl, ha⟩ := jh_ref hV.1
    exact H ρ h a hO ha
  · exact hV.2.elim
theorem jh_sp2 {y d q : Nat} {t : jk_T} {rt : Option jk_T} (hs : jc_sg y = some ([.inr (.inr (q, true)), t], rt)) (H : ∀ (ρ : jk_R) (h : jv_H) (a : Nat) (v : Value), jk_Ok jc_RT ρ h → ρ a = some q → jk_V ρ t v → jk_Gd jc_RT jc_pr rt ρ h (jv_run d y [.ref a, v] h)) : jk_Sp jc_RT jc_pr jc_sg (jv_run d) y := by
  intro ats rt' e ρ h as hO hV
  rw [hs] at e
  cases e
  rcases as with _ | ⟨v, _ | ⟨w, _ | ⟨u, as⟩⟩⟩
  · exact hV.elim
  · exact hV.2.elim
  · obtain ⟨a, rfl, ha⟩ := jh_ref hV.1
    exact H ρ h a w hO ha hV.2.1
  · exact hV.2.2.elim
theorem jh_sp3 {y d q : Nat} {t u : jk_T} {rt : Option jk_T} (hs : jc_sg y = some ([.inr (.inr (q, true)), t, u], rt)) (H : ∀ (ρ : jk_R) (h : jv_H) (a : Nat) (v w : Value), jk_Ok jc_RT ρ h → ρ a = some q → jk_V ρ t v → jk_V ρ u w → jk_Gd jc_RT jc_pr rt ρ h (jv_run d y [.ref a, v, w] h)) : jk_Sp jc_RT jc_pr jc_sg (jv_run d) y := by
  intro ats rt' e ρ h as hO hV
  rw [hs] at e
  cases e
  rcases as with _ | ⟨v, _ | ⟨w, _ | ⟨u', _ | ⟨u2, as⟩⟩⟩⟩
  · exact hV.elim
  · exact hV.2.elim
  · exact hV.2.2.elim
  · obtain ⟨a, rfl, ha⟩ := jh_ref hV.1
    exact H ρ h a w u' hO ha hV.2.1 hV.2.2.1
  · exact hV.2.2.2.elim
theorem jh_same {rt : Option jk_T} {r : Option Value} (hO : jk_Ok jc_RT ρ h) (hr : jk_Rt ρ rt r) : jk_Gd jc_RT jc_pr rt ρ h (some (r, h)) := ⟨r, h, rfl, hO, jk_Fr_rf h, hr⟩
/-! isInStore, and what asks it first -/
theorem jh_inStore {d : Nat} {a : Int32} : jv_run (d + 1) 91 [.int a] h = some (some (.int (if a < 0 then nI 0 else if nI 1024 ≤ a then nI 0 else nI 1)), h) := by
  rw [N91]
  simp (disch := first | omega | exact id rfl | exact jd_i | exact jd_r | exact jd_n | exact jd_f | decide) only [E91_0, E91_1, E91_4, E91_5, E91_8, E91_11, E91_12, E91_15, E91_16]
  by_cases h1 : a < 0
  · simp only [h1, if_true]
  · by_cases h2 : nI 1024 ≤ a
    · simp only [h1, h2, if_true, if_false]
    · simp only [h1, h2, if_false]
theorem jc_s95 (d : Nat) : jk_Sp jc_RT jc_pr jc_sg (jv_run (d + 2)) 95 := jh_sp2 (q := 4) (t := jk_top) rfl fun ρ h a v hO ha hv => by
  obtain ⟨x, rfl, _⟩ := hv
  obtain ⟨w, e1, hw⟩ := jh_get (k := 6) hO ha rfl rfl
  obtain ⟨b, rfl, hb⟩ := jh_ref hw
  rw [N95]
  by_cases h1 : x < 0
  · simp (disch := first | omega | exact id rfl | exact jd_i | exact jd_r | exact jd_n | exact jd_f | decide | (simp (disch := omega) only [jh_inStore, h1, e1, Option.isSome_some])) only [jh_inStore, h1, e1, Option.isSome_some, Option.getD_some, Option.toList_some, Option.toList_none, List.cons_append, List.nil_append, E95_0, E95_1, E95_4, E95_7, E95_8, E95_11, E95_12, E95_14, E95_15, E95_16, E95_19, E95_20, E95_20n, E95_20r, if_true, if_false]
    exact jh_same hO (Or.inl ⟨rfl, rfl⟩)
  · by_cases h2 : nI 1024 ≤ x
    · simp (disch := first | omega | exact id rfl | exact jd_i | exact jd_r | exact jd_n | exact jd_f | decide | (simp (disch := omega) only [jh_inStore, h1, h2, e1, Option.isSome_some])) only [jh_inStore, h1, h2, e1, Option.isSome_some, Option.getD_some, Option.toList_some, Option.toList_none, List.cons_append, List.nil_append, E95_0, E95_1, E95_4, E95_7, E95_8, E95_11, E95_12, E95_14, E95_15, E95_16, E95_19, E95_20, E95_20n, E95_20r, if_true, if_false]
      exact jh_same hO (Or.inl ⟨rfl, rfl⟩)
    · obtain ⟨k, hk, rfl⟩ := nI_of h1
      rw [nI_leI (by decide) hk] at h2
      have e2 : nI k / nI 16 = nI (k / 16) := pk_div hk (by decide) (by decide)
      have ht : (nI (k / 16)).toInt = ((k / 16 : Nat) : Int) := nI_toInt (by omega)
      obtain ⟨u, e3, hu⟩ := jh_ld (x := nI (k / 16)) hO hb (q := 14) (kd := 3) rfl rfl (by rw [ht]; omega) (by rw [ht]; omega)
      have e4 := jh_kn hO hb (q := 14) (kd := 3) rfl rfl (by decide)
      obtain ⟨r, rfl, hr⟩ := jh_rfn hu
      have h3 : ¬ nI 1024 ≤ nI k := by rw [nI_leI (by decide) hk]; exact h2
      simp (disch := first | omega | exact id rfl | exact jd_i | exact jd_r | exact jd_n | exact jd_f | decide | (simp (disch := omega) only [jh_inStore, h1, h3, e1, e2, e3, e4, Option.isSome_some])) only [jh_inStore, h1, h3, e1, e2, e3, e4, Option.isSome_some, Option.getD_some, Option.toList_some, Option.toList_none, List.cons_append, List.nil_append, E95_0, E95_1, E95_4, E95_7, E95_8, E95_11, E95_12, E95_14, E95_15, E95_16, E95_19, E95_20, E95_20n, E95_20r, if_true, if_false]
      exact jh_same hO (jh_rfV hr)
theorem jc_s97 (d : Nat) : jk_Sp jc_RT jc_pr jc_sg (jv_run (d + 2)) 97 := jh_sp2 (q := 4) (t := jk_top) rfl fun ρ h a v hO ha hv => by
  obtain ⟨x, rfl, _⟩ := hv
  obtain ⟨w, e1, hw⟩ := jh_get (k := 5) hO ha rfl rfl
  obtain ⟨b, rfl, hb⟩ := jh_ref hw
  rw [N97]
  by_cases h1 : x < 0
  · simp (disch := first | omega | exact id rfl | exact jd_i | exact jd_r | exact jd_n | exact jd_f | decide | (simp (disch := omega) only [jh_inStore, h1, e1, Option.isSome_some])) only [jh_inStore, h1, e1, Option.isSome_some, Option.getD_some, Option.toList_some, Option.toList_none, List.cons_append, List.nil_append, E97_0, E97_1, E97_4, E97_7, E97_8, E97_11, E97_12, E97_13, E97_16, E97_17, if_true, if_false]
    exact jh_same hO ⟨_, rfl⟩
  · by_cases h2 : nI 1024 ≤ x
    · simp (disch := first | omega | exact id rfl | exact jd_i | exact jd_r | exact jd_n | exact jd_f | decide | (simp (disch := omega) only [jh_inStore, h1, h2, e1, Option.isSome_some])) only [jh_inStore, h1, h2, e1, Option.isSome_some, Option.getD_some, Option.toList_some, Option.toList_none, List.cons_append, List.nil_append, E97_0, E97_1, E97_4, E97_7, E97_8, E97_11, E97_12, E97_13, E97_16, E97_17, if_true, if_false]
      exact jh_same hO ⟨_, rfl⟩
    · have h3 : ¬ (1024 : Int) ≤ x.toInt := fun q => h2 ((jh_leN (by decide)).mpr q)
      have h4 : ¬ x.toInt < 0 := fun q => h1 (jh_lt0.mpr q)
      obtain ⟨u, e3, hu⟩ := jh_ld (x := x) hO hb (q := 13) (kd := 1) rfl rfl (by omega) (by omega)
      obtain ⟨y, rfl⟩ := hu
      simp (disch := first | omega | exact id rfl | exact jd_i | exact jd_r | exact jd_n | exact jd_f | decide | (simp (disch := omega) only [jh_inStore, h1, h2, e1, e3, Option.isSome_some])) only [jh_inStore, h1, h2, e1, e3, Option.isSome_some, Option.getD_some, Option.toList_some, Option.toList_none, List.cons_append, List.nil_append, E97_0, E97_1, E97_4, E97_7, E97_8, E97_11, E97_12, E97_13, E97_16, E97_17, if_true, if_false]
      exact jh_same hO ⟨_, rfl⟩
theorem jc_s98 (d : Nat) : jk_Sp jc_RT jc_pr jc_sg (jv_run (d + 2)) 98 := jh_sp3 (q := 4) (t := jk_top) (u := jk_lg) rfl fun ρ h a v w hO ha hv hw' => by
  obtain ⟨x, rfl, _⟩ := hv
  obtain ⟨y, rfl⟩ := hw'
  obtain ⟨w, e1, hw⟩ := jh_get (k := 5) hO ha rfl rfl
  obtain ⟨b, rfl, hb⟩ := jh_ref hw
  rw [N98]
  by_cases h1 : x < 0
  · simp (disch := first | omega | exact id rfl | exact jd_i | exact jd_r | exact jd_n | exact jd_f | decide | (simp (disch := omega) only [jh_inStore, h1, e1, Option.isSome_some])) only [jh_inStore, h1, e1, Option.isSome_some, Option.getD_some, Option.toList_some, Option.toList_none, List.cons_append, List.nil_append, E98_0, E98_1, E98_4, E98_7, E98_8, E98_11, E98_12, E98_13, E98_14, if_true, if_false]
    exact jh_same hO True.intro
  · by_cases h2 : nI 1024 ≤ x
    · simp (disch := first | omega | exact id rfl | exact jd_i | exact jd_r | exact jd_n | exact jd_f | decide | (simp (disch := omega) only [jh_inStore, h1, h2, e1, Option.isSome_some])) only [jh_inStore, h1, h2, e1, Option.isSome_some, Option.getD_some, Option.toList_some, Option.toList_none, List.cons_append, List.nil_append, E98_0, E98_1, E98_4, E98_7, E98_8, E98_11, E98_12, E98_13, E98_14, if_true, if_false]
      exact jh_same hO True.intro
    · have h3 : ¬ (1024 : Int) ≤ x.toInt := fun q => h2 ((jh_leN (by decide)).mpr q)
      have h4 : ¬ x.toInt < 0 := fun q => h1 (jh_lt0.mpr q)
      obtain ⟨h', e3, hO', hF, _⟩ := jh_st (pr := jc_pr) (x := x) (v := .long y) hO hb (q := 13) (kd := 1) rfl rfl (by decide) (by omega) (by omega) ⟨y, rfl⟩ rfl
      simp (disch := first | omega | exact id rfl | exact jd_i | exact jd_r | exact jd_n | exact jd_f | decide | (simp (disch := omega) only [jh_inStore, h1, h2, e1, e3, Option.isSome_some])) only [jh_inStore, h1, h2, e1, e3, Option.isSome_some, Option.getD_some, Option.toList_some, Option.toList_none, List.cons_append, List.nil_append, E98_0, E98_1, E98_4, E98_7, E98_8, E98_11, E98_12, E98_13, E98_14, if_true, if_false]
      exact ⟨_, _, rfl, hO', hF, True.intro⟩
/-! a job's readiness, its print, its tape, its numbers -/
theorem jc_s92 (d : Nat) : jk_Sp jc_RT jc_pr jc_sg (jv_run (d + 1)) 92 := jh_sp2 (q := 4) (t := .inl (0, 1)) rfl fun ρ h a v hO ha hv => by
  have hv0 := hv
  obtain ⟨x, rfl, x1, x2⟩ := hv
  obtain ⟨w, e1, hw⟩ := jh_get (k := 15) hO ha rfl rfl
  obtain ⟨y, rfl, _⟩ := hw
  obtain ⟨w, e2, hw⟩ := jh_get (k := 14) hO ha rfl rfl
  obtain ⟨r, rfl, hr⟩ := jh_rfn hw
  rw [N92]
  have b01 : ∀ z : Int32, z = nI 0 ∨ z = nI 1 → jk_V ρ (.inl (0, 1)) (.int z) := fun z hz => by
    rcases hz with rfl | rfl
    · exact ⟨_, rfl, by decide, by decide⟩
    · exact ⟨_, rfl, by decide, by decide⟩
  by_cases h1 : y = 0
  · cases r with
    | none =>
      simp (disch := first | omega | exact id rfl | exact jd_i | exact jd_r | exact jd_n | exact jd_f | decide | (simp (disch := omega) only [e1, e2, h1, Option.isSome_some])) only [e1, e2, h1, Option.isSome_some, Option.getD_some, Option.toList_some, Option.toList_none, List.cons_append, List.nil_append, E92_0, E92_1, E92_4, E92_9, E92_10, if_true, if_false]
      rw [E92_13r, if_pos rfl]
      simp (disch := first | omega | exact id rfl | exact jd_i | exact jd_r | exact jd_n | exact jd_f | decide | (simp (disch := omega) only [e1, Option.isSome_some])) only [e1, Option.isSome_some, Option.getD_some, Option.toList_some, Option.toList_none, List.cons_append, List.nil_append, E92_26, E92_27, E92_31]
      exact jh_same hO (b01 _ (Or.inr rfl))
    | some b =>
      obtain ⟨w, e3, hw⟩ := jh_get (k := 4) hO (hr b rfl) rfl rfl
      obtain ⟨z, rfl, _⟩ := hw
      by_cases h2 : z = 0
      · simp (disch := first | omega | exact id rfl | exact jd_i | exact jd_r | exact jd_n | exact jd_f | decide | (simp (disch := omega) only [e1, e2, e3, h1, h2, va_rf, Option.isSome_some])) only [e1, e2, e3, h1, h2, va_rf, Option.isSome_some, Option.getD_some, Option.toList_some, Option.toList_none, List.cons_append, List.nil_append, E92_0, E92_1, E92_4, E92_7, E92_8, E92_9, E92_10, E92_13, E92_13r, E92_16, E92_17, E92_20, E92_23, E92_26, E92_27, E92_30, E92_31, if_true, if_false]
        exact jh_same hO (b01 _ (Or.inr rfl))
      · simp (disch := first | omega | exact id rfl | exact jd_i | exact jd_r | exact jd_n | exact jd_f | decide | (simp (disch := omega) only [e1, e2, e3, h1, h2, va_rf, Option.isSome_some])) only [e1, e2, e3, h1, h2, va_rf, Option.isSome_some, Option.getD_some, Option.toList_some, Option.toList_none, List.cons_append, List.nil_append, E92_0, E92_1, E92_4, E92_7, E92_8, E92_9, E92_10, E92_13, E92_13r, E92_16, E92_17, E92_20, E92_23, E92_26, E92_27, E92_30, E92_31, if_true, if_false]
        exact jh_same hO (b01 _ (Or.inl rfl))
  · have hx : narrow .boolean (.int x) = .int x ∧ fits .boolean (.int x) = true := jk_fit_ok (t := .inl (0, 1)) rfl hv0
    simp (disch := first | omega | exact id rfl | exact jd_i | exact jd_r | exact jd_n | exact jd_f | decide | (simp (disch := omega) only [e1, e2, h1, hx.1, hx.2, Option.isSome_some])) only [e1, e2, h1, hx.1, hx.2, Option.isSome_some, Option.getD_some, Option.toList_some, Option.toList_none, List.cons_append, List.nil_append, E92_0, E92_1, E92_4, E92_7, E92_8, E92_9, E92_10, E92_13, E92_13r, E92_16, E92_17, E92_20, E92_23, E92_26, E92_27, E92_30, E92_31, if_true, if_false]
    exact jh_same hO hv0
end JH
end
section
/-! a job's print, tape and numbers; the drum's rows: by hand -/
section JH
variable {ρ : jk_R} {h : jv_H}
theorem jc_s108 (d : Nat) : jk_Sp jc_RT jc_pr jc_sg (jv_run (d + 1)) 108 := jh_sp2 (q := 4) (t := jk_top) rfl fun ρ h a v hO ha hv => by
  obtain ⟨x, rfl, _⟩ := hv
  obtain ⟨w, e1, hw⟩ := jh_get (k := 10) hO ha rfl rfl
  obtain ⟨y, rfl, _⟩ := hw
  obtain ⟨w, e2, hw⟩ := jh_get (k := 9) hO ha rfl rfl
  obtain ⟨b, rfl, hb⟩ := jh_ref hw
  rw [N108]
  by_cases h1 : y < 0
  · simp (disch := first | omega | exact id rfl | exact jd_i | exact jd_r | exact jd_n | exact jd_f | decide | (simp (disch := omega) only [e1, e2, h1, Option.isSome_some])) only [e1, e2, h1, Option.isSome_some, Option.getD_some, Option.toList_some, Option.toList_none, List.cons_append, List.nil_append, E108_0, E108_1, E108_4, E108_7, E108_8, E108_11, E108_14, E108_17, E108_19, E108_20, E108_21, E108_24, E108_25, E108_28, E108_29, E108_30, E108_31, E108_31i, E108_32, E108_35, E108_36, E108_37, E108_40, E108_41, if_true, if_false]
    exact jh_same hO (jk_V_top (ρ := ρ))
  · by_cases h2 : y < nI 400
    · have h3 : y.toInt < 400 := (jh_ltN (by decide)).mp h2
      have h4 : ¬ y.toInt < 0 := fun q => h1 (jh_lt0.mpr q)
      obtain ⟨h', e3, hO', hF, hg⟩ := jh_st (pr := jc_pr) (x := y) (v := .int x) hO hb (q := 16) (kd := 0) rfl rfl (by decide) (by omega) (by omega) jk_V_top rfl
      have e4 : jv_gf h' a 4 10 = some (.int y) := (hg a 4 10).trans e1
      obtain ⟨h2', e5, hO2, hF2, _⟩ := jh_put (pr := jc_pr) (k := 10) (v := .int (y + nI 1)) hO' ha rfl rfl jk_V_top rfl rfl
      simp (disch := first | omega | exact id rfl | exact jd_i | exact jd_r | exact jd_n | exact jd_f | decide | (simp (disch := omega) only [e1, e2, e3, e4, e5, h1, h2, Option.isSome_some])) only [e1, e2, e3, e4, e5, h1, h2, Option.isSome_some, Option.getD_some, Option.toList_some, Option.toList_none, List.cons_append, List.nil_append, E108_0, E108_1, E108_4, E108_7, E108_8, E108_11, E108_14, E108_17, E108_19, E108_20, E108_21, E108_24, E108_25, E108_28, E108_29, E108_30, E108_31, E108_31i, E108_32, E108_35, E108_36, E108_37, E108_40, E108_41, if_true, if_false]
      exact ⟨_, _, rfl, hO2, jk_Fr_tr hF hF2, jk_V_top (ρ := ρ)⟩
    · simp (disch := first | omega | exact id rfl | exact jd_i | exact jd_r | exact jd_n | exact jd_f | decide | (simp (disch := omega) only [e1, e2, h1, h2, Option.isSome_some])) only [e1, e2, h1, h2, Option.isSome_some, Option.getD_some, Option.toList_some, Option.toList_none, List.cons_append, List.nil_append, E108_0, E108_1, E108_4, E108_7, E108_8, E108_11, E108_14, E108_17, E108_19, E108_20, E108_21, E108_24, E108_25, E108_28, E108_29, E108_30, E108_31, E108_31i, E108_32, E108_35, E108_36, E108_37, E108_40, E108_41, if_true, if_false]
      exact jh_same hO (jk_V_top (ρ := ρ))
theorem jc_s110 (d : Nat) : jk_Sp jc_RT jc_pr jc_sg (jv_run (d + 1)) 110 := jh_sp1 (q := 4) rfl fun ρ h a hO ha => by
  obtain ⟨w, e1, hw⟩ := jh_get (k := 8) hO ha rfl rfl
  obtain ⟨y, rfl, _⟩ := hw
  obtain ⟨w, e2, hw⟩ := jh_get (k := 7) hO ha rfl rfl
  obtain ⟨b, rfl, hb⟩ := jh_ref hw
  obtain ⟨dd, c, g1, g2, g3⟩ := hO b 15 hb
  cases g1
  rcases c with ⟨ci2, fs⟩ | ⟨kd2, n, f⟩
  · exact g3.elim
  · obtain ⟨rfl, hlo, hle, hf⟩ := g3
    have e3 : jv_ln h b = some n := by unfold jv_ln; rw [g2]
    have en : (nI n).toInt = (n : Int) := nI_toInt (by omega)
    rw [N110]
    by_cases h1 : y < 0
    · simp (disch := first | omega | exact id rfl | exact jd_i | exact jd_r | exact jd_n | exact jd_f | decide | (simp (disch := omega) only [e1, e2, e3, h1, Option.isSome_some])) only [e1, e2, e3, h1, Option.isSome_some, Option.getD_some, Option.toList_some, Option.toList_none, List.cons_append, List.nil_append, E110_0, E110_1, E110_4, E110_7, E110_8, E110_11, E110_12, E110_15, E110_16, E110_19, E110_20, E110_23, E110_24, E110_27, E110_28, E110_31, E110_32, if_true, if_false]
      exact jh_same hO (jk_V_top (ρ := ρ))
    · by_cases h2 : nI n ≤ y
      · simp (disch := first | omega | exact id rfl | exact jd_i | exact jd_r | exact jd_n | exact jd_f | decide | (simp (disch := omega) only [e1, e2, e3, h1, h2, Option.isSome_some])) only [e1, e2, e3, h1, h2, Option.isSome_some, Option.getD_some, Option.toList_some, Option.toList_none, List.cons_append, List.nil_append, E110_0, E110_1, E110_4, E110_7, E110_8, E110_11, E110_12, E110_15, E110_16, E110_19, E110_20, E110_23, E110_24, E110_27, E110_28, E110_31, E110_32, if_true, if_false]
        exact jh_same hO (jk_V_top (ρ := ρ))
      · have h3 : y.toInt < (n : Int) := by
          rw [Int32.not_le, Int32.lt_iff_toInt_lt, en] at h2
          exact h2
        have h4 : ¬ y.toInt < 0 := fun q => h1 (jh_lt0.mpr q)
        have hi := jk_idx (n := n) (lo := n) (j := (y.toInt, y.toInt)) (x := y) (by show 0 ≤ y.toInt; omega) h3 ⟨Int.le_refl _, Int.le_refl _⟩ (Nat.le_refl n)
        have e4 : jv_al h b .int y = some (f y.toNatClampNeg) := by
          unfold jv_al
          rw [g2]
          exact if_pos ⟨rfl, hi⟩
        obtain ⟨z, e5, _⟩ := hf y.toNatClampNeg
        rw [e5] at e4
        simp (disch := first | omega | exact id rfl | exact jd_i | exact jd_r | exact jd_n | exact jd_f | decide | (simp (disch := omega) only [e1, e2, e3, e4, h1, h2, Option.isSome_some])) only [e1, e2, e3, e4, h1, h2, Option.isSome_some, Option.getD_some, Option.toList_some, Option.toList_none, List.cons_append, List.nil_append, E110_0, E110_1, E110_4, E110_7, E110_8, E110_11, E110_12, E110_15, E110_16, E110_19, E110_20, E110_23, E110_24, E110_27, E110_28, E110_31, E110_32, if_true, if_false]
        exact jh_same hO (jk_V_top (ρ := ρ))
theorem jh_cmp0 {x : Int64} (hx : ¬ lg_cmp x 0 = 0) : ¬ x = 0 := fun e => hx (by rw [e]; decide)
theorem jc_s113 (d : Nat) : jk_Sp jc_RT jc_pr jc_sg (jv_run (d + 1)) 113 := jh_sp3 (q := 4) (t := jk_lg) (u := .inl (0, 1)) rfl fun ρ h a v w hO ha hv hw' => by
  obtain ⟨x, rfl⟩ := hv
  obtain ⟨y, rfl, _⟩ := hw'
  obtain ⟨w, e1, hw⟩ := jh_get (k := 2) hO ha rfl rfl
  obtain ⟨z, rfl⟩ := hw
  have hp : ∀ v : Int64, ∃ h', jv_pf h a 4 2 (.long v) = some h' ∧ jk_Ok jc_RT ρ h' ∧ jk_Fr jc_pr ρ h h' := fun v => by
    obtain ⟨h', e, hO', hF, _⟩ := jh_put (pr := jc_pr) (k := 2) (v := .long v) hO ha rfl rfl ⟨v, rfl⟩ rfl rfl
    exact ⟨h', e, hO', hF⟩
  rw [N113]
  by_cases h1 : lg_cmp x 0 = 0
  · simp (disch := first | omega | exact id rfl | exact jd_i | exact jd_r | exact jd_n | exact jd_f | decide | (simp (disch := omega) only [e1, h1, Option.isSome_some])) only [e1, h1, Option.isSome_some, Option.getD_some, Option.toList_some, Option.toList_none, List.cons_append, List.nil_append, E113_0, E113_3, E113_5, E113_6, E113_7, E113_8, E113_11, E113_12, E113_14, E113_15, E113_18, E113_19, E113_22, E113_24, E113_25, E113_28, E113_30, E113_31, E113_32, E113_33, E113_36, E113_37, E113_40, E113_41, E113_42, E113_45, E113_46, E113_49, E113_50, E113_51, E113_54, E113_55, if_true, if_false]
    exact jh_same hO (jk_V_top (ρ := ρ))
  · have hx := jh_cmp0 h1
    by_cases h2 : lg_cmp x (-140737488355328) = 0
    · simp (disch := first | omega | exact id rfl | exact jd_i | exact jd_r | exact jd_n | exact jd_f | decide | (simp (disch := omega) only [e1, h1, h2, Option.isSome_some])) only [e1, h1, h2, Option.isSome_some, Option.getD_some, Option.toList_some, Option.toList_none, List.cons_append, List.nil_append, E113_0, E113_3, E113_5, E113_6, E113_7, E113_8, E113_11, E113_12, E113_14, E113_15, E113_18, E113_19, E113_22, E113_24, E113_25, E113_28, E113_30, E113_31, E113_32, E113_33, E113_36, E113_37, E113_40, E113_41, E113_42, E113_45, E113_46, E113_49, E113_50, E113_51, E113_54, E113_55, if_true, if_false]
      exact jh_same hO (jk_V_top (ρ := ρ))
    · by_cases h3 : lg_cmp z (-140737488355328) = 0
      · simp (disch := first | omega | exact id rfl | exact jd_i | exact jd_r | exact jd_n | exact jd_f | decide | (simp (disch := omega) only [e1, h1, h2, h3, Option.isSome_some])) only [e1, h1, h2, h3, Option.isSome_some, Option.getD_some, Option.toList_some, Option.toList_none, List.cons_append, List.nil_append, E113_0, E113_3, E113_5, E113_6, E113_7, E113_8, E113_11, E113_12, E113_14, E113_15, E113_18, E113_19, E113_22, E113_24, E113_25, E113_28, E113_30, E113_31, E113_32, E113_33, E113_36, E113_37, E113_40, E113_41, E113_42, E113_45, E113_46, E113_49, E113_50, E113_51, E113_54, E113_55, if_true, if_false]
        exact jh_same hO (jk_V_top (ρ := ρ))
      · by_cases h4 : y = 0
        · obtain ⟨h', e2, hO', hF⟩ := hp (z / x)
          simp (disch := first | omega | exact id rfl | exact jd_i | exact jd_r | exact jd_n | exact jd_f | decide | (simp (disch := omega) only [e1, e2, h1, h2, h3, h4, hx, Option.isSome_some])) only [e1, e2, h1, h2, h3, h4, hx, Option.isSome_some, Option.getD_some, Option.toList_some, Option.toList_none, List.cons_append, List.nil_append, E113_0, E113_3, E113_5, E113_6, E113_7, E113_8, E113_11, E113_12, E113_14, E113_15, E113_18, E113_19, E113_22, E113_24, E113_25, E113_28, E113_30, E113_31, E113_32, E113_33, E113_36, E113_37, E113_40, E113_41, E113_42, E113_45, E113_46, E113_49, E113_50, E113_51, E113_54, E113_55, if_true, if_false, not_false_eq_true]
          exact ⟨_, _, rfl, hO', hF, jk_V_top (ρ := ρ)⟩
        · obtain ⟨h', e2, hO', hF⟩ := hp (z - z / x * x)
          simp (disch := first | omega | exact id rfl | exact jd_i | exact jd_r | exact jd_n | exact jd_f | decide | (simp (disch := omega) only [e1, e2, h1, h2, h3, h4, hx, Option.isSome_some])) only [e1, e2, h1, h2, h3, h4, hx, Option.isSome_some, Option.getD_some, Option.toList_some, Option.toList_none, List.cons_append, List.nil_append, E113_0, E113_3, E113_5, E113_6, E113_7, E113_8, E113_11, E113_12, E113_14, E113_15, E113_18, E113_19, E113_22, E113_24, E113_25, E113_28, E113_30, E113_31, E113_32, E113_33, E113_36, E113_37, E113_40, E113_41, E113_42, E113_45, E113_46, E113_49, E113_50, E113_51, E113_54, E113_55, if_true, if_false, not_false_eq_true]
          exact ⟨_, _, rfl, hO', hF, jk_V_top (ρ := ρ)⟩
/-! the root's loop: its bit is halved 24 times -/
def jh_b (t : Nat) : Int64 := if t = 0 then 0 else Int64.ofNat (2 ^ (t - 1))
theorem jh_b1 : ∀ t, t < 24 → (jh_b (t + 1)) >>> ((nI 1).toInt64 &&& 63) = jh_b t ∧ ¬ lg_cmp (jh_b (t + 1)) 0 ≤ 0 := by decide +kernel
theorem jh_root {call : jv_F} {a : Nat} {z : Int64} (e1 : jv_gf h a 4 2 = some (.long z)) : ∀ t, t ≤ 24 → ∀ (r : Int64) (l5 l6 : Option Value), ¬ jv_is2 (some l5) = true ∨ l6 = none → ∃ (r' : Int64) (l5' l6' : Option Value), jv_ev call 114 18 [some (.ref a), some (.long r), none, some (.long (jh_b t)), none, l5, l6] [] h = jv_ev call 114 52 [some (.ref a), some (.long r'), none, some (.long 0), none, l5', l6'] [] h
  | 0, _, r, l5, l6, _ => by
    refine ⟨r, l5, l6, ?_⟩
    have hc : lg_cmp (jh_b 0) 0 ≤ 0 := by decide
    have hb : jh_b 0 = 0 := rfl
    rw [E114_18]
    simp (disch := first | omega | exact id rfl | exact jd_i | exact jd_r | exact jd_n | exact jd_f | decide | (simp (disch := omega) only [hb, Option.isSome_some])) only [hb, Option.isSome_some, Option.getD_some, Option.toList_some, Option.toList_none, List.cons_append, List.nil_append, E114_19, E114_20, E114_21, if_pos (show lg_cmp 0 0 ≤ 0 by decide)]
  | t + 1, ht, r, l5, l6, hl => by
    obtain ⟨hb1, hb2⟩ := jh_b1 t (by omega)
    rw [E114_18]
    by_cases h2 : (0 : Int32) < lg_cmp ((r + jh_b (t + 1)) * (r + jh_b (t + 1))) z
    · obtain ⟨r', l5', l6', ih⟩ := jh_root e1 t (by omega) r (some (.long (r + jh_b (t + 1)))) none (Or.inr rfl)
      refine ⟨r', l5', l6', ?_⟩
      rw [← ih]
      simp (disch := first | omega | exact id rfl | exact jd_i | exact jd_r | exact jd_n | exact jd_f | decide | (simp (disch := omega) only [e1, hb1, hb2, h2, Option.isSome_some])) only [e1, hb1, hb2, h2, Option.isSome_some, Option.getD_some, Option.toList_some, Option.toList_none, List.cons_append, List.nil_append, E114_0, E114_1, E114_4, E114_5, E114_6, E114_9, E114_11, E114_12, E114_13, E114_14, E114_17, E114_19, E114_20, E114_21, E114_24, E114_25, E114_26, E114_27, E114_29, E114_31, E114_33, E114_34, E114_35, E114_38, E114_39, E114_42, E114_44, E114_45, E114_46, E114_47, E114_48, E114_49, E114_53, E114_54, E114_57, E114_58, if_true, if_false]
    · obtain ⟨r', l5', l6', ih⟩ := jh_root e1 t (by omega) (r + jh_b (t + 1)) (some (.long (r + jh_b (t + 1)))) none (Or.inr rfl)
      refine ⟨r', l5', l6', ?_⟩
      rw [← ih]
      simp (disch := first | omega | exact id rfl | exact jd_i | exact jd_r | exact jd_n | exact jd_f | decide | (simp (disch := omega) only [e1, hb1, hb2, h2, Option.isSome_some])) only [e1, hb1, hb2, h2, Option.isSome_some, Option.getD_some, Option.toList_some, Option.toList_none, List.cons_append, List.nil_append, E114_0, E114_1, E114_4, E114_5, E114_6, E114_9, E114_11, E114_12, E114_13, E114_14, E114_17, E114_19, E114_20, E114_21, E114_24, E114_25, E114_26, E114_27, E114_29, E114_31, E114_33, E114_34, E114_35, E114_38, E114_39, E114_42, E114_44, E114_45, E114_46, E114_47, E114_48, E114_49, E114_53, E114_54, E114_57, E114_58, if_true, if_false]
theorem jc_s114 (d : Nat) : jk_Sp jc_RT jc_pr jc_sg (jv_run (d + 1)) 114 := jh_sp1 (q := 4) rfl fun ρ h a hO ha => by
  obtain ⟨w, e1, hw⟩ := jh_get (k := 2) hO ha rfl rfl
  obtain ⟨z, rfl⟩ := hw
  rw [N114]
  by_cases h1 : (0 : Int32) ≤ lg_cmp z 0
  · obtain ⟨r', l5', l6', ih⟩ := jh_root (call := jv_run d) e1 24 (Nat.le_refl _) 0 none none (Or.inr rfl)
    obtain ⟨h', e2, hO', hF, _⟩ := jh_put (pr := jc_pr) (k := 2) (v := .long r') hO ha rfl rfl ⟨r', rfl⟩ rfl rfl
    have hb : jh_b 24 = Int64.ofInt 8388608 := by decide +kernel
    have e3 : jv_ev (jv_run d) 114 0 [some (.ref a), none, none, none, none, none, none] [] h = jv_ev (jv_run d) 114 18 [some (.ref a), some (.long 0), none, some (.long (jh_b 24)), none, none, none] [] h := by
      simp (disch := first | omega | exact id rfl | exact jd_i | exact jd_r | exact jd_n | exact jd_f | decide | (simp (disch := omega) only [e1, h1, Option.isSome_some])) only [e1, h1, Option.isSome_some, Option.getD_some, Option.toList_some, Option.toList_none, List.cons_append, List.nil_append, E114_0, E114_1, E114_4, E114_5, E114_6, E114_12, E114_13, E114_14, E114_17, if_true]
      rfl
    rw [e3, ih]
    simp (disch := first | omega | exact id rfl | exact jd_i | exact jd_r | exact jd_n | exact jd_f | decide | (simp (disch := omega) only [e2, Option.isSome_some])) only [e2, Option.isSome_some, Option.getD_some, Option.toList_some, Option.toList_none, List.cons_append, List.nil_append, E114_52, E114_53, E114_54, E114_57, E114_58]
    exact ⟨_, _, rfl, hO', hF, jk_V_top (ρ := ρ)⟩
  · simp (disch := first | omega | exact id rfl | exact jd_i | exact jd_r | exact jd_n | exact jd_f | decide | (simp (disch := omega) only [e1, h1, Option.isSome_some])) only [e1, h1, Option.isSome_some, Option.getD_some, Option.toList_some, Option.toList_none, List.cons_append, List.nil_append, E114_0, E114_1, E114_4, E114_5, E114_6, E114_9, E114_11, if_false]
    exact jh_same hO (jk_V_top (ρ := ρ))
end JH
end
section
/-! the drum's rows, and a number's print: by hand -/
section JH
variable {ρ : jk_R} {h : jv_H}
theorem jh_isA {r : Option Nat} (hO : jk_Ok jc_RT ρ h) (hr : ∀ b, r = some b → ρ b = some 5) : jv_isA h RX0 (va_rf r) = true := jk_isA_ok (RT := jc_RT) (t := .inr (.inr (5, false))) (by decide) (jh_rfV hr) hO
theorem jc_s81 (d : Nat) : jk_Sp jc_RT jc_pr jc_sg (jv_run (d + 1)) 81 := jh_sp2 (q := 3) (t := .inr (.inr (5, true))) rfl fun ρ h a v hO ha hv => by
  obtain ⟨c, rfl, hc⟩ := jh_ref hv
  obtain ⟨w, e1, hw⟩ := jh_get (k := 2) hO ha rfl rfl
  obtain ⟨y, rfl, y0, y1⟩ := hw
  obtain ⟨w, e2, hw⟩ := jh_get (k := 1) hO ha rfl rfl
  obtain ⟨b, rfl, hb⟩ := jh_ref hw
  simp only at y0 y1
  rw [show jv_run (d + 1) 81 [.ref a, .ref c] h = jv_ev (jv_run d) 81 0 [some (.ref a), some (.ref c)] [] h from N81 (a0 := some c)]
  by_cases h1 : nI 17 ≤ y
  · simp (disch := first | omega | exact id rfl | exact jd_i | exact jd_r | exact jd_n | exact jd_f | decide | (simp (disch := omega) only [e1, e2, h1, Option.isSome_some])) only [e1, e2, h1, Option.isSome_some, Option.getD_some, Option.toList_some, Option.toList_none, List.cons_append, List.nil_append, E81_0, E81_1, E81_4, E81_6, E81_9, E81_10, E81_13, E81_14, E81_17, E81_17r, E81_18, E81_19, E81_20, E81_20i, E81_21, E81_24, E81_25, E81_26, E81_29, E81_30, E81_31, E81_34, E81_37, E81_37r, E81_38, E81_41, E81_44, E81_45, E81_48, E81_49, E81_52, if_true]
    exact jh_same hO True.intro
  · have h2 : ¬ (17 : Int) ≤ y.toInt := fun q => h1 ((jh_leN (by decide)).mpr q)
    have hk := jh_kn hO hb (q := 10) (kd := 3) rfl rfl (by decide)
    have hA := jh_isA (r := some c) hO (fun b e => by cases e; exact hc)
    simp only [va_rf] at hA
    obtain ⟨h', e3, hO', hF, hg⟩ := jh_st (pr := jc_pr) (x := y) (v := .ref c) hO hb (q := 10) (kd := 3) rfl rfl (by decide) (by omega) (by omega) (Or.inr ⟨c, rfl, hc⟩) rfl
    have e4 : jv_gf h' a 3 2 = some (.int y) := (hg a 3 2).trans e1
    have hy : (y + nI 1).toInt = y.toInt + 1 := jh_add1 (by omega)
    obtain ⟨h2', e5, hO2, hF2, _, hg2, _⟩ := jh_put (pr := jc_pr) (k := 2) (v := .int (y + nI 1)) hO' ha rfl rfl ⟨_, rfl, by rw [hy]; show (0 : Int) ≤ _; omega, by rw [hy]; show _ ≤ (17 : Int); omega⟩ rfl rfl
    obtain ⟨w, e6, hw⟩ := jh_get (k := 5) hO2 ha rfl rfl
    obtain ⟨p, rfl, _⟩ := hw
    obtain ⟨w, e7, hw⟩ := jh_get (k := 5) hO2 hc rfl rfl
    obtain ⟨q, rfl, _⟩ := hw
    obtain ⟨ha1, f1, hO3, hF3, _⟩ := jh_put (pr := jc_pr) (k := 5) (v := .int (nI 1)) hO2 ha rfl rfl ⟨_, rfl, by decide, by decide⟩ rfl rfl
    obtain ⟨ha0, f0, hO4, hF4, _⟩ := jh_put (pr := jc_pr) (k := 5) (v := .int (nI 0)) hO2 ha rfl rfl ⟨_, rfl, by decide, by decide⟩ rfl rfl
    by_cases h3 : p = 0
    · by_cases h4 : q = 0
      · simp (disch := first | omega | exact id rfl | exact jd_i | exact jd_r | exact jd_n | exact jd_f | decide | (simp (disch := omega) only [e1, e2, e3, e4, e5, e6, e7, f0, f1, hk, hA, h1, h3, h4, Option.isSome_some])) only [e1, e2, e3, e4, e5, e6, e7, f0, f1, hk, hA, h1, h3, h4, Option.isSome_some, Option.getD_some, Option.toList_some, Option.toList_none, List.cons_append, List.nil_append, E81_0, E81_1, E81_4, E81_6, E81_9, E81_10, E81_13, E81_14, E81_17, E81_17r, E81_18, E81_19, E81_20, E81_20i, E81_21, E81_24, E81_25, E81_26, E81_29, E81_30, E81_31, E81_34, E81_37, E81_37r, E81_38, E81_41, E81_44, E81_45, E81_48, E81_49, E81_52, if_true, if_false]
        exact ⟨_, _, rfl, hO4, jk_Fr_tr hF (jk_Fr_tr hF2 hF4), True.intro⟩
      · simp (disch := first | omega | exact id rfl | exact jd_i | exact jd_r | exact jd_n | exact jd_f | decide | (simp (disch := omega) only [e1, e2, e3, e4, e5, e6, e7, f0, f1, hk, hA, h1, h3, h4, Option.isSome_some])) only [e1, e2, e3, e4, e5, e6, e7, f0, f1, hk, hA, h1, h3, h4, Option.isSome_some, Option.getD_some, Option.toList_some, Option.toList_none, List.cons_append, List.nil_append, E81_0, E81_1, E81_4, E81_6, E81_9, E81_10, E81_13, E81_14, E81_17, E81_17r, E81_18, E81_19, E81_20, E81_20i, E81_21, E81_24, E81_25, E81_26, E81_29, E81_30, E81_31, E81_34, E81_37, E81_37r, E81_38, E81_41, E81_44, E81_45, E81_48, E81_49, E81_52, if_true, if_false]
        exact ⟨_, _, rfl, hO3, jk_Fr_tr hF (jk_Fr_tr hF2 hF3), True.intro⟩
    · simp (disch := first | omega | exact id rfl | exact jd_i | exact jd_r | exact jd_n | exact jd_f | decide | (simp (disch := omega) only [e1, e2, e3, e4, e5, e6, e7, f0, f1, hk, hA, h1, h3, Option.isSome_some])) only [e1, e2, e3, e4, e5, e6, e7, f0, f1, hk, hA, h1, h3, Option.isSome_some, Option.getD_some, Option.toList_some, Option.toList_none, List.cons_append, List.nil_append, E81_0, E81_1, E81_4, E81_6, E81_9, E81_10, E81_13, E81_14, E81_17, E81_17r, E81_18, E81_19, E81_20, E81_20i, E81_21, E81_24, E81_25, E81_26, E81_29, E81_30, E81_31, E81_34, E81_37, E81_37r, E81_38, E81_41, E81_44, E81_45, E81_48, E81_49, E81_52, if_true, if_false]
      exact ⟨_, _, rfl, hO3, jk_Fr_tr hF (jk_Fr_tr hF2 hF3), True.intro⟩
/-- the rows move up; the count is one less: it must not be 0 -/
theorem jh_drop {call : jv_F} {a : Nat} (ha : ρ a = some 3) : ∀ (t i : Nat), i + t = 17 → ∀ (h : jv_H) (x1 : Int32) (y : Int32), jk_Ok jc_RT ρ h → jv_gf h a 3 2 = some (.int y) → 1 ≤ y.toInt → ∃ h', jv_ev call 83 2 [some (.ref a), some (.int x1), some (.int (nI i))] [] h = some (none, h') ∧ jk_Ok jc_RT ρ h' ∧ jk_Fr jc_pr ρ h h' := by
  have fin : ∀ (h : jv_H) (l1 l2 : Option Value) (y : Int32), jk_Ok jc_RT ρ h → jv_gf h a 3 2 = some (.int y) → 1 ≤ y.toInt → ∃ h', jv_ev call 83 44 [some (.ref a), l1, l2] [] h = some (none, h') ∧ jk_Ok jc_RT ρ h' ∧ jk_Fr jc_pr ρ h h' := fun h l1 l2 y hO e1 hy => by
    obtain ⟨w, e2, hw⟩ := jh_get (k := 2) hO ha rfl rfl
    rw [e1] at e2
    cases e2
    obtain ⟨y', e3, y0, y1⟩ := hw
    cases e3
    simp only at y0 y1
    have hs : (y - nI 1).toInt = y.toInt - 1 := jh_sub1 (by omega)
    obtain ⟨h', e5, hO', hF, _⟩ := jh_put (pr := jc_pr) (k := 2) (v := .int (y - nI 1)) hO ha rfl rfl ⟨_, rfl, by rw [hs]; show (0 : Int) ≤ _; omega, by rw [hs]; show _ ≤ (17 : Int); omega⟩ rfl rfl
    refine ⟨h', ?_, hO', hF⟩
    simp (disch := first | omega | exact id rfl | exact jd_i | exact jd_r | exact jd_n | exact jd_f | decide | (simp (disch := omega) only [e1, e5, Option.isSome_some])) only [e1, e5, Option.isSome_some, Option.getD_some, Option.toList_some, Option.toList_none, List.cons_append, List.nil_append, E83_44, E83_45, E83_46, E83_49, E83_50, E83_51, E83_54]
  intro t
  induction t with
  | zero =>
    intro i hi h x1 y hO e1 hy
    have e : i = 17 := by omega
    subst e
    obtain ⟨h', e2, hO', hF⟩ := fin h (some (.int x1)) (some (.int (nI 17))) y hO e1 hy
    refine ⟨h', ?_, hO', hF⟩
    rw [← e2]
    have b1 : ¬ nI 17 < 0 := by decide
    have b2 : nI 17 ≤ nI (17 + 1) := by decide
    by_cases h2 : y ≤ nI (17 + 1)
    · simp (disch := first | omega | exact id rfl | exact jd_i | exact jd_r | exact jd_n | exact jd_f | decide | (simp (disch := omega) only [e1, b1, h2, nI_add, Option.isSome_some])) only [e1, b1, h2, nI_add, Option.isSome_some, Option.getD_some, Option.toList_some, Option.toList_none, List.cons_append, List.nil_append, E83_2, E83_3, E83_6, E83_7, E83_8, E83_9, E83_10, E83_13, if_false, if_true]
    · simp (disch := first | omega | exact id rfl | exact jd_i | exact jd_r | exact jd_n | exact jd_f | decide | (simp (disch := omega) only [e1, b1, b2, h2, nI_add, Option.isSome_some])) only [e1, b1, b2, h2, nI_add, Option.isSome_some, Option.getD_some, Option.toList_some, Option.toList_none, List.cons_append, List.nil_append, E83_2, E83_3, E83_6, E83_7, E83_8, E83_9, E83_10, E83_13, E83_16, E83_17, E83_18, E83_19, E83_21, if_false, if_true]
  | succ t ih =>
    intro i hi h x1 y hO e1 hy
    have b1 : ¬ nI i < 0 := nI_pos (by omega)
    by_cases h2 : y ≤ nI (i + 1)
    · obtain ⟨h', e2, hO', hF⟩ := fin h (some (.int x1)) (some (.int (nI i))) y hO e1 hy
      refine ⟨h', ?_, hO', hF⟩
      rw [← e2]
      simp (disch := first | omega | exact id rfl | exact jd_i | exact jd_r | exact jd_n | exact jd_f | decide | (simp (disch := omega) only [e1, b1, h2, nI_add, Option.isSome_some])) only [e1, b1, h2, nI_add, Option.isSome_some, Option.getD_some, Option.toList_some, Option.toList_none, List.cons_append, List.nil_append, E83_2, E83_3, E83_6, E83_7, E83_8, E83_9, E83_10, E83_13, if_false, if_true]
    · by_cases h3 : nI 17 ≤ nI (i + 1)
      · obtain ⟨h', e2, hO', hF⟩ := fin h (some (.int x1)) (some (.int (nI i))) y hO e1 hy
        refine ⟨h', ?_, hO', hF⟩
        rw [← e2]
        simp (disch := first | omega | exact id rfl | exact jd_i | exact jd_r | exact jd_n | exact jd_f | decide | (simp (disch := omega) only [e1, b1, h2, h3, nI_add, Option.isSome_some])) only [e1, b1, h2, h3, nI_add, Option.isSome_some, Option.getD_some, Option.toList_some, Option.toList_none, List.cons_append, List.nil_append, E83_2, E83_3, E83_6, E83_7, E83_8, E83_9, E83_10, E83_13, E83_16, E83_17, E83_18, E83_19, E83_21, if_false, if_true]
      · have h4 : i + 1 < 17 := by
          rw [nI_leI (by decide) (by omega)] at h3
          omega
        obtain ⟨w, e2, hw⟩ := jh_get (k := 1) hO ha rfl rfl
        obtain ⟨b, rfl, hb⟩ := jh_ref hw
        have hk := jh_kn hO hb (q := 10) (kd := 3) rfl rfl (by decide)
        have t1 : (nI (i + 1)).toInt = ((i + 1 : Nat) : Int) := nI_toInt (by omega)
        have t0 : (nI i).toInt = ((i : Nat) : Int) := nI_toInt (by omega)
        obtain ⟨u, e3, hu⟩ := jh_ld (x := nI (i + 1)) hO hb (q := 10) (kd := 3) rfl rfl (by rw [t1]; omega) (by rw [t1]; omega)
        obtain ⟨r, rfl, hr⟩ := jh_rfn hu
        have hA := jh_isA hO hr
        obtain ⟨h1, e4, hO1, hF1, hg⟩ := jh_st (pr := jc_pr) (x := nI i) (v := va_rf r) hO hb (q := 10) (kd := 3) rfl rfl (by decide) (by rw [t0]; omega) (by rw [t0]; omega) (jh_rfV hr) rfl
        obtain ⟨h', e5, hO', hF⟩ := ih (i + 1) (by omega) h1 x1 y hO1 ((hg a 3 2).trans e1) hy
        refine ⟨h', ?_, hO', jk_Fr_tr hF1 hF⟩
        rw [← e5]
        rw [E83_2]
        simp (disch := first | omega | exact id rfl | exact jd_i | exact jd_r | exact jd_n | exact jd_f | decide | (simp (disch := omega) only [e1, e2, e3, e4, hk, hA, b1, h2, h3, nI_add, Option.isSome_some])) only [e1, e2, e3, e4, hk, hA, b1, h2, h3, nI_add, Option.isSome_some, Option.getD_some, Option.toList_some, Option.toList_none, List.cons_append, List.nil_append, E83_0, E83_1, E83_3, E83_6, E83_7, E83_8, E83_9, E83_10, E83_13, E83_16, E83_17, E83_18, E83_19, E83_21, E83_24, E83_25, E83_28, E83_29, E83_30, E83_33, E83_34, E83_35, E83_36, E83_37, E83_38, E83_41, if_false, if_true]
/-- from any place: a number below 0 or above 16 moves nothing -/
theorem jh_s83 {d : Nat} {a : Nat} {x y : Int32} (ha : ρ a = some 3) (hO : jk_Ok jc_RT ρ h) (e1 : jv_gf h a 3 2 = some (.int y)) (hy : 1 ≤ y.toInt) (hx : 0 ≤ x.toInt) (hx2 : x.toInt ≤ 17) : ∃ h', jv_run (d + 1) 83 [.ref a, .int x] h = some (none, h') ∧ jk_Ok jc_RT ρ h' ∧ jk_Fr jc_pr ρ h h' := by
  obtain ⟨i, hi, rfl⟩ := nI_of (x := x) (fun q => by have := jh_lt0.mp q; omega)
  rw [nI_toInt hi] at hx2
  obtain ⟨h', e2, hO', hF⟩ := jh_drop (call := jv_run d) ha (17 - i) i (by omega) h (nI i) y hO e1 hy
  refine ⟨h', ?_, hO', hF⟩
  rw [← e2, N83]
  simp (disch := first | omega | exact id rfl | exact jd_i | exact jd_r | exact jd_n | exact jd_f | decide | (simp (disch := omega) only [e1, Option.isSome_some])) only [e1, Option.isSome_some, Option.getD_some, Option.toList_some, Option.toList_none, List.cons_append, List.nil_append, E83_0, E83_1]
end JH
end
section
/-! cancel, begin, a number's print: by hand -/
section JH
variable {ρ : jk_R} {h : jv_H}
theorem jh_keep {RT : List jk_D} {pr : Nat → Nat → Bool} {h h' : jv_H} {a q k : Nat} (hF : jk_Fr pr ρ h h') (ha : ρ a = some q) (hp : pr q k = true) {c : Nat} {v : Value} (e : jv_gf h a c k = some v) : jv_gf h' a c k = some v := by
  unfold jv_gf at e ⊢
  split at e
  · rename_i ci fs hc
    obtain ⟨c', e2, hs⟩ := hF.2.2 a q _ ha hc
    rcases c' with ⟨ci', fs'⟩ | ⟨kd, n, f⟩
    · rw [e2]
      obtain ⟨rfl, _, hk⟩ := hs
      simp only
      rw [hk k hp]
      exact e
    · exact hs.elim
  · cases e
theorem jh_Fr_mono {pr pr' : Nat → Nat → Bool} {h h' : jv_H} (hm : ∀ q k, pr q k = true → pr' q k = true) (hF : jk_Fr pr' ρ h h') : jk_Fr pr ρ h h' := by
  refine ⟨hF.1, hF.2.1, fun a q c ha hc => ?_⟩
  obtain ⟨c', e, hs⟩ := hF.2.2 a q c ha hc
  refine ⟨c', e, ?_⟩
  rcases c with ⟨ci, fs⟩ | ⟨kd, n, f⟩ <;> rcases c' with ⟨ci', fs'⟩ | ⟨kd', n', f'⟩
  · exact ⟨hs.1, hs.2.1, fun k hk => hs.2.2 k (hm q k hk)⟩
  · exact hs.elim
  · exact hs.elim
  · exact ⟨hs.1, hs.2.1, fun hk => hs.2.2 (hm q 0 hk)⟩
/-- the end of cancel: writePending && !leaving -/
theorem jh_wp {call : jv_F} {a c : Nat} {l2 : Option Value} (hO : jk_Ok jc_RT ρ h) (ha : ρ a = some 3) (hc : ρ c = some 5) : ∃ h', jv_ev call 82 31 [some (.ref a), some (.ref c), l2] [] h = some (none, h') ∧ jk_Ok jc_RT ρ h' ∧ jk_Fr jc_pr ρ h h' := by
  obtain ⟨w, e6, hw⟩ := jh_get (k := 5) hO ha rfl rfl
  obtain ⟨p, rfl, _⟩ := hw
  obtain ⟨w, e7, hw⟩ := jh_get (k := 5) hO hc rfl rfl
  obtain ⟨q, rfl, _⟩ := hw
  obtain ⟨ha1, f1, hO3, hF3, _⟩ := jh_put (pr := jc_pr) (k := 5) (v := .int (nI 1)) hO ha rfl rfl ⟨_, rfl, by decide, by decide⟩ rfl rfl
  obtain ⟨ha0, f0, hO4, hF4, _⟩ := jh_put (pr := jc_pr) (k := 5) (v := .int (nI 0)) hO ha rfl rfl ⟨_, rfl, by decide, by decide⟩ rfl rfl
  by_cases h3 : p = 0
  · refine ⟨ha0, ?_, hO4, hF4⟩
    simp (disch := first | omega | exact id rfl | exact jd_i | exact jd_r | exact jd_n | exact jd_f | decide | (simp (disch := omega) only [e6, e7, f0, f1, h3, Option.isSome_some])) only [e6, e7, f0, f1, h3, Option.isSome_some, Option.getD_some, Option.toList_some, Option.toList_none, List.cons_append, List.nil_append, E82_31, E82_32, E82_33, E82_36, E82_50, E82_51, E82_54, if_true]
  · by_cases h4 : q = 0
    · refine ⟨ha1, ?_, hO3, hF3⟩
      simp (disch := first | omega | exact id rfl | exact jd_i | exact jd_r | exact jd_n | exact jd_f | decide | (simp (disch := omega) only [e6, e7, f0, f1, h3, h4, Option.isSome_some])) only [e6, e7, f0, f1, h3, h4, Option.isSome_some, Option.getD_some, Option.toList_some, Option.toList_none, List.cons_append, List.nil_append, E82_31, E82_32, E82_33, E82_36, E82_39, E82_40, E82_43, E82_46, E82_47, E82_51, E82_54, if_false, not_true_eq_false]
    · refine ⟨ha0, ?_, hO4, hF4⟩
      simp (disch := first | omega | exact id rfl | exact jd_i | exact jd_r | exact jd_n | exact jd_f | decide | (simp (disch := omega) only [e6, e7, f0, f1, h3, h4, Option.isSome_some])) only [e6, e7, f0, f1, h3, h4, Option.isSome_some, Option.getD_some, Option.toList_some, Option.toList_none, List.cons_append, List.nil_append, E82_31, E82_32, E82_33, E82_36, E82_39, E82_40, E82_43, E82_50, E82_51, E82_54, if_false, not_false_eq_true, if_true]
theorem jh_cancel {d a c : Nat} (ha : ρ a = some 3) (hc : ρ c = some 5) (hO : jk_Ok jc_RT ρ h) {y : Int32} (e1 : jv_gf h a 3 2 = some (.int y)) : ∀ (t i : Nat), i + t = 17 → ∃ h', jv_ev (jv_run (d + 1)) 82 2 [some (.ref a), some (.ref c), some (.int (nI i))] [] h = some (none, h') ∧ jk_Ok jc_RT ρ h' ∧ jk_Fr jc_pr ρ h h'
  | 0, i, hi => by
    have e : i = 17 := by omega
    subst e
    refine ⟨h, ?_, hO, jk_Fr_rf h⟩
    by_cases h1 : y ≤ nI 17
    · simp (disch := first | omega | exact id rfl | exact jd_i | exact jd_r | exact jd_n | exact jd_f | decide | (simp (disch := omega) only [e1, h1, Option.isSome_some])) only [e1, h1, Option.isSome_some, Option.getD_some, Option.toList_some, Option.toList_none, List.cons_append, List.nil_append, E82_2, E82_3, E82_4, E82_7, E82_61, if_true]
    · have h2 : nI 17 ≤ nI 17 := by decide
      simp (disch := first | omega | exact id rfl | exact jd_i | exact jd_r | exact jd_n | exact jd_f | decide | (simp (disch := omega) only [e1, h1, h2, Option.isSome_some])) only [e1, h1, h2, Option.isSome_some, Option.getD_some, Option.toList_some, Option.toList_none, List.cons_append, List.nil_append, E82_2, E82_3, E82_4, E82_7, E82_10, E82_11, E82_13, E82_61, if_true, if_false]
  | t + 1, i, hi => by
    by_cases h1 : y ≤ nI i
    · refine ⟨h, ?_, hO, jk_Fr_rf h⟩
      simp (disch := first | omega | exact id rfl | exact jd_i | exact jd_r | exact jd_n | exact jd_f | decide | (simp (disch := omega) only [e1, h1, Option.isSome_some])) only [e1, h1, Option.isSome_some, Option.getD_some, Option.toList_some, Option.toList_none, List.cons_append, List.nil_append, E82_2, E82_3, E82_4, E82_7, E82_61, if_true]
    · have h2 : ¬ nI 17 ≤ nI i := by rw [nI_leI (by decide) (by omega)]; omega
      have t0 : (nI i).toInt = ((i : Nat) : Int) := nI_toInt (by omega)
      have hy : 1 ≤ y.toInt := by
        have := Int32.not_le.mp h1
        rw [Int32.lt_iff_toInt_lt, t0] at this
        omega
      obtain ⟨w, e2, hw⟩ := jh_get (k := 1) hO ha rfl rfl
      obtain ⟨b, rfl, hb⟩ := jh_ref hw
      have hk := jh_kn hO hb (q := 10) (kd := 3) rfl rfl (by decide)
      obtain ⟨u, e3, hu⟩ := jh_ld (x := nI i) hO hb (q := 10) (kd := 3) rfl rfl (by rw [t0]; omega) (by rw [t0]; omega)
      obtain ⟨r, rfl, hr⟩ := jh_rfn hu
      have hcl := jh_cl hO ha (q := 3) rfl
      by_cases h3 : r = some c
      · subst h3
        obtain ⟨h1', e4, hO1, hF1⟩ := jh_s83 (d := d) (x := nI i) ha hO e1 hy (by rw [t0]; omega) (by rw [t0]; omega)
        obtain ⟨h', e5, hO', hF⟩ := jh_wp (call := jv_run (d + 1)) (l2 := some (.int (nI i))) hO1 ha hc
        refine ⟨h', ?_, hO', jk_Fr_tr hF1 hF⟩
        rw [← e5]
        simp (disch := first | omega | exact id rfl | exact jd_i | exact jd_r | exact jd_n | exact jd_f | decide | (simp (disch := omega) only [e1, e2, e3, e4, hk, hcl, h1, h2, Option.isSome_some])) only [e1, e2, e3, e4, hk, hcl, h1, h2, Option.isSome_some, Option.getD_some, Option.toList_some, Option.toList_none, List.cons_append, List.nil_append, E82_2, E82_3, E82_4, E82_7, E82_10, E82_11, E82_13, E82_16, E82_17, E82_20, E82_21, E82_22, if_false]
        rw [E82_23f, if_pos rfl]
        simp (disch := first | omega | exact id rfl | exact jd_i | exact jd_r | exact jd_n | exact jd_f | decide | (simp (disch := omega) only [e4, hcl, Option.isSome_some])) only [e4, hcl, Option.isSome_some, Option.getD_some, Option.toList_some, Option.toList_none, List.cons_append, List.nil_append, E82_26, E82_27, E82_28]
      · obtain ⟨h', e5, hO', hF⟩ := jh_cancel (d := d) ha hc hO e1 t (i + 1) (by omega)
        refine ⟨h', ?_, hO', hF⟩
        rw [← e5]
        have h4 : ¬ r = some c := h3
        rw [E82_2]
        simp (disch := first | omega | exact id rfl | exact jd_i | exact jd_r | exact jd_n | exact jd_f | decide | (simp (disch := omega) only [e1, e2, e3, hk, hcl, h1, h2, nI_add, Option.isSome_some])) only [e1, e2, e3, hk, hcl, h1, h2, nI_add, Option.isSome_some, Option.getD_some, Option.toList_some, Option.toList_none, List.cons_append, List.nil_append, E82_3, E82_4, E82_7, E82_10, E82_11, E82_13, E82_16, E82_17, E82_20, E82_21, E82_22, if_false]
        rw [E82_23f, if_neg h4]
        simp (disch := first | omega | exact id rfl | exact jd_i | exact jd_r | exact jd_n | exact jd_f | decide | (simp (disch := omega) only [e1, nI_add, Option.isSome_some])) only [e1, nI_add, Option.isSome_some, Option.getD_some, Option.toList_some, Option.toList_none, List.cons_append, List.nil_append, E82_55, E82_58]
theorem jc_s82 (d : Nat) : jk_Sp jc_RT jc_pr jc_sg (jv_run (d + 2)) 82 := jh_sp2 (q := 3) (t := .inr (.inr (5, true))) rfl fun ρ h a v hO ha hv => by
  obtain ⟨c, rfl, hc⟩ := jh_ref hv
  obtain ⟨w, e1, hw⟩ := jh_get (k := 2) hO ha rfl rfl
  obtain ⟨y, rfl, _⟩ := hw
  obtain ⟨h', e2, hO', hF⟩ := jh_cancel (d := d) ha hc hO e1 17 0 rfl
  rw [show jv_run (d + 2) 82 [.ref a, .ref c] h = jv_ev (jv_run (d + 1)) 82 0 [some (.ref a), some (.ref c), none] [] h from N82 (a0 := some c)]
  simp (disch := first | omega | exact id rfl | exact jd_i | exact jd_r | exact jd_n | exact jd_f | decide | (simp (disch := omega) only [e1, Option.isSome_some])) only [e1, Option.isSome_some, Option.getD_some, Option.toList_some, Option.toList_none, List.cons_append, List.nil_append, E82_0, E82_1]
  exact ⟨_, _, e2, hO', hF, True.intro⟩
/-- the drum begins: what it calls keeps askedCount (ja_: the same checker with one field more kept) -/
theorem jc_s84 (d : Nat) : jk_Sp jc_RT jc_pr jc_sg (jv_run (d + 4)) 84 := jh_sp2 (q := 3) (t := jk_top) rfl fun ρ h a v hO ha hv => by
  obtain ⟨x, rfl, _⟩ := hv
  obtain ⟨w, e1, hw⟩ := jh_get (k := 2) hO ha rfl rfl
  obtain ⟨y, rfl, y0, y1⟩ := hw
  simp only at y0 y1
  obtain ⟨w, e2, hw⟩ := jh_get (k := 1) hO ha rfl rfl
  obtain ⟨b, rfl, hb⟩ := jh_ref hw
  have hk := jh_kn hO hb (q := 10) (kd := 3) rfl rfl (by decide)
  obtain ⟨u, e3, hu⟩ := jh_ld (x := nI 0) hO hb (q := 10) (kd := 3) rfl rfl (by decide) (by decide)
  obtain ⟨r, rfl, hr⟩ := jh_rfn hu
  obtain ⟨w, e4, hw⟩ := jh_get (k := 3) hO ha rfl rfl
  obtain ⟨uw, rfl, huw⟩ := jh_rfn hw
  have hret : jk_Gd jc_RT jc_pr none ρ h (some (none, h)) := jh_same hO True.intro
  rw [N84]
  cases uw with
  | some uw =>
    simp (disch := first | omega | exact id rfl | exact jd_i | exact jd_r | exact jd_n | exact jd_f | decide | (simp (disch := omega) only [e1, e2, e3, e4, hk, Option.isSome_some])) only [e1, e2, e3, e4, hk, Option.isSome_some, Option.getD_some, Option.toList_some, Option.toList_none, List.cons_append, List.nil_append, E84_0, E84_1, E84_4, E84_5, E84_6r, E84_7, E84_8]
    rw [E84_11r, if_neg (by simp)]
    simp (disch := first | omega | exact id rfl | exact jd_i | exact jd_r | exact jd_n | exact jd_f | decide | (simp (disch := omega) only [e1, Option.isSome_some])) only [e1, Option.isSome_some, Option.getD_some, Option.toList_some, Option.toList_none, List.cons_append, List.nil_append, E84_25]
    exact hret
  | none =>
    by_cases h1 : y = 0
    · simp (disch := first | omega | exact id rfl | exact jd_i | exact jd_r | exact jd_n | exact jd_f | decide | (simp (disch := omega) only [e1, e2, e3, e4, hk, Option.isSome_some])) only [e1, e2, e3, e4, hk, Option.isSome_some, Option.getD_some, Option.toList_some, Option.toList_none, List.cons_append, List.nil_append, E84_0, E84_1, E84_4, E84_5, E84_6r, E84_7, E84_8]
      rw [E84_11r, if_pos rfl]
      simp (disch := first | omega | exact id rfl | exact jd_i | exact jd_r | exact jd_n | exact jd_f | decide | (simp (disch := omega) only [e1, h1, Option.isSome_some])) only [e1, h1, Option.isSome_some, Option.getD_some, Option.toList_some, Option.toList_none, List.cons_append, List.nil_append, E84_14, E84_15, E84_18, E84_25, if_true]
      exact hret
    · cases r with
      | none =>
        simp (disch := first | omega | exact id rfl | exact jd_i | exact jd_r | exact jd_n | exact jd_f | decide | (simp (disch := omega) only [e1, e2, e3, e4, hk, Option.isSome_some])) only [e1, e2, e3, e4, hk, Option.isSome_some, Option.getD_some, Option.toList_some, Option.toList_none, List.cons_append, List.nil_append, E84_0, E84_1, E84_4, E84_5, E84_6r, E84_7, E84_8]
        rw [E84_11r, if_pos rfl]
        simp (disch := first | omega | exact id rfl | exact jd_i | exact jd_r | exact jd_n | exact jd_f | decide | (simp (disch := omega) only [e1, h1, Option.isSome_some])) only [e1, h1, Option.isSome_some, Option.getD_some, Option.toList_some, Option.toList_none, List.cons_append, List.nil_append, E84_14, E84_15, E84_18, if_false, E84_21r]
        rw [E84_22r, if_pos rfl]
        simp (disch := first | omega | exact id rfl | exact jd_i | exact jd_r | exact jd_n | exact jd_f | decide | (simp (disch := omega) only [e1, Option.isSome_some])) only [e1, Option.isSome_some, Option.getD_some, Option.toList_some, Option.toList_none, List.cons_append, List.nil_append, E84_25]
        exact hret
      | some f =>
        have hf := hr f rfl
        have y2 : 1 ≤ y.toInt := by
          by_cases q : y.toInt = 0
          · exact absurd (Int32.toInt_inj.mp (q.trans (by decide))) h1
          · omega
        have start : jv_ev (jv_run (d + 3)) 84 0 [some (.ref a), some (.int x), none, none] [] h = jv_ev (jv_run (d + 3)) 84 26 [some (.ref a), some (.int x), some (.ref f), none] [] h := by
          simp (disch := first | omega | exact id rfl | exact jd_i | exact jd_r | exact jd_n | exact jd_f | decide | (simp (disch := omega) only [e1, e2, e3, e4, hk, Option.isSome_some])) only [e1, e2, e3, e4, hk, Option.isSome_some, Option.getD_some, Option.toList_some, Option.toList_none, List.cons_append, List.nil_append, E84_0, E84_1, E84_4, E84_5, E84_6r, E84_7, E84_8]
          rw [E84_11r, if_pos rfl]
          simp (disch := first | omega | exact id rfl | exact jd_i | exact jd_r | exact jd_n | exact jd_f | decide | (simp (disch := omega) only [e1, h1, Option.isSome_some])) only [e1, h1, Option.isSome_some, Option.getD_some, Option.toList_some, Option.toList_none, List.cons_append, List.nil_append, E84_14, E84_15, E84_18, if_false, E84_21r]
          rw [E84_22r, if_neg (by simp)]
          rfl
        rw [start]
        obtain ⟨w, e5, hw⟩ := jh_get (k := 5) hO hf rfl rfl
        obtain ⟨lv, rfl, _⟩ := hw
        obtain ⟨w, e6, hw⟩ := jh_get (k := 3) hO hf rfl rfl
        obtain ⟨sc, rfl, _⟩ := hw
        /- behind the begin: 93 -/
        have tail : ∀ (h : jv_H) (s : Int32), jk_Ok jc_RT ρ h → jv_gf h a 3 2 = some (.int y) → ∃ h', jv_ev (jv_run (d + 3)) 84 93 [some (.ref a), some (.int x), some (.ref f), some (.int s)] [] h = some (none, h') ∧ jk_Ok jc_RT ρ h' ∧ jk_Fr jc_pr ρ h h' := fun h s hO e1 => by
          have hcl := jh_cl hO ha (q := 3) rfl
          obtain ⟨h1', f1, hO1, hF1⟩ := jh_s83 (d := d + 2) (x := nI 0) ha hO e1 y2 (by decide) (by decide)
          obtain ⟨h2', f2, hO2, hF2, _⟩ := jh_put (pr := jc_pr) (k := 3) (v := .ref f) hO1 ha rfl rfl (Or.inr ⟨f, rfl, hf⟩) rfl rfl
          obtain ⟨r3, h3', f3, hO3, hF3, hR3⟩ := jc_s87 (d + 1) _ _ rfl ρ h2' [.int s, .int x] hO2 ⟨jk_V_top, jk_V_top, True.intro⟩
          cases r3 with
          | none => exact hR3.elim
          | some v3 =>
            obtain ⟨z3, rfl, _⟩ := hR3
            obtain ⟨h4', f4, hO4, hF4, _⟩ := jh_put (pr := jc_pr) (k := 4) (v := .int (x + z3 + nI 2)) hO3 ha rfl rfl jk_V_top rfl rfl
            refine ⟨h4', ?_, hO4, jk_Fr_tr hF1 (jk_Fr_tr hF2 (jk_Fr_tr hF3 hF4))⟩
            simp (disch := first | omega | exact id rfl | exact jd_i | exact jd_r | exact jd_n | exact jd_f | decide | (simp (disch := omega) only [f1, f2, f3, f4, hcl, Option.isSome_some])) only [f1, f2, f3, f4, hcl, Option.isSome_some, Option.getD_some, Option.toList_some, Option.toList_none, List.cons_append, List.nil_append, E84_93, E84_94, E84_95, E84_98, E84_99, E84_100, E84_103, E84_104, E84_105, E84_106, E84_107, E84_110, E84_111, E84_112, E84_113, E84_116]
        /- put or release, then the tail: from 52 -/
        have mid : ∀ (h : jv_H) (s : Int32), jk_Ok jc_RT ρ h → jv_gf h a 3 2 = some (.int y) → ∃ h', jv_ev (jv_run (d + 3)) 84 52 [some (.ref a), some (.int x), some (.ref f), some (.int s)] [] h = some (none, h') ∧ jk_Ok jc_RT ρ h' ∧ jk_Fr jc_pr ρ h h' := fun h s hO e1 => by
          have hcl := jh_cl hO ha (q := 3) rfl
          obtain ⟨w, e5, hw⟩ := jh_get (k := 5) hO hf rfl rfl
          obtain ⟨lv, rfl, _⟩ := hw
          by_cases h5 : lv = 0
          · obtain ⟨r1, h1', f1, hO1, hF1, hR1⟩ := ja_s80 (d + 2) _ _ rfl ρ h [.ref a, .ref f] hO ⟨Or.inr ⟨a, rfl, ha⟩, Or.inr ⟨f, rfl, hf⟩, True.intro⟩
            cases r1 with
            | some v => exact hR1.elim
            | none =>
              obtain ⟨w, e7, hw⟩ := jh_get (k := 6) hO1 ha rfl rfl
              obtain ⟨rd, rfl, _⟩ := hw
              obtain ⟨h2', f2, hO2, hF2, _, hg2, _⟩ := jh_put (pr := jc_pr) (k := 6) (v := .int (rd + nI 1)) hO1 ha rfl rfl jk_V_top rfl rfl
              have e8 := jh_keep (RT := jc_RT) hF1 ha (k := 2) rfl e1
              obtain ⟨h', f3, hO', hF'⟩ := tail h2' s hO2 ((hg2 a 3 2 (by simp)).trans e8)
              refine ⟨h', ?_, hO', jk_Fr_tr (jh_Fr_mono ja_pr_le hF1) (jk_Fr_tr hF2 hF')⟩
              rw [← f3]
              simp (disch := first | omega | exact id rfl | exact jd_i | exact jd_r | exact jd_n | exact jd_f | decide | (simp (disch := omega) only [e5, e7, f1, f2, hcl, h5, Option.isSome_some])) only [e5, e7, f1, f2, hcl, h5, Option.isSome_some, Option.getD_some, Option.toList_some, Option.toList_none, List.cons_append, List.nil_append, E84_52, E84_53, E84_56, E84_78, E84_79, E84_80, E84_83, E84_84, E84_85, E84_88, E84_89, E84_90, if_true]
          · obtain ⟨r1, h1', f1, hO1, hF1, hR1⟩ := ja_s79 (d + 2) _ _ rfl ρ h [.ref a, .ref f, .int s] hO ⟨Or.inr ⟨a, rfl, ha⟩, Or.inr ⟨f, rfl, hf⟩, jk_V_top, True.intro⟩
            cases r1 with
            | some v => exact hR1.elim
            | none =>
              obtain ⟨w, e7, hw⟩ := jh_get (k := 7) hO1 ha rfl rfl
              obtain ⟨wr, rfl, _⟩ := hw
              obtain ⟨h2', f2, hO2, hF2, _, hg2, _⟩ := jh_put (pr := jc_pr) (k := 7) (v := .int (wr + nI 1)) hO1 ha rfl rfl jk_V_top rfl rfl
              have e8 := jh_keep (RT := jc_RT) hF1 ha (k := 2) rfl e1
              obtain ⟨h', f3, hO', hF'⟩ := tail h2' s hO2 ((hg2 a 3 2 (by simp)).trans e8)
              refine ⟨h', ?_, hO', jk_Fr_tr (jh_Fr_mono ja_pr_le hF1) (jk_Fr_tr hF2 hF')⟩
              rw [← f3]
              simp (disch := first | omega | exact id rfl | exact jd_i | exact jd_r | exact jd_n | exact jd_f | decide | (simp (disch := omega) only [e5, e7, f1, f2, hcl, h5, Option.isSome_some])) only [e5, e7, f1, f2, hcl, h5, Option.isSome_some, Option.getD_some, Option.toList_some, Option.toList_none, List.cons_append, List.nil_append, E84_52, E84_53, E84_56, E84_59, E84_60, E84_61, E84_62, E84_65, E84_66, E84_67, E84_70, E84_71, E84_72, E84_75, if_false]
        /- the sector, then 52 or the end -/
        have sect : ∀ (h : jv_H) (s : Int32), jk_Ok jc_RT ρ h → jv_gf h a 3 2 = some (.int y) → ∃ h', jv_ev (jv_run (d + 3)) 84 45 [some (.ref a), some (.int x), some (.ref f), none] [.int s] h = some (none, h') ∧ jk_Ok jc_RT ρ h' ∧ jk_Fr jc_pr ρ h h' := fun h s hO e1 => by
          by_cases h6 : s = -1
          · refine ⟨h, ?_, hO, jk_Fr_rf h⟩
            simp (disch := first | omega | exact id rfl | exact jd_i | exact jd_r | exact jd_n | exact jd_f | decide | (simp (disch := omega) only [h6, Option.isSome_some])) only [h6, Option.isSome_some, Option.getD_some, Option.toList_some, Option.toList_none, List.cons_append, List.nil_append, E84_45, E84_46, E84_47, E84_48, E84_51, not_true_eq_false, if_false]
          · obtain ⟨h', f3, hO', hF'⟩ := mid h s hO e1
            refine ⟨h', ?_, hO', hF'⟩
            rw [← f3]
            simp (disch := first | omega | exact id rfl | exact jd_i | exact jd_r | exact jd_n | exact jd_f | decide | (simp (disch := omega) only [h6, Option.isSome_some])) only [h6, Option.isSome_some, Option.getD_some, Option.toList_some, Option.toList_none, List.cons_append, List.nil_append, E84_45, E84_46, E84_47, E84_48, not_false_eq_true, if_true]
        by_cases h5 : lv = 0
        · obtain ⟨h', f3, hO', hF'⟩ := sect h sc hO e1
          refine ⟨none, h', ?_, hO', hF', True.intro⟩
          rw [← f3]
          simp (disch := first | omega | exact id rfl | exact jd_i | exact jd_r | exact jd_n | exact jd_f | decide | (simp (disch := omega) only [e5, e6, h5, Option.isSome_some])) only [e5, e6, h5, Option.isSome_some, Option.getD_some, Option.toList_some, Option.toList_none, List.cons_append, List.nil_append, E84_26, E84_27, E84_30, E84_41, E84_42, if_true]
        · have hcl := jh_cl hO ha (q := 3) rfl
          obtain ⟨r1, h1', f1, hO1, hF1, hR1⟩ := ja_s86 d _ _ rfl ρ h [.ref a, .int x] hO ⟨Or.inr ⟨a, rfl, ha⟩, jk_V_top, True.intro⟩
          cases r1 with
          | none => exact hR1.elim
          | some v1 =>
            obtain ⟨s, rfl, _⟩ := hR1
            obtain ⟨h', f3, hO', hF'⟩ := sect h1' s hO1 (jh_keep (RT := jc_RT) hF1 ha (k := 2) rfl e1)
            refine ⟨none, h', ?_, hO', jk_Fr_tr (jh_Fr_mono ja_pr_le hF1) hF', True.intro⟩
            rw [← f3]
            simp (disch := first | omega | exact id rfl | exact jd_i | exact jd_r | exact jd_n | exact jd_f | decide | (simp (disch := omega) only [e5, f1, hcl, h5, Option.isSome_some])) only [e5, f1, hcl, h5, Option.isSome_some, Option.getD_some, Option.toList_some, Option.toList_none, List.cons_append, List.nil_append, E84_26, E84_27, E84_30, E84_33, E84_34, E84_35, E84_38, if_false]
end JH
end
section
/-! a number's print: by hand -/
section JH
variable {ρ : jk_R} {h : jv_H}
theorem jh_pn3 {d a : Nat} {l1 l2 l4 l5 l6 : Option Value} {o : Int32} (hO : jk_Ok jc_RT ρ h) (ha : ρ a = some 4) : jk_Gd jc_RT jc_pr (some jk_top) ρ h (jv_ev (jv_run (d + 1)) 109 120 [some (.ref a), l1, l2, some (.int o), l4, l5, l6] [] h) := by
  by_cases h1 : o = 0
  · have hcl := jh_cl hO ha (q := 4) rfl
    obtain ⟨r, h', f1, hO', hF, hR⟩ := jc_s108 d _ _ rfl ρ h [.ref a, .int (nI 10)] hO ⟨Or.inr ⟨a, rfl, ha⟩, jk_V_top, True.intro⟩
    cases r with
    | none => exact hR.elim
    | some v =>
      obtain ⟨x, rfl, _⟩ := hR
      simp (disch := first | omega | exact id rfl | exact jd_i | exact jd_r | exact jd_n | exact jd_f | decide | (simp (disch := omega) only [f1, hcl, h1, Option.isSome_some])) only [f1, hcl, h1, Option.isSome_some, Option.getD_some, Option.toList_some, Option.toList_none, List.cons_append, List.nil_append, E109_120, E109_121, E109_124, E109_125, E109_127, E109_130, E109_134, not_true_eq_false, if_false]
      exact ⟨_, _, rfl, hO', hF, jk_V_top (ρ := ρ)⟩
  · simp (disch := first | omega | exact id rfl | exact jd_i | exact jd_r | exact jd_n | exact jd_f | decide | (simp (disch := omega) only [h1, Option.isSome_some])) only [h1, Option.isSome_some, Option.getD_some, Option.toList_some, Option.toList_none, List.cons_append, List.nil_append, E109_120, E109_121, E109_133, E109_134, not_false_eq_true, if_true]
    exact jh_same hO (jk_V_top (ρ := ρ))
theorem jh_pn2 {d a : Nat} (ha : ρ a = some 4) : ∀ (t i : Nat), i + t = 16 → ∀ (h : jv_H) (rest unit : Int64) (o : Int32), jk_Ok jc_RT ρ h → jk_Gd jc_RT jc_pr (some jk_top) ρ h (jv_ev (jv_run (d + 1)) 109 69 [some (.ref a), some (.long rest), none, some (.int o), some (.long unit), none, some (.int (nI i))] [] h)
  | 0, i, hi, h, rest, unit, o, hO => by
    have e : i = 16 := by omega
    subst e
    have b : nI 16 ≤ nI 16 := by decide
    simp (disch := first | omega | exact id rfl | exact jd_i | exact jd_r | exact jd_n | exact jd_f | decide | (simp (disch := omega) only [b, Option.isSome_some])) only [b, Option.isSome_some, Option.getD_some, Option.toList_some, Option.toList_none, List.cons_append, List.nil_append, E109_69, E109_71, E109_73, if_true]
    exact jh_pn3 hO ha
  | t + 1, i, hi, h, rest, unit, o, hO => by
    have b : ¬ nI 16 ≤ nI i := by rw [nI_leI (by decide) (by omega)]; omega
    by_cases h1 : lg_cmp unit 0 ≤ 0
    · simp (disch := first | omega | exact id rfl | exact jd_i | exact jd_r | exact jd_n | exact jd_f | decide | (simp (disch := omega) only [b, h1, Option.isSome_some])) only [b, h1, Option.isSome_some, Option.getD_some, Option.toList_some, Option.toList_none, List.cons_append, List.nil_append, E109_69, E109_71, E109_73, E109_76, E109_78, E109_79, E109_80, if_true, if_false]
      exact jh_pn3 hO ha
    · have hu : ¬ unit = 0 := fun e => h1 (by rw [e]; decide)
      by_cases h2 : o = 0
      · have hcl := jh_cl hO ha (q := 4) rfl
        obtain ⟨r, h', f1, hO', hF, hR⟩ := jc_s108 d _ _ rfl ρ h [.ref a, .int (48 + rest / unit).toInt32] hO ⟨Or.inr ⟨a, rfl, ha⟩, jk_V_top, True.intro⟩
        cases r with
        | none => exact hR.elim
        | some v =>
          obtain ⟨x, rfl, _⟩ := hR
          have ih := jh_pn2 (d := d) ha t (i + 1) (by omega) h' (rest - rest / unit * unit) (unit / 10) x hO'
          have h10 : ¬ (10 : Int64) = 0 := by decide
          rw [E109_69]
          simp (disch := first | omega | exact id rfl | exact jd_i | exact jd_r | exact jd_n | exact jd_f | decide | (simp (disch := omega) only [f1, hcl, b, h1, h2, hu, h10, nI_add, Option.isSome_some])) only [f1, hcl, b, h1, h2, hu, h10, nI_add, Option.isSome_some, Option.getD_some, Option.toList_some, Option.toList_none, List.cons_append, List.nil_append, E109_71, E109_73, E109_76, E109_78, E109_79, E109_80, E109_83, E109_84, E109_87, E109_88, E109_91, E109_92, E109_94, E109_95, E109_96, E109_97, E109_100, E109_101, E109_102, E109_104, E109_105, E109_106, E109_108, E109_111, E109_112, E109_114, E109_117, if_false, not_true_eq_false]
          obtain ⟨r2, h2', e2, hO2, hF2, hR2⟩ := ih
          exact ⟨r2, h2', e2, hO2, jk_Fr_tr hF hF2, hR2⟩
      · simp (disch := first | omega | exact id rfl | exact jd_i | exact jd_r | exact jd_n | exact jd_f | decide | (simp (disch := omega) only [b, h1, h2, Option.isSome_some])) only [b, h1, h2, Option.isSome_some, Option.getD_some, Option.toList_some, Option.toList_none, List.cons_append, List.nil_append, E109_69, E109_71, E109_73, E109_76, E109_78, E109_79, E109_80, E109_83, E109_84, if_true, if_false, not_false_eq_true]
        exact jh_pn3 hO ha
theorem jh_pn1 {d a : Nat} {rest : Int64} {o : Int32} (ha : ρ a = some 4) (hO : jk_Ok jc_RT ρ h) : ∀ (t i : Nat), i + t = 15 → ∀ (unit : Int64), jk_Gd jc_RT jc_pr (some jk_top) ρ h (jv_ev (jv_run (d + 1)) 109 34 [some (.ref a), some (.long rest), none, some (.int o), some (.long unit), none, some (.int (nI i))] [] h)
  | 0, i, hi, unit => by
    have e : i = 15 := by omega
    subst e
    have b : nI 15 ≤ nI 15 := by decide
    simp (disch := first | omega | exact id rfl | exact jd_i | exact jd_r | exact jd_n | exact jd_f | decide | (simp (disch := omega) only [b, Option.isSome_some])) only [b, Option.isSome_some, Option.getD_some, Option.toList_some, Option.toList_none, List.cons_append, List.nil_append, E109_34, E109_36, E109_38, E109_66, E109_67, if_true]
    exact jh_pn2 ha 16 0 rfl h rest unit o hO
  | t + 1, i, hi, unit => by
    have b : ¬ nI 15 ≤ nI i := by rw [nI_leI (by decide) (by omega)]; omega
    have h10 : ¬ (10 : Int64) = 0 := by decide
    by_cases h1 : 0 < lg_cmp unit (rest / 10)
    · simp (disch := first | omega | exact id rfl | exact jd_i | exact jd_r | exact jd_n | exact jd_f | decide | (simp (disch := omega) only [b, h1, h10, Option.isSome_some])) only [b, h1, h10, Option.isSome_some, Option.getD_some, Option.toList_some, Option.toList_none, List.cons_append, List.nil_append, E109_34, E109_36, E109_38, E109_41, E109_43, E109_44, E109_47, E109_48, E109_49, E109_66, E109_67, if_true, if_false]
      exact jh_pn2 ha 16 0 rfl h rest unit o hO
    · have ih := jh_pn1 (d := d) (rest := rest) (o := o) ha hO t (i + 1) (by omega) (unit * 10)
      rw [E109_34]
      simp (disch := first | omega | exact id rfl | exact jd_i | exact jd_r | exact jd_n | exact jd_f | decide | (simp (disch := omega) only [b, h1, h10, nI_add, Option.isSome_some])) only [b, h1, h10, nI_add, Option.isSome_some, Option.getD_some, Option.toList_some, Option.toList_none, List.cons_append, List.nil_append, E109_36, E109_38, E109_41, E109_43, E109_44, E109_47, E109_48, E109_49, E109_52, E109_54, E109_57, E109_58, E109_60, E109_63, if_false]
      exact ih
theorem jc_s109 (d : Nat) : jk_Sp jc_RT jc_pr jc_sg (jv_run (d + 2)) 109 := jh_sp1 (q := 4) rfl fun ρ h a hO ha => by
  obtain ⟨w, e1, hw⟩ := jh_get (k := 2) hO ha rfl rfl
  obtain ⟨z, rfl⟩ := hw
  have hcl := jh_cl hO ha (q := 4) rfl
  obtain ⟨r0, h0, f0, hO0, hF0, hR0⟩ := jc_s155 d _ _ rfl ρ h [.long z] hO ⟨⟨z, rfl⟩, True.intro⟩
  cases r0 with
  | none => exact hR0.elim
  | some v0 =>
    obtain ⟨z0, rfl⟩ := hR0
    obtain ⟨w, e2, hw⟩ := jh_get (k := 2) hO0 ha rfl rfl
    obtain ⟨z1, rfl⟩ := hw
    have hcl0 := jh_cl hO0 ha (q := 4) rfl
    rw [N109]
    by_cases h1 : 0 ≤ lg_cmp z1 0
    · simp (disch := first | omega | exact id rfl | exact jd_i | exact jd_r | exact jd_n | exact jd_f | decide | (simp (disch := omega) only [e1, e2, f0, hcl, hcl0, h1, Option.isSome_some])) only [e1, e2, f0, hcl, hcl0, h1, Option.isSome_some, Option.getD_some, Option.toList_some, Option.toList_none, List.cons_append, List.nil_append, E109_0, E109_1, E109_4, E109_7, E109_8, E109_9, E109_12, E109_13, E109_14, E109_26, E109_27, E109_28, E109_29, E109_31, E109_32, if_true]
      obtain ⟨r2, h2', e2, hO2, hF2, hR2⟩ := jh_pn1 (d := d) (rest := z0) (o := nI 0) ha hO0 15 0 rfl 1
      exact ⟨r2, h2', e2, hO2, jk_Fr_tr hF0 hF2, hR2⟩
    · obtain ⟨r1, h1', f1, hO1, hF1, hR1⟩ := jc_s108 d _ _ rfl ρ h0 [.ref a, .int (nI 45)] hO0 ⟨Or.inr ⟨a, rfl, ha⟩, jk_V_top, True.intro⟩
      cases r1 with
      | none => exact hR1.elim
      | some v1 =>
        obtain ⟨x, rfl, _⟩ := hR1
        simp (disch := first | omega | exact id rfl | exact jd_i | exact jd_r | exact jd_n | exact jd_f | decide | (simp (disch := omega) only [e1, e2, f0, f1, hcl, hcl0, h1, Option.isSome_some])) only [e1, e2, f0, f1, hcl, hcl0, h1, Option.isSome_some, Option.getD_some, Option.toList_some, Option.toList_none, List.cons_append, List.nil_append, E109_0, E109_1, E109_4, E109_7, E109_8, E109_9, E109_12, E109_13, E109_14, E109_17, E109_18, E109_20, E109_23, E109_27, E109_28, E109_29, E109_31, E109_32, if_false]
        obtain ⟨r2, h2', e2, hO2, hF2, hR2⟩ := jh_pn1 (d := d) (rest := z0) (o := x) ha hO1 15 0 rfl 1
        exact ⟨r2, h2', e2, hO2, jk_Fr_tr hF0 (jk_Fr_tr hF1 hF2), hR2⟩
end JH
end
section
/-! methods of the class that the checker takes, behind those by hand -/
theorem jc_s111 (d : Nat) : jk_Sp jc_RT jc_pr jc_sg (jv_run (d + 2)) 111 := jk_meth (d := d + 1) (f := 18) (c := 0) (cs := []) (an := []) (sg' := jk_sgl jc_sg [110]) rfl (by decide +kernel) (jk_sgl_ok (List.forall_mem_cons.mpr ⟨jc_s110 d, List.forall_mem_nil _⟩))
theorem jc_s112 (d : Nat) : jk_Sp jc_RT jc_pr jc_sg (jv_run (d + 2)) 112 := jk_meth (d := d + 1) (f := 34) (c := 4002) (cs := [(1, 0), (4, 0)]) (an := [(2, [some (.inr (.inr (4, true))), some (.inl (0, 2000)), none, none, none], 4001, [(1, 1), (4, 0)]), (77, [some (.inr (.inr (4, true))), some (.inl (0, 1)), some jk_lg, none, some (.inl (0, 2000))], 2000, [(1, 0), (4, 1)])]) (sg' := jk_sgl jc_sg [89, 110]) rfl (by decide +kernel) (jk_sgl_ok (List.forall_mem_cons.mpr ⟨jc_s89 d, List.forall_mem_cons.mpr ⟨jc_s110 d, List.forall_mem_nil _⟩⟩))
theorem jc_s104 (d : Nat) : jk_Sp jc_RT jc_pr jc_sg (jv_run (d + 3)) 104 := jk_meth (d := d + 2) (f := 16) (c := 0) (cs := []) (an := []) (sg' := jk_sgl jc_sg [97, 98, 99, 100]) rfl (by decide +kernel) (jk_sgl_ok (List.forall_mem_cons.mpr ⟨jc_s97 d, List.forall_mem_cons.mpr ⟨jc_s98 d, List.forall_mem_cons.mpr ⟨jc_s99 (d + 1), List.forall_mem_cons.mpr ⟨jc_s100 d, List.forall_mem_nil _⟩⟩⟩⟩))
theorem jc_s105 (d : Nat) : jk_Sp jc_RT jc_pr jc_sg (jv_run (d + 3)) 105 := jk_meth (d := d + 2) (f := 17) (c := 0) (cs := []) (an := []) (sg' := jk_sgl jc_sg [89, 97, 98]) rfl (by decide +kernel) (jk_sgl_ok (List.forall_mem_cons.mpr ⟨jc_s89 (d + 1), List.forall_mem_cons.mpr ⟨jc_s97 d, List.forall_mem_cons.mpr ⟨jc_s98 d, List.forall_mem_nil _⟩⟩⟩))
theorem jc_s107 (d : Nat) : jk_Sp jc_RT jc_pr jc_sg (jv_run (d + 3)) 107 := jk_meth (d := d + 2) (f := 17) (c := 0) (cs := []) (an := []) (sg' := jk_sgl jc_sg [97, 108, 109, 111, 112, 113, 114]) rfl (by decide +kernel) (jk_sgl_ok (List.forall_mem_cons.mpr ⟨jc_s97 d, List.forall_mem_cons.mpr ⟨jc_s108 (d + 1), List.forall_mem_cons.mpr ⟨jc_s109 d, List.forall_mem_cons.mpr ⟨jc_s111 d, List.forall_mem_cons.mpr ⟨jc_s112 d, List.forall_mem_cons.mpr ⟨jc_s113 (d + 1), List.forall_mem_cons.mpr ⟨jc_s114 (d + 1), List.forall_mem_nil _⟩⟩⟩⟩⟩⟩⟩))
theorem jc_s133 (d : Nat) : jk_Sp jc_RT jc_pr jc_sg (jv_run (d + 3)) 133 := jk_meth (d := d + 2) (f := 17) (c := 0) (cs := []) (an := []) (sg' := jk_sgl jc_sg [97, 139]) rfl (by decide +kernel) (jk_sgl_ok (List.forall_mem_cons.mpr ⟨jc_s97 d, List.forall_mem_cons.mpr ⟨jc_s139 (d + 1), List.forall_mem_nil _⟩⟩))
theorem jc_s103 (d : Nat) : jk_Sp jc_RT jc_pr jc_sg (jv_run (d + 4)) 103 := jk_meth (d := d + 3) (f := 39) (c := 0) (cs := []) (an := []) (sg' := jk_sgl jc_sg [104, 105, 106, 107, 146]) rfl (by decide +kernel) (jk_sgl_ok (List.forall_mem_cons.mpr ⟨jc_s104 d, List.forall_mem_cons.mpr ⟨jc_s105 d, List.forall_mem_cons.mpr ⟨jc_s106 (d + 1), List.forall_mem_cons.mpr ⟨jc_s107 d, List.forall_mem_cons.mpr ⟨jc_s146 (d + 2), List.forall_mem_nil _⟩⟩⟩⟩⟩))
theorem jc_s143 (d : Nat) : jk_Sp jc_RT jc_pr jc_sg (jv_run (d + 5)) 143 := jk_meth (d := d + 4) (f := 34) (c := 0) (cs := []) (an := []) (sg' := jk_sgl jc_sg [73, 81]) rfl (by decide +kernel) (jk_sgl_ok (List.forall_mem_cons.mpr ⟨jc_s73 d, List.forall_mem_cons.mpr ⟨jc_s81 (d + 3), List.forall_mem_nil _⟩⟩))
end
section
/-! the class's jobs and blocks: what stays true, and how much room they take -/
section JG
variable {ρ : jk_R} {h h' : jv_H}
def jg_E (h : jv_H) (a : Nat) : Prop := jv_gf h a 4 12 = some (.int 0)
def jg_B (h : jv_H) (a k : Nat) : Option Value := match jv_gf h a 4 6 with
  | some (.ref p) => jv_al h p (.object RX0) (nI k)
  | _ => none
def jg_R (h : jv_H) (x k : Nat) : Option Value := match jv_gf h x 6 3 with
  | some (.ref p) => jv_al h p (.object RX3) (nI k)
  | _ => none
def jg_nb (o : Option Value) : Bool := match o with
  | some .null => false
  | _ => true
def jg_nn (h : jv_H) (a : Nat) : Nat := jz_cnt (fun k => jg_nb (jg_B h a k)) 64
def jg_sum (c : Nat → Nat) : Nat → Nat
  | 0 => 0
  | n + 1 => jg_sum c n + c n
/-- the jobs: n of them, at js; c: how many blocks were made for each, at most 64 -/
def jg_J (ρ : jk_R) (h : jv_H) (x n : Nat) (js c : Nat → Nat) : Prop :=
  n ≤ 12 ∧ jv_gf h x 6 4 = some (.int (nI n)) ∧
  (∀ i, i < n → ρ (js i) = some 4 ∧ jg_R h x i = some (.ref (js i)) ∧ c i ≤ 64 ∧ (jg_E h (js i) → c i ≤ jg_nn h (js i))) ∧
  (∀ i j, i < n → j < n → js i = js j → i = j) ∧
  (∀ a, ρ a = some 4 → ∃ i, i < n ∧ js i = a) ∧
  (∀ a b p, ρ a = some 4 → ρ b = some 4 → jv_gf h a 4 6 = some (.ref p) → jv_gf h b 4 6 = some (.ref p) → a = b) ∧
  (∀ a k b, ρ a = some 4 → k < 64 → jg_B h a k = some (.ref b) → jv_gf h b 1 0 = some (.ref a))
/-- who is active has not ended -/
def jg_A (ρ : jk_R) (h : jv_H) : Prop := ∀ a, ρ a = some 4 → ¬ jv_gf h a 4 13 = some (.int 0) → jg_E h a
/-- the class's part of the heap, without jg_A -/
def jg_I (b0 s0 : Nat) (ρ : jk_R) (h : jv_H) (x : Nat) : Prop := jk_Ok jc_RT ρ h ∧ ρ x = some 0 ∧ (∀ q, h.2.1 ≤ q → ρ q = none) ∧ ∃ (n : Nat) (js c : Nat → Nat), jg_J ρ h x n js c ∧ h.2.1 ≤ b0 + 6 * n + jg_sum c n ∧ h.2.2 ≤ s0 + 3632 * n + 10 * jg_sum c n
/-- roles grow; what has none is left alone -/
def jg_X (ρ : jk_R) (h : jv_H) (ρ' : jk_R) (h' : jv_H) : Prop := (∀ a q, ρ a = some q → ρ' a = some q) ∧ (∀ a, a < h.2.1 → ρ a = none → ρ' a = none ∧ h'.1 a = h.1 a) ∧ h.2.1 ≤ h'.2.1
theorem jg_X_rf : jg_X ρ h ρ h := ⟨fun _ _ e => e, fun _ _ e => ⟨e, rfl⟩, Nat.le_refl _⟩
theorem jg_X_tr {ρ1 ρ2 ρ3 : jk_R} {h1 h2 h3 : jv_H} (a : jg_X ρ1 h1 ρ2 h2) (b : jg_X ρ2 h2 ρ3 h3) : jg_X ρ1 h1 ρ3 h3 := by
  refine ⟨fun q r e => b.1 q r (a.1 q r e), fun q hq e => ?_, Nat.le_trans a.2.2 b.2.2⟩
  obtain ⟨e1, e2⟩ := a.2.1 q hq e
  obtain ⟨e3, e4⟩ := b.2.1 q (Nat.lt_of_lt_of_le hq a.2.2) e1
  exact ⟨e3, e4.trans e2⟩
theorem jg_X_fr {pr : Nat → Nat → Bool} (hF : jk_Fr pr ρ h h') : jg_X ρ h ρ h' := ⟨fun _ _ e => e, fun a _ e => ⟨e, hF.2.1 a e⟩, by rw [hF.1]; exact Nat.le_refl _⟩
theorem jg_kf {RT : List jk_D} {pr : Nat → Nat → Bool} {a q c k : Nat} (hO : jk_Ok RT ρ h) (hF : jk_Fr pr ρ h h') (ha : ρ a = some q) (hp : pr q k = true) : jv_gf h' a c k = jv_gf h a c k := by
  obtain ⟨d, c0, h1, h2, h3⟩ := hO a q ha
  obtain ⟨c', e2, hs⟩ := hF.2.2 a q _ ha h2
  unfold jv_gf
  rw [h2, e2]
  rcases c0 with ⟨ci, fs⟩ | ⟨kd, n, f⟩ <;> rcases c' with ⟨ci', fs'⟩ | ⟨kd', n', f'⟩
  · obtain ⟨rfl, _, hk⟩ := hs
    simp only
    rw [hk k hp]
  · exact hs.elim
  · exact hs.elim
  · rfl
theorem jg_ka {RT : List jk_D} {pr : Nat → Nat → Bool} {a q : Nat} {ty : FieldType} {j : Int32} (hO : jk_Ok RT ρ h) (hF : jk_Fr pr ρ h h') (ha : ρ a = some q) (hp : pr q 0 = true) : jv_al h' a ty j = jv_al h a ty j := by
  obtain ⟨d, c0, h1, h2, h3⟩ := hO a q ha
  obtain ⟨c', e2, hs⟩ := hF.2.2 a q _ ha h2
  unfold jv_al
  rw [h2, e2]
  rcases c0 with ⟨ci, fs⟩ | ⟨kd, n, f⟩ <;> rcases c' with ⟨ci', fs'⟩ | ⟨kd', n', f'⟩
  · rfl
  · exact hs.elim
  · exact hs.elim
  · obtain ⟨rfl, rfl, hk⟩ := hs
    rw [hk hp]
theorem jg_ref {a q c k r : Nat} {ts : List jk_T} (hO : jk_Ok jc_RT ρ h) (ha : ρ a = some q) (hr : jc_RT[q]? = some (.inl (c, ts))) (ht : ts[k]? = some (.inr (.inr (r, true)))) : ∃ p, jv_gf h a c k = some (.ref p) ∧ ρ p = some r := by
  obtain ⟨v, e, hv⟩ := jh_get hO ha hr ht
  obtain ⟨p, rfl, hp⟩ := jh_ref hv
  exact ⟨p, e, hp⟩
theorem jg_Bk (hO : jk_Ok jc_RT ρ h) (hF : jk_Fr jc_pr ρ h h') {a k : Nat} (ha : ρ a = some 4) : jg_B h' a k = jg_B h a k := by
  obtain ⟨p, e, hp⟩ := jg_ref (k := 6) hO ha rfl rfl
  have e' := jg_kf (c := 4) (k := 6) hO hF ha rfl
  unfold jg_B
  rw [e', e]
  exact jg_ka hO hF hp rfl
theorem jg_Rk (hO : jk_Ok jc_RT ρ h) (hF : jk_Fr jc_pr ρ h h') {x k : Nat} (hx : ρ x = some 0) : jg_R h' x k = jg_R h x k := by
  obtain ⟨p, e, hp⟩ := jg_ref (k := 3) hO hx rfl rfl
  have e' := jg_kf (c := 6) (k := 3) hO hF hx rfl
  unfold jg_R
  rw [e', e]
  exact jg_ka hO hF hp rfl
theorem jg_Ek (hO : jk_Ok jc_RT ρ h) (hF : jk_Fr jc_pr ρ h h') {a : Nat} (ha : ρ a = some 4) : jg_E h' a ↔ jg_E h a := by
  unfold jg_E
  rw [jg_kf (c := 4) (k := 12) hO hF ha rfl]
theorem jg_nnk (hO : jk_Ok jc_RT ρ h) (hF : jk_Fr jc_pr ρ h h') {a : Nat} (ha : ρ a = some 4) : jg_nn h' a = jg_nn h a := by
  unfold jg_nn
  congr 1
  funext k
  rw [jg_Bk hO hF ha]
/-- a block in a job's row has the block's role -/
theorem jg_Br (hO : jk_Ok jc_RT ρ h) {a k b : Nat} (ha : ρ a = some 4) (e : jg_B h a k = some (.ref b)) : ρ b = some 5 := by
  obtain ⟨p, e1, hp⟩ := jg_ref (k := 6) hO ha rfl rfl
  unfold jg_B at e
  rw [e1] at e
  obtain ⟨d, c, g1, g2, g3⟩ := hO p 14 hp
  cases g1
  rcases c with ⟨ci2, fs⟩ | ⟨kd2, n, f⟩
  · exact g3.elim
  · obtain ⟨rfl, hlo, hle, hf⟩ := g3
    simp only [jv_al, g2] at e
    split at e
    · simp only [Option.some.injEq] at e
      have := hf (nI k).toNatClampNeg
      rw [e] at this
      rcases this with ⟨_, q⟩ | ⟨b', q, hb⟩
      · cases q
      · cases q; exact hb
    · cases e
theorem jg_Jk {x n : Nat} {js c : Nat → Nat} (hO : jk_Ok jc_RT ρ h) (hx : ρ x = some 0) (hF : jk_Fr jc_pr ρ h h') (hJ : jg_J ρ h x n js c) : jg_J ρ h' x n js c := by
  obtain ⟨h1, h2, h3, h4, h5, h6, h7⟩ := hJ
  refine ⟨h1, by rw [jg_kf (k := 4) hO hF hx rfl]; exact h2, fun i hi => ?_, h4, h5, fun a b p ha hb e e' => ?_, fun a k b ha hk e => ?_⟩
  · obtain ⟨a1, a2, a3, a4⟩ := h3 i hi
    refine ⟨a1, by rw [jg_Rk hO hF hx]; exact a2, a3, fun e => ?_⟩
    rw [jg_nnk hO hF a1]
    exact a4 ((jg_Ek hO hF a1).mp e)
  · rw [jg_kf (k := 6) hO hF ha rfl] at e
    rw [jg_kf (k := 6) hO hF hb rfl] at e'
    exact h6 a b p ha hb e e'
  · rw [jg_Bk hO hF ha] at e
    rw [jg_kf (k := 0) hO hF (jg_Br hO ha e) rfl]
    exact h7 a k b ha hk e
theorem jg_Ak (hO : jk_Ok jc_RT ρ h) (hF : jk_Fr jc_pr ρ h h') (hA : jg_A ρ h) : jg_A ρ h' := by
  intro a ha e
  rw [jg_kf (k := 13) hO hF ha rfl] at e
  exact (jg_Ek hO hF ha).mpr (hA a ha e)
/-- a leaf method keeps it all -/
theorem jg_Ik {b0 s0 x : Nat} (hI : jg_I b0 s0 ρ h x) (hO' : jk_Ok jc_RT ρ h') (hF : jk_Fr jc_pr ρ h h') : jg_I b0 s0 ρ h' x := by
  obtain ⟨hO, hx, hn, n, js, c, hJ, r1, r2⟩ := hI
  exact ⟨hO', hx, by rw [hF.1]; exact hn, n, js, c, jg_Jk hO hx hF hJ, by rw [hF.1]; exact r1, by rw [hF.1]; exact r2⟩
theorem jg_sum_up {c : Nat → Nat} {i v : Nat} : ∀ n, jg_sum (va_up c i v) n + (if i < n then c i else 0) = jg_sum c n + if i < n then v else 0
  | 0 => by simp [jg_sum]
  | n + 1 => by
    have ih := jg_sum_up (c := c) (i := i) (v := v) n
    unfold jg_sum
    by_cases e : n = i
    · subst e
      rw [jz_us]
      have a1 : ¬ n < n := by omega
      have a2 : n < n + 1 := by omega
      simp only [a1, a2, if_true, if_false] at ih ⊢
      omega
    · rw [jz_un e]
      by_cases hi : i < n
      · have a2 : i < n + 1 := by omega
        simp only [hi, a2, if_true] at ih ⊢
        omega
      · have a2 : ¬ i < n + 1 := by omega
        simp only [hi, a2, if_false] at ih ⊢
        omega
end JG
end
