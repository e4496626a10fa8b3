section
-- ===== PART A: goes FIRST, ahead of the names: the tables' words, and 'selects' of the private methods out of them =====
/-- a private method of a class that the tables say can be made, by its rows of tables_1 -/
def lw_okq (q : MethodName × Nat) : Prop := (q.1.cls ≠ "java/lang/invoke/MethodHandle" ∧ q.1.cls ≠ "java/lang/invoke/VarHandle") ∧ Cond.instantiable q.1.cls q.2 ∈ tables_1 ∧ Cond.privateMethod q.1 ∈ tables_1 ∧ Cond.instanceMethod q.1 ∈ tables_1
theorem lw_p0 : lw_okq (⟨"DrumMachine", "createBlock", "(LDrumMachine$Job;I)LDrumMachine$Block;"⟩, 12) := ⟨⟨by decide +kernel, by decide +kernel⟩, List.mem_of_getElem? (i := 11) (by decide +kernel), List.mem_of_getElem? (i := 256) (by decide +kernel), List.mem_of_getElem? (i := 257) (by decide +kernel)⟩
theorem lw_p1 : lw_okq (⟨"DrumMachine", "activate", "()V"⟩, 12) := ⟨⟨by decide +kernel, by decide +kernel⟩, List.mem_of_getElem? (i := 11) (by decide +kernel), List.mem_of_getElem? (i := 324) (by decide +kernel), List.mem_of_getElem? (i := 325) (by decide +kernel)⟩
theorem lw_p2 : lw_okq (⟨"DrumMachine", "find", "(I)LDrumMachine$Job;"⟩, 12) := ⟨⟨by decide +kernel, by decide +kernel⟩, List.mem_of_getElem? (i := 11) (by decide +kernel), List.mem_of_getElem? (i := 332) (by decide +kernel), List.mem_of_getElem? (i := 333) (by decide +kernel)⟩
theorem lw_p3 : lw_okq (⟨"DrumMachine", "tick", "()V"⟩, 12) := ⟨⟨by decide +kernel, by decide +kernel⟩, List.mem_of_getElem? (i := 11) (by decide +kernel), List.mem_of_getElem? (i := 340) (by decide +kernel), List.mem_of_getElem? (i := 341) (by decide +kernel)⟩
theorem lw_p4 : lw_okq (⟨"DrumMachine", "finishTransfer", "()V"⟩, 12) := ⟨⟨by decide +kernel, by decide +kernel⟩, List.mem_of_getElem? (i := 11) (by decide +kernel), List.mem_of_getElem? (i := 344) (by decide +kernel), List.mem_of_getElem? (i := 345) (by decide +kernel)⟩
theorem lw_p5 : lw_okq (⟨"DrumMachine", "forget", "(LDrumMachine$Block;)V"⟩, 12) := ⟨⟨by decide +kernel, by decide +kernel⟩, List.mem_of_getElem? (i := 11) (by decide +kernel), List.mem_of_getElem? (i := 360) (by decide +kernel), List.mem_of_getElem? (i := 361) (by decide +kernel)⟩
theorem lw_p6 : lw_okq (⟨"DrumMachine", "chooseVictim", "()V"⟩, 12) := ⟨⟨by decide +kernel, by decide +kernel⟩, List.mem_of_getElem? (i := 11) (by decide +kernel), List.mem_of_getElem? (i := 368) (by decide +kernel), List.mem_of_getElem? (i := 369) (by decide +kernel)⟩
theorem lw_p7 : lw_okq (⟨"DrumMachine", "nextInHand", "()I"⟩, 12) := ⟨⟨by decide +kernel, by decide +kernel⟩, List.mem_of_getElem? (i := 11) (by decide +kernel), List.mem_of_getElem? (i := 422) (by decide +kernel), List.mem_of_getElem? (i := 423) (by decide +kernel)⟩
theorem lw_p8 : lw_okq (⟨"DrumMachine", "doNextOrder", "(LDrumMachine$Job;)I"⟩, 12) := ⟨⟨by decide +kernel, by decide +kernel⟩, List.mem_of_getElem? (i := 11) (by decide +kernel), List.mem_of_getElem? (i := 435) (by decide +kernel), List.mem_of_getElem? (i := 436) (by decide +kernel)⟩
theorem lw_p9 : lw_okq (⟨"DrumMachine", "reach", "(LDrumMachine$Job;I)I"⟩, 12) := ⟨⟨by decide +kernel, by decide +kernel⟩, List.mem_of_getElem? (i := 11) (by decide +kernel), List.mem_of_getElem? (i := 439) (by decide +kernel), List.mem_of_getElem? (i := 440) (by decide +kernel)⟩
theorem lw_p10 : lw_okq (⟨"DrumMachine", "reachHeld", "(LDrumMachine$Job;LDrumMachine$Block;)I"⟩, 12) := ⟨⟨by decide +kernel, by decide +kernel⟩, List.mem_of_getElem? (i := 11) (by decide +kernel), List.mem_of_getElem? (i := 451) (by decide +kernel), List.mem_of_getElem? (i := 452) (by decide +kernel)⟩
theorem lw_p11 : lw_okq (⟨"DrumMachine", "settle", "(LDrumMachine$Job;I)V"⟩, 12) := ⟨⟨by decide +kernel, by decide +kernel⟩, List.mem_of_getElem? (i := 11) (by decide +kernel), List.mem_of_getElem? (i := 568) (by decide +kernel), List.mem_of_getElem? (i := 569) (by decide +kernel)⟩
theorem lw_p12 : lw_okq (⟨"DrumMachine", "endJob", "(LDrumMachine$Job;I)V"⟩, 12) := ⟨⟨by decide +kernel, by decide +kernel⟩, List.mem_of_getElem? (i := 11) (by decide +kernel), List.mem_of_getElem? (i := 572) (by decide +kernel), List.mem_of_getElem? (i := 573) (by decide +kernel)⟩
theorem lw_p13 : lw_okq (⟨"DrumMachineModel", "exist", "(I)V"⟩, 44) := ⟨⟨by decide +kernel, by decide +kernel⟩, List.mem_of_getElem? (i := 654) (by decide +kernel), List.mem_of_getElem? (i := 813) (by decide +kernel), List.mem_of_getElem? (i := 814) (by decide +kernel)⟩
theorem lw_p14 : lw_okq (⟨"DrumMachineModel", "notEnded", "()I"⟩, 44) := ⟨⟨by decide +kernel, by decide +kernel⟩, List.mem_of_getElem? (i := 654) (by decide +kernel), List.mem_of_getElem? (i := 821) (by decide +kernel), List.mem_of_getElem? (i := 822) (by decide +kernel)⟩
theorem lw_p15 : lw_okq (⟨"DrumMachineModel", "tick", "()V"⟩, 44) := ⟨⟨by decide +kernel, by decide +kernel⟩, List.mem_of_getElem? (i := 654) (by decide +kernel), List.mem_of_getElem? (i := 825) (by decide +kernel), List.mem_of_getElem? (i := 826) (by decide +kernel)⟩
def lw_privs_1 : List (MethodName × Nat) := [(⟨"DrumMachine", "createBlock", "(LDrumMachine$Job;I)LDrumMachine$Block;"⟩, 12), (⟨"DrumMachine", "activate", "()V"⟩, 12), (⟨"DrumMachine", "find", "(I)LDrumMachine$Job;"⟩, 12), (⟨"DrumMachine", "tick", "()V"⟩, 12), (⟨"DrumMachine", "finishTransfer", "()V"⟩, 12), (⟨"DrumMachine", "forget", "(LDrumMachine$Block;)V"⟩, 12), (⟨"DrumMachine", "chooseVictim", "()V"⟩, 12), (⟨"DrumMachine", "nextInHand", "()I"⟩, 12), (⟨"DrumMachine", "doNextOrder", "(LDrumMachine$Job;)I"⟩, 12), (⟨"DrumMachine", "reach", "(LDrumMachine$Job;I)I"⟩, 12), (⟨"DrumMachine", "reachHeld", "(LDrumMachine$Job;LDrumMachine$Block;)I"⟩, 12), (⟨"DrumMachine", "settle", "(LDrumMachine$Job;I)V"⟩, 12), (⟨"DrumMachine", "endJob", "(LDrumMachine$Job;I)V"⟩, 12), (⟨"DrumMachineModel", "exist", "(I)V"⟩, 44), (⟨"DrumMachineModel", "notEnded", "()I"⟩, 44), (⟨"DrumMachineModel", "tick", "()V"⟩, 44)]
theorem lw_r1 : ∀ q ∈ lw_privs_1, lw_okq q := List.forall_mem_cons.mpr ⟨lw_p0, List.forall_mem_cons.mpr ⟨lw_p1, List.forall_mem_cons.mpr ⟨lw_p2, List.forall_mem_cons.mpr ⟨lw_p3, List.forall_mem_cons.mpr ⟨lw_p4, List.forall_mem_cons.mpr ⟨lw_p5, List.forall_mem_cons.mpr ⟨lw_p6, List.forall_mem_cons.mpr ⟨lw_p7, List.forall_mem_cons.mpr ⟨lw_p8, List.forall_mem_cons.mpr ⟨lw_p9, List.forall_mem_cons.mpr ⟨lw_p10, List.forall_mem_cons.mpr ⟨lw_p11, List.forall_mem_cons.mpr ⟨lw_p12, List.forall_mem_cons.mpr ⟨lw_p13, List.forall_mem_cons.mpr ⟨lw_p14, List.forall_mem_cons.mpr ⟨lw_p15, fun _ h => absurd h List.not_mem_nil⟩⟩⟩⟩⟩⟩⟩⟩⟩⟩⟩⟩⟩⟩⟩⟩
theorem lw_p16 : lw_okq (⟨"DrumMachineModel", "finish", "()V"⟩, 44) := ⟨⟨by decide +kernel, by decide +kernel⟩, List.mem_of_getElem? (i := 654) (by decide +kernel), List.mem_of_getElem? (i := 829) (by decide +kernel), List.mem_of_getElem? (i := 830) (by decide +kernel)⟩
theorem lw_p17 : lw_okq (⟨"DrumMachineModel", "leave", "(I)V"⟩, 44) := ⟨⟨by decide +kernel, by decide +kernel⟩, List.mem_of_getElem? (i := 654) (by decide +kernel), List.mem_of_getElem? (i := 833) (by decide +kernel), List.mem_of_getElem? (i := 834) (by decide +kernel)⟩
theorem lw_p18 : lw_okq (⟨"DrumMachineModel", "vanish", "(I)V"⟩, 44) := ⟨⟨by decide +kernel, by decide +kernel⟩, List.mem_of_getElem? (i := 654) (by decide +kernel), List.mem_of_getElem? (i := 837) (by decide +kernel), List.mem_of_getElem? (i := 838) (by decide +kernel)⟩
theorem lw_p19 : lw_okq (⟨"DrumMachineModel", "freeFrame", "()I"⟩, 44) := ⟨⟨by decide +kernel, by decide +kernel⟩, List.mem_of_getElem? (i := 654) (by decide +kernel), List.mem_of_getElem? (i := 841) (by decide +kernel), List.mem_of_getElem? (i := 842) (by decide +kernel)⟩
theorem lw_p20 : lw_okq (⟨"DrumMachineModel", "frameOf", "(I)I"⟩, 44) := ⟨⟨by decide +kernel, by decide +kernel⟩, List.mem_of_getElem? (i := 654) (by decide +kernel), List.mem_of_getElem? (i := 845) (by decide +kernel), List.mem_of_getElem? (i := 846) (by decide +kernel)⟩
theorem lw_p21 : lw_okq (⟨"DrumMachineModel", "isWriteAsked", "()Z"⟩, 44) := ⟨⟨by decide +kernel, by decide +kernel⟩, List.mem_of_getElem? (i := 654) (by decide +kernel), List.mem_of_getElem? (i := 849) (by decide +kernel), List.mem_of_getElem? (i := 850) (by decide +kernel)⟩
theorem lw_p22 : lw_okq (⟨"DrumMachineModel", "choose", "()V"⟩, 44) := ⟨⟨by decide +kernel, by decide +kernel⟩, List.mem_of_getElem? (i := 654) (by decide +kernel), List.mem_of_getElem? (i := 853) (by decide +kernel), List.mem_of_getElem? (i := 854) (by decide +kernel)⟩
theorem lw_p23 : lw_okq (⟨"DrumMachineModel", "mayGo", "(I)Z"⟩, 44) := ⟨⟨by decide +kernel, by decide +kernel⟩, List.mem_of_getElem? (i := 654) (by decide +kernel), List.mem_of_getElem? (i := 857) (by decide +kernel), List.mem_of_getElem? (i := 858) (by decide +kernel)⟩
theorem lw_p24 : lw_okq (⟨"DrumMachineModel", "isWanted", "(I)Z"⟩, 44) := ⟨⟨by decide +kernel, by decide +kernel⟩, List.mem_of_getElem? (i := 654) (by decide +kernel), List.mem_of_getElem? (i := 861) (by decide +kernel), List.mem_of_getElem? (i := 862) (by decide +kernel)⟩
theorem lw_p25 : lw_okq (⟨"DrumMachineModel", "isActive", "(I)Z"⟩, 44) := ⟨⟨by decide +kernel, by decide +kernel⟩, List.mem_of_getElem? (i := 654) (by decide +kernel), List.mem_of_getElem? (i := 865) (by decide +kernel), List.mem_of_getElem? (i := 866) (by decide +kernel)⟩
theorem lw_p26 : lw_okq (⟨"DrumMachineModel", "ask", "(II)V"⟩, 44) := ⟨⟨by decide +kernel, by decide +kernel⟩, List.mem_of_getElem? (i := 654) (by decide +kernel), List.mem_of_getElem? (i := 875) (by decide +kernel), List.mem_of_getElem? (i := 876) (by decide +kernel)⟩
theorem lw_p27 : lw_okq (⟨"DrumMachineModel", "begin", "()V"⟩, 44) := ⟨⟨by decide +kernel, by decide +kernel⟩, List.mem_of_getElem? (i := 654) (by decide +kernel), List.mem_of_getElem? (i := 879) (by decide +kernel), List.mem_of_getElem? (i := 880) (by decide +kernel)⟩
theorem lw_p28 : lw_okq (⟨"DrumMachineModel", "drop", "(I)V"⟩, 44) := ⟨⟨by decide +kernel, by decide +kernel⟩, List.mem_of_getElem? (i := 654) (by decide +kernel), List.mem_of_getElem? (i := 883) (by decide +kernel), List.mem_of_getElem? (i := 884) (by decide +kernel)⟩
theorem lw_p29 : lw_okq (⟨"DrumMachineModel", "sectorOf", "(I)I"⟩, 44) := ⟨⟨by decide +kernel, by decide +kernel⟩, List.mem_of_getElem? (i := 654) (by decide +kernel), List.mem_of_getElem? (i := 887) (by decide +kernel), List.mem_of_getElem? (i := 888) (by decide +kernel)⟩
theorem lw_p30 : lw_okq (⟨"DrumMachineModel", "passes", "(I)I"⟩, 44) := ⟨⟨by decide +kernel, by decide +kernel⟩, List.mem_of_getElem? (i := 654) (by decide +kernel), List.mem_of_getElem? (i := 891) (by decide +kernel), List.mem_of_getElem? (i := 892) (by decide +kernel)⟩
theorem lw_p31 : lw_okq (⟨"DrumMachineModel", "next", "()I"⟩, 44) := ⟨⟨by decide +kernel, by decide +kernel⟩, List.mem_of_getElem? (i := 654) (by decide +kernel), List.mem_of_getElem? (i := 895) (by decide +kernel), List.mem_of_getElem? (i := 896) (by decide +kernel)⟩
def lw_privs_2 : List (MethodName × Nat) := [(⟨"DrumMachineModel", "finish", "()V"⟩, 44), (⟨"DrumMachineModel", "leave", "(I)V"⟩, 44), (⟨"DrumMachineModel", "vanish", "(I)V"⟩, 44), (⟨"DrumMachineModel", "freeFrame", "()I"⟩, 44), (⟨"DrumMachineModel", "frameOf", "(I)I"⟩, 44), (⟨"DrumMachineModel", "isWriteAsked", "()Z"⟩, 44), (⟨"DrumMachineModel", "choose", "()V"⟩, 44), (⟨"DrumMachineModel", "mayGo", "(I)Z"⟩, 44), (⟨"DrumMachineModel", "isWanted", "(I)Z"⟩, 44), (⟨"DrumMachineModel", "isActive", "(I)Z"⟩, 44), (⟨"DrumMachineModel", "ask", "(II)V"⟩, 44), (⟨"DrumMachineModel", "begin", "()V"⟩, 44), (⟨"DrumMachineModel", "drop", "(I)V"⟩, 44), (⟨"DrumMachineModel", "sectorOf", "(I)I"⟩, 44), (⟨"DrumMachineModel", "passes", "(I)I"⟩, 44), (⟨"DrumMachineModel", "next", "()I"⟩, 44)]
theorem lw_r2 : ∀ q ∈ lw_privs_2, lw_okq q := List.forall_mem_cons.mpr ⟨lw_p16, List.forall_mem_cons.mpr ⟨lw_p17, List.forall_mem_cons.mpr ⟨lw_p18, List.forall_mem_cons.mpr ⟨lw_p19, List.forall_mem_cons.mpr ⟨lw_p20, List.forall_mem_cons.mpr ⟨lw_p21, List.forall_mem_cons.mpr ⟨lw_p22, List.forall_mem_cons.mpr ⟨lw_p23, List.forall_mem_cons.mpr ⟨lw_p24, List.forall_mem_cons.mpr ⟨lw_p25, List.forall_mem_cons.mpr ⟨lw_p26, List.forall_mem_cons.mpr ⟨lw_p27, List.forall_mem_cons.mpr ⟨lw_p28, List.forall_mem_cons.mpr ⟨lw_p29, List.forall_mem_cons.mpr ⟨lw_p30, List.forall_mem_cons.mpr ⟨lw_p31, fun _ h => absurd h List.not_mem_nil⟩⟩⟩⟩⟩⟩⟩⟩⟩⟩⟩⟩⟩⟩⟩⟩
theorem lw_p32 : lw_okq (⟨"DrumMachineModel", "isReady", "(I)Z"⟩, 44) := ⟨⟨by decide +kernel, by decide +kernel⟩, List.mem_of_getElem? (i := 654) (by decide +kernel), List.mem_of_getElem? (i := 899) (by decide +kernel), List.mem_of_getElem? (i := 900) (by decide +kernel)⟩
theorem lw_p33 : lw_okq (⟨"DrumMachineModel", "step", "(I)V"⟩, 44) := ⟨⟨by decide +kernel, by decide +kernel⟩, List.mem_of_getElem? (i := 654) (by decide +kernel), List.mem_of_getElem? (i := 903) (by decide +kernel), List.mem_of_getElem? (i := 904) (by decide +kernel)⟩
theorem lw_p34 : lw_okq (⟨"DrumMachineModel", "ends", "(II)V"⟩, 44) := ⟨⟨by decide +kernel, by decide +kernel⟩, List.mem_of_getElem? (i := 654) (by decide +kernel), List.mem_of_getElem? (i := 907) (by decide +kernel), List.mem_of_getElem? (i := 908) (by decide +kernel)⟩
theorem lw_p35 : lw_okq (⟨"DrumMachineModel", "comes", "(II)Z"⟩, 44) := ⟨⟨by decide +kernel, by decide +kernel⟩, List.mem_of_getElem? (i := 654) (by decide +kernel), List.mem_of_getElem? (i := 911) (by decide +kernel), List.mem_of_getElem? (i := 912) (by decide +kernel)⟩
theorem lw_p36 : lw_okq (⟨"DrumMachineModel", "sum", "(IIIII)I"⟩, 44) := ⟨⟨by decide +kernel, by decide +kernel⟩, List.mem_of_getElem? (i := 654) (by decide +kernel), List.mem_of_getElem? (i := 921) (by decide +kernel), List.mem_of_getElem? (i := 922) (by decide +kernel)⟩
theorem lw_p37 : lw_okq (⟨"DrumMachineModel", "why", "(III)I"⟩, 44) := ⟨⟨by decide +kernel, by decide +kernel⟩, List.mem_of_getElem? (i := 654) (by decide +kernel), List.mem_of_getElem? (i := 928) (by decide +kernel), List.mem_of_getElem? (i := 929) (by decide +kernel)⟩
theorem lw_p38 : lw_okq (⟨"DrumMachineModel", "at", "(II)J"⟩, 44) := ⟨⟨by decide +kernel, by decide +kernel⟩, List.mem_of_getElem? (i := 654) (by decide +kernel), List.mem_of_getElem? (i := 933) (by decide +kernel), List.mem_of_getElem? (i := 934) (by decide +kernel)⟩
theorem lw_p39 : lw_okq (⟨"DrumMachineModel", "writeNumber", "(II)V"⟩, 44) := ⟨⟨by decide +kernel, by decide +kernel⟩, List.mem_of_getElem? (i := 654) (by decide +kernel), List.mem_of_getElem? (i := 938) (by decide +kernel), List.mem_of_getElem? (i := 939) (by decide +kernel)⟩
theorem lw_p40 : lw_okq (⟨"DrumMachineModel", "prints", "(II)Z"⟩, 44) := ⟨⟨by decide +kernel, by decide +kernel⟩, List.mem_of_getElem? (i := 654) (by decide +kernel), List.mem_of_getElem? (i := 942) (by decide +kernel), List.mem_of_getElem? (i := 943) (by decide +kernel)⟩
theorem lw_p41 : lw_okq (⟨"DrumMachineModel", "ofRegister", "(IIIII)I"⟩, 44) := ⟨⟨by decide +kernel, by decide +kernel⟩, List.mem_of_getElem? (i := 654) (by decide +kernel), List.mem_of_getElem? (i := 947) (by decide +kernel), List.mem_of_getElem? (i := 948) (by decide +kernel)⟩
theorem lw_p42 : lw_okq (⟨"DrumMachineModel", "setB", "(IIJ)V"⟩, 44) := ⟨⟨by decide +kernel, by decide +kernel⟩, List.mem_of_getElem? (i := 654) (by decide +kernel), List.mem_of_getElem? (i := 951) (by decide +kernel), List.mem_of_getElem? (i := 952) (by decide +kernel)⟩
theorem lw_p43 : lw_okq (⟨"DrumMachineModel", "ofAccumulator", "(IIII)I"⟩, 44) := ⟨⟨by decide +kernel, by decide +kernel⟩, List.mem_of_getElem? (i := 654) (by decide +kernel), List.mem_of_getElem? (i := 955) (by decide +kernel), List.mem_of_getElem? (i := 956) (by decide +kernel)⟩
theorem lw_p44 : lw_okq (⟨"DrumMachineModel", "other", "(III)V"⟩, 44) := ⟨⟨by decide +kernel, by decide +kernel⟩, List.mem_of_getElem? (i := 654) (by decide +kernel), List.mem_of_getElem? (i := 959) (by decide +kernel), List.mem_of_getElem? (i := 960) (by decide +kernel)⟩
theorem lw_p45 : lw_okq (⟨"DrumMachineModel", "nextByte", "(I)I"⟩, 44) := ⟨⟨by decide +kernel, by decide +kernel⟩, List.mem_of_getElem? (i := 654) (by decide +kernel), List.mem_of_getElem? (i := 963) (by decide +kernel), List.mem_of_getElem? (i := 964) (by decide +kernel)⟩
theorem lw_p46 : lw_okq (⟨"DrumMachineModel", "readNumber", "(I)V"⟩, 44) := ⟨⟨by decide +kernel, by decide +kernel⟩, List.mem_of_getElem? (i := 654) (by decide +kernel), List.mem_of_getElem? (i := 967) (by decide +kernel), List.mem_of_getElem? (i := 968) (by decide +kernel)⟩
theorem lw_p47 : lw_okq (⟨"DrumMachineModel", "round", "()V"⟩, 44) := ⟨⟨by decide +kernel, by decide +kernel⟩, List.mem_of_getElem? (i := 654) (by decide +kernel), List.mem_of_getElem? (i := 976) (by decide +kernel), List.mem_of_getElem? (i := 977) (by decide +kernel)⟩
def lw_privs_3 : List (MethodName × Nat) := [(⟨"DrumMachineModel", "isReady", "(I)Z"⟩, 44), (⟨"DrumMachineModel", "step", "(I)V"⟩, 44), (⟨"DrumMachineModel", "ends", "(II)V"⟩, 44), (⟨"DrumMachineModel", "comes", "(II)Z"⟩, 44), (⟨"DrumMachineModel", "sum", "(IIIII)I"⟩, 44), (⟨"DrumMachineModel", "why", "(III)I"⟩, 44), (⟨"DrumMachineModel", "at", "(II)J"⟩, 44), (⟨"DrumMachineModel", "writeNumber", "(II)V"⟩, 44), (⟨"DrumMachineModel", "prints", "(II)Z"⟩, 44), (⟨"DrumMachineModel", "ofRegister", "(IIIII)I"⟩, 44), (⟨"DrumMachineModel", "setB", "(IIJ)V"⟩, 44), (⟨"DrumMachineModel", "ofAccumulator", "(IIII)I"⟩, 44), (⟨"DrumMachineModel", "other", "(III)V"⟩, 44), (⟨"DrumMachineModel", "nextByte", "(I)I"⟩, 44), (⟨"DrumMachineModel", "readNumber", "(I)V"⟩, 44), (⟨"DrumMachineModel", "round", "()V"⟩, 44)]
theorem lw_r3 : ∀ q ∈ lw_privs_3, lw_okq q := List.forall_mem_cons.mpr ⟨lw_p32, List.forall_mem_cons.mpr ⟨lw_p33, List.forall_mem_cons.mpr ⟨lw_p34, List.forall_mem_cons.mpr ⟨lw_p35, List.forall_mem_cons.mpr ⟨lw_p36, List.forall_mem_cons.mpr ⟨lw_p37, List.forall_mem_cons.mpr ⟨lw_p38, List.forall_mem_cons.mpr ⟨lw_p39, List.forall_mem_cons.mpr ⟨lw_p40, List.forall_mem_cons.mpr ⟨lw_p41, List.forall_mem_cons.mpr ⟨lw_p42, List.forall_mem_cons.mpr ⟨lw_p43, List.forall_mem_cons.mpr ⟨lw_p44, List.forall_mem_cons.mpr ⟨lw_p45, List.forall_mem_cons.mpr ⟨lw_p46, List.forall_mem_cons.mpr ⟨lw_p47, fun _ h => absurd h List.not_mem_nil⟩⟩⟩⟩⟩⟩⟩⟩⟩⟩⟩⟩⟩⟩⟩⟩
theorem lw_p48 : lw_okq (⟨"DrumMachineModel", "isJob", "(I)Z"⟩, 44) := ⟨⟨by decide +kernel, by decide +kernel⟩, List.mem_of_getElem? (i := 654) (by decide +kernel), List.mem_of_getElem? (i := 984) (by decide +kernel), List.mem_of_getElem? (i := 985) (by decide +kernel)⟩
def lw_privs_4 : List (MethodName × Nat) := [(⟨"DrumMachineModel", "isJob", "(I)Z"⟩, 44)]
theorem lw_r4 : ∀ q ∈ lw_privs_4, lw_okq q := List.forall_mem_cons.mpr ⟨lw_p48, fun _ h => absurd h List.not_mem_nil⟩
def lw_privs : List (MethodName × Nat) := lw_privs_1 ++ (lw_privs_2 ++ (lw_privs_3 ++ (lw_privs_4)))
def lw_tbl : List Cond := k2_sels lw_privs ++ tables_1
theorem lw_privs_ok : ∀ q ∈ lw_privs, lw_okq q := by
  show ∀ q ∈ lw_privs_1 ++ (lw_privs_2 ++ (lw_privs_3 ++ (lw_privs_4))), lw_okq q
  exact List.forall_mem_append.mpr ⟨lw_r1, List.forall_mem_append.mpr ⟨lw_r2, List.forall_mem_append.mpr ⟨lw_r3, lw_r4⟩⟩⟩
end
section
/-! ===== BEGIN words of one list among another's, by their places ===== -/
theorem goodIn_r {big : List Cond} (ws : List Cond) (ps : List Nat) (hp : ws = ps.filterMap (fun i => big[i]?)) (h : ws.all goodWord = true) : GoodIn big ws := by
  intro w hw
  have h1 := List.all_eq_true.mp h w hw
  rw [hp] at hw
  obtain ⟨i, -, hi⟩ := List.mem_filterMap.mp hw
  have hm : w ∈ big := by first | exact List.mem_of_getElem? hi | exact List.getElem?_mem hi
  exact ⟨hm, good_of_word h1⟩
theorem goodIn_app {big a b : List Cond} (ha : GoodIn big a) (hb : GoodIn big b) : GoodIn big (a ++ b) := fun w h => (List.mem_append.mp h).elim (ha w) (hb w)
theorem goodIn_ca {big a b : List Cond} {c : Cond} (ha : GoodIn big (c :: a)) (hb : GoodIn big b) : GoodIn big (c :: (a ++ b)) := fun w h => (List.mem_cons.mp h).elim (fun e => ha w (List.mem_cons.mpr (Or.inl e))) (fun h => (List.mem_append.mp h).elim (fun h => ha w (List.mem_cons.mpr (Or.inr h))) (hb w))
theorem goodIn_sub {big ws : List Cond} (hm : ∀ w ∈ ws, w ∈ big) (h : ws.all goodWord = true) : GoodIn big ws := fun w hw => ⟨hm w hw, good_of_word (List.all_eq_true.mp h w hw)⟩
/-! ===== END ===== -/

/-! ===== BEGIN printed: names, fields, word lists, decode rows ===== -/
def RX0 : String := "DrumMachine$Block"
def TX0 : u_T := fun k => match k with
  | 0 => ("DrumMachine$Block", "owner", "LDrumMachine$Job;", true)
  | 1 => ("DrumMachine$Block", "number", "I", true)
  | 2 => ("DrumMachine$Block", "frame", "I", false)
  | 3 => ("DrumMachine$Block", "sector", "I", false)
  | 4 => ("DrumMachine$Block", "locked", "Z", false)
  | 5 => ("DrumMachine$Block", "leaving", "Z", false)
  | 6 => ("DrumMachine$Block", "unusedRounds", "I", false)
  | 7 => ("DrumMachine$Block", "lastPause", "I", false)
  | 8 => ("DrumMachine$Block", "usedInRound", "I", false)
  | _ => ("DrumMachine$Block", "chosenInRound", "I", false)
def tyX0 : Nat → FieldType := fun k => match k with
  | 0 => .object "DrumMachine$Job"
  | 1 => .int
  | 2 => .int
  | 3 => .int
  | 4 => .boolean
  | 5 => .boolean
  | 6 => .int
  | 7 => .int
  | 8 => .int
  | _ => .int
theorem nmX0 : ∀ a, a < 10 → ∀ b, b < 10 → a ≠ b → (TX0 a).2.1 ≠ (TX0 b).2.1 := by decide +kernel
theorem tyX0_ok : ∀ k, k < 10 → parseFieldDescriptor (TX0 k).2.2.1 = some (tyX0 k) := by decide +kernel
abbrev cX0_init : ByteArray := prog_2_method_1_code
def yX0_init : MethodName := ⟨RX0, "<init>", "(LDrumMachine$Job;I)V"⟩
abbrev cX0_arrive : ByteArray := prog_2_method_2_code
def yX0_arrive : MethodName := ⟨RX0, "arrive", "(I)V"⟩
abbrev cX0_age : ByteArray := prog_2_method_3_code
def yX0_age : MethodName := ⟨RX0, "age", "(I)V"⟩
abbrev cX0_mayLeave : ByteArray := prog_2_method_4_code
def yX0_mayLeave : MethodName := ⟨RX0, "mayLeave", "()Z"⟩
abbrev cX0_victimClass : ByteArray := prog_2_method_5_code
def yX0_victimClass : MethodName := ⟨RX0, "victimClass", "()I"⟩
abbrev cX0_isBetterVictimThan : ByteArray := prog_2_method_6_code
def yX0_isBetterVictimThan : MethodName := ⟨RX0, "isBetterVictimThan", "(LDrumMachine$Block;)Z"⟩
def RX1 : String := "DrumMachine$Core"
def TX1 : u_T := fun k => match k with
  | 0 => ("DrumMachine$Core", "held", "[LDrumMachine$Block;", true)
  | 1 => ("DrumMachine$Core", "size", "I", false)
  | 2 => ("DrumMachine$Core", "free", "I", false)
  | _ => ("DrumMachine$Core", "rounds", "I", false)
def tyX1 : Nat → FieldType := fun k => match k with
  | 0 => .array (.object "DrumMachine$Block")
  | 1 => .int
  | 2 => .int
  | _ => .int
theorem nmX1 : ∀ a, a < 4 → ∀ b, b < 4 → a ≠ b → (TX1 a).2.1 ≠ (TX1 b).2.1 := by decide +kernel
theorem tyX1_ok : ∀ k, k < 4 → parseFieldDescriptor (TX1 k).2.2.1 = some (tyX1 k) := by decide +kernel
abbrev cX1_init : ByteArray := prog_3_method_1_code
def yX1_init : MethodName := ⟨RX1, "<init>", "()V"⟩
abbrev cX1_resize : ByteArray := prog_3_method_2_code
def yX1_resize : MethodName := ⟨RX1, "resize", "(I)V"⟩
abbrev cX1_mostActive : ByteArray := prog_3_method_3_code
def yX1_mostActive : MethodName := ⟨RX1, "mostActive", "()I"⟩
abbrev cX1_blockIn : ByteArray := prog_3_method_4_code
def yX1_blockIn : MethodName := ⟨RX1, "blockIn", "(I)LDrumMachine$Block;"⟩
abbrev cX1_lowestFree : ByteArray := prog_3_method_5_code
def yX1_lowestFree : MethodName := ⟨RX1, "lowestFree", "()I"⟩
abbrev cX1_place : ByteArray := prog_3_method_6_code
def yX1_place : MethodName := ⟨RX1, "place", "(LDrumMachine$Block;I)V"⟩
abbrev cX1_release : ByteArray := prog_3_method_7_code
def yX1_release : MethodName := ⟨RX1, "release", "(LDrumMachine$Block;)V"⟩
abbrev cX1_victim : ByteArray := prog_3_method_8_code
def yX1_victim : MethodName := ⟨RX1, "victim", "()LDrumMachine$Block;"⟩
abbrev cX1_use : ByteArray := prog_3_method_9_code
def yX1_use : MethodName := ⟨RX1, "use", "(LDrumMachine$Block;)V"⟩
abbrev cX1_holdRound : ByteArray := prog_3_method_10_code
def yX1_holdRound : MethodName := ⟨RX1, "holdRound", "()V"⟩
def RX2 : String := "DrumMachine$Drum"
def TX2 : u_T := fun k => match k with
  | 0 => ("DrumMachine$Drum", "sectors", "[LDrumMachine$Block;", true)
  | 1 => ("DrumMachine$Drum", "asked", "[LDrumMachine$Block;", true)
  | 2 => ("DrumMachine$Drum", "askedCount", "I", false)
  | 3 => ("DrumMachine$Drum", "underWay", "LDrumMachine$Block;", false)
  | 4 => ("DrumMachine$Drum", "endsAt", "I", false)
  | 5 => ("DrumMachine$Drum", "writePending", "Z", false)
  | 6 => ("DrumMachine$Drum", "reads", "I", false)
  | _ => ("DrumMachine$Drum", "writes", "I", false)
def tyX2 : Nat → FieldType := fun k => match k with
  | 0 => .array (.object "DrumMachine$Block")
  | 1 => .array (.object "DrumMachine$Block")
  | 2 => .int
  | 3 => .object "DrumMachine$Block"
  | 4 => .int
  | 5 => .boolean
  | 6 => .int
  | _ => .int
theorem nmX2 : ∀ a, a < 8 → ∀ b, b < 8 → a ≠ b → (TX2 a).2.1 ≠ (TX2 b).2.1 := by decide +kernel
theorem tyX2_ok : ∀ k, k < 8 → parseFieldDescriptor (TX2 k).2.2.1 = some (tyX2 k) := by decide +kernel
abbrev cX2_init : ByteArray := prog_4_method_1_code
def yX2_init : MethodName := ⟨RX2, "<init>", "()V"⟩
abbrev cX2_blockOn : ByteArray := prog_4_method_2_code
def yX2_blockOn : MethodName := ⟨RX2, "blockOn", "(I)LDrumMachine$Block;"⟩
abbrev cX2_load : ByteArray := prog_4_method_3_code
def yX2_load : MethodName := ⟨RX2, "load", "(LDrumMachine$Block;)V"⟩
abbrev cX2_put : ByteArray := prog_4_method_4_code
def yX2_put : MethodName := ⟨RX2, "put", "(LDrumMachine$Block;I)V"⟩
abbrev cX2_release : ByteArray := prog_4_method_5_code
def yX2_release : MethodName := ⟨RX2, "release", "(LDrumMachine$Block;)V"⟩
abbrev cX2_ask : ByteArray := prog_4_method_6_code
def yX2_ask : MethodName := ⟨RX2, "ask", "(LDrumMachine$Block;)V"⟩
abbrev cX2_cancel : ByteArray := prog_4_method_7_code
def yX2_cancel : MethodName := ⟨RX2, "cancel", "(LDrumMachine$Block;)V"⟩
abbrev cX2_dropAsked : ByteArray := prog_4_method_8_code
def yX2_dropAsked : MethodName := ⟨RX2, "dropAsked", "(I)V"⟩
abbrev cX2_begin : ByteArray := prog_4_method_9_code
def yX2_begin : MethodName := ⟨RX2, "begin", "(I)V"⟩
abbrev cX2_takeEnded : ByteArray := prog_4_method_10_code
def yX2_takeEnded : MethodName := ⟨RX2, "takeEnded", "(I)LDrumMachine$Block;"⟩
abbrev cX2_nextFreeSector : ByteArray := prog_4_method_11_code
def yX2_nextFreeSector : MethodName := ⟨RX2, "nextFreeSector", "(I)I"⟩
abbrev cX2_ticksTill : ByteArray := prog_4_method_12_code
def yX2_ticksTill : MethodName := ⟨RX2, "ticksTill", "(II)I"⟩
def RX3 : String := "DrumMachine$Job"
def TX3 : u_T := fun k => match k with
  | 0 => ("DrumMachine$Job", "number", "I", true)
  | 1 => ("DrumMachine$Job", "limit", "I", true)
  | 2 => ("DrumMachine$Job", "accumulator", "J", false)
  | 3 => ("DrumMachine$Job", "indexes", "[I", true)
  | 4 => ("DrumMachine$Job", "control", "I", false)
  | 5 => ("DrumMachine$Job", "store", "[J", true)
  | 6 => ("DrumMachine$Job", "blocks", "[LDrumMachine$Block;", true)
  | 7 => ("DrumMachine$Job", "tape", "[I", true)
  | 8 => ("DrumMachine$Job", "tapeAt", "I", false)
  | 9 => ("DrumMachine$Job", "print", "[I", true)
  | 10 => ("DrumMachine$Job", "printCount", "I", false)
  | 11 => ("DrumMachine$Job", "ordersDone", "I", false)
  | 12 => ("DrumMachine$Job", "end", "I", false)
  | 13 => ("DrumMachine$Job", "active", "Z", false)
  | 14 => ("DrumMachine$Job", "awaited", "LDrumMachine$Block;", false)
  | _ => ("DrumMachine$Job", "awaitsFrame", "Z", false)
def tyX3 : Nat → FieldType := fun k => match k with
  | 0 => .int
  | 1 => .int
  | 2 => .long
  | 3 => .array .int
  | 4 => .int
  | 5 => .array .long
  | 6 => .array (.object "DrumMachine$Block")
  | 7 => .array .int
  | 8 => .int
  | 9 => .array .int
  | 10 => .int
  | 11 => .int
  | 12 => .int
  | 13 => .boolean
  | 14 => .object "DrumMachine$Block"
  | _ => .boolean
theorem nmX3 : ∀ a, a < 16 → ∀ b, b < 16 → a ≠ b → (TX3 a).2.1 ≠ (TX3 b).2.1 := by decide +kernel
theorem tyX3_ok : ∀ k, k < 16 → parseFieldDescriptor (TX3 k).2.2.1 = some (tyX3 k) := by decide +kernel
abbrev cX3_init : ByteArray := prog_5_method_1_code
def yX3_init : MethodName := ⟨RX3, "<init>", "(IILDrumMachine$Tray;I)V"⟩
abbrev cX3_wrapWord : ByteArray := prog_5_method_2_code
def yX3_wrapWord : MethodName := ⟨RX3, "wrapWord", "(J)J"⟩
abbrev cX3_wrapIndex : ByteArray := prog_5_method_3_code
def yX3_wrapIndex : MethodName := ⟨RX3, "wrapIndex", "(I)I"⟩
abbrev cX3_isInStore : ByteArray := prog_5_method_4_code
def yX3_isInStore : MethodName := ⟨RX3, "isInStore", "(I)Z"⟩
abbrev cX3_isReady : ByteArray := prog_5_method_5_code
def yX3_isReady : MethodName := ⟨RX3, "isReady", "(Z)Z"⟩
abbrev cX3_stopWaiting : ByteArray := prog_5_method_6_code
def yX3_stopWaiting : MethodName := ⟨RX3, "stopWaiting", "()V"⟩
abbrev cX3_wants : ByteArray := prog_5_method_7_code
def yX3_wants : MethodName := ⟨RX3, "wants", "(LDrumMachine$Block;)Z"⟩
abbrev cX3_blockOf : ByteArray := prog_5_method_8_code
def yX3_blockOf : MethodName := ⟨RX3, "blockOf", "(I)LDrumMachine$Block;"⟩
abbrev cX3_setBlock : ByteArray := prog_5_method_9_code
def yX3_setBlock : MethodName := ⟨RX3, "setBlock", "(ILDrumMachine$Block;)V"⟩
abbrev cX3_load : ByteArray := prog_5_method_10_code
def yX3_load : MethodName := ⟨RX3, "load", "(I)J"⟩
abbrev cX3_keep : ByteArray := prog_5_method_11_code
def yX3_keep : MethodName := ⟨RX3, "keep", "(IJ)V"⟩
abbrev cX3_index : ByteArray := prog_5_method_12_code
def yX3_index : MethodName := ⟨RX3, "index", "(I)I"⟩
abbrev cX3_setIndex : ByteArray := prog_5_method_13_code
def yX3_setIndex : MethodName := ⟨RX3, "setIndex", "(II)V"⟩
abbrev cX3_printedByte : ByteArray := prog_5_method_14_code
def yX3_printedByte : MethodName := ⟨RX3, "printedByte", "(I)I"⟩
abbrev cX3_addressIn : ByteArray := prog_5_method_15_code
def yX3_addressIn : MethodName := ⟨RX3, "addressIn", "(J)I"⟩
abbrev cX3_obey : ByteArray := prog_5_method_16_code
def yX3_obey : MethodName := ⟨RX3, "obey", "(III)I"⟩
abbrev cX3_obeyIndexOrder : ByteArray := prog_5_method_17_code
def yX3_obeyIndexOrder : MethodName := ⟨RX3, "obeyIndexOrder", "(III)V"⟩
abbrev cX3_obeyAccumulatorOrder : ByteArray := prog_5_method_18_code
def yX3_obeyAccumulatorOrder : MethodName := ⟨RX3, "obeyAccumulatorOrder", "(II)V"⟩
abbrev cX3_goesElsewhere : ByteArray := prog_5_method_19_code
def yX3_goesElsewhere : MethodName := ⟨RX3, "goesElsewhere", "(II)Z"⟩
abbrev cX3_obeyRoutine : ByteArray := prog_5_method_20_code
def yX3_obeyRoutine : MethodName := ⟨RX3, "obeyRoutine", "(II)I"⟩
abbrev cX3_printByte : ByteArray := prog_5_method_21_code
def yX3_printByte : MethodName := ⟨RX3, "printByte", "(I)I"⟩
abbrev cX3_printNumber : ByteArray := prog_5_method_22_code
def yX3_printNumber : MethodName := ⟨RX3, "printNumber", "()I"⟩
abbrev cX3_nextByte : ByteArray := prog_5_method_23_code
def yX3_nextByte : MethodName := ⟨RX3, "nextByte", "()I"⟩
abbrev cX3_takeByte : ByteArray := prog_5_method_24_code
def yX3_takeByte : MethodName := ⟨RX3, "takeByte", "()I"⟩
abbrev cX3_takeNumber : ByteArray := prog_5_method_25_code
def yX3_takeNumber : MethodName := ⟨RX3, "takeNumber", "()J"⟩
abbrev cX3_divide : ByteArray := prog_5_method_26_code
def yX3_divide : MethodName := ⟨RX3, "divide", "(JZ)I"⟩
abbrev cX3_takeRoot : ByteArray := prog_5_method_27_code
def yX3_takeRoot : MethodName := ⟨RX3, "takeRoot", "()I"⟩
abbrev cX3_digestFrom : ByteArray := prog_5_method_28_code
def yX3_digestFrom : MethodName := ⟨RX3, "digestFrom", "(J)J"⟩
def RX4 : String := "DrumMachine$Order"
def TX4 : u_T := fun k => match k with
  | _ => ("", "", "", false)
def tyX4 : Nat → FieldType := fun k => match k with
  | _ => .int
theorem nmX4 : ∀ a, a < 0 → ∀ b, b < 0 → a ≠ b → (TX4 a).2.1 ≠ (TX4 b).2.1 := by decide +kernel
theorem tyX4_ok : ∀ k, k < 0 → parseFieldDescriptor (TX4 k).2.2.1 = some (tyX4 k) := by decide +kernel
abbrev cX4_function : ByteArray := prog_6_method_2_code
def yX4_function : MethodName := ⟨RX4, "function", "(J)I"⟩
abbrev cX4_indexRegister : ByteArray := prog_6_method_3_code
def yX4_indexRegister : MethodName := ⟨RX4, "indexRegister", "(J)I"⟩
abbrev cX4_modifier : ByteArray := prog_6_method_4_code
def yX4_modifier : MethodName := ⟨RX4, "modifier", "(J)I"⟩
abbrev cX4_isKnown : ByteArray := prog_6_method_5_code
def yX4_isKnown : MethodName := ⟨RX4, "isKnown", "(I)Z"⟩
abbrev cX4_takesWord : ByteArray := prog_6_method_6_code
def yX4_takesWord : MethodName := ⟨RX4, "takesWord", "(I)Z"⟩
def RX5 : String := "DrumMachine$Tray"
def TX5 : u_T := fun k => match k with
  | 0 => ("DrumMachine$Tray", "words", "[J", true)
  | 1 => ("DrumMachine$Tray", "bytes", "[I", true)
  | 2 => ("DrumMachine$Tray", "wordCount", "I", false)
  | _ => ("DrumMachine$Tray", "byteCount", "I", false)
def tyX5 : Nat → FieldType := fun k => match k with
  | 0 => .array .long
  | 1 => .array .int
  | 2 => .int
  | _ => .int
theorem nmX5 : ∀ a, a < 4 → ∀ b, b < 4 → a ≠ b → (TX5 a).2.1 ≠ (TX5 b).2.1 := by decide +kernel
theorem tyX5_ok : ∀ k, k < 4 → parseFieldDescriptor (TX5 k).2.2.1 = some (tyX5 k) := by decide +kernel
abbrev cX5_init : ByteArray := prog_7_method_1_code
def yX5_init : MethodName := ⟨RX5, "<init>", "()V"⟩
abbrev cX5_hasRoomForWords : ByteArray := prog_7_method_2_code
def yX5_hasRoomForWords : MethodName := ⟨RX5, "hasRoomForWords", "(I)Z"⟩
abbrev cX5_hasRoomForBytes : ByteArray := prog_7_method_3_code
def yX5_hasRoomForBytes : MethodName := ⟨RX5, "hasRoomForBytes", "(I)Z"⟩
abbrev cX5_addWord : ByteArray := prog_7_method_4_code
def yX5_addWord : MethodName := ⟨RX5, "addWord", "(J)V"⟩
abbrev cX5_addBytes : ByteArray := prog_7_method_5_code
def yX5_addBytes : MethodName := ⟨RX5, "addBytes", "(JI)V"⟩
abbrev cX5_empty : ByteArray := prog_7_method_6_code
def yX5_empty : MethodName := ⟨RX5, "empty", "()V"⟩
def RX6 : String := "DrumMachine"
def TX6 : u_T := fun k => match k with
  | 0 => ("DrumMachine", "tray", "LDrumMachine$Tray;", true)
  | 1 => ("DrumMachine", "core", "LDrumMachine$Core;", true)
  | 2 => ("DrumMachine", "drum", "LDrumMachine$Drum;", true)
  | 3 => ("DrumMachine", "jobs", "[LDrumMachine$Job;", true)
  | 4 => ("DrumMachine", "taken", "I", false)
  | 5 => ("DrumMachine", "unended", "I", false)
  | 6 => ("DrumMachine", "existing", "I", false)
  | 7 => ("DrumMachine", "inHand", "I", false)
  | 8 => ("DrumMachine", "now", "I", false)
  | 9 => ("DrumMachine", "misses", "I", false)
  | 10 => ("DrumMachine", "idleTicks", "I", false)
  | _ => ("DrumMachine", "ordersDone", "I", false)
def tyX6 : Nat → FieldType := fun k => match k with
  | 0 => .object "DrumMachine$Tray"
  | 1 => .object "DrumMachine$Core"
  | 2 => .object "DrumMachine$Drum"
  | 3 => .array (.object "DrumMachine$Job")
  | 4 => .int
  | 5 => .int
  | 6 => .int
  | 7 => .int
  | 8 => .int
  | 9 => .int
  | 10 => .int
  | _ => .int
theorem nmX6 : ∀ a, a < 12 → ∀ b, b < 12 → a ≠ b → (TX6 a).2.1 ≠ (TX6 b).2.1 := by decide +kernel
theorem tyX6_ok : ∀ k, k < 12 → parseFieldDescriptor (TX6 k).2.2.1 = some (tyX6 k) := by decide +kernel
abbrev cX6_init : ByteArray := prog_1_method_1_code
def yX6_init : MethodName := ⟨RX6, "<init>", "()V"⟩
abbrev cX6_frames : ByteArray := prog_1_method_2_code
def yX6_frames : MethodName := ⟨RX6, "frames", "(I)I"⟩
abbrev cX6_words : ByteArray := prog_1_method_3_code
def yX6_words : MethodName := ⟨RX6, "words", "(JJJJJ)I"⟩
abbrev cX6_bytes : ByteArray := prog_1_method_4_code
def yX6_bytes : MethodName := ⟨RX6, "bytes", "(JJJJI)I"⟩
abbrev cX6_job : ByteArray := prog_1_method_5_code
def yX6_job : MethodName := ⟨RX6, "job", "(II)I"⟩
abbrev cX6_run : ByteArray := prog_1_method_6_code
def yX6_run : MethodName := ⟨RX6, "run", "(I)I"⟩
abbrev cX6_ended : ByteArray := prog_1_method_7_code
def yX6_ended : MethodName := ⟨RX6, "ended", "(I)I"⟩
abbrev cX6_done : ByteArray := prog_1_method_8_code
def yX6_done : MethodName := ⟨RX6, "done", "(I)I"⟩
abbrev cX6_printed : ByteArray := prog_1_method_9_code
def yX6_printed : MethodName := ⟨RX6, "printed", "(I)I"⟩
abbrev cX6_out : ByteArray := prog_1_method_10_code
def yX6_out : MethodName := ⟨RX6, "out", "(II)I"⟩
abbrev cX6_register : ByteArray := prog_1_method_11_code
def yX6_register : MethodName := ⟨RX6, "register", "(II)J"⟩
abbrev cX6_word : ByteArray := prog_1_method_12_code
def yX6_word : MethodName := ⟨RX6, "word", "(II)J"⟩
abbrev cX6_clock : ByteArray := prog_1_method_13_code
def yX6_clock : MethodName := ⟨RX6, "clock", "()I"⟩
abbrev cX6_told : ByteArray := prog_1_method_14_code
def yX6_told : MethodName := ⟨RX6, "told", "(I)I"⟩
abbrev cX6_frame : ByteArray := prog_1_method_15_code
def yX6_frame : MethodName := ⟨RX6, "frame", "(II)I"⟩
abbrev cX6_sector : ByteArray := prog_1_method_16_code
def yX6_sector : MethodName := ⟨RX6, "sector", "(I)I"⟩
abbrev cX6_digest : ByteArray := prog_1_method_17_code
def yX6_digest : MethodName := ⟨RX6, "digest", "()J"⟩
abbrev cX6_find : ByteArray := prog_1_method_18_code
def yX6_find : MethodName := ⟨RX6, "find", "(I)LDrumMachine$Job;"⟩
abbrev cX6_activate : ByteArray := prog_1_method_19_code
def yX6_activate : MethodName := ⟨RX6, "activate", "()V"⟩
abbrev cX6_tick : ByteArray := prog_1_method_20_code
def yX6_tick : MethodName := ⟨RX6, "tick", "()V"⟩
abbrev cX6_finishTransfer : ByteArray := prog_1_method_21_code
def yX6_finishTransfer : MethodName := ⟨RX6, "finishTransfer", "()V"⟩
abbrev cX6_chooseVictim : ByteArray := prog_1_method_22_code
def yX6_chooseVictim : MethodName := ⟨RX6, "chooseVictim", "()V"⟩
abbrev cX6_nextInHand : ByteArray := prog_1_method_23_code
def yX6_nextInHand : MethodName := ⟨RX6, "nextInHand", "()I"⟩
abbrev cX6_settle : ByteArray := prog_1_method_24_code
def yX6_settle : MethodName := ⟨RX6, "settle", "(LDrumMachine$Job;I)V"⟩
abbrev cX6_isCounted : ByteArray := prog_1_method_25_code
def yX6_isCounted : MethodName := ⟨RX6, "isCounted", "(I)Z"⟩
abbrev cX6_doNextOrder : ByteArray := prog_1_method_26_code
def yX6_doNextOrder : MethodName := ⟨RX6, "doNextOrder", "(LDrumMachine$Job;)I"⟩
abbrev cX6_reach : ByteArray := prog_1_method_27_code
def yX6_reach : MethodName := ⟨RX6, "reach", "(LDrumMachine$Job;I)I"⟩
abbrev cX6_reachHeld : ByteArray := prog_1_method_28_code
def yX6_reachHeld : MethodName := ⟨RX6, "reachHeld", "(LDrumMachine$Job;LDrumMachine$Block;)I"⟩
abbrev cX6_createBlock : ByteArray := prog_1_method_29_code
def yX6_createBlock : MethodName := ⟨RX6, "createBlock", "(LDrumMachine$Job;I)LDrumMachine$Block;"⟩
abbrev cX6_endJob : ByteArray := prog_1_method_30_code
def yX6_endJob : MethodName := ⟨RX6, "endJob", "(LDrumMachine$Job;I)V"⟩
abbrev cX6_forget : ByteArray := prog_1_method_31_code
def yX6_forget : MethodName := ⟨RX6, "forget", "(LDrumMachine$Block;)V"⟩
def RX7 : String := "DrumMachineModel"
def TX7 : u_T := fun k => match k with
  | 0 => ("DrumMachineModel", "many", "I", false)
  | 1 => ("DrumMachineModel", "tray", "[J", true)
  | 2 => ("DrumMachineModel", "trayed", "I", false)
  | 3 => ("DrumMachineModel", "bytes", "[I", true)
  | 4 => ("DrumMachineModel", "taped", "I", false)
  | 5 => ("DrumMachineModel", "jobs", "I", false)
  | 6 => ("DrumMachineModel", "limit", "[I", true)
  | 7 => ("DrumMachineModel", "done", "[I", true)
  | 8 => ("DrumMachineModel", "end", "[I", true)
  | 9 => ("DrumMachineModel", "control", "[I", true)
  | 10 => ("DrumMachineModel", "acc", "[J", true)
  | 11 => ("DrumMachineModel", "b", "[I", true)
  | 12 => ("DrumMachineModel", "store", "[J", true)
  | 13 => ("DrumMachineModel", "tape", "[I", true)
  | 14 => ("DrumMachineModel", "tapeSize", "[I", true)
  | 15 => ("DrumMachineModel", "tapeAt", "[I", true)
  | 16 => ("DrumMachineModel", "print", "[I", true)
  | 17 => ("DrumMachineModel", "printed", "[I", true)
  | 18 => ("DrumMachineModel", "wait", "[I", true)
  | 19 => ("DrumMachineModel", "waitBlock", "[I", true)
  | 20 => ("DrumMachineModel", "exists", "[Z", true)
  | 21 => ("DrumMachineModel", "gone", "[I", true)
  | 22 => ("DrumMachineModel", "existing", "I", false)
  | 23 => ("DrumMachineModel", "inFrame", "[I", true)
  | 24 => ("DrumMachineModel", "idle", "[I", true)
  | 25 => ("DrumMachineModel", "before", "[I", true)
  | 26 => ("DrumMachineModel", "isLocked", "[Z", true)
  | 27 => ("DrumMachineModel", "isUsed", "[Z", true)
  | 28 => ("DrumMachineModel", "onSector", "[I", true)
  | 29 => ("DrumMachineModel", "askedWhat", "[I", true)
  | 30 => ("DrumMachineModel", "askedFrame", "[I", true)
  | 31 => ("DrumMachineModel", "asked", "I", false)
  | 32 => ("DrumMachineModel", "underWay", "I", false)
  | 33 => ("DrumMachineModel", "wayFrame", "I", false)
  | 34 => ("DrumMachineModel", "waySector", "I", false)
  | 35 => ("DrumMachineModel", "wayEnd", "I", false)
  | 36 => ("DrumMachineModel", "clock", "I", false)
  | 37 => ("DrumMachineModel", "hand", "I", false)
  | 38 => ("DrumMachineModel", "reads", "I", false)
  | 39 => ("DrumMachineModel", "writes", "I", false)
  | 40 => ("DrumMachineModel", "misses", "I", false)
  | 41 => ("DrumMachineModel", "idles", "I", false)
  | 42 => ("DrumMachineModel", "rounds", "I", false)
  | _ => ("DrumMachineModel", "steps", "I", false)
def tyX7 : Nat → FieldType := fun k => match k with
  | 0 => .int
  | 1 => .array .long
  | 2 => .int
  | 3 => .array .int
  | 4 => .int
  | 5 => .int
  | 6 => .array .int
  | 7 => .array .int
  | 8 => .array .int
  | 9 => .array .int
  | 10 => .array .long
  | 11 => .array .int
  | 12 => .array .long
  | 13 => .array .int
  | 14 => .array .int
  | 15 => .array .int
  | 16 => .array .int
  | 17 => .array .int
  | 18 => .array .int
  | 19 => .array .int
  | 20 => .array .boolean
  | 21 => .array .int
  | 22 => .int
  | 23 => .array .int
  | 24 => .array .int
  | 25 => .array .int
  | 26 => .array .boolean
  | 27 => .array .boolean
  | 28 => .array .int
  | 29 => .array .int
  | 30 => .array .int
  | 31 => .int
  | 32 => .int
  | 33 => .int
  | 34 => .int
  | 35 => .int
  | 36 => .int
  | 37 => .int
  | 38 => .int
  | 39 => .int
  | 40 => .int
  | 41 => .int
  | 42 => .int
  | _ => .int
theorem nmX7 : ∀ a, a < 44 → ∀ b, b < 44 → a ≠ b → (TX7 a).2.1 ≠ (TX7 b).2.1 := by decide +kernel
theorem tyX7_ok : ∀ k, k < 44 → parseFieldDescriptor (TX7 k).2.2.1 = some (tyX7 k) := by decide +kernel
abbrev cX7_init : ByteArray := prog_9_method_1_code
def yX7_init : MethodName := ⟨RX7, "<init>", "()V"⟩
abbrev cX7_word48 : ByteArray := prog_9_method_2_code
def yX7_word48 : MethodName := ⟨RX7, "word48", "(J)J"⟩
abbrev cX7_word24 : ByteArray := prog_9_method_3_code
def yX7_word24 : MethodName := ⟨RX7, "word24", "(J)I"⟩
abbrev cX7_frames : ByteArray := prog_9_method_4_code
def yX7_frames : MethodName := ⟨RX7, "frames", "(I)I"⟩
abbrev cX7_words : ByteArray := prog_9_method_5_code
def yX7_words : MethodName := ⟨RX7, "words", "(JJJJJ)I"⟩
abbrev cX7_bytes : ByteArray := prog_9_method_6_code
def yX7_bytes : MethodName := ⟨RX7, "bytes", "(JJJJI)I"⟩
abbrev cX7_job : ByteArray := prog_9_method_7_code
def yX7_job : MethodName := ⟨RX7, "job", "(II)I"⟩
abbrev cX7_exist : ByteArray := prog_9_method_8_code
def yX7_exist : MethodName := ⟨RX7, "exist", "(I)V"⟩
abbrev cX7_frameOf : ByteArray := prog_9_method_9_code
def yX7_frameOf : MethodName := ⟨RX7, "frameOf", "(I)I"⟩
abbrev cX7_sectorOf : ByteArray := prog_9_method_10_code
def yX7_sectorOf : MethodName := ⟨RX7, "sectorOf", "(I)I"⟩
abbrev cX7_freeFrame : ByteArray := prog_9_method_11_code
def yX7_freeFrame : MethodName := ⟨RX7, "freeFrame", "()I"⟩
abbrev cX7_notEnded : ByteArray := prog_9_method_12_code
def yX7_notEnded : MethodName := ⟨RX7, "notEnded", "()I"⟩
abbrev cX7_isActive : ByteArray := prog_9_method_13_code
def yX7_isActive : MethodName := ⟨RX7, "isActive", "(I)Z"⟩
abbrev cX7_isReady : ByteArray := prog_9_method_14_code
def yX7_isReady : MethodName := ⟨RX7, "isReady", "(I)Z"⟩
abbrev cX7_isAddress : ByteArray := prog_9_method_15_code
def yX7_isAddress : MethodName := ⟨RX7, "isAddress", "(I)Z"⟩
abbrev cX7_blockOf : ByteArray := prog_9_method_16_code
def yX7_blockOf : MethodName := ⟨RX7, "blockOf", "(II)I"⟩
abbrev cX7_isWanted : ByteArray := prog_9_method_17_code
def yX7_isWanted : MethodName := ⟨RX7, "isWanted", "(I)Z"⟩
abbrev cX7_run : ByteArray := prog_9_method_18_code
def yX7_run : MethodName := ⟨RX7, "run", "(I)I"⟩
abbrev cX7_tick : ByteArray := prog_9_method_19_code
def yX7_tick : MethodName := ⟨RX7, "tick", "()V"⟩
abbrev cX7_isWriteAsked : ByteArray := prog_9_method_20_code
def yX7_isWriteAsked : MethodName := ⟨RX7, "isWriteAsked", "()Z"⟩
abbrev cX7_leave : ByteArray := prog_9_method_21_code
def yX7_leave : MethodName := ⟨RX7, "leave", "(I)V"⟩
abbrev cX7_finish : ByteArray := prog_9_method_22_code
def yX7_finish : MethodName := ⟨RX7, "finish", "()V"⟩
abbrev cX7_vanish : ByteArray := prog_9_method_23_code
def yX7_vanish : MethodName := ⟨RX7, "vanish", "(I)V"⟩
abbrev cX7_mayGo : ByteArray := prog_9_method_24_code
def yX7_mayGo : MethodName := ⟨RX7, "mayGo", "(I)Z"⟩
abbrev cX7_choose : ByteArray := prog_9_method_25_code
def yX7_choose : MethodName := ⟨RX7, "choose", "()V"⟩
abbrev cX7_ask : ByteArray := prog_9_method_26_code
def yX7_ask : MethodName := ⟨RX7, "ask", "(II)V"⟩
abbrev cX7_drop : ByteArray := prog_9_method_27_code
def yX7_drop : MethodName := ⟨RX7, "drop", "(I)V"⟩
abbrev cX7_passes : ByteArray := prog_9_method_28_code
def yX7_passes : MethodName := ⟨RX7, "passes", "(I)I"⟩
abbrev cX7_begin : ByteArray := prog_9_method_29_code
def yX7_begin : MethodName := ⟨RX7, "begin", "()V"⟩
abbrev cX7_next : ByteArray := prog_9_method_30_code
def yX7_next : MethodName := ⟨RX7, "next", "()I"⟩
abbrev cX7_ends : ByteArray := prog_9_method_31_code
def yX7_ends : MethodName := ⟨RX7, "ends", "(II)V"⟩
abbrev cX7_comes : ByteArray := prog_9_method_32_code
def yX7_comes : MethodName := ⟨RX7, "comes", "(II)Z"⟩
abbrev cX7_isOrder : ByteArray := prog_9_method_33_code
def yX7_isOrder : MethodName := ⟨RX7, "isOrder", "(I)Z"⟩
abbrev cX7_isWithWord : ByteArray := prog_9_method_34_code
def yX7_isWithWord : MethodName := ⟨RX7, "isWithWord", "(I)Z"⟩
abbrev cX7_sum : ByteArray := prog_9_method_35_code
def yX7_sum : MethodName := ⟨RX7, "sum", "(IIIII)I"⟩
abbrev cX7_step : ByteArray := prog_9_method_36_code
def yX7_step : MethodName := ⟨RX7, "step", "(I)V"⟩
abbrev cX7_at : ByteArray := prog_9_method_37_code
def yX7_at : MethodName := ⟨RX7, "at", "(II)J"⟩
abbrev cX7_why : ByteArray := prog_9_method_38_code
def yX7_why : MethodName := ⟨RX7, "why", "(III)I"⟩
abbrev cX7_prints : ByteArray := prog_9_method_39_code
def yX7_prints : MethodName := ⟨RX7, "prints", "(II)Z"⟩
abbrev cX7_writeNumber : ByteArray := prog_9_method_40_code
def yX7_writeNumber : MethodName := ⟨RX7, "writeNumber", "(II)V"⟩
abbrev cX7_setB : ByteArray := prog_9_method_41_code
def yX7_setB : MethodName := ⟨RX7, "setB", "(IIJ)V"⟩
abbrev cX7_ofRegister : ByteArray := prog_9_method_42_code
def yX7_ofRegister : MethodName := ⟨RX7, "ofRegister", "(IIIII)I"⟩
abbrev cX7_ofAccumulator : ByteArray := prog_9_method_43_code
def yX7_ofAccumulator : MethodName := ⟨RX7, "ofAccumulator", "(IIII)I"⟩
abbrev cX7_nextByte : ByteArray := prog_9_method_44_code
def yX7_nextByte : MethodName := ⟨RX7, "nextByte", "(I)I"⟩
abbrev cX7_other : ByteArray := prog_9_method_45_code
def yX7_other : MethodName := ⟨RX7, "other", "(III)V"⟩
abbrev cX7_readNumber : ByteArray := prog_9_method_46_code
def yX7_readNumber : MethodName := ⟨RX7, "readNumber", "(I)V"⟩
abbrev cX7_root : ByteArray := prog_9_method_47_code
def yX7_root : MethodName := ⟨RX7, "root", "(J)J"⟩
abbrev cX7_round : ByteArray := prog_9_method_48_code
def yX7_round : MethodName := ⟨RX7, "round", "()V"⟩
abbrev cX7_isJob : ByteArray := prog_9_method_49_code
def yX7_isJob : MethodName := ⟨RX7, "isJob", "(I)Z"⟩
abbrev cX7_ended : ByteArray := prog_9_method_50_code
def yX7_ended : MethodName := ⟨RX7, "ended", "(I)I"⟩
abbrev cX7_done : ByteArray := prog_9_method_51_code
def yX7_done : MethodName := ⟨RX7, "done", "(I)I"⟩
abbrev cX7_printed : ByteArray := prog_9_method_52_code
def yX7_printed : MethodName := ⟨RX7, "printed", "(I)I"⟩
abbrev cX7_out : ByteArray := prog_9_method_53_code
def yX7_out : MethodName := ⟨RX7, "out", "(II)I"⟩
abbrev cX7_register : ByteArray := prog_9_method_54_code
def yX7_register : MethodName := ⟨RX7, "register", "(II)J"⟩
abbrev cX7_word : ByteArray := prog_9_method_55_code
def yX7_word : MethodName := ⟨RX7, "word", "(II)J"⟩
abbrev cX7_clock : ByteArray := prog_9_method_56_code
def yX7_clock : MethodName := ⟨RX7, "clock", "()I"⟩
abbrev cX7_told : ByteArray := prog_9_method_57_code
def yX7_told : MethodName := ⟨RX7, "told", "(I)I"⟩
abbrev cX7_frame : ByteArray := prog_9_method_58_code
def yX7_frame : MethodName := ⟨RX7, "frame", "(II)I"⟩
abbrev cX7_sector : ByteArray := prog_9_method_59_code
def yX7_sector : MethodName := ⟨RX7, "sector", "(I)I"⟩
abbrev cX7_digest : ByteArray := prog_9_method_60_code
def yX7_digest : MethodName := ⟨RX7, "digest", "()J"⟩
def RJ9 : String := "java/lang/Math"
def TJ9 : u_T := fun k => match k with
  | _ => ("", "", "", false)
def tyJ9 : Nat → FieldType := fun k => match k with
  | _ => .int
theorem nmJ9 : ∀ a, a < 0 → ∀ b, b < 0 → a ≠ b → (TJ9 a).2.1 ≠ (TJ9 b).2.1 := by decide +kernel
theorem tyJ9_ok : ∀ k, k < 0 → parseFieldDescriptor (TJ9 k).2.2.1 = some (tyJ9 k) := by decide +kernel
abbrev cJ9_floorDiv_7cf53 : ByteArray := prog_10_method_47_code
def yJ9_floorDiv_7cf53 : MethodName := ⟨RJ9, "floorDiv", "(II)I"⟩
abbrev cJ9_floorMod_7cf53 : ByteArray := prog_10_method_50_code
def yJ9_floorMod_7cf53 : MethodName := ⟨RJ9, "floorMod", "(II)I"⟩
abbrev cJ9_abs_067f4 : ByteArray := prog_10_method_61_code
def yJ9_abs_067f4 : MethodName := ⟨RJ9, "abs", "(J)J"⟩
abbrev cJ9_max_7cf53 : ByteArray := prog_10_method_65_code
def yJ9_max_7cf53 : MethodName := ⟨RJ9, "max", "(II)I"⟩
abbrev cJ9_min_7cf53 : ByteArray := prog_10_method_69_code
def yJ9_min_7cf53 : MethodName := ⟨RJ9, "min", "(II)I"⟩
def RL : String := "DrumMachineLaw"
abbrev cL_law : ByteArray := code
def yL_law : MethodName := ⟨RL, "law", "([I)Z"⟩
end
section
/-! my tables: class numbers, method numbers, and what each pool number of a class means (written by wip/gen/tables.py) -/
def jt_cl : List vw_C := [(RX7, TX7, 44), (RX0, TX0, 10), (RX1, TX1, 4), (RX2, TX2, 8), (RX3, TX3, 16), (RX5, TX5, 4), (RX6, TX6, 12)]
def jt_tf : List (Nat → FieldType) := [tyX7, tyX0, tyX1, tyX2, tyX3, tyX5, tyX6]
def jt_on : List String := [RX7, RX0, RX1, RX2, RX3, RX5, RX6, RL, RJ9, RX4]
/-- a method: its name, its bytes, its locals, its answer's type, its class's number, how many parameters, its kind (0 instance, 1 static, 2 constructor, 3 the law) -/
abbrev jt_M : Type := MethodName × ByteArray × Nat × Option FieldType × Nat × Nat × Nat
def jt_ms0 : List jt_M := [(yX7_init, cX7_init, 2, none, 0, 0, 2),
  (yX7_word48, cX7_word48, 2, (some .long), 0, 1, 1),
  (yX7_word24, cX7_word24, 2, (some .int), 0, 1, 1),
  (yX7_frames, cX7_frames, 2, (some .int), 0, 1, 0),
  (yX7_words, cX7_words, 11, (some .int), 0, 5, 0),
  (yX7_bytes, cX7_bytes, 13, (some .int), 0, 5, 0),
  (yX7_job, cX7_job, 7, (some .int), 0, 2, 0),
  (yX7_exist, cX7_exist, 2, none, 0, 1, 0),
  (yX7_frameOf, cX7_frameOf, 3, (some .int), 0, 1, 0),
  (yX7_sectorOf, cX7_sectorOf, 3, (some .int), 0, 1, 0),
  (yX7_freeFrame, cX7_freeFrame, 1, (some .int), 0, 0, 0),
  (yX7_notEnded, cX7_notEnded, 3, (some .int), 0, 0, 0),
  (yX7_isActive, cX7_isActive, 4, (some .boolean), 0, 1, 0),
  (yX7_isReady, cX7_isReady, 3, (some .boolean), 0, 1, 0),
  (yX7_isAddress, cX7_isAddress, 1, (some .boolean), 0, 1, 1),
  (yX7_blockOf, cX7_blockOf, 2, (some .int), 0, 2, 1),
  (yX7_isWanted, cX7_isWanted, 3, (some .boolean), 0, 1, 0),
  (yX7_run, cX7_run, 3, (some .int), 0, 1, 0),
  (yX7_tick, cX7_tick, 2, none, 0, 0, 0),
  (yX7_isWriteAsked, cX7_isWriteAsked, 2, (some .boolean), 0, 0, 0)]
def jt_ms1 : List jt_M := [(yX7_leave, cX7_leave, 2, none, 0, 1, 0),
  (yX7_finish, cX7_finish, 2, none, 0, 0, 0),
  (yX7_vanish, cX7_vanish, 2, none, 0, 1, 0),
  (yX7_mayGo, cX7_mayGo, 2, (some .boolean), 0, 1, 0),
  (yX7_choose, cX7_choose, 3, none, 0, 0, 0),
  (yX7_ask, cX7_ask, 3, none, 0, 2, 0),
  (yX7_drop, cX7_drop, 3, none, 0, 1, 0),
  (yX7_passes, cX7_passes, 3, (some .int), 0, 1, 0),
  (yX7_begin, cX7_begin, 3, none, 0, 0, 0),
  (yX7_next, cX7_next, 3, (some .int), 0, 0, 0),
  (yX7_ends, cX7_ends, 5, none, 0, 2, 0),
  (yX7_comes, cX7_comes, 6, (some .boolean), 0, 2, 0),
  (yX7_isOrder, cX7_isOrder, 1, (some .boolean), 0, 1, 1),
  (yX7_isWithWord, cX7_isWithWord, 1, (some .boolean), 0, 1, 1),
  (yX7_sum, cX7_sum, 6, (some .int), 0, 5, 0),
  (yX7_step, cX7_step, 12, none, 0, 1, 0),
  (yX7_at, cX7_at, 3, (some .long), 0, 2, 0),
  (yX7_why, cX7_why, 7, (some .int), 0, 3, 0),
  (yX7_prints, cX7_prints, 3, (some .boolean), 0, 2, 0),
  (yX7_writeNumber, cX7_writeNumber, 9, none, 0, 2, 0)]
def jt_ms2 : List jt_M := [(yX7_setB, cX7_setB, 5, none, 0, 3, 0),
  (yX7_ofRegister, cX7_ofRegister, 7, (some .int), 0, 5, 0),
  (yX7_ofAccumulator, cX7_ofAccumulator, 7, (some .int), 0, 4, 0),
  (yX7_nextByte, cX7_nextByte, 2, (some .int), 0, 1, 0),
  (yX7_other, cX7_other, 7, none, 0, 3, 0),
  (yX7_readNumber, cX7_readNumber, 5, none, 0, 1, 0),
  (yX7_root, cX7_root, 6, (some .long), 0, 1, 1),
  (yX7_round, cX7_round, 2, none, 0, 0, 0),
  (yX7_isJob, cX7_isJob, 2, (some .boolean), 0, 1, 0),
  (yX7_ended, cX7_ended, 2, (some .int), 0, 1, 0),
  (yX7_done, cX7_done, 2, (some .int), 0, 1, 0),
  (yX7_printed, cX7_printed, 2, (some .int), 0, 1, 0),
  (yX7_out, cX7_out, 3, (some .int), 0, 2, 0),
  (yX7_register, cX7_register, 3, (some .long), 0, 2, 0),
  (yX7_word, cX7_word, 3, (some .long), 0, 2, 0),
  (yX7_clock, cX7_clock, 1, (some .int), 0, 0, 0),
  (yX7_told, cX7_told, 4, (some .int), 0, 1, 0),
  (yX7_frame, cX7_frame, 4, (some .int), 0, 2, 0),
  (yX7_sector, cX7_sector, 2, (some .int), 0, 1, 0),
  (yX7_digest, cX7_digest, 5, (some .long), 0, 0, 0)]
def jt_ms3 : List jt_M := [(yX0_init, cX0_init, 3, none, 1, 2, 2),
  (yX0_arrive, cX0_arrive, 2, none, 1, 1, 0),
  (yX0_age, cX0_age, 2, none, 1, 1, 0),
  (yX0_mayLeave, cX0_mayLeave, 1, (some .boolean), 1, 0, 0),
  (yX0_victimClass, cX0_victimClass, 1, (some .int), 1, 0, 0),
  (yX0_isBetterVictimThan, cX0_isBetterVictimThan, 4, (some .boolean), 1, 1, 0),
  (yX1_init, cX1_init, 1, none, 2, 0, 2),
  (yX1_resize, cX1_resize, 2, none, 2, 1, 0),
  (yX1_mostActive, cX1_mostActive, 1, (some .int), 2, 0, 0),
  (yX1_blockIn, cX1_blockIn, 2, (some (.object "DrumMachine$Block")), 2, 1, 0),
  (yX1_lowestFree, cX1_lowestFree, 2, (some .int), 2, 0, 0),
  (yX1_place, cX1_place, 3, none, 2, 2, 0),
  (yX1_release, cX1_release, 3, none, 2, 1, 0),
  (yX1_victim, cX1_victim, 4, (some (.object "DrumMachine$Block")), 2, 0, 0),
  (yX1_use, cX1_use, 2, none, 2, 1, 0),
  (yX1_holdRound, cX1_holdRound, 3, none, 2, 0, 0),
  (yX2_init, cX2_init, 1, none, 3, 0, 2),
  (yX2_blockOn, cX2_blockOn, 2, (some (.object "DrumMachine$Block")), 3, 1, 0),
  (yX2_load, cX2_load, 3, none, 3, 1, 0),
  (yX2_put, cX2_put, 3, none, 3, 2, 0)]
def jt_ms4 : List jt_M := [(yX2_release, cX2_release, 3, none, 3, 1, 0),
  (yX2_ask, cX2_ask, 2, none, 3, 1, 0),
  (yX2_cancel, cX2_cancel, 3, none, 3, 1, 0),
  (yX2_dropAsked, cX2_dropAsked, 3, none, 3, 1, 0),
  (yX2_begin, cX2_begin, 4, none, 3, 1, 0),
  (yX2_takeEnded, cX2_takeEnded, 3, (some (.object "DrumMachine$Block")), 3, 1, 0),
  (yX2_nextFreeSector, cX2_nextFreeSector, 6, (some .int), 3, 1, 0),
  (yX2_ticksTill, cX2_ticksTill, 2, (some .int), 3, 2, 1),
  (yX3_init, cX3_init, 6, none, 4, 4, 2),
  (yX3_wrapWord, cX3_wrapWord, 2, (some .long), 4, 1, 1),
  (yX3_wrapIndex, cX3_wrapIndex, 1, (some .int), 4, 1, 1),
  (yX3_isInStore, cX3_isInStore, 1, (some .boolean), 4, 1, 1),
  (yX3_isReady, cX3_isReady, 2, (some .boolean), 4, 1, 0),
  (yX3_stopWaiting, cX3_stopWaiting, 1, none, 4, 0, 0),
  (yX3_wants, cX3_wants, 2, (some .boolean), 4, 1, 0),
  (yX3_blockOf, cX3_blockOf, 2, (some (.object "DrumMachine$Block")), 4, 1, 0),
  (yX3_setBlock, cX3_setBlock, 3, none, 4, 2, 0),
  (yX3_load, cX3_load, 2, (some .long), 4, 1, 0),
  (yX3_keep, cX3_keep, 4, none, 4, 2, 0),
  (yX3_index, cX3_index, 2, (some .int), 4, 1, 0)]
def jt_ms5 : List jt_M := [(yX3_setIndex, cX3_setIndex, 3, none, 4, 2, 0),
  (yX3_printedByte, cX3_printedByte, 2, (some .int), 4, 1, 0),
  (yX3_addressIn, cX3_addressIn, 4, (some .int), 4, 1, 0),
  (yX3_obey, cX3_obey, 5, (some .int), 4, 3, 0),
  (yX3_obeyIndexOrder, cX3_obeyIndexOrder, 4, none, 4, 3, 0),
  (yX3_obeyAccumulatorOrder, cX3_obeyAccumulatorOrder, 3, none, 4, 2, 0),
  (yX3_goesElsewhere, cX3_goesElsewhere, 3, (some .boolean), 4, 2, 0),
  (yX3_obeyRoutine, cX3_obeyRoutine, 3, (some .int), 4, 2, 0),
  (yX3_printByte, cX3_printByte, 2, (some .int), 4, 1, 0),
  (yX3_printNumber, cX3_printNumber, 7, (some .int), 4, 0, 0),
  (yX3_nextByte, cX3_nextByte, 1, (some .int), 4, 0, 0),
  (yX3_takeByte, cX3_takeByte, 2, (some .int), 4, 0, 0),
  (yX3_takeNumber, cX3_takeNumber, 5, (some .long), 4, 0, 0),
  (yX3_divide, cX3_divide, 6, (some .int), 4, 2, 0),
  (yX3_takeRoot, cX3_takeRoot, 7, (some .int), 4, 0, 0),
  (yX3_digestFrom, cX3_digestFrom, 6, (some .long), 4, 1, 0),
  (yX5_init, cX5_init, 1, none, 5, 0, 2),
  (yX5_hasRoomForWords, cX5_hasRoomForWords, 2, (some .boolean), 5, 1, 0),
  (yX5_hasRoomForBytes, cX5_hasRoomForBytes, 2, (some .boolean), 5, 1, 0),
  (yX5_addWord, cX5_addWord, 3, none, 5, 1, 0)]
def jt_ms6 : List jt_M := [(yX5_addBytes, cX5_addBytes, 5, none, 5, 2, 0),
  (yX5_empty, cX5_empty, 1, none, 5, 0, 0),
  (yX6_init, cX6_init, 1, none, 6, 0, 2),
  (yX6_frames, cX6_frames, 2, (some .int), 6, 1, 0),
  (yX6_words, cX6_words, 11, (some .int), 6, 5, 0),
  (yX6_bytes, cX6_bytes, 10, (some .int), 6, 5, 0),
  (yX6_job, cX6_job, 6, (some .int), 6, 2, 0),
  (yX6_run, cX6_run, 3, (some .int), 6, 1, 0),
  (yX6_ended, cX6_ended, 3, (some .int), 6, 1, 0),
  (yX6_done, cX6_done, 3, (some .int), 6, 1, 0),
  (yX6_printed, cX6_printed, 3, (some .int), 6, 1, 0),
  (yX6_out, cX6_out, 4, (some .int), 6, 2, 0),
  (yX6_register, cX6_register, 4, (some .long), 6, 2, 0),
  (yX6_word, cX6_word, 4, (some .long), 6, 2, 0),
  (yX6_clock, cX6_clock, 1, (some .int), 6, 0, 0),
  (yX6_told, cX6_told, 2, (some .int), 6, 1, 0),
  (yX6_frame, cX6_frame, 4, (some .int), 6, 2, 0),
  (yX6_sector, cX6_sector, 3, (some .int), 6, 1, 0),
  (yX6_digest, cX6_digest, 5, (some .long), 6, 0, 0),
  (yX6_find, cX6_find, 2, (some (.object "DrumMachine$Job")), 6, 1, 0)]
def jt_ms7 : List jt_M := [(yX6_activate, cX6_activate, 4, none, 6, 0, 0),
  (yX6_tick, cX6_tick, 3, none, 6, 0, 0),
  (yX6_finishTransfer, cX6_finishTransfer, 2, none, 6, 0, 0),
  (yX6_chooseVictim, cX6_chooseVictim, 2, none, 6, 0, 0),
  (yX6_nextInHand, cX6_nextInHand, 5, (some .int), 6, 0, 0),
  (yX6_settle, cX6_settle, 3, none, 6, 2, 0),
  (yX6_isCounted, cX6_isCounted, 1, (some .boolean), 6, 1, 1),
  (yX6_doNextOrder, cX6_doNextOrder, 10, (some .int), 6, 1, 0),
  (yX6_reach, cX6_reach, 5, (some .int), 6, 2, 0),
  (yX6_reachHeld, cX6_reachHeld, 3, (some .int), 6, 2, 0),
  (yX6_createBlock, cX6_createBlock, 4, (some (.object "DrumMachine$Block")), 6, 2, 0),
  (yX6_endJob, cX6_endJob, 5, none, 6, 2, 0),
  (yX6_forget, cX6_forget, 2, none, 6, 1, 0),
  (yJ9_floorDiv_7cf53, cJ9_floorDiv_7cf53, 3, (some .int), 8, 2, 1),
  (yJ9_floorMod_7cf53, cJ9_floorMod_7cf53, 3, (some .int), 8, 2, 1),
  (yJ9_abs_067f4, cJ9_abs_067f4, 2, (some .long), 8, 1, 1),
  (yJ9_max_7cf53, cJ9_max_7cf53, 2, (some .int), 8, 2, 1),
  (yJ9_min_7cf53, cJ9_min_7cf53, 2, (some .int), 8, 2, 1),
  (yX4_function, cX4_function, 2, (some .int), 9, 1, 1),
  (yX4_indexRegister, cX4_indexRegister, 2, (some .int), 9, 1, 1)]
def jt_ms8 : List jt_M := [(yX4_modifier, cX4_modifier, 2, (some .int), 9, 1, 1),
  (yX4_isKnown, cX4_isKnown, 1, (some .boolean), 9, 1, 1),
  (yX4_takesWord, cX4_takesWord, 1, (some .boolean), 9, 1, 1)]
def jt_msL : List jt_M := [(yL_law, cL_law, 4, some .boolean, 7, 1, 3)]
def jt_mc : List jt_M := jt_ms0 ++ (jt_ms1 ++ (jt_ms2 ++ (jt_ms3 ++ (jt_ms4 ++ (jt_ms5 ++ (jt_ms6 ++ (jt_ms7 ++ (jt_ms8))))))))
def jt_ms : List jt_M := jt_mc ++ jt_msL
def jt_fl : List (Nat × Nat × Nat × Nat) := [(5, 9, 5, 0), (4, 65, 5, 0), (5, 15, 5, 1), (4, 82, 5, 1), (5, 19, 5, 2), (6, 73, 5, 2), (5, 23, 5, 3), (4, 70, 5, 3),
  (6, 83, 5, 3), (2, 11, 2, 0), (2, 17, 2, 1), (6, 156, 2, 1), (2, 21, 2, 2), (6, 238, 2, 2), (2, 24, 2, 3), (6, 143, 2, 3),
  (3, 11, 3, 0), (3, 17, 3, 1), (3, 20, 3, 2), (3, 24, 3, 3), (6, 338, 3, 3), (3, 28, 3, 4), (3, 31, 3, 5), (6, 241, 3, 5),
  (3, 35, 3, 6), (6, 137, 3, 6), (3, 38, 3, 7), (6, 140, 3, 7), (6, 12, 6, 0), (6, 19, 6, 1), (6, 26, 6, 2), (6, 32, 6, 3),
  (6, 36, 6, 4), (6, 40, 6, 5), (6, 43, 6, 6), (6, 46, 6, 7), (6, 49, 6, 8), (6, 52, 6, 9), (6, 55, 6, 10), (6, 58, 6, 11),
  (4, 59, 4, 0), (6, 103, 4, 0), (4, 62, 4, 1), (6, 270, 4, 1), (4, 9, 4, 2), (6, 124, 4, 2), (4, 15, 4, 3), (4, 19, 4, 4),
  (6, 128, 4, 4), (4, 23, 4, 5), (4, 29, 4, 6), (6, 334, 4, 6), (4, 79, 4, 7), (4, 33, 4, 8), (4, 36, 4, 9), (4, 39, 4, 10),
  (6, 117, 4, 10), (4, 42, 4, 11), (6, 116, 4, 11), (4, 45, 4, 12), (6, 113, 4, 12), (4, 48, 4, 13), (6, 197, 4, 13), (4, 52, 4, 14),
  (6, 324, 4, 14), (4, 56, 4, 15), (6, 317, 4, 15), (1, 37, 1, 0), (6, 163, 1, 0), (1, 41, 1, 1), (4, 91, 1, 1), (6, 169, 1, 1),
  (1, 9, 1, 2), (2, 31, 1, 2), (6, 308, 1, 2), (1, 15, 1, 3), (3, 45, 1, 3), (1, 18, 1, 4), (4, 85, 1, 4), (2, 45, 1, 4),
  (6, 170, 1, 4), (1, 22, 1, 5), (3, 48, 1, 5), (6, 226, 1, 5), (1, 25, 1, 6), (6, 174, 1, 6), (1, 28, 1, 7), (6, 177, 1, 7),
  (1, 31, 1, 8), (2, 42, 1, 8), (1, 34, 1, 9), (6, 248, 1, 9), (0, 7, 0, 0), (0, 13, 0, 1), (0, 100, 0, 2), (0, 17, 0, 3),
  (0, 107, 0, 4), (0, 97, 0, 5), (0, 21, 0, 6), (0, 24, 0, 7), (0, 27, 0, 8), (0, 30, 0, 9), (0, 33, 0, 10), (0, 36, 0, 11),
  (0, 39, 0, 12), (0, 42, 0, 13), (0, 45, 0, 14), (0, 48, 0, 15), (0, 51, 0, 16), (0, 54, 0, 17), (0, 57, 0, 18), (0, 60, 0, 19),
  (0, 63, 0, 20), (0, 67, 0, 21), (0, 110, 0, 22), (0, 70, 0, 23), (0, 73, 0, 24), (0, 76, 0, 25), (0, 79, 0, 26), (0, 82, 0, 27),
  (0, 85, 0, 28), (0, 88, 0, 29), (0, 91, 0, 30), (0, 161, 0, 31), (0, 142, 0, 32), (0, 176, 0, 33), (0, 182, 0, 34), (0, 145, 0, 35),
  (0, 148, 0, 36), (0, 94, 0, 37), (0, 207, 0, 38), (0, 213, 0, 39), (0, 222, 0, 40), (0, 170, 0, 41), (0, 188, 0, 42), (0, 258, 0, 43)]
def jt_ml : List (Nat × Nat × Nat) := [(7, 9, 122), (7, 13, 123), (6, 61, 67), (7, 20, 124), (6, 65, 117), (6, 69, 119), (5, 26, 89), (7, 25, 125),
  (6, 76, 118), (6, 79, 120), (7, 30, 126), (6, 86, 88), (4, 73, 156), (6, 89, 121), (6, 92, 150), (6, 328, 60),
  (6, 330, 96), (6, 96, 78), (3, 41, 79), (6, 100, 140), (6, 146, 68), (6, 109, 139), (7, 35, 127), (6, 106, 141),
  (6, 200, 142), (6, 223, 85), (6, 229, 61), (6, 232, 72), (6, 235, 152), (6, 344, 80), (6, 203, 143), (6, 244, 73),
  (2, 27, 69), (2, 34, 63), (1, 44, 94), (4, 88, 153), (2, 38, 65), (1, 50, 64), (6, 251, 81), (6, 206, 84),
  (3, 55, 86), (3, 63, 87), (3, 67, 154), (3, 59, 80), (3, 51, 83), (6, 209, 144), (6, 254, 156), (6, 257, 92),
  (6, 212, 93), (6, 215, 147), (6, 273, 148), (6, 305, 91), (6, 277, 95), (4, 92, 91), (6, 310, 149), (6, 314, 70),
  (6, 320, 71), (6, 134, 97), (6, 280, 158), (6, 286, 161), (6, 289, 102), (4, 100, 160), (4, 106, 99), (4, 109, 158),
  (4, 112, 159), (4, 96, 90), (6, 292, 162), (6, 295, 159), (6, 298, 103), (4, 115, 104), (4, 133, 100), (4, 136, 97),
  (4, 140, 98), (4, 119, 105), (4, 144, 89), (4, 123, 107), (4, 148, 108), (4, 151, 111), (4, 176, 110), (4, 155, 113),
  (4, 159, 109), (4, 169, 155), (4, 162, 112), (4, 166, 114), (4, 129, 106), (6, 264, 146), (6, 302, 74), (6, 219, 145),
  (6, 261, 151), (6, 341, 82), (6, 267, 75), (2, 49, 62), (7, 39, 128), (7, 43, 129), (7, 47, 130), (7, 51, 131),
  (6, 120, 101), (7, 55, 132), (6, 131, 99), (7, 60, 133), (7, 64, 134), (7, 69, 135), (6, 150, 157), (7, 73, 136),
  (6, 159, 69), (7, 77, 137), (6, 180, 77), (7, 81, 138), (6, 185, 115), (6, 191, 135), (6, 194, 136), (7, 12, 0),
  (7, 17, 3), (7, 24, 4), (0, 103, 1), (7, 29, 5), (7, 34, 6), (0, 113, 7), (7, 38, 17), (0, 136, 11),
  (0, 139, 18), (0, 151, 21), (0, 179, 20), (0, 185, 22), (0, 121, 10), (0, 117, 8), (0, 154, 19), (0, 158, 24),
  (0, 194, 23), (0, 191, 16), (0, 125, 12), (0, 129, 14), (0, 132, 15), (0, 197, 25), (0, 164, 28), (0, 201, 26),
  (0, 204, 9), (0, 210, 27), (0, 167, 29), (0, 216, 13), (0, 173, 35), (0, 219, 30), (0, 229, 31), (0, 233, 32),
  (0, 225, 2), (0, 236, 34), (0, 240, 33), (0, 243, 37), (0, 266, 36), (0, 272, 39), (0, 275, 38), (0, 247, 41),
  (0, 280, 40), (0, 250, 42), (0, 254, 44), (0, 284, 43), (0, 287, 45), (0, 290, 46), (0, 261, 47), (7, 42, 49),
  (0, 297, 48), (7, 46, 50), (7, 50, 51), (7, 54, 52), (7, 59, 53), (7, 63, 54), (7, 68, 55), (7, 72, 56),
  (7, 76, 57), (7, 80, 58), (7, 85, 59), (0, 304, 56), (0, 307, 57)]
def jt_mn : List (Nat × Nat × Nat × Nat) := [(6, 11, 116, 6), (6, 18, 66, 6), (6, 25, 76, 6), (4, 126, 146, 6)]
def jt_ob : List (Nat × Nat) := [(6, 3), (5, 3), (2, 3), (3, 3), (4, 3), (1, 3), (0, 1)]
def jt_nl : List (Nat × Nat × Nat) := [(7, 7, 6), (6, 9, 5), (6, 16, 2), (2, 9, 1), (6, 23, 3), (3, 9, 1), (6, 30, 4), (4, 27, 1),
  (6, 164, 1), (7, 10, 0)]
def jt_ki : List (Nat × Nat × Int32) := []
def jt_kj : List (Nat × Nat × Int64) := [(4, 179, (-140737488355328)), (4, 172, 10), (4, 174, 48), (4, 181, 8388608), (6, 183, 7), (4, 183, 31), (6, 189, 31), (0, 264, (-140737488355328)),
  (0, 270, 10), (0, 278, 48), (0, 293, 8388608), (0, 295, 2), (0, 300, 7), (0, 302, 31), (7, 18, 4294967295)]
/-- the kinds of arrays; the last one is the script (read only) -/
def jt_at : List FieldType := [.int, .long, .boolean, .object RX0, .object RX3, .int]
def jt_scr : Nat := 5
def jt_law : Nat := 163
def jt_m (M : Nat) : jt_M := jt_ms.getD M (⟨"", "", ""⟩, ⟨#[]⟩, 0, none, 0, 0, 9)
def jt_cn (k : Nat) : String := jt_on.getD k ""
def jt_wfl (q : Nat × Nat × Nat × Nat) : Cond := match jt_cl[q.2.2.1]? with | some r => .fieldLink (jt_cn q.1) q.2.1 (r.2.1 q.2.2.2).1 (r.2.1 q.2.2.2).2.1 (r.2.1 q.2.2.2).2.2.1 | none => .tt
def jt_wml (q : Nat × Nat × Nat) : Cond := .methodLink (jt_cn q.1) q.2.1 (jt_m q.2.2).1
def jt_wmn (q : Nat × Nat × Nat × Nat) : Cond := .methodLinkNest (jt_cn q.1) q.2.1 (jt_m q.2.2.1).1 (jt_cn q.2.2.2)
def jt_wob (q : Nat × Nat) : Cond := .methodLink (jt_cn q.1) q.2 objectInit
def jt_wnl (q : Nat × Nat × Nat) : Cond := .classLink (jt_cn q.1) q.2.1 (jt_cn q.2.2)
def jt_wki (q : Nat × Nat × Int32) : Cond := .constant (jt_cn q.1) q.2.1 q.2.2
def jt_wkj (q : Nat × Nat × Int64) : Cond := .constantLong (jt_cn q.1) q.2.1 q.2.2
def jt_wm (q : jt_M) : List Cond := .code q.1 q.2.1 q.2.2.1 q.2.2.2.1 :: .initialized q.1.cls :: (if q.2.2.2.2.2.2 = 1 then [.static q.1] else if q.2.2.2.2.2.2 = 2 then [.instanceMethod q.1] else [.instanceMethod q.1, .selects q.1.cls q.1 q.1])
def jt_wc (r : vw_C) : List Cond := .instantiable r.1 r.2.2 :: .initialized r.1 :: u_ws r.1 r.2.1 r.2.2
theorem jt_in {α : Type} {L : List α} {f : α → Cond} (ps : List Nat) (h : L.map f = ps.filterMap (fun i => lw_tbl[i]?)) : ∀ q ∈ L, f q ∈ lw_tbl := by
  intro q hq
  have h1 : f q ∈ L.map f := List.mem_map_of_mem hq
  rw [h] at h1
  obtain ⟨i, -, hi⟩ := List.mem_filterMap.mp h1
  exact List.mem_of_getElem? hi
theorem jt_inL {α : Type} {L : List α} {f : α → List Cond} (ps : List Nat) (h : L.flatMap f = ps.filterMap (fun i => lw_tbl[i]?)) : ∀ q ∈ L, ∀ w ∈ f q, w ∈ lw_tbl := by
  intro q hq w hw
  have h1 : w ∈ L.flatMap f := List.mem_flatMap.mpr ⟨q, hq, hw⟩
  rw [h] at h1
  obtain ⟨i, -, hi⟩ := List.mem_filterMap.mp h1
  exact List.mem_of_getElem? hi
set_option maxRecDepth 100000 in
theorem jt_fl_in : ∀ q ∈ jt_fl, jt_wfl q ∈ lw_tbl := jt_in [73, 74, 75, 76, 77, 78, 79, 80, 81, 101, 102, 103, 104, 105, 106, 107, 124, 125, 126, 127, 128, 129, 130, 131, 132, 133, 134, 135, 155, 156, 157, 158, 159, 160, 161, 162, 163, 164, 165, 166, 240, 241, 242, 243, 244, 245, 246, 247, 248, 249, 250, 251, 252, 253, 254, 255, 256, 257, 258, 259, 260, 261, 262, 263, 264, 265, 266, 314, 315, 316, 317, 318, 319, 320, 321, 322, 323, 324, 325, 326, 327, 328, 329, 330, 331, 332, 333, 334, 335, 336, 337, 338, 708, 709, 710, 711, 712, 713, 714, 715, 716, 717, 718, 719, 720, 721, 722, 723, 724, 725, 726, 727, 728, 729, 730, 731, 732, 733, 734, 735, 736, 737, 738, 739, 740, 741, 742, 743, 744, 745, 746, 747, 748, 749, 750, 751] rfl
set_option maxRecDepth 100000 in
theorem jt_ml_in : ∀ q ∈ jt_ml, jt_wml q ∈ lw_tbl := jt_in [61, 192, 196, 200, 204, 208, 212, 215, 219, 223, 227, 232, 237, 300, 304, 310, 360, 364, 368, 372, 376, 380, 384, 388, 392, 396, 400, 404, 408, 412, 416, 420, 424, 428, 432, 436, 439, 443, 447, 451, 455, 459, 462, 465, 466, 470, 474, 475, 479, 483, 487, 491, 494, 498, 499, 503, 507, 511, 515, 518, 521, 525, 528, 532, 533, 536, 539, 542, 543, 547, 551, 555, 556, 560, 564, 565, 569, 573, 577, 581, 586, 590, 595, 599, 607, 611, 612, 616, 620, 624, 628, 632, 636, 640, 644, 648, 652, 656, 660, 661, 665, 669, 673, 676, 680, 681, 685, 689, 694, 700, 701, 704, 842, 846, 850, 853, 857, 861, 865, 869, 873, 877, 881, 885, 889, 893, 897, 901, 905, 909, 913, 917, 920, 923, 927, 931, 935, 939, 943, 947, 951, 955, 959, 963, 966, 969, 973, 976, 981, 986, 990, 995, 999, 1003, 1007, 1011, 1015, 1019, 1024, 1028, 1032, 1036, 1040, 1044, 1048, 1052, 1056, 1060, 1064, 1068, 1072, 1078, 1079] rfl
set_option maxRecDepth 100000 in
theorem jt_mn_in : ∀ q ∈ jt_mn, jt_wmn q ∈ lw_tbl := jt_in [69, 95, 119, 604] rfl
set_option maxRecDepth 100000 in
theorem jt_ob_in : ∀ q ∈ jt_ob, jt_wob q ∈ lw_tbl := jt_in [64, 72, 98, 122, 235, 313, 707] rfl
set_option maxRecDepth 100000 in
theorem jt_nl_in : ∀ q ∈ jt_nl, jt_wnl q ∈ lw_tbl := jt_in [59, 67, 93, 99, 117, 123, 153, 236, 308, 702] rfl
set_option maxRecDepth 100000 in
theorem jt_ki_in : ∀ q ∈ jt_ki, jt_wki q ∈ lw_tbl := jt_in [] rfl
set_option maxRecDepth 100000 in
theorem jt_kj_in : ∀ q ∈ jt_kj, jt_wkj q ∈ lw_tbl := jt_in [585, 593, 594, 603, 693, 698, 699, 980, 985, 994, 1022, 1023, 1076, 1077, 1080] rfl
set_option maxRecDepth 100000 in
theorem jt_ms0_in : ∀ q ∈ jt_ms0, ∀ w ∈ jt_wm q, w ∈ lw_tbl := jt_inL [706, 54, 705, 852, 54, 851, 968, 54, 967, 845, 54, 843, 844, 849, 54, 847, 848, 856, 54, 854, 855, 860, 54, 858, 859, 864, 54, 863, 13, 896, 54, 895, 20, 938, 54, 937, 29, 892, 54, 891, 19, 872, 54, 871, 14, 916, 54, 915, 25, 950, 54, 949, 32, 919, 54, 918, 922, 54, 921, 912, 54, 911, 24, 868, 54, 866, 867, 876, 54, 875, 15, 900, 54, 899, 21] rfl
set_option maxRecDepth 100000 in
theorem jt_ms1_in : ∀ q ∈ jt_ms1, ∀ w ∈ jt_wm q, w ∈ lw_tbl := jt_inL [884, 54, 883, 17, 880, 54, 879, 16, 888, 54, 887, 18, 908, 54, 907, 23, 904, 54, 903, 22, 926, 54, 925, 26, 934, 54, 933, 28, 942, 54, 941, 30, 930, 54, 929, 27, 946, 54, 945, 31, 958, 54, 957, 34, 962, 54, 961, 35, 965, 54, 964, 975, 54, 974, 972, 54, 971, 36, 954, 54, 953, 33, 984, 54, 983, 38, 979, 54, 978, 37, 993, 54, 992, 40, 989, 54, 988, 39] rfl
set_option maxRecDepth 100000 in
theorem jt_ms2_in : ∀ q ∈ jt_ms2, ∀ w ∈ jt_wm q, w ∈ lw_tbl := jt_inL [1002, 54, 1001, 42, 998, 54, 997, 41, 1006, 54, 1005, 43, 1014, 54, 1013, 45, 1010, 54, 1009, 44, 1018, 54, 1017, 46, 1021, 54, 1020, 1027, 54, 1026, 47, 1035, 54, 1034, 48, 1031, 54, 1029, 1030, 1039, 54, 1037, 1038, 1043, 54, 1041, 1042, 1047, 54, 1045, 1046, 1051, 54, 1049, 1050, 1055, 54, 1053, 1054, 1059, 54, 1057, 1058, 1063, 54, 1061, 1062, 1067, 54, 1065, 1066, 1071, 54, 1069, 1070, 1075, 54, 1073, 1074] rfl
set_option maxRecDepth 100000 in
theorem jt_ms3_in : ∀ q ∈ jt_ms3, ∀ w ∈ jt_wm q, w ∈ lw_tbl := jt_inL [312, 57, 311, 403, 57, 401, 402, 635, 57, 633, 634, 431, 57, 429, 430, 446, 57, 444, 445, 442, 57, 440, 441, 97, 52, 96, 199, 52, 197, 198, 379, 52, 377, 378, 427, 52, 425, 426, 506, 52, 504, 505, 510, 52, 508, 509, 407, 52, 405, 406, 423, 52, 421, 422, 615, 52, 613, 614, 631, 52, 629, 630, 121, 53, 120, 688, 53, 686, 687, 367, 53, 365, 366, 371, 53, 369, 370] rfl
set_option maxRecDepth 100000 in
theorem jt_ms4_in : ∀ q ∈ jt_ms4, ∀ w ∈ jt_wm q, w ∈ lw_tbl := jt_inL [415, 53, 413, 414, 450, 53, 448, 449, 627, 53, 625, 626, 469, 53, 467, 468, 454, 53, 452, 453, 399, 53, 397, 398, 458, 53, 456, 457, 461, 53, 460, 234, 55, 233, 214, 55, 213, 538, 55, 537, 493, 55, 492, 478, 55, 476, 477, 482, 55, 480, 481, 435, 55, 433, 434, 497, 55, 495, 496, 363, 55, 361, 362, 514, 55, 512, 513, 559, 55, 557, 558, 531, 55, 529, 530] rfl
set_option maxRecDepth 100000 in
theorem jt_ms5_in : ∀ q ∈ jt_ms5, ∀ w ∈ jt_wm q, w ∈ lw_tbl := jt_inL [554, 55, 552, 553, 655, 55, 653, 654, 524, 55, 522, 523, 546, 55, 544, 545, 550, 55, 548, 549, 563, 55, 561, 562, 610, 55, 608, 609, 568, 55, 566, 567, 572, 55, 570, 571, 589, 55, 587, 588, 580, 55, 578, 579, 576, 55, 574, 575, 598, 55, 596, 597, 584, 55, 582, 583, 602, 55, 600, 601, 697, 55, 695, 696, 71, 51, 70, 207, 51, 205, 206, 222, 51, 220, 221, 211, 51, 209, 210] rfl
set_option maxRecDepth 100000 in
theorem jt_ms6_in : ∀ q ∈ jt_ms6, ∀ w ∈ jt_wm q, w ∈ lw_tbl := jt_inL [226, 51, 224, 225, 303, 51, 301, 302, 63, 50, 62, 195, 50, 193, 194, 203, 50, 201, 202, 218, 50, 216, 217, 230, 50, 228, 229, 387, 50, 385, 386, 639, 50, 637, 638, 643, 50, 641, 642, 647, 50, 645, 646, 651, 50, 649, 650, 659, 50, 657, 658, 664, 50, 662, 663, 668, 50, 666, 667, 672, 50, 670, 671, 679, 50, 677, 678, 684, 50, 682, 683, 692, 50, 690, 691, 383, 50, 382, 2] rfl
set_option maxRecDepth 100000 in
theorem jt_ms7_in : ∀ q ∈ jt_ms7, ∀ w ∈ jt_wm q, w ∈ lw_tbl := jt_inL [375, 50, 374, 1, 391, 50, 390, 3, 395, 50, 394, 4, 419, 50, 418, 6, 473, 50, 472, 7, 619, 50, 618, 11, 606, 50, 605, 486, 50, 485, 8, 490, 50, 489, 9, 502, 50, 501, 10, 307, 50, 306, 0, 623, 50, 622, 12, 411, 50, 410, 5, 438, 56, 437, 464, 56, 463, 592, 56, 591, 239, 56, 238, 675, 56, 674, 517, 58, 516, 535, 58, 534] rfl
set_option maxRecDepth 100000 in
theorem jt_ms8_in : ∀ q ∈ jt_ms8, ∀ w ∈ jt_wm q, w ∈ lw_tbl := jt_inL [527, 58, 526, 520, 58, 519, 541, 58, 540] rfl
theorem jt_mc_in : ∀ q ∈ jt_mc, ∀ w ∈ jt_wm q, w ∈ lw_tbl := by
  intro q hq
  simp only [jt_mc, List.mem_append] at hq
  rcases hq with h | h | h | h | h | h | h | h | h
  · exact jt_ms0_in q h
  · exact jt_ms1_in q h
  · exact jt_ms2_in q h
  · exact jt_ms3_in q h
  · exact jt_ms4_in q h
  · exact jt_ms5_in q h
  · exact jt_ms6_in q h
  · exact jt_ms7_in q h
  · exact jt_ms8_in q h
set_option maxRecDepth 100000 in
theorem jt_cl_in : ∀ q ∈ jt_cl, ∀ w ∈ jt_wc q, w ∈ lw_tbl := jt_inL [703, 54, 752, 754, 756, 758, 760, 762, 764, 766, 768, 770, 772, 774, 776, 778, 780, 782, 784, 786, 788, 790, 792, 794, 796, 798, 800, 802, 804, 806, 808, 810, 812, 814, 816, 818, 820, 822, 824, 826, 828, 830, 832, 834, 836, 838, 309, 57, 339, 341, 343, 345, 347, 349, 351, 353, 355, 357, 94, 52, 108, 110, 112, 114, 118, 53, 136, 138, 140, 142, 144, 146, 148, 150, 231, 55, 267, 269, 271, 273, 275, 277, 279, 281, 283, 285, 287, 289, 291, 293, 295, 297, 68, 51, 82, 84, 86, 88, 60, 50, 167, 169, 171, 173, 175, 177, 179, 181, 183, 185, 187, 189] rfl
def jt_ap : List (Nat) := [92, 91, 841]
theorem jt_ac0 : Cond.arrayClass .int ∈ lw_tbl := List.mem_of_getElem? (i := 92) (by decide +kernel)
theorem jt_ac1 : Cond.arrayClass .long ∈ lw_tbl := List.mem_of_getElem? (i := 91) (by decide +kernel)
theorem jt_ac2 : Cond.arrayClass .boolean ∈ lw_tbl := List.mem_of_getElem? (i := 841) (by decide +kernel)
theorem jt_ao0 : Cond.arrayOver (.object RX0) ∈ lw_tbl := List.mem_of_getElem? (i := 100) (by decide +kernel)
theorem jt_ao1 : Cond.arrayOver (.object RX3) ∈ lw_tbl := List.mem_of_getElem? (i := 154) (by decide +kernel)
theorem jt_obc : Cond.code objectInit ⟨#[0xb1]⟩ 1 none ∈ lw_tbl := List.mem_of_getElem? (i := 66) (by decide +kernel)
theorem jt_obi : Cond.instanceMethod objectInit ∈ lw_tbl := List.mem_of_getElem? (i := 65) (by decide +kernel)
theorem jt_cl_ty : ∀ (ci : Nat) (r : vw_C), jt_cl[ci]? = some r → (∀ k, k < r.2.2 → parseFieldDescriptor (r.2.1 k).2.2.1 = some ((jt_tf.getD ci (fun _ => .int)) k)) ∧ ∀ a, a < r.2.2 → ∀ b, b < r.2.2 → a ≠ b → (r.2.1 a).2.1 ≠ (r.2.1 b).2.1 := by
  intro ci r h
  match ci, h with
  | 0, h => cases h; exact ⟨tyX7_ok, nmX7⟩
  | 1, h => cases h; exact ⟨tyX0_ok, nmX0⟩
  | 2, h => cases h; exact ⟨tyX1_ok, nmX1⟩
  | 3, h => cases h; exact ⟨tyX2_ok, nmX2⟩
  | 4, h => cases h; exact ⟨tyX3_ok, nmX3⟩
  | 5, h => cases h; exact ⟨tyX5_ok, nmX5⟩
  | 6, h => cases h; exact ⟨tyX6_ok, nmX6⟩
  | n + 7, h => simp [jt_cl] at h
theorem jt_cl_cn : ∀ (ci : Nat) (r : vw_C), jt_cl[ci]? = some r → jt_cn ci = r.1 := by
  intro ci r h
  match ci, h with
  | 0, h => cases h; rfl
  | 1, h => cases h; rfl
  | 2, h => cases h; rfl
  | 3, h => cases h; rfl
  | 4, h => cases h; rfl
  | 5, h => cases h; rfl
  | 6, h => cases h; rfl
  | n + 7, h => simp [jt_cl] at h
theorem jt_cl_decl : ∀ (ci : Nat) (r : vw_C), jt_cl[ci]? = some r → ∀ f, f < r.2.2 → (r.2.1 f).1 = jt_cn ci := by
  intro ci r h
  match ci, h with
  | 0, h => cases h; decide +kernel
  | 1, h => cases h; decide +kernel
  | 2, h => cases h; decide +kernel
  | 3, h => cases h; decide +kernel
  | 4, h => cases h; decide +kernel
  | 5, h => cases h; decide +kernel
  | 6, h => cases h; decide +kernel
  | n + 7, h => simp [jt_cl] at h
def jt_prim (t : FieldType) : Bool := match t with | .object _ => false | .array _ => false | _ => true
theorem jt_ac_in : ∀ (k : Nat) (t : FieldType), jt_at[k]? = some t → jt_prim t = true → Cond.arrayClass t ∈ lw_tbl := by
  intro k t h hp
  match k, h with
  | 0, h => cases h; exact jt_ac0
  | 1, h => cases h; exact jt_ac1
  | 2, h => cases h; exact jt_ac2
  | 3, h => cases h; cases hp
  | 4, h => cases h; cases hp
  | 5, h => cases h; exact jt_ac0
  | n + 6, h => simp [jt_at] at h
theorem jt_ob_of : ∀ (k : Nat) (t : FieldType), jt_at[k]? = some t → jt_prim t = false → ∃ C, t = .object C := by
  intro k t h hp
  match k, h with
  | 0, h => cases h; cases hp
  | 1, h => cases h; cases hp
  | 2, h => cases h; cases hp
  | 3, h => cases h; exact ⟨_, rfl⟩
  | 4, h => cases h; exact ⟨_, rfl⟩
  | 5, h => cases h; cases hp
  | n + 6, h => simp [jt_at] at h
theorem jt_ao_in : ∀ (k : Nat) (C : String), jt_at[k]? = some (.object C) → Cond.arrayOver (.object C) ∈ lw_tbl := by
  intro k t h
  match k, h with
  | 0, h => cases h
  | 1, h => cases h
  | 2, h => cases h
  | 3, h => cases h; exact jt_ao0
  | 4, h => cases h; exact jt_ao1
  | 5, h => cases h
  | n + 6, h => simp [jt_at] at h
end
section
/-! A small machine over an abstract heap: what the bytecode of the claim's methods does, as a function. Part 05 proves that the real machine does the same. -/
/-- a cell: an object (its class's number, its fields) or an array (its kind's number, its length, its contents) -/
abbrev jv_C : Type := (Nat × List Value) ⊕ (Nat × Nat × (Nat → Value))
/-- a heap: what is known of its cells, how many cells there are, how many slots were made -/
abbrev jv_H : Type := (Nat → Option jv_C) × Nat × Nat
abbrev jv_L : Type := List (Option Value)
abbrev jv_Z : Type := Option Value × jv_H
abbrev jv_S : Type := Nat × jv_L × List Value × jv_H
abbrev jv_F : Type := Nat → List Value → jv_H → Option jv_Z
def jt_code (M : Nat) : ByteArray := (jt_m M).2.1
def jt_maxL (M : Nat) : Nat := (jt_m M).2.2.1
def jt_ret (M : Nat) : Option FieldType := (jt_m M).2.2.2.1
def jt_own (M : Nat) : Nat := (jt_m M).2.2.2.2.1
def jt_np (M : Nat) : Nat := (jt_m M).2.2.2.2.2.1
def jt_kd (M : Nat) : Nat := (jt_m M).2.2.2.2.2.2
def jt_f4 (l : List (Nat × Nat × Nat × Nat)) (o i : Nat) : Option (Nat × Nat) := (l.find? (fun q => q.1 == o && q.2.1 == i)).map (fun q => q.2.2)
def jt_f3 {α : Type} (l : List (Nat × Nat × α)) (o i : Nat) : Option α := (l.find? (fun q => q.1 == o && q.2.1 == i)).map (fun q => q.2.2)
def jt_fty (ci k : Nat) : FieldType := (jt_tf.getD ci (fun _ => .int)) k
def jt_ffin (ci k : Nat) : Bool := match jt_cl[ci]? with
  | some r => (r.2.1 k).2.2.2
  | none => true
def jt_dfl (ci : Nat) : List Value := match jt_cl[ci]? with
  | some r => (List.range r.2.2).map (fun k => defaultValue (jt_fty ci k))
  | none => []
def jv_up (m : Nat → Option jv_C) (a : Nat) (c : jv_C) : Nat → Option jv_C := fun q => if q = a then some c else m q
def jv_n (pc : Nat) (ls : jv_L) (st : List Value) (h : jv_H) : Option (jv_S ⊕ jv_Z) := some (.inl (pc, ls, st, h))
def jv_len {α : Type} (n k : Nat) (x : Option α) : Option α := if n = k then x else none
def jv_gf (h : jv_H) (a ci k : Nat) : Option Value := match h.1 a with
  | some (.inl (c, fs)) => if c = ci then fs[k]? else none
  | _ => none
def jv_pf (h : jv_H) (a ci k : Nat) (v : Value) : Option jv_H := match h.1 a with
  | some (.inl (c, fs)) => if c = ci ∧ k < fs.length ∧ narrow (jt_fty ci k) v = v ∧ fits (jt_fty ci k) v = true then some (jv_up h.1 a (.inl (c, fs.set k v)), h.2) else none
  | _ => none
def jv_al (h : jv_H) (a : Nat) (ty : FieldType) (i : Int32) : Option Value := match h.1 a with
  | some (.inr (k, n, f)) => if jt_at[k]? = some ty ∧ ¬ (i < 0 ∨ n ≤ i.toNatClampNeg) then some (f i.toNatClampNeg) else none
  | _ => none
def jv_as (h : jv_H) (a : Nat) (ty : FieldType) (i : Int32) (v : Value) : Option jv_H := match h.1 a with
  | some (.inr (k, n, f)) => if ¬ k = jt_scr ∧ jt_at[k]? = some ty ∧ ¬ (i < 0 ∨ n ≤ i.toNatClampNeg) then some (jv_up h.1 a (.inr (k, n, updV f i.toNatClampNeg v)), h.2) else none
  | _ => none
def jv_ln (h : jv_H) (a : Nat) : Option Nat := match h.1 a with
  | some (.inr (_, n, _)) => some n
  | _ => none
def jv_ob (ty : FieldType) : Option String := match ty with
  | .object C => some C
  | _ => none
def jv_kn (h : jv_H) (a : Nat) : Option String := match h.1 a with
  | some (.inr (k, _, _)) => if k = jt_scr then none else (jt_at[k]?).bind jv_ob
  | _ => none
def jv_cl (h : jv_H) (a : Nat) : Option Nat := match h.1 a with
  | some (.inl (c, _)) => some c
  | _ => none
def jv_isA (h : jv_H) (C : String) (v : Value) : Bool := match v with
  | .null => true
  | .ref q => match jv_cl h q with
    | some ci => match jt_cl[ci]? with
      | some r => decide (r.1 = C)
      | none => false
    | none => false
  | _ => false
def jv_new (h : jv_H) (ci : Nat) : jv_H := (jv_up h.1 h.2.1 (.inl (ci, jt_dfl ci)), h.2.1 + 1, h.2.2 + (jt_dfl ci).length)
def jv_newa (h : jv_H) (k n : Nat) (v : Value) : jv_H := (jv_up h.1 h.2.1 (.inr (k, n, fun _ => v)), h.2.1 + 1, h.2.2 + n)
def jv_cmp (c : ClassFile.Cond) (x y : Int32) : Bool := match c with
  | .eq => decide (x = y)
  | .ne => decide (¬ x = y)
  | .lt => decide (x < y)
  | .ge => decide (y ≤ x)
  | .gt => decide (y < x)
  | .le => decide (x ≤ y)
def jv_to (pc : Nat) (off : Int) : Option Nat := if 0 ≤ (pc : Int) + off then some ((pc : Int) + off).toNat else none
def jv_go (pc : Nat) (off : Int) (b : Bool) (ls : jv_L) (st : List Value) (h : jv_H) : Option (jv_S ⊕ jv_Z) := match jv_to pc off with
  | some t => jv_n (if b then t else pc + 3) ls st h
  | none => none
def jv_is2 (o : Option (Option Value)) : Bool := match o with
  | some (some v) => decide (v.category = 2)
  | _ => false
/-- the long that a store to place i spoils -/
def jv_kill (ls : jv_L) (i : Nat) : jv_L := match i with
  | 0 => ls
  | j + 1 => if jv_is2 ls[j]? then ls.set j none else ls
def jv_st1 (ls : jv_L) (i : Nat) (v : Value) : jv_L := (jv_kill ls i).set i (some v)
def jv_st2 (ls : jv_L) (i : Nat) (v : Value) : jv_L := ((jv_kill ls i).set i (some v)).set (i + 1) none
def jv_ldi (n k pc : Nat) (ls : jv_L) (i : Nat) (st : List Value) (h : jv_H) : Option (jv_S ⊕ jv_Z) := match ls[i]? with
  | some (some (.int x)) => jv_len n k (jv_n (pc + k) ls (.int x :: st) h)
  | _ => none
def jv_ldl (n k pc : Nat) (ls : jv_L) (i : Nat) (st : List Value) (h : jv_H) : Option (jv_S ⊕ jv_Z) := match ls[i]? with
  | some (some (.long x)) => jv_len n k (jv_n (pc + k) ls (.long x :: st) h)
  | _ => none
def jv_lda (n k pc : Nat) (ls : jv_L) (i : Nat) (st : List Value) (h : jv_H) : Option (jv_S ⊕ jv_Z) := match ls[i]? with
  | some (some (.ref x)) => jv_len n k (jv_n (pc + k) ls (.ref x :: st) h)
  | some (some .null) => jv_len n k (jv_n (pc + k) ls (.null :: st) h)
  | _ => none
def jv_sti (n k pc : Nat) (ls : jv_L) (i : Nat) (st : List Value) (h : jv_H) : Option (jv_S ⊕ jv_Z) := match st with
  | .int x :: st => if i < ls.length then jv_len n k (jv_n (pc + k) (jv_st1 ls i (.int x)) st h) else none
  | _ => none
def jv_stl (n k pc : Nat) (ls : jv_L) (i : Nat) (st : List Value) (h : jv_H) : Option (jv_S ⊕ jv_Z) := match st with
  | .long x :: st => if i + 1 < ls.length then jv_len n k (jv_n (pc + k) (jv_st2 ls i (.long x)) st h) else none
  | _ => none
def jv_sta (n k pc : Nat) (ls : jv_L) (i : Nat) (st : List Value) (h : jv_H) : Option (jv_S ⊕ jv_Z) := match st with
  | .ref x :: st => if i < ls.length then jv_len n k (jv_n (pc + k) (jv_st1 ls i (.ref x)) st h) else none
  | .null :: st => if i < ls.length then jv_len n k (jv_n (pc + k) (jv_st1 ls i .null) st h) else none
  | _ => none
def jv_b2 (f : Int32 → Int32 → Int32) (n pc : Nat) (ls : jv_L) (st : List Value) (h : jv_H) : Option (jv_S ⊕ jv_Z) := match st with
  | .int y :: .int x :: st => jv_len n 1 (jv_n (pc + 1) ls (.int (f x y) :: st) h)
  | _ => none
def jv_l2 (f : Int64 → Int64 → Int64) (n pc : Nat) (ls : jv_L) (st : List Value) (h : jv_H) : Option (jv_S ⊕ jv_Z) := match st with
  | .long y :: .long x :: st => jv_len n 1 (jv_n (pc + 1) ls (.long (f x y) :: st) h)
  | _ => none
def jv_wide (st : List Value) : Bool := decide ((st.map fun v => v.category).sum ≤ 8)
def jv_inv (call : jv_F) (y n pc : Nat) (ls : jv_L) (as rest : List Value) (h : jv_H) : Option (jv_S ⊕ jv_Z) :=
  if n = 3 ∧ jv_wide rest = true then match call y as h with
    | some (r, h') => jv_n (pc + 3) ls (r.toList ++ rest) h'
    | none => none
  else none
/-- the method that a pool number names, and whether it is named as a nest mate's -/
def jt_inv (o i : Nat) : Option Nat := match jt_f3 jt_ml o i with
  | some y => some y
  | none => (jt_f4 jt_mn o i).map (fun q => q.1)
def jv_ins (call : jv_F) (M : Nat) (i : Instr) (n pc : Nat) (ls : jv_L) (st : List Value) (h : jv_H) : Option (jv_S ⊕ jv_Z) :=
  match i with
  | .aconst_null => jv_len n 1 (jv_n (pc + 1) ls (.null :: st) h)
  | .iconst v => jv_len n 1 (jv_n (pc + 1) ls (.int (Int32.ofInt v) :: st) h)
  | .bipush v => jv_len n 2 (jv_n (pc + 2) ls (.int (Int8.ofInt v).toInt32 :: st) h)
  | .sipush v => jv_len n 3 (jv_n (pc + 3) ls (.int (Int16.ofInt v).toInt32 :: st) h)
  | .lconst v => jv_len n 1 (jv_n (pc + 1) ls (.long (Int64.ofNat (v : Nat)) :: st) h)
  | .ldc k => match jt_f3 jt_ki (jt_own M) k with
    | some v => jv_len n 2 (jv_n (pc + 2) ls (.int v :: st) h)
    | none => none
  | .ldc2_w k => match jt_f3 jt_kj (jt_own M) k with
    | some v => jv_len n 3 (jv_n (pc + 3) ls (.long v :: st) h)
    | none => none
  | .iload k => jv_ldi n 2 pc ls k st h
  | .iload_n k => jv_ldi n 1 pc ls k st h
  | .lload k => jv_ldl n 2 pc ls k st h
  | .lload_n k => jv_ldl n 1 pc ls k st h
  | .aload k => jv_lda n 2 pc ls k st h
  | .aload_n k => jv_lda n 1 pc ls k st h
  | .istore k => jv_sti n 2 pc ls k st h
  | .istore_n k => jv_sti n 1 pc ls k st h
  | .lstore k => jv_stl n 2 pc ls k st h
  | .lstore_n k => jv_stl n 1 pc ls k st h
  | .astore k => jv_sta n 2 pc ls k st h
  | .astore_n k => jv_sta n 1 pc ls k st h
  | .iinc k c => match ls[k]? with
    | some (some (.int x)) => if k < ls.length then jv_len n 3 (jv_n (pc + 3) (jv_st1 ls k (.int (x + Int32.ofInt c))) st h) else none
    | _ => none
  | .iadd => jv_b2 (fun x y => x + y) n pc ls st h
  | .isub => jv_b2 (fun x y => x - y) n pc ls st h
  | .imul => jv_b2 (fun x y => x * y) n pc ls st h
  | .iand => jv_b2 (fun x y => x &&& y) n pc ls st h
  | .ixor => jv_b2 (fun x y => x ^^^ y) n pc ls st h
  | .ishl => jv_b2 (fun x y => x <<< (y &&& 31)) n pc ls st h
  | .ishr => jv_b2 (fun x y => x >>> (y &&& 31)) n pc ls st h
  | .idiv => match st with
    | .int y :: .int x :: st => if y = 0 then none else jv_len n 1 (jv_n (pc + 1) ls (.int (x / y) :: st) h)
    | _ => none
  | .irem => match st with
    | .int y :: .int x :: st => if y = 0 then none else jv_len n 1 (jv_n (pc + 1) ls (.int (x - x / y * y) :: st) h)
    | _ => none
  | .ladd => jv_l2 (fun x y => x + y) n pc ls st h
  | .lsub => jv_l2 (fun x y => x - y) n pc ls st h
  | .lmul => jv_l2 (fun x y => x * y) n pc ls st h
  | .land => jv_l2 (fun x y => x &&& y) n pc ls st h
  | .lor => jv_l2 (fun x y => x ||| y) n pc ls st h
  | .ldiv => match st with
    | .long y :: .long x :: st => if y = 0 then none else jv_len n 1 (jv_n (pc + 1) ls (.long (x / y) :: st) h)
    | _ => none
  | .lrem => match st with
    | .long y :: .long x :: st => if y = 0 then none else jv_len n 1 (jv_n (pc + 1) ls (.long (x - x / y * y) :: st) h)
    | _ => none
  | .lneg => match st with
    | .long x :: st => jv_len n 1 (jv_n (pc + 1) ls (.long (-x) :: st) h)
    | _ => none
  | .lshl => match st with
    | .int y :: .long x :: st => jv_len n 1 (jv_n (pc + 1) ls (.long (x <<< (y.toInt64 &&& 63)) :: st) h)
    | _ => none
  | .lshr => match st with
    | .int y :: .long x :: st => jv_len n 1 (jv_n (pc + 1) ls (.long (x >>> (y.toInt64 &&& 63)) :: st) h)
    | _ => none
  | .lcmp => match st with
    | .long y :: .long x :: st => jv_len n 1 (jv_n (pc + 1) ls (.int (lg_cmp x y) :: st) h)
    | _ => none
  | .i2l => match st with
    | .int x :: st => jv_len n 1 (jv_n (pc + 1) ls (.long x.toInt64 :: st) h)
    | _ => none
  | .l2i => match st with
    | .long x :: st => jv_len n 1 (jv_n (pc + 1) ls (.int x.toInt32 :: st) h)
    | _ => none
  | .dup => match st with
    | v :: st => if v.category = 1 then jv_len n 1 (jv_n (pc + 1) ls (v :: v :: st) h) else none
    | _ => none
  | .dup2 => match st with
    | v :: w :: st => if v.category = 1 ∧ w.category = 1 then jv_len n 1 (jv_n (pc + 1) ls (v :: w :: v :: w :: st) h) else none
    | _ => none
  | .pop => match st with
    | v :: st => if v.category = 1 then jv_len n 1 (jv_n (pc + 1) ls st h) else none
    | _ => none
  | .pop2 => match st with
    | v :: st => if v.category = 2 then jv_len n 1 (jv_n (pc + 1) ls st h) else none
    | _ => none
  | .goto off => jv_len n 3 (jv_go pc off true ls st h)
  | .if_icmp c off => match st with
    | .int y :: .int x :: st => jv_len n 3 (jv_go pc off (jv_cmp c x y) ls st h)
    | _ => none
  | .ifCond c off => match st with
    | .int x :: st => jv_len n 3 (jv_go pc off (jv_cmp c x 0) ls st h)
    | _ => none
  | .if_acmp c off => match st with
    | .ref y :: .ref x :: st => jv_len n 3 (jv_go pc off (match c with | .eq => decide (x = y) | .ne => decide (¬ x = y)) ls st h)
    | .null :: .ref _ :: st => jv_len n 3 (jv_go pc off (match c with | .eq => false | .ne => true) ls st h)
    | .ref _ :: .null :: st => jv_len n 3 (jv_go pc off (match c with | .eq => false | .ne => true) ls st h)
    | .null :: .null :: st => jv_len n 3 (jv_go pc off (match c with | .eq => true | .ne => false) ls st h)
    | _ => none
  | .ifnull off => match st with
    | .ref _ :: st => jv_len n 3 (jv_n (pc + 3) ls st h)
    | .null :: st => jv_len n 3 (jv_go pc off true ls st h)
    | _ => none
  | .ifnonnull off => match st with
    | .ref _ :: st => jv_len n 3 (jv_go pc off true ls st h)
    | .null :: st => jv_len n 3 (jv_n (pc + 3) ls st h)
    | _ => none
  | .tableswitch dflt lo hi offs => match st with
    | .int x :: st => if x.toInt < lo ∨ hi < x.toInt then jv_go pc dflt true ls st h else match offs[(x.toInt - lo).toNat]? with
      | some off => jv_go pc off true ls st h
      | none => none
    | _ => none
  | .lookupswitch dflt ps => match st with
    | .int x :: st => if (ps.toList.zip (ps.toList.drop 1)).all (fun (a, next) => a.1 < next.1) = true then jv_go pc (Op.lookupswitch.offset ps.toList dflt x.toInt) true ls st h else none
    | _ => none
  | .getfield k => match st, jt_f4 jt_fl (jt_own M) k with
    | .ref a :: st, some (ci, f) => match jv_gf h a ci f with
      | some v => jv_len n 3 (jv_n (pc + 3) ls (v :: st) h)
      | none => none
    | _, _ => none
  | .putfield k => match st, jt_f4 jt_fl (jt_own M) k with
    | v :: .ref a :: st, some (ci, f) => if jt_ffin ci f = false ∨ (jt_kd M = 2 ∧ jt_own M = ci) then match jv_pf h a ci f v with
        | some h' => jv_len n 3 (jv_n (pc + 3) ls st h')
        | none => none
      else none
    | _, _ => none
  | .new k => match jt_f3 jt_nl (jt_own M) k with
    | some ci => if ci < jt_cl.length then jv_len n 3 (jv_n (pc + 3) ls (.ref h.2.1 :: st) (jv_new h ci)) else none
    | none => none
  | .newarray t => match st with
    | .int x :: st => match jt_at.idxOf? (newarray.typeOf t) with
      | some k => if ¬ k = jt_scr ∧ ¬ x < 0 ∧ x.toNatClampNeg ≤ 100000 then jv_len n 2 (jv_n (pc + 2) ls (.ref h.2.1 :: st) (jv_newa h k x.toNatClampNeg (defaultValue (newarray.typeOf t)))) else none
      | none => none
    | _ => none
  | .anewarray k => match st, jt_f3 jt_nl (jt_own M) k with
    | .int x :: st, some ci => match jt_at.idxOf? (.object (jt_cn ci)) with
      | some k => if ¬ k = jt_scr ∧ ¬ x < 0 ∧ x.toNatClampNeg ≤ 100000 then jv_len n 3 (jv_n (pc + 3) ls (.ref h.2.1 :: st) (jv_newa h k x.toNatClampNeg .null)) else none
      | none => none
    | _, _ => none
  | .arraylength => match st with
    | .ref a :: st => match jv_ln h a with
      | some z => jv_len n 1 (jv_n (pc + 1) ls (.int (Int32.ofNat z) :: st) h)
      | none => none
    | _ => none
  | .iaload => match st with
    | .int j :: .ref a :: st => match jv_al h a .int j with
      | some v => jv_len n 1 (jv_n (pc + 1) ls (v :: st) h)
      | none => none
    | _ => none
  | .laload => match st with
    | .int j :: .ref a :: st => match jv_al h a .long j with
      | some v => jv_len n 1 (jv_n (pc + 1) ls (v :: st) h)
      | none => none
    | _ => none
  | .baload => match st with
    | .int j :: .ref a :: st => match jv_al h a .boolean j with
      | some v => jv_len n 1 (jv_n (pc + 1) ls (v :: st) h)
      | none => none
    | _ => none
  | .aaload => match st with
    | .int j :: .ref a :: st => match jv_kn h a with
      | some C => match jv_al h a (.object C) j with
        | some v => jv_len n 1 (jv_n (pc + 1) ls (v :: st) h)
        | none => none
      | none => none
    | _ => none
  | .iastore => match st with
    | .int x :: .int j :: .ref a :: st => match jv_as h a .int j (.int x) with
      | some h' => jv_len n 1 (jv_n (pc + 1) ls st h')
      | none => none
    | _ => none
  | .lastore => match st with
    | .long x :: .int j :: .ref a :: st => match jv_as h a .long j (.long x) with
      | some h' => jv_len n 1 (jv_n (pc + 1) ls st h')
      | none => none
    | _ => none
  | .bastore => match st with
    | .int x :: .int j :: .ref a :: st => match jv_as h a .boolean j (narrow .boolean (.int x)) with
      | some h' => jv_len n 1 (jv_n (pc + 1) ls st h')
      | none => none
    | _ => none
  | .aastore => match st with
    | v :: .int j :: .ref a :: st => match jv_kn h a with
      | some C => if jv_isA h C v = true then match jv_as h a (.object C) j v with
          | some h' => jv_len n 1 (jv_n (pc + 1) ls st h')
          | none => none
        else none
      | none => none
    | _ => none
  | .invokevirtual k => match jt_inv (jt_own M) k with
    | some y => match st.drop (jt_np y) with
      | .ref b :: rest => if jt_kd y = 0 ∧ jv_cl h b = some (jt_own y) ∧ jt_np y ≤ st.length then jv_inv call y n pc ls (.ref b :: (st.take (jt_np y)).reverse) rest h else none
      | _ => none
    | none => none
  | .invokestatic k => match jt_inv (jt_own M) k with
    | some y => if jt_kd y = 1 ∧ jt_np y ≤ st.length then jv_inv call y n pc ls (st.take (jt_np y)).reverse (st.drop (jt_np y)) h else none
    | none => none
  | .invokespecial k => if jt_ob.contains (jt_own M, k) then match st with
      | .ref _ :: rest => if jv_wide rest = true then jv_len n 3 (jv_n (pc + 3) ls rest h) else none
      | _ => none
    else match jt_inv (jt_own M) k with
      | some y => match st.drop (jt_np y) with
        | .ref b :: rest => if jt_kd y = 2 ∧ jt_np y ≤ st.length then jv_inv call y n pc ls (.ref b :: (st.take (jt_np y)).reverse) rest h else none
        | _ => none
      | none => none
  | .ireturn => match st, jt_ret M with
    | [.int v], some ty => if n = 1 ∧ narrow ty (.int v) = .int v ∧ fits ty (.int v) = true then some (.inr (some (.int v), h)) else none
    | _, _ => none
  | .lreturn => match st, jt_ret M with
    | [.long v], some .long => if n = 1 then some (.inr (some (.long v), h)) else none
    | _, _ => none
  | .areturn => match st, jt_ret M with
    | [.ref v], some (.object _) => if n = 1 then some (.inr (some (.ref v), h)) else none
    | [.null], some (.object _) => if n = 1 then some (.inr (some .null, h)) else none
    | _, _ => none
  | .return_ => match st, jt_ret M with
    | [], none => if n = 1 then some (.inr (none, h)) else none
    | _, _ => none
  | _ => none
def jv_step (call : jv_F) (M : Nat) (pc : Nat) (ls : jv_L) (st : List Value) (h : jv_H) : Option (jv_S ⊕ jv_Z) := match decode (jt_code M) pc with
  | .ok (i, n) => jv_ins call M i n pc ls st h
  | .error _ => none
def jv_loop (call : jv_F) (M : Nat) : Nat → Nat → jv_L → List Value → jv_H → Option jv_Z
  | 0, _, _, _, _ => none
  | n + 1, pc, ls, st, h => match jv_step call M pc ls st h with
    | none => none
    | some (.inr z) => some z
    | some (.inl (pc', ls', st', h')) => jv_loop call M n pc' ls' st' h'
theorem jv_loop_mono (call : jv_F) (M : Nat) : ∀ (n k pc : Nat) (ls : jv_L) (st : List Value) (h : jv_H) (z : jv_Z), jv_loop call M n pc ls st h = some z → jv_loop call M (n + k) pc ls st h = some z
  | 0, _, _, _, _, _, _, hz => by simp [jv_loop] at hz
  | n + 1, k, pc, ls, st, h, z, hz => by
    rw [show n + 1 + k = (n + k) + 1 by omega]
    unfold jv_loop at hz ⊢
    cases hs : jv_step call M pc ls st h with
    | none => rw [hs] at hz; simp at hz
    | some o =>
      rw [hs] at hz
      cases o with
      | inr y => simpa using hz
      | inl y =>
        obtain ⟨pc', ls', st', h'⟩ := y
        simp only at hz ⊢
        exact jv_loop_mono call M n k pc' ls' st' h' z hz

noncomputable def jv_ev (call : jv_F) (M : Nat) (pc : Nat) (ls : jv_L) (st : List Value) (h : jv_H) : Option jv_Z :=
  @dite _ (∃ z : jv_Z, ∃ n, jv_loop call M n pc ls st h = some z) (Classical.propDecidable _) (fun hz => some (Classical.choose hz)) (fun _ => none)
end
section
/-! the fixed point, the relation between the abstract heap and the real one -/
theorem jv_loop_det {call : jv_F} {M n k pc : Nat} {ls : jv_L} {st : List Value} {h : jv_H} {z y : jv_Z} (h1 : jv_loop call M n pc ls st h = some z) (h2 : jv_loop call M k pc ls st h = some y) : z = y := by
  have e1 := jv_loop_mono call M n k pc ls st h z h1
  have e2 := jv_loop_mono call M k n pc ls st h y h2
  rw [Nat.add_comm k n] at e2
  rw [e1] at e2
  exact Option.some.inj e2
theorem jv_ev_some {call : jv_F} {M pc : Nat} {ls : jv_L} {st : List Value} {h : jv_H} {z : jv_Z} : jv_ev call M pc ls st h = some z ↔ ∃ n, jv_loop call M n pc ls st h = some z := by
  unfold jv_ev
  by_cases hz : ∃ z : jv_Z, ∃ n, jv_loop call M n pc ls st h = some z
  · rw [dif_pos hz]
    obtain ⟨k, hk⟩ := Classical.choose_spec hz
    constructor
    · intro e
      exact ⟨k, by rw [hk]; exact e⟩
    · rintro ⟨n, hn⟩
      rw [jv_loop_det hk hn]
  · rw [dif_neg hz]
    constructor
    · intro e
      cases e
    · rintro ⟨n, hn⟩
      exact absurd ⟨z, n, hn⟩ hz
theorem jv_ev_none {call : jv_F} {M pc : Nat} {ls : jv_L} {st : List Value} {h : jv_H} : jv_ev call M pc ls st h = none ↔ ∀ n, jv_loop call M n pc ls st h = none := by
  constructor
  · intro e n
    cases hn : jv_loop call M n pc ls st h with
    | none => rfl
    | some z => rw [jv_ev_some.mpr ⟨n, hn⟩] at e; cases e
  · intro e
    cases hz : jv_ev call M pc ls st h with
    | none => rfl
    | some z =>
      obtain ⟨n, hn⟩ := jv_ev_some.mp hz
      rw [e n] at hn
      cases hn
theorem jv_ev_eq (call : jv_F) (M pc : Nat) (ls : jv_L) (st : List Value) (h : jv_H) : jv_ev call M pc ls st h = match jv_step call M pc ls st h with
    | none => none
    | some (.inr z) => some z
    | some (.inl (pc', ls', st', h')) => jv_ev call M pc' ls' st' h' := by
  cases hs : jv_step call M pc ls st h with
  | none =>
    refine jv_ev_none.mpr (fun n => ?_)
    cases n with
    | zero => rfl
    | succ n => unfold jv_loop; rw [hs]
  | some o =>
    cases o with
    | inr z => exact jv_ev_some.mpr ⟨1, by unfold jv_loop; rw [hs]⟩
    | inl y =>
      obtain ⟨pc', ls', st', h'⟩ := y
      show _ = jv_ev call M pc' ls' st' h'
      have key : ∀ n, jv_loop call M (n + 1) pc ls st h = jv_loop call M n pc' ls' st' h' := fun n => by
        rw [jv_loop.eq_def]
        simp only [hs]
      cases he : jv_ev call M pc' ls' st' h' with
      | none =>
        have h1 := jv_ev_none.mp he
        refine jv_ev_none.mpr (fun n => ?_)
        cases n with
        | zero => rfl
        | succ n => rw [key]; exact h1 n
      | some z =>
        obtain ⟨n, hn⟩ := jv_ev_some.mp he
        exact jv_ev_some.mpr ⟨n + 1, by rw [key]; exact hn⟩
def jv_sl (as : List Value) : jv_L := as.flatMap fun v => if v.category = 2 then [some v, none] else [some v]
def jv_ent (y : Nat) (as : List Value) : jv_L := jv_sl as ++ List.replicate (jt_maxL y - (jv_sl as).length) none
noncomputable def jv_run : Nat → jv_F
  | 0 => fun _ _ _ => none
  | d + 1 => fun y as h => if (jv_sl as).length ≤ jt_maxL y then jv_ev (jv_run d) y 0 (jv_ent y as) [] h else none
/-! the heap grows -/
def jv_scr (x : jv_C) : Bool := match x with
  | .inr (k, _, _) => decide (k = jt_scr)
  | _ => false
def jv_G (h h' : jv_H) : Prop := h.2.1 ≤ h'.2.1 ∧ h.2.2 ≤ h'.2.2 ∧ ∀ a x, h'.1 a = some x → jv_scr x = false → (∃ y, h.1 a = some y ∧ jv_scr y = false) ∨ h.2.1 ≤ a
theorem jv_G.rf {h : jv_H} : jv_G h h := ⟨Nat.le_refl _, Nat.le_refl _, fun _ x e f => Or.inl ⟨x, e, f⟩⟩
theorem jv_G.tr {h h1 h2 : jv_H} (a : jv_G h h1) (b : jv_G h1 h2) : jv_G h h2 := by
  refine ⟨Nat.le_trans a.1 b.1, Nat.le_trans a.2.1 b.2.1, fun q x e f => ?_⟩
  rcases b.2.2 q x e f with ⟨y, e1, f1⟩ | h3
  · exact a.2.2 q y e1 f1
  · exact Or.inr (Nat.le_trans a.1 h3)
theorem jv_G.up {h : jv_H} {a : Nat} {x y : jv_C} (hx : h.1 a = some x) (hs : jv_scr x = false) : jv_G h (jv_up h.1 a y, h.2) := by
  refine ⟨Nat.le_refl _, Nat.le_refl _, fun q z e f => ?_⟩
  by_cases hq : q = a
  · subst hq
    exact Or.inl ⟨x, hx, hs⟩
  · simp only [jv_up, if_neg hq] at e
    exact Or.inl ⟨z, e, f⟩
theorem jv_G.push {h : jv_H} {y : jv_C} {n : Nat} : jv_G h (jv_up h.1 h.2.1 y, h.2.1 + 1, h.2.2 + n) := by
  refine ⟨Nat.le_succ _, Nat.le_add_right _ _, fun q z e f => ?_⟩
  by_cases hq : q = h.2.1
  · exact Or.inr (Nat.le_of_eq hq.symm)
  · simp only [jv_up, if_neg hq] at e
    exact Or.inl ⟨z, e, f⟩
/-! the relation -/
def jv_K (D : va_G) (dA : Nat → ClassId) (U : State) : Prop :=
  (∀ (c : Nat) (q : vw_C), jt_cl[c]? = some q → u_Kn U q.1 q.2.1 q.2.2 (D.1 c) (D.2 c)) ∧
  (∀ (k : Nat) (ty : FieldType), ¬ k = jt_scr → jt_at[k]? = some ty → ArrOfT U (dA k) ty ∧ va_RA U (dA k) ty) ∧
  (∀ C : String, FieldType.object C ∈ jt_at → va_AO C U) ∧ ∀ q ∈ jt_mn, va_Nw (jt_wmn q) U
def jv_at (D : va_G) (dA : Nat → ClassId) (U : State) (a : Nat) (x : jv_C) (H : Heap) : Prop := match x with
  | .inl (ci, fs) => ∃ r : vw_C, jt_cl[ci]? = some r ∧ fs.length = r.2.2 ∧ t_OB a (D.1 ci) r.2.2 (D.2 ci) H (vp_V fs)
  | .inr (k, n, f) => if k = jt_scr then ∃ cell : Cell, H[a]? = some cell ∧ U.isArrayOf cell .int ∧ cell.vm ≠ .unknown ∧ cell.slots.size = n ∧ ∀ j : Nat, j < n → cell.slots[j]? = some (f j)
    else (∃ ty, jt_at[k]? = some ty) ∧ H[a]? = some (arrV (dA k) n f)
def jv_R (D : va_G) (dA : Nat → ClassId) (U : State) (h : jv_H) (H : Heap) : Prop := H.size = h.2.1 ∧ ∀ a x, h.1 a = some x → jv_at D dA U a x H
theorem jv_at.kept {D : va_G} {dA : Nat → ClassId} {U : State} {a : Nat} {x : jv_C} {H H1 : Heap} (h : jv_at D dA U a x H) (e : H1[a]? = H[a]?) : jv_at D dA U a x H1 := by
  cases x with
  | inl o =>
    obtain ⟨r, h1, h2, h3⟩ := h
    exact ⟨r, h1, h2, h3.kept e⟩
  | inr o =>
    obtain ⟨k, n, f⟩ := o
    unfold jv_at at h ⊢
    simp only at h ⊢
    split at h
    · rw [if_pos ‹_›]
      obtain ⟨cell, h1, h2⟩ := h
      exact ⟨cell, e.trans h1, h2⟩
    · rw [if_neg ‹_›]
      exact ⟨h.1, e.trans h.2⟩
theorem jv_at.lt {D : va_G} {dA : Nat → ClassId} {U : State} {a : Nat} {x : jv_C} {H : Heap} (h : jv_at D dA U a x H) : a < H.size := by
  cases x with
  | inl o =>
    obtain ⟨r, -, -, cell, h3, -⟩ := h
    exact (Array.getElem?_eq_some_iff.mp h3).1
  | inr o =>
    obtain ⟨k, n, f⟩ := o
    unfold jv_at at h
    simp only at h
    split at h
    · obtain ⟨cell, h1, h2⟩ := h
      exact (Array.getElem?_eq_some_iff.mp h1).1
    · exact (Array.getElem?_eq_some_iff.mp h.2).1
theorem jv_at.moved {D : va_G} {dA : Nat → ClassId} {U V : State} {a : Nat} {x : jv_C} {H : Heap} (hvm : U.vm.Alike V.vm) (h : jv_at D dA U a x H) : jv_at D dA V a x H := by
  cases x with
  | inl o => exact h
  | inr o =>
    obtain ⟨k, n, f⟩ := o
    unfold jv_at at h ⊢
    simp only at h ⊢
    split at h
    · rw [if_pos ‹_›]
      obtain ⟨cell, h1, h2, h3⟩ := h
      exact ⟨cell, h1, State.isArrayOf_alike hvm h2, h3⟩
    · rw [if_neg ‹_›]
      exact h
theorem jv_R.moved {D : va_G} {dA : Nat → ClassId} {U V : State} {h : jv_H} {H : Heap} (hvm : U.vm.Alike V.vm) (hR : jv_R D dA U h H) : jv_R D dA V h H := ⟨hR.1, fun a x e => (hR.2 a x e).moved hvm⟩
theorem jv_R.put {D : va_G} {dA : Nat → ClassId} {U : State} {h : jv_H} {H H1 : Heap} {a : Nat} {y : jv_C} (hR : jv_R D dA U h H) (z : H1.size = H.size) (oq : ∀ q : Nat, q ≠ a → H1[q]? = H[q]?) (hy : jv_at D dA U a y H1) : jv_R D dA U (jv_up h.1 a y, h.2) H1 := by
  refine ⟨z.trans hR.1, fun q x e => ?_⟩
  by_cases hq : q = a
  · subst hq
    simp only [jv_up, if_pos] at e
    cases e
    exact hy
  · simp only [jv_up, if_neg hq] at e
    exact (hR.2 q x e).kept (oq q hq)
theorem jv_R.push {D : va_G} {dA : Nat → ClassId} {U : State} {h : jv_H} {H H1 : Heap} {y : jv_C} {n : Nat} (hR : jv_R D dA U h H) (z : H1.size = h.2.1 + 1) (oq : ∀ q : Nat, q < h.2.1 → H1[q]? = H[q]?) (hy : jv_at D dA U h.2.1 y H1) : jv_R D dA U (jv_up h.1 h.2.1 y, h.2.1 + 1, h.2.2 + n) H1 := by
  refine ⟨z, fun q x e => ?_⟩
  by_cases hq : q = h.2.1
  · subst hq
    simp only [jv_up, if_pos] at e
    cases e
    exact hy
  · simp only [jv_up, if_neg hq] at e
    have hl : q < h.2.1 := by rw [← hR.1]; exact (hR.2 q x e).lt
    exact (hR.2 q x e).kept (oq q hl)
theorem jv_K.warm {D : va_G} {dA : Nat → ClassId} {s U : State} (hW : s.WarmedH U.vm) (h : jv_K D dA s) : jv_K D dA U := by
  obtain ⟨h1, h2, h3, h4⟩ := h
  refine ⟨fun c q e => u_Kn_moved hW.alike (h1 c q e), fun k ty e f => ⟨arrOfT_moved hW.alike (h2 k ty e f).1, (h2 k ty e f).2.moved hW.alike⟩, fun C e => (h3 C e).moved hW.alike, fun q e => va_Nw.warmM hW (h4 q e)⟩
theorem jv_K.same {D : va_G} {dA : Nat → ClassId} {s U : State} (hv : s.vm = U.vm) (h : jv_K D dA s) : jv_K D dA U := by
  obtain ⟨h1, h2, h3, h4⟩ := h
  have hA : s.vm.Alike U.vm := by rw [hv]; exact Vm.Alike.refl _
  refine ⟨fun c q e => u_Kn_moved hA (h1 c q e), fun k ty e f => ⟨arrOfT_moved hA (h2 k ty e f).1, (h2 k ty e f).2.moved hA⟩, fun C e => (h3 C e).moved hA, fun q e => va_Nw.same rfl hv (h4 q e)⟩
/-! locals -/
def jv_lp (ls : jv_L) : List (Nat × Value) := (List.range ls.length).filterMap (fun k => (ls[k]?).join.map (fun v => (k, v)))
theorem jv_lp_mem {ls : jv_L} {k : Nat} {v : Value} : (k, v) ∈ jv_lp ls ↔ ls[k]? = some (some v) := by
  unfold jv_lp
  rw [List.mem_filterMap]
  constructor
  · rintro ⟨i, hi, e⟩
    cases hj : ls[i]? with
    | none => rw [hj] at e; cases e
    | some o =>
      rw [hj] at e
      cases o with
      | none => cases e
      | some w => cases e; exact hj
  · intro e
    refine ⟨k, List.mem_range.mpr (List.getElem?_eq_some_iff.mp e).1, ?_⟩
    rw [e]
    rfl
def jv_Lr (ls : jv_L) (la : Array Slot) : Prop := lv_has la ls.length (jv_lp ls)
theorem jv_Lr.at {ls : jv_L} {la : Array Slot} (h : jv_Lr ls la) {i : Nat} {v : Value} (e : ls[i]? = some (some v)) : la[i]? = some (.val v) := h.2.2 (i, v) (jv_lp_mem.mpr e)
theorem jv_kill_len (ls : jv_L) (i : Nat) : (jv_kill ls i).length = ls.length := by
  cases i with
  | zero => rfl
  | succ j => unfold jv_kill; simp only; split <;> simp
theorem jv_st1_len (ls : jv_L) (i : Nat) (v : Value) : (jv_st1 ls i v).length = ls.length := by simp [jv_st1, jv_kill_len]
theorem jv_st2_len (ls : jv_L) (i : Nat) (v : Value) : (jv_st2 ls i v).length = ls.length := by simp [jv_st2, jv_kill_len]
theorem jv_kill_get {ls : jv_L} {i k : Nat} {w : Value} (h : (jv_kill ls i)[k]? = some (some w)) : ls[k]? = some (some w) ∧ ¬ (k + 1 = i ∧ w.category = 2) := by
  cases i with
  | zero => exact ⟨h, fun q => absurd q.1 (by omega)⟩
  | succ j =>
    unfold jv_kill at h
    simp only at h
    split at h
    · by_cases hk : k = j
      · subst hk
        rw [List.getElem?_set_self'] at h
        cases hj : ls[k]? with
        | none => rw [hj] at h; cases h
        | some o => rw [hj] at h; simp at h
      · rw [List.getElem?_set_ne (Ne.symm hk)] at h
        exact ⟨h, fun q => hk (by omega)⟩
    · rename_i hb
      refine ⟨h, fun q => hb ?_⟩
      have hk : k = j := by omega
      subst hk
      simp [jv_is2, h, q.2]
theorem jv_st1_get {ls : jv_L} {i k : Nat} {v w : Value} (h : (jv_st1 ls i v)[k]? = some (some w)) : (k = i ∧ w = v) ∨ (¬ k = i ∧ ls[k]? = some (some w) ∧ ¬ (k + 1 = i ∧ w.category = 2)) := by
  unfold jv_st1 at h
  by_cases hk : k = i
  · subst hk
    rw [List.getElem?_set_self'] at h
    cases hj : (jv_kill ls k)[k]? with
    | none => rw [hj] at h; cases h
    | some o => rw [hj] at h; simp at h; exact Or.inl ⟨rfl, h.symm⟩
  · rw [List.getElem?_set_ne (Ne.symm hk)] at h
    exact Or.inr ⟨hk, jv_kill_get h⟩
theorem jv_st2_get {ls : jv_L} {i k : Nat} {v w : Value} (h : (jv_st2 ls i v)[k]? = some (some w)) : (k = i ∧ w = v) ∨ (¬ k = i ∧ ¬ k = i + 1 ∧ ls[k]? = some (some w) ∧ ¬ (k + 1 = i ∧ w.category = 2)) := by
  unfold jv_st2 at h
  by_cases hk : k = i + 1
  · subst hk
    rw [List.getElem?_set_self'] at h
    cases hj : ((jv_kill ls i).set i (some v))[i + 1]? with
    | none => rw [hj] at h; cases h
    | some o => rw [hj] at h; simp at h
  · rw [List.getElem?_set_ne (Ne.symm hk)] at h
    rcases jv_st1_get (ls := ls) (i := i) (v := v) h with e | ⟨e1, e2, e3⟩
    · exact Or.inl e
    · exact Or.inr ⟨e1, hk, e2, e3⟩
theorem jv_Lr.st1 {ls : jv_L} {la : Array Slot} {i : Nat} {v : Value} (h : lv_has la ls.length ((i, v) :: (jv_lp ls).filter (fun q => !(q.1 == i) && !(q.1 + 1 == i && q.2.category == 2)))) : jv_Lr (jv_st1 ls i v) la := by
  refine ⟨h.1.trans (jv_st1_len ls i v).symm, h.2.1, ?_⟩
  rintro ⟨k, w⟩ hq
  rcases jv_st1_get (jv_lp_mem.mp hq) with ⟨rfl, rfl⟩ | ⟨e1, e2, e3⟩
  · exact h.2.2 _ List.mem_cons_self
  · refine h.2.2 (k, w) (List.mem_cons_of_mem _ (List.mem_filter.mpr ⟨jv_lp_mem.mpr e2, ?_⟩))
    by_cases h1 : k + 1 = i
    · have h2 : ¬ w.category = 2 := fun q => e3 ⟨h1, q⟩
      simp [e1, h2]
    · simp [e1, h1]
theorem jv_Lr.st2 {ls : jv_L} {la : Array Slot} {i : Nat} {v : Value} (h : lv_has la ls.length ((i, v) :: (jv_lp ls).filter (fun q => !(q.1 == i) && (!(q.1 == i + 1) && !(q.1 + 1 == i && q.2.category == 2))))) : jv_Lr (jv_st2 ls i v) la := by
  refine ⟨h.1.trans (jv_st2_len ls i v).symm, h.2.1, ?_⟩
  rintro ⟨k, w⟩ hq
  rcases jv_st2_get (jv_lp_mem.mp hq) with ⟨rfl, rfl⟩ | ⟨e1, e0, e2, e3⟩
  · exact h.2.2 _ List.mem_cons_self
  · refine h.2.2 (k, w) (List.mem_cons_of_mem _ (List.mem_filter.mpr ⟨jv_lp_mem.mpr e2, ?_⟩))
    by_cases h1 : k + 1 = i
    · have h2 : ¬ w.category = 2 := fun q => e3 ⟨h1, q⟩
      simp [e1, e0, h2]
    · simp [e1, e0, h1]
end
section
/-! one equation an instruction: how the abstract machine goes on -/
section JE
variable {call : jv_F} {M pc pc' : Nat} {ls : jv_L} {st : List Value} {h : jv_H}
theorem je_of {i : Instr} {n : Nat} (hd : decode (jt_code M) pc = .ok (i, n)) : jv_ev call M pc ls st h = match jv_ins call M i n pc ls st h with
    | none => none
    | some (.inr z) => some z
    | some (.inl (pc', ls', st', h')) => jv_ev call M pc' ls' st' h' := by
  rw [jv_ev_eq]
  unfold jv_step
  rw [hd]
  rfl
theorem je_next {i : Instr} {n : Nat} {ls' : jv_L} {st' : List Value} {h' : jv_H} (hd : decode (jt_code M) pc = .ok (i, n)) (hs : jv_ins call M i n pc ls st h = some (.inl (pc', ls', st', h'))) : jv_ev call M pc ls st h = jv_ev call M pc' ls' st' h' := by
  rw [je_of hd, hs]
theorem je_end {i : Instr} {n : Nat} {z : jv_Z} (hd : decode (jt_code M) pc = .ok (i, n)) (hs : jv_ins call M i n pc ls st h = some (.inr z)) : jv_ev call M pc ls st h = some z := by
  rw [je_of hd, hs]
theorem je_null (hd : decode (jt_code M) pc = .ok (.aconst_null, 1)) (hp : pc + 1 = pc') : jv_ev call M pc ls st h = jv_ev call M pc' ls (.null :: st) h := by subst hp; exact je_next hd rfl
theorem je_iconst {n : Int} {v : Int32} (hd : decode (jt_code M) pc = .ok (.iconst n, 1)) (hp : pc + 1 = pc') (hv : Int32.ofInt n = v) : jv_ev call M pc ls st h = jv_ev call M pc' ls (.int v :: st) h := by subst hp; subst hv; exact je_next hd rfl
theorem je_bipush {n : Int} {v : Int32} (hd : decode (jt_code M) pc = .ok (.bipush n, 2)) (hp : pc + 2 = pc') (hv : (Int8.ofInt n).toInt32 = v) : jv_ev call M pc ls st h = jv_ev call M pc' ls (.int v :: st) h := by subst hp; subst hv; exact je_next hd rfl
theorem je_sipush {n : Int} {v : Int32} (hd : decode (jt_code M) pc = .ok (.sipush n, 3)) (hp : pc + 3 = pc') (hv : (Int16.ofInt n).toInt32 = v) : jv_ev call M pc ls st h = jv_ev call M pc' ls (.int v :: st) h := by subst hp; subst hv; exact je_next hd rfl
theorem je_lconst {n : Fin 2} {v : Int64} (hd : decode (jt_code M) pc = .ok (.lconst n, 1)) (hp : pc + 1 = pc') (hv : Int64.ofNat (n : Nat) = v) : jv_ev call M pc ls st h = jv_ev call M pc' ls (.long v :: st) h := by subst hp; subst hv; exact je_next hd rfl
theorem je_ldc {k : Nat} {v : Int32} (hd : decode (jt_code M) pc = .ok (.ldc k, 2)) (hp : pc + 2 = pc') (hv : jt_f3 jt_ki (jt_own M) k = some v) : jv_ev call M pc ls st h = jv_ev call M pc' ls (.int v :: st) h := by subst hp; exact je_next hd (by simp only [jv_ins, hv]; rfl)
theorem je_ldc2 {k : Nat} {v : Int64} (hd : decode (jt_code M) pc = .ok (.ldc2_w k, 3)) (hp : pc + 3 = pc') (hv : jt_f3 jt_kj (jt_own M) k = some v) : jv_ev call M pc ls st h = jv_ev call M pc' ls (.long v :: st) h := by subst hp; exact je_next hd (by simp only [jv_ins, hv]; rfl)
theorem je_iload {k : Nat} {x : Int32} (hd : decode (jt_code M) pc = .ok (.iload k, 2)) (hp : pc + 2 = pc') (hl : ls[k]? = some (some (.int x))) : jv_ev call M pc ls st h = jv_ev call M pc' ls (.int x :: st) h := by subst hp; exact je_next hd (by simp only [jv_ins, jv_ldi, hl]; rfl)
theorem je_iload_n {k : Fin 4} {x : Int32} (hd : decode (jt_code M) pc = .ok (.iload_n k, 1)) (hp : pc + 1 = pc') (hl : ls[(k : Nat)]? = some (some (.int x))) : jv_ev call M pc ls st h = jv_ev call M pc' ls (.int x :: st) h := by subst hp; exact je_next hd (by simp only [jv_ins, jv_ldi, hl]; rfl)
theorem je_lload {k : Nat} {x : Int64} (hd : decode (jt_code M) pc = .ok (.lload k, 2)) (hp : pc + 2 = pc') (hl : ls[k]? = some (some (.long x))) : jv_ev call M pc ls st h = jv_ev call M pc' ls (.long x :: st) h := by subst hp; exact je_next hd (by simp only [jv_ins, jv_ldl, hl]; rfl)
theorem je_lload_n {k : Fin 4} {x : Int64} (hd : decode (jt_code M) pc = .ok (.lload_n k, 1)) (hp : pc + 1 = pc') (hl : ls[(k : Nat)]? = some (some (.long x))) : jv_ev call M pc ls st h = jv_ev call M pc' ls (.long x :: st) h := by subst hp; exact je_next hd (by simp only [jv_ins, jv_ldl, hl]; rfl)
theorem je_aload {k : Nat} {r : Option Nat} (hd : decode (jt_code M) pc = .ok (.aload k, 2)) (hp : pc + 2 = pc') (hl : ls[k]? = some (some (va_rf r))) : jv_ev call M pc ls st h = jv_ev call M pc' ls (va_rf r :: st) h := by
  subst hp
  cases r <;> exact je_next hd (by simp only [jv_ins, jv_lda, hl, va_rf]; rfl)
theorem je_aload_n {k : Fin 4} {r : Option Nat} (hd : decode (jt_code M) pc = .ok (.aload_n k, 1)) (hp : pc + 1 = pc') (hl : ls[(k : Nat)]? = some (some (va_rf r))) : jv_ev call M pc ls st h = jv_ev call M pc' ls (va_rf r :: st) h := by
  subst hp
  cases r <;> exact je_next hd (by simp only [jv_ins, jv_lda, hl, va_rf]; rfl)
theorem je_istore {k : Nat} {x : Int32} {ls' : jv_L} (hd : decode (jt_code M) pc = .ok (.istore k, 2)) (hp : pc + 2 = pc') (hk : k < ls.length) (hl : jv_st1 ls k (.int x) = ls') : jv_ev call M pc ls (.int x :: st) h = jv_ev call M pc' ls' st h := by subst hp; subst hl; exact je_next hd (by simp only [jv_ins, jv_sti, if_pos hk]; rfl)
theorem je_istore_n {k : Fin 4} {x : Int32} {ls' : jv_L} (hd : decode (jt_code M) pc = .ok (.istore_n k, 1)) (hp : pc + 1 = pc') (hk : (k : Nat) < ls.length) (hl : jv_st1 ls k (.int x) = ls') : jv_ev call M pc ls (.int x :: st) h = jv_ev call M pc' ls' st h := by subst hp; subst hl; exact je_next hd (by simp only [jv_ins, jv_sti, if_pos hk]; rfl)
theorem je_lstore {k : Nat} {x : Int64} {ls' : jv_L} (hd : decode (jt_code M) pc = .ok (.lstore k, 2)) (hp : pc + 2 = pc') (hk : k + 1 < ls.length) (hl : jv_st2 ls k (.long x) = ls') : jv_ev call M pc ls (.long x :: st) h = jv_ev call M pc' ls' st h := by subst hp; subst hl; exact je_next hd (by simp only [jv_ins, jv_stl, if_pos hk]; rfl)
theorem je_lstore_n {k : Fin 4} {x : Int64} {ls' : jv_L} (hd : decode (jt_code M) pc = .ok (.lstore_n k, 1)) (hp : pc + 1 = pc') (hk : (k : Nat) + 1 < ls.length) (hl : jv_st2 ls k (.long x) = ls') : jv_ev call M pc ls (.long x :: st) h = jv_ev call M pc' ls' st h := by subst hp; subst hl; exact je_next hd (by simp only [jv_ins, jv_stl, if_pos hk]; rfl)
theorem je_astore {k : Nat} {r : Option Nat} {ls' : jv_L} (hd : decode (jt_code M) pc = .ok (.astore k, 2)) (hp : pc + 2 = pc') (hk : k < ls.length) (hl : jv_st1 ls k (va_rf r) = ls') : jv_ev call M pc ls (va_rf r :: st) h = jv_ev call M pc' ls' st h := by
  subst hp; subst hl
  cases r <;> exact je_next hd (by simp only [jv_ins, jv_sta, if_pos hk, va_rf]; rfl)
theorem je_astore_n {k : Fin 4} {r : Option Nat} {ls' : jv_L} (hd : decode (jt_code M) pc = .ok (.astore_n k, 1)) (hp : pc + 1 = pc') (hk : (k : Nat) < ls.length) (hl : jv_st1 ls k (va_rf r) = ls') : jv_ev call M pc ls (va_rf r :: st) h = jv_ev call M pc' ls' st h := by
  subst hp; subst hl
  cases r <;> exact je_next hd (by simp only [jv_ins, jv_sta, if_pos hk, va_rf]; rfl)
theorem je_iinc {k : Nat} {n : Int} {x v : Int32} {ls' : jv_L} (hd : decode (jt_code M) pc = .ok (.iinc k n, 3)) (hp : pc + 3 = pc') (hx : ls[k]? = some (some (.int x))) (hv : x + Int32.ofInt n = v) (hl : jv_st1 ls k (.int v) = ls') : jv_ev call M pc ls st h = jv_ev call M pc' ls' st h := by
  subst hp; subst hv; subst hl
  have hk : k < ls.length := (List.getElem?_eq_some_iff.mp hx).1
  exact je_next hd (by simp only [jv_ins, hx, if_pos hk]; rfl)
theorem je_b2 {i : Instr} {f : Int32 → Int32 → Int32} {x y : Int32} (hd : decode (jt_code M) pc = .ok (i, 1)) (hp : pc + 1 = pc') (hi : ∀ st, jv_ins call M i 1 pc ls st h = jv_b2 f 1 pc ls st h) : jv_ev call M pc ls (.int y :: .int x :: st) h = jv_ev call M pc' ls (.int (f x y) :: st) h := by subst hp; exact je_next hd (by rw [hi]; rfl)
theorem je_l2 {i : Instr} {f : Int64 → Int64 → Int64} {x y : Int64} (hd : decode (jt_code M) pc = .ok (i, 1)) (hp : pc + 1 = pc') (hi : ∀ st, jv_ins call M i 1 pc ls st h = jv_l2 f 1 pc ls st h) : jv_ev call M pc ls (.long y :: .long x :: st) h = jv_ev call M pc' ls (.long (f x y) :: st) h := by subst hp; exact je_next hd (by rw [hi]; rfl)
theorem je_idiv {x y : Int32} (hd : decode (jt_code M) pc = .ok (.idiv, 1)) (hp : pc + 1 = pc') (hy : ¬ y = 0) : jv_ev call M pc ls (.int y :: .int x :: st) h = jv_ev call M pc' ls (.int (x / y) :: st) h := by subst hp; exact je_next hd (by simp only [jv_ins, if_neg hy]; rfl)
theorem je_irem {x y : Int32} (hd : decode (jt_code M) pc = .ok (.irem, 1)) (hp : pc + 1 = pc') (hy : ¬ y = 0) : jv_ev call M pc ls (.int y :: .int x :: st) h = jv_ev call M pc' ls (.int (x - x / y * y) :: st) h := by subst hp; exact je_next hd (by simp only [jv_ins, if_neg hy]; rfl)
theorem je_ldiv {x y : Int64} (hd : decode (jt_code M) pc = .ok (.ldiv, 1)) (hp : pc + 1 = pc') (hy : ¬ y = 0) : jv_ev call M pc ls (.long y :: .long x :: st) h = jv_ev call M pc' ls (.long (x / y) :: st) h := by subst hp; exact je_next hd (by simp only [jv_ins, if_neg hy]; rfl)
theorem je_lrem {x y : Int64} (hd : decode (jt_code M) pc = .ok (.lrem, 1)) (hp : pc + 1 = pc') (hy : ¬ y = 0) : jv_ev call M pc ls (.long y :: .long x :: st) h = jv_ev call M pc' ls (.long (x - x / y * y) :: st) h := by subst hp; exact je_next hd (by simp only [jv_ins, if_neg hy]; rfl)
theorem je_lneg {x : Int64} (hd : decode (jt_code M) pc = .ok (.lneg, 1)) (hp : pc + 1 = pc') : jv_ev call M pc ls (.long x :: st) h = jv_ev call M pc' ls (.long (-x) :: st) h := by subst hp; exact je_next hd rfl
theorem je_lshl {x : Int64} {y : Int32} (hd : decode (jt_code M) pc = .ok (.lshl, 1)) (hp : pc + 1 = pc') : jv_ev call M pc ls (.int y :: .long x :: st) h = jv_ev call M pc' ls (.long (x <<< (y.toInt64 &&& 63)) :: st) h := by subst hp; exact je_next hd rfl
theorem je_lshr {x : Int64} {y : Int32} (hd : decode (jt_code M) pc = .ok (.lshr, 1)) (hp : pc + 1 = pc') : jv_ev call M pc ls (.int y :: .long x :: st) h = jv_ev call M pc' ls (.long (x >>> (y.toInt64 &&& 63)) :: st) h := by subst hp; exact je_next hd rfl
theorem je_lcmp {x y : Int64} (hd : decode (jt_code M) pc = .ok (.lcmp, 1)) (hp : pc + 1 = pc') : jv_ev call M pc ls (.long y :: .long x :: st) h = jv_ev call M pc' ls (.int (lg_cmp x y) :: st) h := by subst hp; exact je_next hd rfl
theorem je_i2l {x : Int32} (hd : decode (jt_code M) pc = .ok (.i2l, 1)) (hp : pc + 1 = pc') : jv_ev call M pc ls (.int x :: st) h = jv_ev call M pc' ls (.long x.toInt64 :: st) h := by subst hp; exact je_next hd rfl
theorem je_l2i {x : Int64} (hd : decode (jt_code M) pc = .ok (.l2i, 1)) (hp : pc + 1 = pc') : jv_ev call M pc ls (.long x :: st) h = jv_ev call M pc' ls (.int x.toInt32 :: st) h := by subst hp; exact je_next hd rfl
theorem je_dup {v : Value} (hd : decode (jt_code M) pc = .ok (.dup, 1)) (hp : pc + 1 = pc') (hv : v.category = 1) : jv_ev call M pc ls (v :: st) h = jv_ev call M pc' ls (v :: v :: st) h := by subst hp; exact je_next hd (by simp only [jv_ins, if_pos hv]; rfl)
theorem je_dup2 {v w : Value} (hd : decode (jt_code M) pc = .ok (.dup2, 1)) (hp : pc + 1 = pc') (hv : v.category = 1) (hw : w.category = 1) : jv_ev call M pc ls (v :: w :: st) h = jv_ev call M pc' ls (v :: w :: v :: w :: st) h := by subst hp; exact je_next hd (by simp only [jv_ins, if_pos (And.intro hv hw)]; rfl)
theorem je_pop {v : Value} (hd : decode (jt_code M) pc = .ok (.pop, 1)) (hp : pc + 1 = pc') (hv : v.category = 1) : jv_ev call M pc ls (v :: st) h = jv_ev call M pc' ls st h := by subst hp; exact je_next hd (by simp only [jv_ins, if_pos hv]; rfl)
theorem je_pop2 {x : Int64} (hd : decode (jt_code M) pc = .ok (.pop2, 1)) (hp : pc + 1 = pc') : jv_ev call M pc ls (.long x :: st) h = jv_ev call M pc' ls st h := by subst hp; exact je_next hd rfl
theorem jv_go_eq {off : Int} {b : Bool} {t : Nat} (ht : (pc : Int) + off = (t : Int)) : jv_go pc off b ls st h = some (.inl (if b then t else pc + 3, ls, st, h)) := by
  have h1 : jv_to pc off = some t := by
    unfold jv_to
    rw [ht, if_pos (by omega)]
    rfl
  unfold jv_go
  rw [h1]
  rfl
theorem je_goto {off : Int} (hd : decode (jt_code M) pc = .ok (.goto off, 3)) (ht : (pc : Int) + off = (pc' : Int)) : jv_ev call M pc ls st h = jv_ev call M pc' ls st h := je_next hd (by
  show jv_len 3 3 (jv_go pc off true ls st h) = _
  rw [jv_go_eq ht]
  rfl)
theorem je_if {c : Prop} [Decidable c] {b : Bool} {t : Nat} (hb : b = decide c) : jv_ev call M (if b then t else pc') ls st h = if c then jv_ev call M t ls st h else jv_ev call M pc' ls st h := by
  subst hb
  by_cases hc : c <;> simp [hc]
theorem je_icmp {cd : ClassFile.Cond} {off : Int} {t : Nat} {x y : Int32} {c : Prop} [Decidable c] (hd : decode (jt_code M) pc = .ok (.if_icmp cd off, 3)) (ht : (pc : Int) + off = (t : Int)) (hp : pc + 3 = pc') (hb : jv_cmp cd x y = decide c) : jv_ev call M pc ls (.int y :: .int x :: st) h = if c then jv_ev call M t ls st h else jv_ev call M pc' ls st h := by
  subst hp
  rw [← je_if hb]
  refine je_next hd ?_
  show jv_len 3 3 (jv_go pc off (jv_cmp cd x y) ls st h) = _
  rw [jv_go_eq ht]
  rfl
theorem je_ifc {cd : ClassFile.Cond} {off : Int} {t : Nat} {x : Int32} {c : Prop} [Decidable c] (hd : decode (jt_code M) pc = .ok (.ifCond cd off, 3)) (ht : (pc : Int) + off = (t : Int)) (hp : pc + 3 = pc') (hb : jv_cmp cd x 0 = decide c) : jv_ev call M pc ls (.int x :: st) h = if c then jv_ev call M t ls st h else jv_ev call M pc' ls st h := by
  subst hp
  rw [← je_if hb]
  refine je_next hd ?_
  show jv_len 3 3 (jv_go pc off (jv_cmp cd x 0) ls st h) = _
  rw [jv_go_eq ht]
  rfl
theorem je_acmp_eq {off : Int} {t : Nat} {x y : Option Nat} (hd : decode (jt_code M) pc = .ok (.if_acmp .eq off, 3)) (ht : (pc : Int) + off = (t : Int)) (hp : pc + 3 = pc') : jv_ev call M pc ls (va_rf y :: va_rf x :: st) h = if x = y then jv_ev call M t ls st h else jv_ev call M pc' ls st h := by
  subst hp
  cases x with
  | none =>
    cases y with
    | none => rw [if_pos rfl]; exact je_next hd (by show jv_len 3 3 (jv_go pc off true ls st h) = _; rw [jv_go_eq ht]; rfl)
    | some y => rw [if_neg (by simp)]; exact je_next hd (by show jv_len 3 3 (jv_go pc off false ls st h) = _; rw [jv_go_eq ht]; rfl)
  | some x =>
    cases y with
    | none => rw [if_neg (by simp)]; exact je_next hd (by show jv_len 3 3 (jv_go pc off false ls st h) = _; rw [jv_go_eq ht]; rfl)
    | some y =>
      have h1 : jv_ev call M (if decide (x = y) = true then t else pc + 3) ls st h = if some x = some y then jv_ev call M t ls st h else jv_ev call M (pc + 3) ls st h := by
        by_cases hc : x = y <;> simp [hc]
      rw [← h1]
      exact je_next hd (by show jv_len 3 3 (jv_go pc off (decide (x = y)) ls st h) = _; rw [jv_go_eq ht]; rfl)
theorem je_acmp_ne {off : Int} {t : Nat} {x y : Option Nat} (hd : decode (jt_code M) pc = .ok (.if_acmp .ne off, 3)) (ht : (pc : Int) + off = (t : Int)) (hp : pc + 3 = pc') : jv_ev call M pc ls (va_rf y :: va_rf x :: st) h = if x = y then jv_ev call M pc' ls st h else jv_ev call M t ls st h := by
  subst hp
  cases x with
  | none =>
    cases y with
    | none => rw [if_pos rfl]; exact je_next hd (by show jv_len 3 3 (jv_go pc off false ls st h) = _; rw [jv_go_eq ht]; rfl)
    | some y => rw [if_neg (by simp)]; exact je_next hd (by show jv_len 3 3 (jv_go pc off true ls st h) = _; rw [jv_go_eq ht]; rfl)
  | some x =>
    cases y with
    | none => rw [if_neg (by simp)]; exact je_next hd (by show jv_len 3 3 (jv_go pc off true ls st h) = _; rw [jv_go_eq ht]; rfl)
    | some y =>
      have h1 : jv_ev call M (if decide (¬ x = y) = true then t else pc + 3) ls st h = if some x = some y then jv_ev call M (pc + 3) ls st h else jv_ev call M t ls st h := by
        by_cases hc : x = y <;> simp [hc]
      rw [← h1]
      exact je_next hd (by show jv_len 3 3 (jv_go pc off (decide (¬ x = y)) ls st h) = _; rw [jv_go_eq ht]; rfl)
theorem je_ifnull {off : Int} {t : Nat} {x : Option Nat} (hd : decode (jt_code M) pc = .ok (.ifnull off, 3)) (ht : (pc : Int) + off = (t : Int)) (hp : pc + 3 = pc') : jv_ev call M pc ls (va_rf x :: st) h = if x = none then jv_ev call M t ls st h else jv_ev call M pc' ls st h := by
  subst hp
  cases x with
  | none => rw [if_pos rfl]; exact je_next hd (by show jv_len 3 3 (jv_go pc off true ls st h) = _; rw [jv_go_eq ht]; rfl)
  | some y => rw [if_neg (by simp)]; exact je_next hd rfl
theorem je_ifnonnull {off : Int} {t : Nat} {x : Option Nat} (hd : decode (jt_code M) pc = .ok (.ifnonnull off, 3)) (ht : (pc : Int) + off = (t : Int)) (hp : pc + 3 = pc') : jv_ev call M pc ls (va_rf x :: st) h = if x = none then jv_ev call M pc' ls st h else jv_ev call M t ls st h := by
  subst hp
  cases x with
  | none => rw [if_pos rfl]; exact je_next hd rfl
  | some y => rw [if_neg (by simp)]; exact je_next hd (by show jv_len 3 3 (jv_go pc off true ls st h) = _; rw [jv_go_eq ht]; rfl)
theorem je_get {k ci f a : Nat} {v : Value} (hd : decode (jt_code M) pc = .ok (.getfield k, 3)) (hp : pc + 3 = pc') (hf : jt_f4 jt_fl (jt_own M) k = some (ci, f)) (hv : jv_gf h a ci f = some v) : jv_ev call M pc ls (.ref a :: st) h = jv_ev call M pc' ls (v :: st) h := by
  subst hp
  exact je_next hd (by simp only [jv_ins, hf, hv]; rfl)
theorem je_put {k ci f a : Nat} {v : Value} {h' : jv_H} (hd : decode (jt_code M) pc = .ok (.putfield k, 3)) (hp : pc + 3 = pc') (hf : jt_f4 jt_fl (jt_own M) k = some (ci, f)) (hfin : jt_ffin ci f = false ∨ (jt_kd M = 2 ∧ jt_own M = ci)) (hv : jv_pf h a ci f v = some h') : jv_ev call M pc ls (v :: .ref a :: st) h = jv_ev call M pc' ls st h' := by
  subst hp
  exact je_next hd (by simp only [jv_ins, hf, if_pos hfin, hv]; rfl)
theorem je_new {k ci : Nat} (hd : decode (jt_code M) pc = .ok (.new k, 3)) (hp : pc + 3 = pc') (hf : jt_f3 jt_nl (jt_own M) k = some ci) (hc : ci < jt_cl.length) : jv_ev call M pc ls st h = jv_ev call M pc' ls (.ref h.2.1 :: st) (jv_new h ci) := by
  subst hp
  exact je_next hd (by simp only [jv_ins, hf, if_pos hc]; rfl)
theorem je_newarray {t : ArrayType} {k n : Nat} {x : Int32} {v : Value} (hd : decode (jt_code M) pc = .ok (.newarray t, 2)) (hp : pc + 2 = pc') (hf : jt_at.idxOf? (newarray.typeOf t) = some k) (hk : ¬ k = jt_scr) (hx : ¬ x < 0) (hn : x.toNatClampNeg = n) (hl : n ≤ 100000) (hv : defaultValue (newarray.typeOf t) = v) : jv_ev call M pc ls (.int x :: st) h = jv_ev call M pc' ls (.ref h.2.1 :: st) (jv_newa h k n v) := by
  subst hp; subst hn; subst hv
  exact je_next hd (by simp only [jv_ins, hf, if_pos (And.intro hk (And.intro hx hl))]; rfl)
theorem je_anewarray {i ci k n : Nat} {x : Int32} (hd : decode (jt_code M) pc = .ok (.anewarray i, 3)) (hp : pc + 3 = pc') (hi : jt_f3 jt_nl (jt_own M) i = some ci) (hf : jt_at.idxOf? (.object (jt_cn ci)) = some k) (hk : ¬ k = jt_scr) (hx : ¬ x < 0) (hn : x.toNatClampNeg = n) (hl : n ≤ 100000) : jv_ev call M pc ls (.int x :: st) h = jv_ev call M pc' ls (.ref h.2.1 :: st) (jv_newa h k n .null) := by
  subst hp; subst hn
  exact je_next hd (by simp only [jv_ins, hi, hf, if_pos (And.intro hk (And.intro hx hl))]; rfl)
theorem je_alen {a n : Nat} (hd : decode (jt_code M) pc = .ok (.arraylength, 1)) (hp : pc + 1 = pc') (hn : jv_ln h a = some n) : jv_ev call M pc ls (.ref a :: st) h = jv_ev call M pc' ls (.int (Int32.ofNat n) :: st) h := by
  subst hp
  exact je_next hd (by simp only [jv_ins, hn]; rfl)
theorem je_iald {a : Nat} {j : Int32} {v : Value} (hd : decode (jt_code M) pc = .ok (.iaload, 1)) (hp : pc + 1 = pc') (hv : jv_al h a .int j = some v) : jv_ev call M pc ls (.int j :: .ref a :: st) h = jv_ev call M pc' ls (v :: st) h := by
  subst hp
  exact je_next hd (by simp only [jv_ins, hv]; rfl)
theorem je_lald {a : Nat} {j : Int32} {v : Value} (hd : decode (jt_code M) pc = .ok (.laload, 1)) (hp : pc + 1 = pc') (hv : jv_al h a .long j = some v) : jv_ev call M pc ls (.int j :: .ref a :: st) h = jv_ev call M pc' ls (v :: st) h := by
  subst hp
  exact je_next hd (by simp only [jv_ins, hv]; rfl)
theorem je_bald {a : Nat} {j : Int32} {v : Value} (hd : decode (jt_code M) pc = .ok (.baload, 1)) (hp : pc + 1 = pc') (hv : jv_al h a .boolean j = some v) : jv_ev call M pc ls (.int j :: .ref a :: st) h = jv_ev call M pc' ls (v :: st) h := by
  subst hp
  exact je_next hd (by simp only [jv_ins, hv]; rfl)
theorem je_aald {a : Nat} {j : Int32} {C : String} {v : Value} (hd : decode (jt_code M) pc = .ok (.aaload, 1)) (hp : pc + 1 = pc') (hk : jv_kn h a = some C) (hv : jv_al h a (.object C) j = some v) : jv_ev call M pc ls (.int j :: .ref a :: st) h = jv_ev call M pc' ls (v :: st) h := by
  subst hp
  exact je_next hd (by simp only [jv_ins, hk, hv]; rfl)
theorem je_iast {a : Nat} {j x : Int32} {h' : jv_H} (hd : decode (jt_code M) pc = .ok (.iastore, 1)) (hp : pc + 1 = pc') (hv : jv_as h a .int j (.int x) = some h') : jv_ev call M pc ls (.int x :: .int j :: .ref a :: st) h = jv_ev call M pc' ls st h' := by
  subst hp
  exact je_next hd (by simp only [jv_ins, hv]; rfl)
theorem je_last {a : Nat} {j : Int32} {x : Int64} {h' : jv_H} (hd : decode (jt_code M) pc = .ok (.lastore, 1)) (hp : pc + 1 = pc') (hv : jv_as h a .long j (.long x) = some h') : jv_ev call M pc ls (.long x :: .int j :: .ref a :: st) h = jv_ev call M pc' ls st h' := by
  subst hp
  exact je_next hd (by simp only [jv_ins, hv]; rfl)
theorem je_bast {a : Nat} {j x : Int32} {h' : jv_H} (hd : decode (jt_code M) pc = .ok (.bastore, 1)) (hp : pc + 1 = pc') (hv : jv_as h a .boolean j (narrow .boolean (.int x)) = some h') : jv_ev call M pc ls (.int x :: .int j :: .ref a :: st) h = jv_ev call M pc' ls st h' := by
  subst hp
  exact je_next hd (by simp only [jv_ins, hv]; rfl)
theorem je_aast {a : Nat} {j : Int32} {v : Value} {C : String} {h' : jv_H} (hd : decode (jt_code M) pc = .ok (.aastore, 1)) (hp : pc + 1 = pc') (hk : jv_kn h a = some C) (hA : jv_isA h C v = true) (hv : jv_as h a (.object C) j v = some h') : jv_ev call M pc ls (v :: .int j :: .ref a :: st) h = jv_ev call M pc' ls st h' := by
  subst hp
  exact je_next hd (by simp only [jv_ins, hk, if_pos hA, hv]; rfl)
theorem je_inv {y : Nat} {as rest : List Value} {r : Option Value} {h' : jv_H} (hw : jv_wide rest = true) (hc : call y as h = some (r, h')) : jv_inv call y 3 pc ls as rest h = some (.inl (pc + 3, ls, r.toList ++ rest, h')) := by
  unfold jv_inv
  rw [if_pos ⟨rfl, hw⟩, hc]
  rfl
theorem je_virt {k y b : Nat} {as rest : List Value} {r : Option Value} {h' : jv_H} (hd : decode (jt_code M) pc = .ok (.invokevirtual k, 3)) (hp : pc + 3 = pc') (hy : jt_inv (jt_own M) k = some y) (hk : jt_kd y = 0) (hn : as.length = jt_np y) (hcl : jv_cl h b = some (jt_own y)) (hw : jv_wide rest = true) (hc : call y (.ref b :: as) h = some (r, h')) : jv_ev call M pc ls (as.reverse ++ .ref b :: rest) h = jv_ev call M pc' ls (r.toList ++ rest) h' := by
  subst hp
  refine je_next hd ?_
  have h1 : (as.reverse ++ Value.ref b :: rest).drop (jt_np y) = .ref b :: rest := by rw [← hn, ← List.length_reverse, List.drop_left]
  have h2 : (as.reverse ++ Value.ref b :: rest).take (jt_np y) = as.reverse := by rw [← hn, ← List.length_reverse, List.take_left]
  simp only [jv_ins, hy, h1, h2, List.reverse_reverse]
  rw [if_pos ⟨hk, hcl, by simp [← hn]⟩]
  exact je_inv hw hc
theorem je_stat {k y : Nat} {as rest : List Value} {r : Option Value} {h' : jv_H} (hd : decode (jt_code M) pc = .ok (.invokestatic k, 3)) (hp : pc + 3 = pc') (hy : jt_inv (jt_own M) k = some y) (hk : jt_kd y = 1) (hn : as.length = jt_np y) (hw : jv_wide rest = true) (hc : call y as h = some (r, h')) : jv_ev call M pc ls (as.reverse ++ rest) h = jv_ev call M pc' ls (r.toList ++ rest) h' := by
  subst hp
  refine je_next hd ?_
  have h1 : (as.reverse ++ rest).drop (jt_np y) = rest := by rw [← hn, ← List.length_reverse, List.drop_left]
  have h2 : (as.reverse ++ rest).take (jt_np y) = as.reverse := by rw [← hn, ← List.length_reverse, List.take_left]
  simp only [jv_ins, hy, h1, h2, List.reverse_reverse]
  rw [if_pos ⟨hk, by simp [← hn]⟩]
  exact je_inv hw hc
theorem je_spec {k y b : Nat} {as rest : List Value} {r : Option Value} {h' : jv_H} (hd : decode (jt_code M) pc = .ok (.invokespecial k, 3)) (hp : pc + 3 = pc') (ho : jt_ob.contains (jt_own M, k) = false) (hy : jt_inv (jt_own M) k = some y) (hk : jt_kd y = 2) (hn : as.length = jt_np y) (hw : jv_wide rest = true) (hc : call y (.ref b :: as) h = some (r, h')) : jv_ev call M pc ls (as.reverse ++ .ref b :: rest) h = jv_ev call M pc' ls (r.toList ++ rest) h' := by
  subst hp
  refine je_next hd ?_
  have h1 : (as.reverse ++ Value.ref b :: rest).drop (jt_np y) = .ref b :: rest := by rw [← hn, ← List.length_reverse, List.drop_left]
  have h2 : (as.reverse ++ Value.ref b :: rest).take (jt_np y) = as.reverse := by rw [← hn, ← List.length_reverse, List.take_left]
  simp only [jv_ins, ho, hy, h1, h2, List.reverse_reverse, Bool.false_eq_true, if_false]
  rw [if_pos ⟨hk, by simp [← hn]⟩]
  exact je_inv hw hc
theorem je_obj {k b : Nat} {rest : List Value} (hd : decode (jt_code M) pc = .ok (.invokespecial k, 3)) (hp : pc + 3 = pc') (ho : jt_ob.contains (jt_own M, k) = true) (hw : jv_wide rest = true) : jv_ev call M pc ls (.ref b :: rest) h = jv_ev call M pc' ls rest h := by
  subst hp
  refine je_next hd ?_
  simp only [jv_ins, ho, hw, if_true]
  rfl
theorem je_iret {v : Int32} {ty : FieldType} (hd : decode (jt_code M) pc = .ok (.ireturn, 1)) (hr : jt_ret M = some ty) (hn : narrow ty (.int v) = .int v) (hf : fits ty (.int v) = true) : jv_ev call M pc ls [.int v] h = some (some (.int v), h) := je_end hd (by simp only [jv_ins, hr]; rw [if_pos ⟨trivial, hn, hf⟩])
theorem je_lret {v : Int64} (hd : decode (jt_code M) pc = .ok (.lreturn, 1)) (hr : jt_ret M = some .long) : jv_ev call M pc ls [.long v] h = some (some (.long v), h) := je_end hd (by simp only [jv_ins, hr]; rfl)
theorem je_aret {r : Option Nat} {C : String} (hd : decode (jt_code M) pc = .ok (.areturn, 1)) (hr : jt_ret M = some (.object C)) : jv_ev call M pc ls [va_rf r] h = some (some (va_rf r), h) := by
  cases r <;> exact je_end hd (by simp only [jv_ins, hr, va_rf]; rfl)
theorem je_ret (hd : decode (jt_code M) pc = .ok (.return_, 1)) (hr : jt_ret M = none) : jv_ev call M pc ls [] h = some (none, h) := je_end hd (by simp only [jv_ins, hr]; rfl)
end JE
theorem jv_run_eq {d y : Nat} {as : List Value} {h : jv_H} {ls : jv_L} (hl : (jv_sl as).length ≤ jt_maxL y) (he : jv_ent y as = ls) : jv_run (d + 1) y as h = jv_ev (jv_run d) y 0 ls [] h := by
  subst he
  exact if_pos hl
theorem jv_is2_i {x : Int32} : jv_is2 (some (some (.int x))) = false := rfl
theorem jv_is2_r {a : Nat} : jv_is2 (some (some (.ref a))) = false := rfl
theorem jv_is2_n : jv_is2 (some none) = false := rfl
theorem jv_tab {x : Int32} {lo hi : Nat} (h : ∀ k : Nat, lo ≤ k → k ≤ hi → ¬ x = nI k) (hh : hi < 2 ^ 31) : x.toInt < (lo : Int) ∨ (hi : Int) < x.toInt := by
  rcases Int.lt_or_le x.toInt lo with q | q
  · exact Or.inl q
  · rcases Int.lt_or_le hi x.toInt with r | r
    · exact Or.inr r
    · obtain ⟨j, hj, rfl⟩ := nI_of (x := x) (fun hx => by
        have h1 : x.toInt < (0 : Int32).toInt := Int32.lt_iff_toInt_lt.mp hx
        have h2 : (0 : Int32).toInt = 0 := by decide
        omega)
      rw [nI_toInt hj] at q r
      exact absurd rfl (h j (by omega) (by omega))
theorem jd_i {x : Int32} : ¬ jv_is2 (some (some (Value.int x))) = true := Bool.false_ne_true
theorem jd_r {x : Nat} : ¬ jv_is2 (some (some (Value.ref x))) = true := Bool.false_ne_true
theorem jd_f {r : Option Nat} : ¬ jv_is2 (some (some (va_rf r))) = true := by cases r <;> exact Bool.false_ne_true
theorem jd_n : ¬ jv_is2 (some none) = true := Bool.false_ne_true
end
section
/-! a checker of types over the abstract machine's code: where it says yes, a method returns in every heap whose cells have their types -/
/-- a type: ints between two bounds; longs (true) or null alone (false); references to cells of a role (true: never null) -/
abbrev jk_T : Type := (Int × Int) ⊕ (Bool ⊕ (Nat × Bool))
/-- a role: objects of a class with their fields' types; arrays of a kind, of at least so many elements of a type -/
abbrev jk_D : Type := (Nat × List jk_T) ⊕ (Nat × Nat × jk_T)
abbrev jk_R : Type := Nat → Option Nat
abbrev jk_AL : Type := List (Option (jk_T × Option Int))
abbrev jk_AS : Type := List (jk_T × Option Nat)
abbrev jk_A : Type := Nat × jk_AL × jk_AS
def jk_V (ρ : jk_R) (t : jk_T) (v : Value) : Prop := match t with
  | .inl b => ∃ x : Int32, v = .int x ∧ b.1 ≤ x.toInt ∧ x.toInt ≤ b.2
  | .inr (.inl true) => ∃ x : Int64, v = .long x
  | .inr (.inl false) => v = .null
  | .inr (.inr r) => (r.2 = false ∧ v = .null) ∨ ∃ a, v = .ref a ∧ ρ a = some r.1
def jk_Vs (ρ : jk_R) : List jk_T → List Value → Prop
  | [], [] => True
  | t :: ts, v :: vs => jk_V ρ t v ∧ jk_Vs ρ ts vs
  | _, _ => False
def jk_C (ρ : jk_R) (d : jk_D) (c : jv_C) : Prop := match d, c with
  | .inl (ci, ts), .inl (ci', fs) => ci' = ci ∧ jk_Vs ρ ts fs
  | .inr (kd, lo, t), .inr (kd', n, f) => kd' = kd ∧ lo ≤ n ∧ n ≤ 100000 ∧ ∀ i, jk_V ρ t (f i)
  | _, _ => False
def jk_Ok (RT : List jk_D) (ρ : jk_R) (h : jv_H) : Prop := ∀ a q, ρ a = some q → ∃ d c, RT[q]? = some d ∧ h.1 a = some c ∧ jk_C ρ d c
def jk_sm (p : Nat → Bool) (c c' : jv_C) : Prop := match c, c' with
  | .inl (ci, fs), .inl (ci', fs') => ci' = ci ∧ fs'.length = fs.length ∧ ∀ k, p k = true → fs'[k]? = fs[k]?
  | .inr (kd, n, f), .inr (kd', n', f') => kd' = kd ∧ n' = n ∧ (p 0 = true → f' = f)
  | _, _ => False
/-- nothing is made, nothing without a role is touched, nothing that is kept is changed -/
def jk_Fr (pr : Nat → Nat → Bool) (ρ : jk_R) (h h' : jv_H) : Prop := h'.2 = h.2 ∧ (∀ a, ρ a = none → h'.1 a = h.1 a) ∧ ∀ a q c, ρ a = some q → h.1 a = some c → ∃ c', h'.1 a = some c' ∧ jk_sm (pr q) c c'
theorem jk_sm_rf {p : Nat → Bool} (c : jv_C) : jk_sm p c c := by
  rcases c with ⟨ci, fs⟩ | ⟨kd, n, f⟩
  · exact ⟨rfl, rfl, fun _ _ => rfl⟩
  · exact ⟨rfl, rfl, fun _ => rfl⟩
theorem jk_sm_tr {p : Nat → Bool} {a b c : jv_C} (h1 : jk_sm p a b) (h2 : jk_sm p b c) : jk_sm p a c := by
  rcases a with ⟨ci, fs⟩ | ⟨kd, n, f⟩ <;> rcases b with ⟨ci', fs'⟩ | ⟨kd', n', f'⟩ <;> rcases c with ⟨ci2, fs2⟩ | ⟨kd2, n2, f2⟩ <;> simp only [jk_sm] at h1 h2 ⊢
  · exact ⟨h2.1.trans h1.1, h2.2.1.trans h1.2.1, fun k hk => (h2.2.2 k hk).trans (h1.2.2 k hk)⟩
  · exact ⟨h2.1.trans h1.1, h2.2.1.trans h1.2.1, fun hk => (h2.2.2 hk).trans (h1.2.2 hk)⟩
theorem jk_Fr_rf {pr : Nat → Nat → Bool} {ρ : jk_R} (h : jv_H) : jk_Fr pr ρ h h := ⟨rfl, fun _ _ => rfl, fun _ _ c _ hc => ⟨c, hc, jk_sm_rf c⟩⟩
theorem jk_Fr_tr {pr : Nat → Nat → Bool} {ρ : jk_R} {a b c : jv_H} (h1 : jk_Fr pr ρ a b) (h2 : jk_Fr pr ρ b c) : jk_Fr pr ρ a c := by
  refine ⟨h2.1.trans h1.1, fun q hq => (h2.2.1 q hq).trans (h1.2.1 q hq), fun q r x hq hx => ?_⟩
  obtain ⟨x1, e1, s1⟩ := h1.2.2 q r x hq hx
  obtain ⟨x2, e2, s2⟩ := h2.2.2 q r x1 hq e1
  exact ⟨x2, e2, jk_sm_tr s1 s2⟩
def jk_x (ls : jv_L) (i : Nat) : Int := match ls[i]? with
  | some (some (.int x)) => x.toInt
  | _ => 0
/-- locals that have their types; δ: how much more than at the start -/
def jk_L (ρ : jk_R) (l0 : jv_L) (al : jk_AL) (ls : jv_L) : Prop := ls.length = al.length ∧ ∀ i t δ, al[i]? = some (some (t, δ)) → ∃ v, ls[i]? = some (some v) ∧ jk_V ρ t v ∧ ∀ d, δ = some d → jk_x ls i = jk_x l0 i + d
def jk_S (ρ : jk_R) (ls : jv_L) : jk_AS → List Value → Prop
  | [], [] => True
  | a :: as, v :: vs => jk_V ρ a.1 v ∧ (∀ i, a.2 = some i → ls[i]? = some (some v)) ∧ jk_S ρ ls as vs
  | _, _ => False
def jk_Rt (ρ : jk_R) (rt : Option jk_T) (r : Option Value) : Prop := match rt, r with
  | none, none => True
  | some t, some v => jk_V ρ t v
  | _, _ => False
def jk_Gd (RT : List jk_D) (pr : Nat → Nat → Bool) (rt : Option jk_T) (ρ : jk_R) (h : jv_H) (o : Option jv_Z) : Prop := ∃ r h', o = some (r, h') ∧ jk_Ok RT ρ h' ∧ jk_Fr pr ρ h h' ∧ jk_Rt ρ rt r
abbrev jk_G : Type := Nat → Option (List jk_T × Option jk_T)
/-- a method keeps its types: called with arguments of its types, it returns, with an answer of its type, and the heap keeps its types -/
def jk_Sp (RT : List jk_D) (pr : Nat → Nat → Bool) (sg : jk_G) (call : jv_F) (y : Nat) : Prop := ∀ ats rt, sg y = some (ats, rt) → ∀ (ρ : jk_R) (h : jv_H) (as : List Value), jk_Ok RT ρ h → jk_Vs ρ ats as → jk_Gd RT pr rt ρ h (call y as h)
/-! the checker -/
def jk_top : jk_T := .inl (-2147483648, 2147483647)
def jk_lg : jk_T := .inr (.inl true)
def jk_nu : jk_T := .inr (.inl false)
def jk_rg (lo hi : Int) : jk_T := if decide (-2147483648 ≤ lo) && decide (hi ≤ 2147483647) then .inl (lo, hi) else jk_top
def jk_sub (s t : jk_T) : Bool := match s, t with
  | .inl a, .inl b => decide (b.1 ≤ a.1) && decide (a.2 ≤ b.2)
  | .inr (.inl a), .inr (.inl b) => a == b
  | .inr (.inl false), .inr (.inr b) => !b.2
  | .inr (.inr a), .inr (.inr b) => a.1 == b.1 && (a.2 || !b.2)
  | _, _ => false
def jk_subs : List jk_T → List jk_T → Bool
  | [], [] => true
  | s :: ss, t :: ts => jk_sub s t && jk_subs ss ts
  | _, _ => false
def jk_kd (t : jk_T) : Nat := match t with
  | .inl _ => 0
  | .inr (.inl true) => 1
  | _ => 2
def jk_w (t : jk_T) : Nat := match t with
  | .inr (.inl true) => 2
  | _ => 1
def jk_fit (f : FieldType) (t : jk_T) : Bool := match f, t with
  | .int, .inl _ => true
  | .boolean, .inl b => decide (0 ≤ b.1) && decide (b.2 ≤ 1)
  | .long, .inr (.inl true) => true
  | .object _, .inr (.inl false) => true
  | .object _, .inr (.inr _) => true
  | .array _, .inr (.inl false) => true
  | .array _, .inr (.inr _) => true
  | _, _ => false
def jk_ps (n k pc : Nat) (al : jk_AL) (as : jk_AS) (t : jk_T) (s : Option Nat) : Option (List jk_A) := if n == k then some [(pc + k, al, (t, s) :: as)] else none
def jk_ld (w n k pc : Nat) (al : jk_AL) (i : Nat) (as : jk_AS) : Option (List jk_A) := match al[i]? with
  | some (some (t, _)) => if jk_kd t == w then jk_ps n k pc al as t (some i) else none
  | _ => none
def jk_ns (as : jk_AS) : jk_AS := as.map fun a => (a.1, none)
def jk_is2 (o : Option (Option (jk_T × Option Int))) : Bool := match o with
  | some (some (.inr (.inl true), _)) => true
  | _ => false
def jk_kl (al : jk_AL) (i : Nat) : jk_AL := match i with
  | 0 => al
  | j + 1 => if jk_is2 al[j]? then al.set j none else al
def jk_so (w n k pc : Nat) (al : jk_AL) (i : Nat) (as : jk_AS) : Option (List jk_A) := match as with
  | (t, _) :: as => if jk_kd t == w && decide (i < al.length) && n == k then some [(pc + k, (jk_kl al i).set i (some (t, none)), jk_ns as)] else none
  | _ => none
def jk_so2 (n k pc : Nat) (al : jk_AL) (i : Nat) (as : jk_AS) : Option (List jk_A) := match as with
  | (t, _) :: as => if jk_kd t == 1 && decide (i + 1 < al.length) && n == k then some [(pc + k, ((jk_kl al i).set i (some (t, none))).set (i + 1) none, jk_ns as)] else none
  | _ => none
def jk_o2 (f : Int × Int → Int × Int → Option jk_T) (n pc : Nat) (al : jk_AL) (as : jk_AS) : Option (List jk_A) := match as with
  | (.inl y, _) :: (.inl x, _) :: as => match f x y with
    | some t => jk_ps n 1 pc al as t none
    | none => none
  | _ => none
def jk_l2 (n pc : Nat) (al : jk_AL) (as : jk_AS) : Option (List jk_A) := match as with
  | (.inr (.inl true), _) :: (.inr (.inl true), _) :: as => jk_ps n 1 pc al as jk_lg none
  | _ => none
def jk_fadd (x y : Int × Int) : Option jk_T := some (jk_rg (x.1 + y.1) (x.2 + y.2))
def jk_fsub (x y : Int × Int) : Option jk_T := some (jk_rg (x.1 - y.2) (x.2 - y.1))
def jk_fmul (x y : Int × Int) : Option jk_T := if decide (0 ≤ x.1) && decide (0 ≤ y.1) then some (jk_rg (x.1 * y.1) (x.2 * y.2)) else some jk_top
def jk_fand (x y : Int × Int) : Option jk_T := if decide (0 ≤ y.1) then some (.inl (0, y.2)) else if decide (0 ≤ x.1) then some (.inl (0, x.2)) else some jk_top
def jk_fany (_ _ : Int × Int) : Option jk_T := some jk_top
def jk_fdiv (x y : Int × Int) : Option jk_T := if y.1 == y.2 && decide (0 < y.1) && decide (0 ≤ x.1) then some (.inl (x.1 / y.1, x.2 / y.1)) else if decide (0 < y.1) then some jk_top else none
def jk_frem (_ y : Int × Int) : Option jk_T := if decide (0 < y.1) then some jk_top else none
def jk_cut (c : ClassFile.Cond) (x y : Int × Int) : Int × Int := match c with
  | .eq => (max x.1 y.1, min x.2 y.2)
  | .ne => if y.1 == y.2 then (if x.1 == y.1 then (x.1 + 1, x.2) else if x.2 == y.1 then (x.1, x.2 - 1) else x) else x
  | .lt => (x.1, min x.2 (y.2 - 1))
  | .ge => (max x.1 y.1, x.2)
  | .gt => (max x.1 (y.1 + 1), x.2)
  | .le => (x.1, min x.2 y.2)
def jk_flip (c : ClassFile.Cond) : ClassFile.Cond := match c with
  | .eq => .eq
  | .ne => .ne
  | .lt => .gt
  | .ge => .le
  | .gt => .lt
  | .le => .ge
def jk_neg (c : ClassFile.Cond) : ClassFile.Cond := match c with
  | .eq => .ne
  | .ne => .eq
  | .lt => .ge
  | .ge => .lt
  | .gt => .le
  | .le => .gt
def jk_nar (al : jk_AL) (s : Option Nat) (t : jk_T) : jk_AL := match s with
  | some i => match al[i]? with
    | some (some (_, δ)) => al.set i (some (t, δ))
    | _ => al
  | none => al
def jk_bs (c : ClassFile.Cond) (t : Nat) (al : jk_AL) (as : jk_AS) (x : Int × Int) (sx : Option Nat) (y : Int × Int) (sy : Option Nat) : List jk_A :=
  if decide ((jk_cut c x y).2 < (jk_cut c x y).1) || decide ((jk_cut (jk_flip c) y x).2 < (jk_cut (jk_flip c) y x).1) then [] else [(t, jk_nar (jk_nar al sx (.inl (jk_cut c x y))) sy (.inl (jk_cut (jk_flip c) y x)), as)]
def jk_cj (c : ClassFile.Cond) (n pc : Nat) (off : Int) (al : jk_AL) (as : jk_AS) (x : Int × Int) (sx : Option Nat) (y : Int × Int) (sy : Option Nat) : Option (List jk_A) := if n == 3 then match jv_to pc off with
    | some t => some (jk_bs c t al as x sx y sy ++ jk_bs (jk_neg c) (pc + 3) al as x sx y sy)
    | none => none
  else none
def jk_gt (pc : Nat) (off : Int) (al : jk_AL) (as : jk_AS) : List jk_A := match jv_to pc off with
  | some t => [(t, al, as)]
  | none => []
def jk_ob (RT : List jk_D) (t : jk_T) : Option (Nat × Nat × List jk_T) := match t with
  | .inr (.inr (q, true)) => match RT[q]? with
    | some (.inl (ci, ts)) => some (q, ci, ts)
    | _ => none
  | _ => none
def jk_ar (RT : List jk_D) (t : jk_T) : Option (Nat × Nat × Nat × jk_T) := match t with
  | .inr (.inr (q, true)) => match RT[q]? with
    | some (.inr (kd, lo, e)) => some (q, kd, lo, e)
    | _ => none
  | _ => none
def jk_isA (RT : List jk_D) (C : String) (t : jk_T) : Bool := match t with
  | .inr (.inl false) => true
  | .inr (.inr (q, _)) => match RT[q]? with
    | some (.inl (ci, _)) => match jt_cl[ci]? with
      | some r => decide (r.1 = C)
      | none => false
    | _ => false
  | _ => false
def jk_oA (RT : List jk_D) (ty : FieldType) (v : jk_T) : Bool := match ty with
  | .object C => jk_isA RT C v
  | _ => true
/-- an element is read: the row's element's type must be that of the instruction -/
def jk_al (RT : List jk_D) (p : FieldType → Bool) (w n pc : Nat) (al : jk_AL) (as : jk_AS) : Option (List jk_A) := match as with
  | (.inl j, _) :: (a, _) :: as => match jk_ar RT a with
    | some (_, kd, lo, e) => match jt_at[kd]? with
      | some ty => if p ty && jk_kd e == w && !(kd == jt_scr) && decide (0 ≤ j.1) && decide (j.2 < lo) then jk_ps n 1 pc al as e none else none
      | none => none
    | none => none
  | _ => none
def jk_as (RT : List jk_D) (pr : Nat → Nat → Bool) (p : FieldType → Bool) (n pc : Nat) (al : jk_AL) (as : jk_AS) : Option (List jk_A) := match as with
  | (v, _) :: (.inl j, _) :: (a, _) :: as => match jk_ar RT a with
    | some (q, kd, lo, e) => match jt_at[kd]? with
      | some ty => if p ty && jk_sub v e && jk_fit ty v && !(kd == jt_scr) && !(pr q 0) && decide (0 ≤ j.1) && decide (j.2 < lo) && jk_oA RT ty v && n == 1 then some [(pc + 1, al, as)] else none
      | none => none
    | none => none
  | _ => none
/-- a call: y's arguments, first on the bottom -/
def jk_cl (sg : jk_G) (n pc y : Nat) (al : jk_AL) (args rest : jk_AS) : Option (List jk_A) := match sg y with
  | some (ats, rt) => if n == 3 && jk_subs ((args.map fun a => a.1)) ats && decide (((rest.map fun a => jk_w a.1).sum) ≤ 8) then match rt with
      | some t => some [(pc + 3, al, (t, none) :: rest)]
      | none => some [(pc + 3, al, rest)]
    else none
  | none => none
def jk_isI (t : FieldType) : Bool := match t with | .int => true | _ => false
def jk_isJ (t : FieldType) : Bool := match t with | .long => true | _ => false
def jk_isZ (t : FieldType) : Bool := match t with | .boolean => true | _ => false
def jk_isO (t : FieldType) : Bool := match t with | .object _ => true | _ => false
def jk_ins (RT : List jk_D) (pr : Nat → Nat → Bool) (sg : jk_G) (rt : Option jk_T) (M : Nat) (i : Instr) (n pc : Nat) (al : jk_AL) (as : jk_AS) : Option (List jk_A) :=
  match i with
  | .aconst_null => jk_ps n 1 pc al as jk_nu none
  | .iconst v => jk_ps n 1 pc al as (.inl ((Int32.ofInt v).toInt, (Int32.ofInt v).toInt)) none
  | .bipush v => jk_ps n 2 pc al as (.inl ((Int8.ofInt v).toInt32.toInt, (Int8.ofInt v).toInt32.toInt)) none
  | .sipush v => jk_ps n 3 pc al as (.inl ((Int16.ofInt v).toInt32.toInt, (Int16.ofInt v).toInt32.toInt)) none
  | .lconst _ => jk_ps n 1 pc al as jk_lg none
  | .ldc k => match jt_f3 jt_ki (jt_own M) k with
    | some v => jk_ps n 2 pc al as (.inl (v.toInt, v.toInt)) none
    | none => none
  | .ldc2_w k => match jt_f3 jt_kj (jt_own M) k with
    | some _ => jk_ps n 3 pc al as jk_lg none
    | none => none
  | .iload k => jk_ld 0 n 2 pc al k as
  | .iload_n k => jk_ld 0 n 1 pc al k as
  | .lload k => jk_ld 1 n 2 pc al k as
  | .lload_n k => jk_ld 1 n 1 pc al k as
  | .aload k => jk_ld 2 n 2 pc al k as
  | .aload_n k => jk_ld 2 n 1 pc al k as
  | .istore k => jk_so 0 n 2 pc al k as
  | .istore_n k => jk_so 0 n 1 pc al k as
  | .lstore k => jk_so2 n 2 pc al k as
  | .lstore_n k => jk_so2 n 1 pc al k as
  | .astore k => jk_so 2 n 2 pc al k as
  | .astore_n k => jk_so 2 n 1 pc al k as
  | .iinc k c => match al[k]? with
    | some (some (.inl b, δ)) => if n == 3 && decide (-1000 ≤ c) && decide (c ≤ 1000) then (if decide (-2147483648 ≤ b.1 + c) && decide (b.2 + c ≤ 2147483647) then some [(pc + 3, (jk_kl al k).set k (some (.inl (b.1 + c, b.2 + c), δ.map fun d => d + c)), jk_ns as)] else some [(pc + 3, (jk_kl al k).set k (some (jk_top, none)), jk_ns as)]) else none
    | _ => none
  | .iadd => jk_o2 jk_fadd n pc al as
  | .isub => jk_o2 jk_fsub n pc al as
  | .imul => jk_o2 jk_fmul n pc al as
  | .iand => jk_o2 jk_fand n pc al as
  | .ixor => jk_o2 jk_fany n pc al as
  | .ishl => jk_o2 jk_fany n pc al as
  | .ishr => jk_o2 jk_fany n pc al as
  | .idiv => jk_o2 jk_fdiv n pc al as
  | .irem => jk_o2 jk_frem n pc al as
  | .ladd => jk_l2 n pc al as
  | .lsub => jk_l2 n pc al as
  | .lmul => jk_l2 n pc al as
  | .land => jk_l2 n pc al as
  | .lor => jk_l2 n pc al as
  | .lneg => match as with
    | (.inr (.inl true), _) :: as => jk_ps n 1 pc al as jk_lg none
    | _ => none
  | .lshl => match as with
    | (.inl _, _) :: (.inr (.inl true), _) :: as => jk_ps n 1 pc al as jk_lg none
    | _ => none
  | .lshr => match as with
    | (.inl _, _) :: (.inr (.inl true), _) :: as => jk_ps n 1 pc al as jk_lg none
    | _ => none
  | .lcmp => match as with
    | (.inr (.inl true), _) :: (.inr (.inl true), _) :: as => jk_ps n 1 pc al as jk_top none
    | _ => none
  | .i2l => match as with
    | (.inl _, _) :: as => jk_ps n 1 pc al as jk_lg none
    | _ => none
  | .l2i => match as with
    | (.inr (.inl true), _) :: as => jk_ps n 1 pc al as jk_top none
    | _ => none
  | .dup => match as with
    | (t, s) :: as => if jk_w t == 1 then jk_ps n 1 pc al ((t, s) :: as) t s else none
    | _ => none
  | .dup2 => match as with
    | (t, s) :: (u, r) :: as => if jk_w t == 1 && jk_w u == 1 && n == 1 then some [(pc + 1, al, (t, s) :: (u, r) :: (t, s) :: (u, r) :: as)] else none
    | _ => none
  | .pop => match as with
    | (t, _) :: as => if jk_w t == 1 && n == 1 then some [(pc + 1, al, as)] else none
    | _ => none
  | .goto off => match jv_to pc off with
    | some t => if n == 3 then some [(t, al, as)] else none
    | none => none
  | .if_icmp c off => match as with
    | (.inl y, sy) :: (.inl x, sx) :: as => jk_cj c n pc off al as x sx y sy
    | _ => none
  | .ifCond c off => match as with
    | (.inl x, sx) :: as => jk_cj c n pc off al as x sx (0, 0) none
    | _ => none
  | .if_acmp _ off => match as with
    | (y, _) :: (x, _) :: as => if jk_kd y == 2 && jk_kd x == 2 && n == 3 then match jv_to pc off with
        | some t => some [(t, al, as), (pc + 3, al, as)]
        | none => none
      else none
    | _ => none
  | .ifnull off => match as with
    | (.inr (.inl false), _) :: as => match jv_to pc off with
      | some t => if n == 3 then some [(t, al, as)] else none
      | none => none
    | (.inr (.inr (q, nn)), s) :: as => match jv_to pc off with
      | some t => if n == 3 then some ((if nn then [] else [(t, al, as)]) ++ [(pc + 3, jk_nar al s (.inr (.inr (q, true))), as)]) else none
      | none => none
    | _ => none
  | .ifnonnull off => match as with
    | (.inr (.inl false), _) :: as => if n == 3 then some [(pc + 3, al, as)] else none
    | (.inr (.inr (q, nn)), s) :: as => match jv_to pc off with
      | some t => if n == 3 then some ((if nn then [] else [(pc + 3, al, as)]) ++ [(t, jk_nar al s (.inr (.inr (q, true))), as)]) else none
      | none => none
    | _ => none
  | .tableswitch dflt lo hi offs => match as with
    | (.inl x, _) :: as => if decide ((offs.size : Int) = hi - lo + 1) && (jv_to pc dflt).isSome && offs.toList.all (fun off => (jv_to pc off).isSome) then some ((if decide (x.1 < lo) || decide (hi < x.2) then jk_gt pc dflt al as else []) ++ offs.toList.zipIdx.flatMap fun q => if decide (x.1 ≤ lo + q.2) && decide (lo + q.2 ≤ x.2) then jk_gt pc q.1 al as else []) else none
    | _ => none
  | .lookupswitch dflt ps => match as with
    | (.inl x, _) :: as => if (ps.toList.zip (ps.toList.drop 1)).all (fun (a, next) => a.1 < next.1) && (jv_to pc dflt).isSome && ps.toList.all (fun q => (jv_to pc q.2).isSome) then some (jk_gt pc dflt al as ++ ps.toList.flatMap fun q => if decide (x.1 ≤ q.1) && decide (q.1 ≤ x.2) then jk_gt pc q.2 al as else []) else none
    | _ => none
  | .getfield k => match as with
    | (a, _) :: as => match jk_ob RT a, jt_f4 jt_fl (jt_own M) k with
      | some (_, ci, ts), some (ci', f) => match ts[f]? with
        | some t => if ci == ci' then jk_ps n 3 pc al as t none else none
        | none => none
      | _, _ => none
    | _ => none
  | .putfield k => match as with
    | (v, _) :: (a, _) :: as => match jk_ob RT a, jt_f4 jt_fl (jt_own M) k with
      | some (q, ci, ts), some (ci', f) => match ts[f]? with
        | some t => if ci == ci' && jk_sub v t && jk_fit (jt_fty ci f) v && !(pr q f) && !(jt_ffin ci f) && n == 3 then some [(pc + 3, al, as)] else none
        | none => none
      | _, _ => none
    | _ => none
  | .arraylength => match as with
    | (a, _) :: as => match jk_ar RT a with
      | some (_, _, lo, _) => jk_ps n 1 pc al as (.inl ((lo : Int), 100000)) none
      | none => none
    | _ => none
  | .iaload => jk_al RT jk_isI 0 n pc al as
  | .laload => jk_al RT jk_isJ 1 n pc al as
  | .baload => jk_al RT jk_isZ 0 n pc al as
  | .aaload => jk_al RT jk_isO 2 n pc al as
  | .iastore => jk_as RT pr jk_isI n pc al as
  | .lastore => jk_as RT pr jk_isJ n pc al as
  | .bastore => jk_as RT pr jk_isZ n pc al as
  | .aastore => jk_as RT pr jk_isO n pc al as
  | .invokevirtual k => match jt_inv (jt_own M) k with
    | some y => match as.drop (jt_np y) with
      | (b, s) :: rest => match jk_ob RT b with
        | some (_, ci, _) => if jt_kd y == 0 && ci == jt_own y then jk_cl sg n pc y al ((b, s) :: (as.take (jt_np y)).reverse) rest else none
        | none => none
      | _ => none
    | none => none
  | .invokestatic k => match jt_inv (jt_own M) k with
    | some y => if jt_kd y == 1 && decide (jt_np y ≤ as.length) then jk_cl sg n pc y al (as.take (jt_np y)).reverse (as.drop (jt_np y)) else none
    | none => none
  | .ireturn => match as, jt_ret M, rt with
    | [(v, _)], some ty, some t => if n == 1 && jk_kd v == 0 && jk_sub v t && jk_fit ty v then some [] else none
    | _, _, _ => none
  | .lreturn => match as, jt_ret M, rt with
    | [(v, _)], some ty, some t => if n == 1 && jk_kd v == 1 && jk_sub v t && jk_isJ ty then some [] else none
    | _, _, _ => none
  | .areturn => match as, jt_ret M, rt with
    | [(v, _)], some ty, some t => if n == 1 && jk_kd v == 2 && jk_sub v t && jk_isO ty then some [] else none
    | _, _, _ => none
  | .return_ => match as, jt_ret M, rt with
    | [], none, none => if n == 1 then some [] else none
    | _, _, _ => none
  | _ => none
/-! where a way comes back to: a place, its locals' types, and a number that falls (c less a sum of locals) -/
abbrev jk_N : Type := Nat × List (Option jk_T) × Int × List (Nat × Int)
def jk_0 (ts : List (Option jk_T)) : jk_AL := ts.map fun o => o.map fun t => (t, some 0)
def jk_sL : jk_AL → List (Option jk_T) → Bool
  | [], [] => true
  | _ :: al, none :: ts => jk_sL al ts
  | some (s, _) :: al, some t :: ts => jk_sub s t && jk_sL al ts
  | _, _ => false
def jk_tm (ts : List (Option jk_T)) (al : jk_AL) (k : Nat) (a a' : Int) : Option Int :=
  if a == 0 && a' == 0 then some 0 else
  match al[k]? with
  | some (some (.inl b', some d)) => if a == a' then some (a * d) else match ts[k]? with
    | some (some (.inl b)) => if decide (0 ≤ a) && decide (0 ≤ a') then some (a' * b'.1 - a * b.2) else none
    | _ => if a == 0 && decide (0 ≤ a') then some (a' * b'.1) else none
  | some (some (.inl b', none)) => match ts[k]? with
    | some (some (.inl b)) => if decide (0 ≤ a) && decide (0 ≤ a') then some (a' * b'.1 - a * b.2) else none
    | _ => if a == 0 && decide (0 ≤ a') then some (a' * b'.1) else none
  | _ => match ts[k]? with
    | some (some (.inl b)) => if a' == 0 && decide (0 ≤ a) then some (- a * b.2) else none
    | _ => none
def jk_lw (ts : List (Option jk_T)) (al : jk_AL) : List (Nat × Int) → List (Nat × Int) → Option Int
  | [], [] => some 0
  | (k, a) :: s, (k', a') :: t => if k == k' then match jk_tm ts al k a a', jk_lw ts al s t with
      | some x, some y => some (x + y)
      | _, _ => none
    else none
  | _, _ => none
/-- the number falls -/
def jk_fall (e : jk_N) (al : jk_AL) (e' : jk_N) : Bool := match jk_lw e.2.1 al e.2.2.2 e'.2.2.2 with
  | some x => decide (1 ≤ e.2.2.1 - e'.2.2.1 + x)
  | none => false
/-- the number is not below 0 -/
def jk_pos (e : jk_N) : Bool := match jk_lw e.2.1 [] e.2.2.2 (e.2.2.2.map fun q => (q.1, 0)) with
  | some x => decide (0 ≤ e.2.2.1 + x)
  | none => false
def jk_go (RT : List jk_D) (pr : Nat → Nat → Bool) (sg : jk_G) (rt : Option jk_T) (M : Nat) (an : List jk_N) (e : jk_N) : Nat → jk_A → Bool
  | 0, _ => false
  | f + 1, (pc, al, as) => match decode (jt_code M) pc with
    | .ok (i, n) => match jk_ins RT pr sg rt M i n pc al as with
      | some su => su.all fun s => match an.find? (fun e' => e'.1 == s.1) with
        | some e' => s.2.2.isEmpty && jk_sL s.2.1 e'.2.1 && jk_fall e s.2.1 e'
        | none => jk_go RT pr sg rt M an e f s
      | none => false
    | .error _ => false
end
section
/-! the checker's words hold: values, locals, stacks, heaps -/
section JK
variable {RT : List jk_D} {pr : Nat → Nat → Bool} {ρ : jk_R} {l0 ls ls' : jv_L} {al : jk_AL} {as : jk_AS} {st : List Value} {h : jv_H} {v : Value}
theorem jk_len {n k : Nat} {α : Type} {x : Option α} (hn : n = k) : jv_len n k x = x := if_pos hn
theorem jk_V_sub {s t : jk_T} (hs : jk_sub s t = true) (hv : jk_V ρ s v) : jk_V ρ t v := by
  rcases s with a | a | a <;> rcases t with b | b | b
  · simp only [jk_sub, Bool.and_eq_true, decide_eq_true_eq] at hs
    obtain ⟨x, rfl, h1, h2⟩ := hv
    exact ⟨x, rfl, by omega, by omega⟩
  · simp [jk_sub] at hs
  · simp [jk_sub] at hs
  · simp [jk_sub] at hs
  · simp only [jk_sub, beq_iff_eq] at hs
    subst hs
    exact hv
  · cases a
    · simp only [jk_sub, Bool.not_eq_true'] at hs
      exact Or.inl ⟨hs, hv⟩
    · simp [jk_sub] at hs
  · simp [jk_sub] at hs
  · simp [jk_sub] at hs
  · simp only [jk_sub, Bool.and_eq_true, beq_iff_eq, Bool.or_eq_true, Bool.not_eq_true'] at hs
    rcases hv with ⟨e, rfl⟩ | ⟨q, rfl, hq⟩
    · rcases hs.2 with q | q
      · rw [e] at q; cases q
      · exact Or.inl ⟨q, rfl⟩
    · exact Or.inr ⟨q, rfl, by rw [← hs.1]; exact hq⟩
theorem jk_Vs_sub : ∀ {ss ts : List jk_T} {vs : List Value}, jk_subs ss ts = true → jk_Vs ρ ss vs → jk_Vs ρ ts vs
  | [], [], [], _, _ => True.intro
  | [], [], _ :: _, _, hv => hv.elim
  | [], _ :: _, _, hs, _ => by simp [jk_subs] at hs
  | _ :: _, [], _, hs, _ => by simp [jk_subs] at hs
  | _ :: _, _ :: _, [], _, hv => hv.elim
  | s :: ss, t :: ts, v :: vs, hs, hv => by
    simp only [jk_subs, Bool.and_eq_true] at hs
    exact ⟨jk_V_sub hs.1 hv.1, jk_Vs_sub hs.2 hv.2⟩
theorem jk_Vs_len : ∀ {ts : List jk_T} {vs : List Value}, jk_Vs ρ ts vs → vs.length = ts.length
  | [], [], _ => rfl
  | [], _ :: _, hv => hv.elim
  | _ :: _, [], hv => hv.elim
  | t :: ts, v :: vs, hv => by simp [jk_Vs_len hv.2]
theorem jk_Vs_get : ∀ {ts : List jk_T} {vs : List Value} {k : Nat} {t : jk_T}, jk_Vs ρ ts vs → ts[k]? = some t → ∃ v, vs[k]? = some v ∧ jk_V ρ t v
  | [], _, _, _, _, e => by simp at e
  | _ :: _, [], _, _, hv, _ => hv.elim
  | t :: ts, v :: vs, 0, t', hv, e => by
    simp only [List.getElem?_cons_zero, Option.some.injEq] at e
    subst e
    exact ⟨v, rfl, hv.1⟩
  | t :: ts, v :: vs, k + 1, t', hv, e => by
    simp only [List.getElem?_cons_succ] at e ⊢
    exact jk_Vs_get hv.2 e
theorem jk_Vs_set : ∀ {ts : List jk_T} {vs : List Value} {k : Nat} {t : jk_T}, jk_Vs ρ ts vs → ts[k]? = some t → jk_V ρ t v → jk_Vs ρ ts (vs.set k v)
  | [], _, _, _, _, e, _ => by simp at e
  | _ :: _, [], _, _, hv, _, _ => hv.elim
  | t :: ts, v :: vs, 0, t', hv, e, hn => by
    simp only [List.getElem?_cons_zero, Option.some.injEq] at e
    subst e
    exact ⟨hn, hv.2⟩
  | t :: ts, v :: vs, k + 1, t', hv, e, hn => by
    simp only [List.getElem?_cons_succ] at e
    exact ⟨hv.1, jk_Vs_set hv.2 e hn⟩
theorem jk_Vs_app : ∀ {ts us : List jk_T} {vs ws : List Value}, jk_Vs ρ ts vs → jk_Vs ρ us ws → jk_Vs ρ (ts ++ us) (vs ++ ws)
  | [], _, [], _, _, hw => hw
  | [], _, _ :: _, _, hv, _ => hv.elim
  | _ :: _, _, [], _, hv, _ => hv.elim
  | t :: ts, us, v :: vs, ws, hv, hw => ⟨hv.1, jk_Vs_app hv.2 hw⟩
theorem jk_Vs_rev : ∀ {ts : List jk_T} {vs : List Value}, jk_Vs ρ ts vs → jk_Vs ρ ts.reverse vs.reverse
  | [], [], _ => True.intro
  | [], _ :: _, hv => hv.elim
  | _ :: _, [], hv => hv.elim
  | t :: ts, v :: vs, hv => by
    rw [List.reverse_cons, List.reverse_cons]
    exact jk_Vs_app (jk_Vs_rev hv.2) ⟨hv.1, True.intro⟩
theorem jk_V_w {t : jk_T} (hv : jk_V ρ t v) : v.category = jk_w t := by
  rcases t with a | a | a
  · obtain ⟨x, rfl, _⟩ := hv; rfl
  · cases a
    · have e : v = .null := hv
      subst e; rfl
    · obtain ⟨x, rfl⟩ := hv; rfl
  · rcases hv with ⟨_, rfl⟩ | ⟨q, rfl, _⟩ <;> rfl
theorem jk_V_top {x : Int32} : jk_V ρ jk_top (.int x) := ⟨x, rfl, by have := x.le_toInt; show (-2147483648 : Int) ≤ _; omega, by have := x.toInt_lt; show _ ≤ (2147483647 : Int); omega⟩
theorem jk_V_rg {x : Int32} {lo hi : Int} (h1 : lo ≤ x.toInt) (h2 : x.toInt ≤ hi) : jk_V ρ (jk_rg lo hi) (.int x) := by
  unfold jk_rg
  split
  · exact ⟨x, rfl, h1, h2⟩
  · exact jk_V_top
theorem jk_V_ps {x : Int32} {i : Int} (hi : x.toInt = i) : jk_V ρ (.inl (i, i)) (.int x) := ⟨x, rfl, Int.le_of_eq hi.symm, Int.le_of_eq hi⟩
theorem jk_x_c {i : Nat} (e : ls'[i]? = ls[i]?) : jk_x ls' i = jk_x ls i := by unfold jk_x; rw [e]
theorem jk_L_ne (hL : jk_L ρ l0 al ls) {i j : Nat} (hij : ¬ j = i) {o : Option (jk_T × Option Int)} {w : Option Value} {t : jk_T} {δ : Option Int} (e : (al.set j o)[i]? = some (some (t, δ))) : ∃ v, (ls.set j w)[i]? = some (some v) ∧ jk_V ρ t v ∧ ∀ d, δ = some d → jk_x (ls.set j w) i = jk_x l0 i + d := by
  rw [List.getElem?_set_ne hij] at e
  obtain ⟨v, e1, hv, hd⟩ := hL.2 i t δ e
  have e2 : (ls.set j w)[i]? = ls[i]? := List.getElem?_set_ne hij
  exact ⟨v, e2.trans e1, hv, fun d q => (jk_x_c e2).trans (hd d q)⟩
theorem jk_no {j : Nat} {t : jk_T} {δ : Option Int} (e : (al.set j none)[j]? = some (some (t, δ))) : False := by
  rw [List.getElem?_set] at e
  simp only [if_true] at e
  split at e <;> cases e
theorem jk_setn (hL : jk_L ρ l0 al ls) (j : Nat) : jk_L ρ l0 (al.set j none) (ls.set j none) := by
  refine ⟨by simp [hL.1], fun i t δ e => ?_⟩
  by_cases hij : j = i
  · subst hij; exact (jk_no e).elim
  · exact jk_L_ne hL hij e
theorem jk_setm (hL : jk_L ρ l0 al ls) (j : Nat) : jk_L ρ l0 (al.set j none) ls := by
  refine ⟨by simp [hL.1], fun i t δ e => ?_⟩
  by_cases hij : j = i
  · subst hij; exact (jk_no e).elim
  · rw [List.getElem?_set_ne hij] at e
    exact hL.2 i t δ e
theorem jk_set (hL : jk_L ρ l0 al ls) {j : Nat} {t : jk_T} {δ : Option Int} (hj : j < al.length) (hv : jk_V ρ t v) (hd : ∀ d, δ = some d → ∃ x : Int32, v = .int x ∧ x.toInt = jk_x l0 j + d) : jk_L ρ l0 (al.set j (some (t, δ))) (ls.set j (some v)) := by
  refine ⟨by simp [hL.1], fun i t' δ' e => ?_⟩
  by_cases hij : j = i
  · subst hij
    have hj2 : j < ls.length := by rw [hL.1]; exact hj
    rw [List.getElem?_set_self hj] at e
    cases e
    have e2 : (ls.set j (some v))[j]? = some (some v) := List.getElem?_set_self hj2
    refine ⟨v, e2, hv, fun d q => ?_⟩
    obtain ⟨x, rfl, hx⟩ := hd d q
    have e3 : jk_x (ls.set j (some (.int x))) j = x.toInt := by unfold jk_x; rw [e2]
    exact e3.trans hx
  · exact jk_L_ne hL hij e
theorem jk_kl_ok (hL : jk_L ρ l0 al ls) (i : Nat) : jk_L ρ l0 (jk_kl al i) (jv_kill ls i) := by
  cases i with
  | zero => exact hL
  | succ j =>
    show jk_L ρ l0 (if jk_is2 al[j]? = true then al.set j none else al) (if jv_is2 ls[j]? = true then ls.set j none else ls)
    by_cases ha : jk_is2 al[j]? = true
    · rw [if_pos ha]
      by_cases hb : jv_is2 ls[j]? = true
      · rw [if_pos hb]; exact jk_setn hL j
      · rw [if_neg hb]; exact jk_setm hL j
    · rw [if_neg ha]
      by_cases hb : jv_is2 ls[j]? = true
      · rw [if_pos hb]
        refine ⟨by simp [hL.1], fun i t δ e => ?_⟩
        by_cases hij : j = i
        · subst hij
          exfalso
          obtain ⟨v, e1, hv, _⟩ := hL.2 j t δ e
          rw [e1] at hb
          have hc : v.category = 2 := by simpa [jv_is2] using hb
          rw [jk_V_w hv] at hc
          apply ha
          rw [e]
          rcases t with a | a | a
          · cases hc
          · cases a
            · cases hc
            · rfl
          · cases hc
        · have e' : (al.set j none)[i]? = some (some (t, δ)) := by rw [List.getElem?_set_ne hij]; exact e
          exact jk_L_ne hL hij e'
      · rw [if_neg hb]; exact hL
theorem jk_kl_len (i : Nat) : (jk_kl al i).length = al.length := by
  unfold jk_kl
  split
  · rfl
  · split <;> simp
theorem jk_S_ns : ∀ {as : jk_AS} {st : List Value}, jk_S ρ ls as st → jk_S ρ ls' (jk_ns as) st
  | [], [], _ => True.intro
  | [], _ :: _, hS => hS.elim
  | _ :: _, [], hS => hS.elim
  | a :: as, v :: vs, hS => ⟨hS.1, fun i e => (by cases e), jk_S_ns hS.2.2⟩
theorem jk_S_drop : ∀ {k : Nat} {as : jk_AS} {st : List Value}, jk_S ρ ls as st → jk_S ρ ls (as.drop k) (st.drop k)
  | 0, _, _, hS => hS
  | _ + 1, [], [], _ => True.intro
  | _ + 1, [], _ :: _, hS => hS.elim
  | _ + 1, _ :: _, [], hS => hS.elim
  | k + 1, _ :: _, _ :: _, hS => jk_S_drop (k := k) hS.2.2
theorem jk_S_take : ∀ {k : Nat} {as : jk_AS} {st : List Value}, jk_S ρ ls as st → jk_Vs ρ ((as.take k).map fun a => a.1) (st.take k)
  | 0, _, _, _ => by simp only [List.take_zero, List.map_nil]; exact True.intro
  | _ + 1, [], [], _ => True.intro
  | _ + 1, [], _ :: _, hS => hS.elim
  | _ + 1, _ :: _, [], hS => hS.elim
  | k + 1, _ :: _, _ :: _, hS => ⟨hS.1, jk_S_take (k := k) hS.2.2⟩
theorem jk_S_len : ∀ {as : jk_AS} {st : List Value}, jk_S ρ ls as st → st.length = as.length
  | [], [], _ => rfl
  | [], _ :: _, hS => hS.elim
  | _ :: _, [], hS => hS.elim
  | _ :: _, _ :: _, hS => by simp [jk_S_len hS.2.2]
theorem jk_S_w : ∀ {as : jk_AS} {st : List Value}, jk_S ρ ls as st → (st.map fun v => v.category) = as.map fun a => jk_w a.1
  | [], [], _ => rfl
  | [], _ :: _, hS => hS.elim
  | _ :: _, [], hS => hS.elim
  | _ :: _, _ :: _, hS => by simp [jk_V_w hS.1, jk_S_w hS.2.2]
theorem jk_S_nil {st : List Value} (hS : jk_S ρ ls [] st) : st = [] := by
  cases st with
  | nil => rfl
  | cons v vs => exact hS.elim
theorem jk_S_cons {a : jk_T × Option Nat} {as : jk_AS} {st : List Value} (hS : jk_S ρ ls (a :: as) st) : ∃ v vs, st = v :: vs ∧ jk_V ρ a.1 v ∧ (∀ i, a.2 = some i → ls[i]? = some (some v)) ∧ jk_S ρ ls as vs := by
  cases st with
  | nil => exact hS.elim
  | cons v vs => exact ⟨v, vs, rfl, hS.1, hS.2.1, hS.2.2⟩
theorem jk_nar_ok {s : Option Nat} {t : jk_T} (hL : jk_L ρ l0 al ls) (hs : ∀ i, s = some i → ls[i]? = some (some v)) (hv : jk_V ρ t v) : jk_L ρ l0 (jk_nar al s t) ls := by
  unfold jk_nar
  cases s with
  | none => exact hL
  | some i =>
    simp only
    split
    · rename_i t' δ e
      refine ⟨by simp [hL.1], fun k t2 δ2 e2 => ?_⟩
      by_cases hik : i = k
      · subst hik
        rw [List.getElem?_set_self (List.getElem?_eq_some_iff.mp e).1] at e2
        cases e2
        obtain ⟨v', e1, _, hd⟩ := hL.2 i t' δ e
        exact ⟨v, hs i rfl, hv, hd⟩
      · rw [List.getElem?_set_ne hik] at e2
        exact hL.2 k t2 δ2 e2
    · exact hL
theorem jk_cut_ok {c : ClassFile.Cond} {x y : Int32} {X Y : Int × Int} (hx : X.1 ≤ x.toInt ∧ x.toInt ≤ X.2) (hy : Y.1 ≤ y.toInt ∧ y.toInt ≤ Y.2) (hc : jv_cmp c x y = true) : (jk_cut c X Y).1 ≤ x.toInt ∧ x.toInt ≤ (jk_cut c X Y).2 := by
  cases c
  · have e : x = y := of_decide_eq_true hc
    subst e
    simp only [jk_cut]
    omega
  · have e : ¬ x = y := of_decide_eq_true hc
    have e2 : ¬ x.toInt = y.toInt := fun q => e (Int32.toInt_inj.mp q)
    simp only [jk_cut, beq_iff_eq]
    split
    · split
      · simp only; omega
      · split
        · simp only; omega
        · exact hx
    · exact hx
  · have e := Int32.lt_iff_toInt_lt.mp (of_decide_eq_true hc : x < y)
    simp only [jk_cut]
    omega
  · have e := Int32.le_iff_toInt_le.mp (of_decide_eq_true hc : y ≤ x)
    simp only [jk_cut]
    omega
  · have e := Int32.lt_iff_toInt_lt.mp (of_decide_eq_true hc : y < x)
    simp only [jk_cut]
    omega
  · have e := Int32.le_iff_toInt_le.mp (of_decide_eq_true hc : x ≤ y)
    simp only [jk_cut]
    omega
theorem jk_flip_ok {c : ClassFile.Cond} {x y : Int32} (hc : jv_cmp c x y = true) : jv_cmp (jk_flip c) y x = true := by
  cases c
  · exact decide_eq_true (of_decide_eq_true hc : x = y).symm
  · exact decide_eq_true (fun q => (of_decide_eq_true hc : ¬ x = y) q.symm)
  · exact hc
  · exact hc
  · exact hc
  · exact hc
theorem jk_neg_ok {c : ClassFile.Cond} {x y : Int32} (hc : ¬ jv_cmp c x y = true) : jv_cmp (jk_neg c) x y = true := by
  cases c
  · exact decide_eq_true (fun q => hc (decide_eq_true q))
  · exact decide_eq_true (Decidable.byContradiction fun q => hc (decide_eq_true q))
  · exact decide_eq_true (Int32.not_lt.mp fun q => hc (decide_eq_true q))
  · exact decide_eq_true (Int32.not_le.mp fun q => hc (decide_eq_true q))
  · exact decide_eq_true (Int32.not_lt.mp fun q => hc (decide_eq_true q))
  · exact decide_eq_true (Int32.not_le.mp fun q => hc (decide_eq_true q))
theorem jk_bs_ok {c : ClassFile.Cond} {t : Nat} {x y : Int32} {X Y : Int × Int} {sx sy : Option Nat} (hx : X.1 ≤ x.toInt ∧ x.toInt ≤ X.2) (hy : Y.1 ≤ y.toInt ∧ y.toInt ≤ Y.2) (hsx : ∀ i, sx = some i → ls[i]? = some (some (.int x))) (hsy : ∀ i, sy = some i → ls[i]? = some (some (.int y))) (hc : jv_cmp c x y = true) (hL : jk_L ρ l0 al ls) : ∃ al', (t, al', as) ∈ jk_bs c t al as X sx Y sy ∧ jk_L ρ l0 al' ls := by
  have h1 := jk_cut_ok hx hy hc
  have h2 := jk_cut_ok hy hx (jk_flip_ok hc)
  unfold jk_bs
  rw [if_neg (by simp only [Bool.or_eq_true, decide_eq_true_eq]; omega)]
  exact ⟨_, List.mem_singleton.mpr rfl, jk_nar_ok (jk_nar_ok hL hsx ⟨x, rfl, h1.1, h1.2⟩) hsy ⟨y, rfl, h2.1, h2.2⟩⟩
theorem jk_ob_ok {t : jk_T} {q ci : Nat} {ts : List jk_T} (e : jk_ob RT t = some (q, ci, ts)) (hv : jk_V ρ t v) (hO : jk_Ok RT ρ h) : ∃ a fs, v = .ref a ∧ ρ a = some q ∧ RT[q]? = some (.inl (ci, ts)) ∧ h.1 a = some (.inl (ci, fs)) ∧ jk_Vs ρ ts fs := by
  unfold jk_ob at e
  split at e
  · rename_i q'
    split at e
    · rename_i ci' ts' hr
      cases e
      rcases hv with ⟨e1, _⟩ | ⟨a, rfl, ha⟩
      · cases e1
      · obtain ⟨d, c, h1, h2, h3⟩ := hO a q ha
        rw [hr] at h1
        cases h1
        rcases c with ⟨ci2, fs⟩ | ⟨kd, n, f⟩
        · obtain ⟨rfl, h5⟩ := h3
          exact ⟨a, fs, rfl, ha, hr, h2, h5⟩
        · exact h3.elim
    · cases e
  · cases e
theorem jk_ar_ok {t e' : jk_T} {q kd lo : Nat} (e : jk_ar RT t = some (q, kd, lo, e')) (hv : jk_V ρ t v) (hO : jk_Ok RT ρ h) : ∃ a n f, v = .ref a ∧ ρ a = some q ∧ RT[q]? = some (.inr (kd, lo, e')) ∧ h.1 a = some (.inr (kd, n, f)) ∧ lo ≤ n ∧ n ≤ 100000 ∧ ∀ i, jk_V ρ e' (f i) := by
  unfold jk_ar at e
  split at e
  · rename_i q'
    split at e
    · rename_i kd' lo' e2 hr
      cases e
      rcases hv with ⟨e1, _⟩ | ⟨a, rfl, ha⟩
      · cases e1
      · obtain ⟨d, c, h1, h2, h3⟩ := hO a q ha
        rw [hr] at h1
        cases h1
        rcases c with ⟨ci2, fs⟩ | ⟨kd2, n, f⟩
        · exact h3.elim
        · obtain ⟨rfl, h5, h6, h7⟩ := h3
          exact ⟨a, n, f, rfl, ha, hr, h2, h5, h6, h7⟩
    · cases e
  · cases e
theorem jk_Ok_up {a q : Nat} {d : jk_D} {c : jv_C} (hO : jk_Ok RT ρ h) (ha : ρ a = some q) (hd : RT[q]? = some d) (hc : jk_C ρ d c) : jk_Ok RT ρ (jv_up h.1 a c, h.2) := by
  intro b r hr
  by_cases hb : b = a
  · subst hb
    rw [ha] at hr
    cases hr
    exact ⟨d, c, hd, if_pos rfl, hc⟩
  · obtain ⟨d', c', h1, h2, h3⟩ := hO b r hr
    exact ⟨d', c', h1, (if_neg hb).trans h2, h3⟩
theorem jk_Fr_up {a q : Nat} {c c' : jv_C} (ha : ρ a = some q) (hc : h.1 a = some c) (hs : jk_sm (pr q) c c') : jk_Fr pr ρ h (jv_up h.1 a c', h.2) := by
  refine ⟨rfl, fun b hb => ?_, fun b r x hb hx => ?_⟩
  · exact if_neg (fun e => by rw [e, ha] at hb; cases hb)
  · by_cases e : b = a
    · subst e
      rw [ha] at hb
      cases hb
      rw [hc] at hx
      cases hx
      exact ⟨c', if_pos rfl, hs⟩
    · exact ⟨x, (if_neg e).trans hx, jk_sm_rf x⟩
theorem jk_bit {x : Int32} (h0 : 0 ≤ x.toInt) (h1 : x.toInt ≤ 1) : x = 0 ∨ x = 1 := by
  by_cases h : x.toInt = 0
  · exact Or.inl (Int32.toInt_inj.mp (h.trans (by decide)))
  · exact Or.inr (Int32.toInt_inj.mp ((show x.toInt = 1 by omega).trans (by decide)))
theorem jk_fit_ok {f : FieldType} {t : jk_T} (hf : jk_fit f t = true) (hv : jk_V ρ t v) : narrow f v = v ∧ fits f v = true := by
  rcases t with a | a | a
  · obtain ⟨x, rfl, h1, h2⟩ := hv
    cases f <;> first | (simp [jk_fit] at hf; done) | exact ⟨rfl, rfl⟩ | skip
    simp only [jk_fit, Bool.and_eq_true, decide_eq_true_eq] at hf
    rcases jk_bit (x := x) (by omega) (by omega) with rfl | rfl <;> exact ⟨rfl, rfl⟩
  · cases a
    · have e : v = .null := hv
      subst e
      cases f <;> first | (simp [jk_fit] at hf; done) | exact ⟨rfl, rfl⟩
    · obtain ⟨x, rfl⟩ := hv
      cases f <;> first | (simp [jk_fit] at hf; done) | exact ⟨rfl, rfl⟩
  · rcases hv with ⟨_, rfl⟩ | ⟨q, rfl, _⟩ <;> cases f <;> first | (simp [jk_fit] at hf; done) | exact ⟨rfl, rfl⟩
theorem jk_V_add {x y : Int32} {X Y : Int × Int} (hx : X.1 ≤ x.toInt ∧ x.toInt ≤ X.2) (hy : Y.1 ≤ y.toInt ∧ y.toInt ≤ Y.2) : jk_V ρ (jk_rg (X.1 + Y.1) (X.2 + Y.2)) (.int (x + y)) := by
  unfold jk_rg
  split
  · rename_i hb
    simp only [Bool.and_eq_true, decide_eq_true_eq] at hb
    have e : (x + y).toInt = x.toInt + y.toInt := by
      rw [Int32.toInt_add]
      exact Int.bmod_eq_of_le (by omega) (by omega)
    exact ⟨_, rfl, by rw [e]; omega, by rw [e]; omega⟩
  · exact jk_V_top
theorem jk_V_subt {x y : Int32} {X Y : Int × Int} (hx : X.1 ≤ x.toInt ∧ x.toInt ≤ X.2) (hy : Y.1 ≤ y.toInt ∧ y.toInt ≤ Y.2) : jk_V ρ (jk_rg (X.1 - Y.2) (X.2 - Y.1)) (.int (x - y)) := by
  unfold jk_rg
  split
  · rename_i hb
    simp only [Bool.and_eq_true, decide_eq_true_eq] at hb
    have e : (x - y).toInt = x.toInt - y.toInt := by
      rw [Int32.toInt_sub]
      exact Int.bmod_eq_of_le (by omega) (by omega)
    exact ⟨_, rfl, by rw [e]; omega, by rw [e]; omega⟩
  · exact jk_V_top
theorem jk_V_mul {x y : Int32} {X Y : Int × Int} {t : jk_T} (hx : X.1 ≤ x.toInt ∧ x.toInt ≤ X.2) (hy : Y.1 ≤ y.toInt ∧ y.toInt ≤ Y.2) (ht : jk_fmul X Y = some t) : jk_V ρ t (.int (x * y)) := by
  unfold jk_fmul at ht
  split at ht
  · rename_i h0
    simp only [Bool.and_eq_true, decide_eq_true_eq] at h0
    cases ht
    have a1 : X.1 * Y.1 ≤ x.toInt * y.toInt := Int.mul_le_mul hx.1 hy.1 h0.2 (by omega)
    have a2 : x.toInt * y.toInt ≤ X.2 * Y.2 := Int.mul_le_mul hx.2 hy.2 (by omega) (by omega)
    unfold jk_rg
    split
    · rename_i hb
      simp only [Bool.and_eq_true, decide_eq_true_eq] at hb
      have e : (x * y).toInt = x.toInt * y.toInt := by
        rw [Int32.toInt_mul]
        exact Int.bmod_eq_of_le (by omega) (by omega)
      exact ⟨_, rfl, by rw [e]; exact a1, by rw [e]; exact a2⟩
    · exact jk_V_top
  · cases ht
    exact jk_V_top
theorem jk_and_le {x y : Int32} (hy : 0 ≤ y.toInt) : 0 ≤ (x &&& y).toInt ∧ (x &&& y).toInt ≤ y.toInt := by
  have m : y.toBitVec.msb = false := by
    rw [BitVec.msb_eq_false_iff_two_mul_lt]
    have := BitVec.toInt_eq_toNat_cond y.toBitVec
    have e : y.toInt = y.toBitVec.toInt := rfl
    have := y.toBitVec.isLt
    split at * <;> omega
  have e1 : (x &&& y).toInt = ((x.toBitVec &&& y.toBitVec).toNat : Int) := by
    show (x.toBitVec &&& y.toBitVec).toInt = _
    exact BitVec.toInt_eq_toNat_of_msb (by rw [BitVec.msb_and, m, Bool.and_false])
  have e2 : y.toInt = (y.toBitVec.toNat : Int) := BitVec.toInt_eq_toNat_of_msb m
  rw [e1, e2, BitVec.toNat_and]
  have := Nat.and_le_right (n := x.toBitVec.toNat) (m := y.toBitVec.toNat)
  omega
theorem jk_V_and {x y : Int32} {X Y : Int × Int} {t : jk_T} (hx : X.1 ≤ x.toInt ∧ x.toInt ≤ X.2) (hy : Y.1 ≤ y.toInt ∧ y.toInt ≤ Y.2) (ht : jk_fand X Y = some t) : jk_V ρ t (.int (x &&& y)) := by
  unfold jk_fand at ht
  split at ht
  · rename_i h0
    cases ht
    have h1 := of_decide_eq_true h0
    have := jk_and_le (x := x) (y := y) (by omega)
    exact ⟨_, rfl, this.1, by show _ ≤ Y.2; omega⟩
  · split at ht
    · rename_i h0
      cases ht
      have h1 := of_decide_eq_true h0
      have := jk_and_le (x := y) (y := x) (by omega)
      rw [Int32.and_comm] at this
      exact ⟨_, rfl, this.1, by show _ ≤ X.2; omega⟩
    · cases ht
      exact jk_V_top
theorem jk_V_div {x y : Int32} {X Y : Int × Int} {t : jk_T} (hx : X.1 ≤ x.toInt ∧ x.toInt ≤ X.2) (hy : Y.1 ≤ y.toInt ∧ y.toInt ≤ Y.2) (ht : jk_fdiv X Y = some t) : ¬ y = 0 ∧ jk_V ρ t (.int (x / y)) := by
  unfold jk_fdiv at ht
  have hn : 0 < Y.1 → ¬ y = 0 := fun q e => by
    rw [e] at hy
    have : (0 : Int32).toInt = 0 := by decide
    omega
  split at ht
  · rename_i h0
    simp only [Bool.and_eq_true, beq_iff_eq, decide_eq_true_eq] at h0
    cases ht
    refine ⟨hn h0.1.2, _, rfl, ?_, ?_⟩
    all_goals rw [lg_idiv_nonneg (by omega) (by omega), show y.toInt = Y.1 by omega]
    · exact Int.ediv_le_ediv h0.1.2 hx.1
    · exact Int.ediv_le_ediv h0.1.2 hx.2
  · split at ht
    · rename_i h0
      cases ht
      exact ⟨hn (of_decide_eq_true h0), jk_V_top⟩
    · cases ht
theorem jk_V_rem {y z : Int32} {X Y : Int × Int} {t : jk_T} (hy : Y.1 ≤ y.toInt ∧ y.toInt ≤ Y.2) (ht : jk_frem X Y = some t) : ¬ y = 0 ∧ jk_V ρ t (.int z) := by
  unfold jk_frem at ht
  split at ht
  · rename_i h0
    cases ht
    have h1 := of_decide_eq_true h0
    refine ⟨fun e => ?_, jk_V_top⟩
    rw [e] at hy
    have : (0 : Int32).toInt = 0 := by decide
    omega
  · cases ht
end JK
end
section
/-! the checker's step holds for every instruction -/
section JK
variable {RT : List jk_D} {pr : Nat → Nat → Bool} {sg : jk_G} {rt : Option jk_T} {ρ : jk_R} {M n pc : Nat} {l0 ls : jv_L} {al : jk_AL} {as : jk_AS} {st : List Value} {h : jv_H} {call : jv_F} {su : List jk_A} {v : Value}
def jk_Nx (RT : List jk_D) (pr : Nat → Nat → Bool) (rt : Option jk_T) (ρ : jk_R) (l0 : jv_L) (h : jv_H) (su : List jk_A) (o : Option (jv_S ⊕ jv_Z)) : Prop :=
  (∃ pc' ls' st' h' al' as', o = some (.inl (pc', ls', st', h')) ∧ (pc', al', as') ∈ su ∧ jk_Ok RT ρ h' ∧ jk_Fr pr ρ h h' ∧ jk_L ρ l0 al' ls' ∧ jk_S ρ ls' as' st') ∨ ∃ r, o = some (.inr (r, h)) ∧ jk_Rt ρ rt r
theorem jk_one {ls' : jv_L} {al' : jk_AL} {as' : jk_AS} {st' : List Value} {h' : jv_H} {pc' : Nat} (hm : (pc', al', as') ∈ su) (hL : jk_L ρ l0 al' ls') (hS : jk_S ρ ls' as' st') (hO : jk_Ok RT ρ h') (hF : jk_Fr pr ρ h h') : jk_Nx RT pr rt ρ l0 h su (jv_n pc' ls' st' h') := Or.inl ⟨pc', ls', st', h', al', as', rfl, hm, hO, hF, hL, hS⟩
theorem jk_ps_ok {k : Nat} {t : jk_T} {s : Option Nat} (hs : jk_ps n k pc al as t s = some su) (hv : jk_V ρ t v) (hsrc : ∀ i, s = some i → ls[i]? = some (some v)) (hL : jk_L ρ l0 al ls) (hS : jk_S ρ ls as st) (hO : jk_Ok RT ρ h) : jk_Nx RT pr rt ρ l0 h su (jv_len n k (jv_n (pc + k) ls (v :: st) h)) := by
  unfold jk_ps at hs
  split at hs
  · rename_i hn
    cases hs
    rw [jk_len (eq_of_beq hn)]
    exact jk_one (List.mem_singleton.mpr rfl) hL ⟨hv, hsrc, hS⟩ hO (jk_Fr_rf h)
  · cases hs
theorem jk_ld_inv {w k i : Nat} (hs : jk_ld w n k pc al i as = some su) (hL : jk_L ρ l0 al ls) : ∃ t v, jk_kd t = w ∧ ls[i]? = some (some v) ∧ jk_V ρ t v ∧ jk_ps n k pc al as t (some i) = some su := by
  unfold jk_ld at hs
  split at hs
  · rename_i t δ e
    split at hs
    · rename_i hk
      obtain ⟨v, e1, hv, _⟩ := hL.2 i t δ e
      exact ⟨t, v, eq_of_beq hk, e1, hv, hs⟩
    · cases hs
  · cases hs
theorem jk_kd0 {t : jk_T} (hk : jk_kd t = 0) (hv : jk_V ρ t v) : ∃ X : Int × Int, ∃ x : Int32, t = .inl X ∧ v = .int x ∧ X.1 ≤ x.toInt ∧ x.toInt ≤ X.2 := by
  rcases t with a | a | a
  · obtain ⟨x, e, h1, h2⟩ := hv
    exact ⟨a, x, rfl, e, h1, h2⟩
  · cases a <;> cases hk
  · cases hk
theorem jk_kd1 {t : jk_T} (hk : jk_kd t = 1) (hv : jk_V ρ t v) : ∃ x : Int64, t = jk_lg ∧ v = .long x := by
  rcases t with a | a | a
  · cases hk
  · cases a
    · cases hk
    · obtain ⟨x, e⟩ := hv
      exact ⟨x, rfl, e⟩
  · cases hk
theorem jk_kd2 {t : jk_T} (hk : jk_kd t = 2) (hv : jk_V ρ t v) : v = .null ∨ ∃ a, v = .ref a := by
  rcases t with a | a | a
  · cases hk
  · cases a
    · exact Or.inl hv
    · cases hk
  · rcases hv with ⟨_, e⟩ | ⟨q, e, _⟩
    · exact Or.inl e
    · exact Or.inr ⟨q, e⟩
theorem jk_ldi_ok {k i : Nat} (hs : jk_ld 0 n k pc al i as = some su) (hL : jk_L ρ l0 al ls) (hS : jk_S ρ ls as st) (hO : jk_Ok RT ρ h) : jk_Nx RT pr rt ρ l0 h su (jv_ldi n k pc ls i st h) := by
  obtain ⟨t, v, hk, e1, hv, hp⟩ := jk_ld_inv hs hL
  obtain ⟨X, x, rfl, rfl, _⟩ := jk_kd0 hk hv
  unfold jv_ldi
  rw [e1]
  exact jk_ps_ok hp hv (fun j hj => by cases hj; exact e1) hL hS hO
theorem jk_ldl_ok {k i : Nat} (hs : jk_ld 1 n k pc al i as = some su) (hL : jk_L ρ l0 al ls) (hS : jk_S ρ ls as st) (hO : jk_Ok RT ρ h) : jk_Nx RT pr rt ρ l0 h su (jv_ldl n k pc ls i st h) := by
  obtain ⟨t, v, hk, e1, hv, hp⟩ := jk_ld_inv hs hL
  obtain ⟨x, rfl, rfl⟩ := jk_kd1 hk hv
  unfold jv_ldl
  rw [e1]
  exact jk_ps_ok hp hv (fun j hj => by cases hj; exact e1) hL hS hO
theorem jk_lda_ok {k i : Nat} (hs : jk_ld 2 n k pc al i as = some su) (hL : jk_L ρ l0 al ls) (hS : jk_S ρ ls as st) (hO : jk_Ok RT ρ h) : jk_Nx RT pr rt ρ l0 h su (jv_lda n k pc ls i st h) := by
  obtain ⟨t, v, hk, e1, hv, hp⟩ := jk_ld_inv hs hL
  unfold jv_lda
  rcases jk_kd2 hk hv with rfl | ⟨a, rfl⟩
  · rw [e1]
    exact jk_ps_ok hp hv (fun j hj => by cases hj; exact e1) hL hS hO
  · rw [e1]
    exact jk_ps_ok hp hv (fun j hj => by cases hj; exact e1) hL hS hO
theorem jk_so_inv {w k i : Nat} (hs : jk_so w n k pc al i as = some su) (hL : jk_L ρ l0 al ls) (hS : jk_S ρ ls as st) : ∃ t v vs al' as', st = v :: vs ∧ jk_kd t = w ∧ jk_V ρ t v ∧ n = k ∧ i < ls.length ∧ su = [(pc + k, al', as')] ∧ jk_L ρ l0 al' (jv_st1 ls i v) ∧ jk_S ρ (jv_st1 ls i v) as' vs := by
  unfold jk_so at hs
  split at hs
  · rename_i t s as'
    split at hs
    · rename_i hb
      simp only [Bool.and_eq_true, beq_iff_eq, decide_eq_true_eq] at hb
      cases hs
      obtain ⟨v, vs, rfl, hv, _, hS'⟩ := jk_S_cons hS
      refine ⟨t, v, vs, _, _, rfl, hb.1.1, hv, hb.2, by rw [hL.1]; exact hb.1.2, rfl, ?_, jk_S_ns hS'⟩
      exact jk_set (jk_kl_ok hL i) (by rw [jk_kl_len]; exact hb.1.2) hv (fun d e => by cases e)
    · cases hs
  · cases hs
theorem jk_sti_ok {k i : Nat} (hs : jk_so 0 n k pc al i as = some su) (hL : jk_L ρ l0 al ls) (hS : jk_S ρ ls as st) (hO : jk_Ok RT ρ h) : jk_Nx RT pr rt ρ l0 h su (jv_sti n k pc ls i st h) := by
  obtain ⟨t, v, vs, al', as', rfl, hk, hv, hn, hi, rfl, hL', hS'⟩ := jk_so_inv hs hL hS
  obtain ⟨X, x, rfl, rfl, _⟩ := jk_kd0 hk hv
  unfold jv_sti
  simp only
  rw [if_pos hi, jk_len hn]
  exact jk_one (List.mem_singleton.mpr rfl) hL' hS' hO (jk_Fr_rf h)
theorem jk_sta_ok {k i : Nat} (hs : jk_so 2 n k pc al i as = some su) (hL : jk_L ρ l0 al ls) (hS : jk_S ρ ls as st) (hO : jk_Ok RT ρ h) : jk_Nx RT pr rt ρ l0 h su (jv_sta n k pc ls i st h) := by
  obtain ⟨t, v, vs, al', as', rfl, hk, hv, hn, hi, rfl, hL', hS'⟩ := jk_so_inv hs hL hS
  unfold jv_sta
  rcases jk_kd2 hk hv with rfl | ⟨a, rfl⟩
  · simp only
    rw [if_pos hi, jk_len hn]
    exact jk_one (List.mem_singleton.mpr rfl) hL' hS' hO (jk_Fr_rf h)
  · simp only
    rw [if_pos hi, jk_len hn]
    exact jk_one (List.mem_singleton.mpr rfl) hL' hS' hO (jk_Fr_rf h)
theorem jk_stl_ok {k i : Nat} (hs : jk_so2 n k pc al i as = some su) (hL : jk_L ρ l0 al ls) (hS : jk_S ρ ls as st) (hO : jk_Ok RT ρ h) : jk_Nx RT pr rt ρ l0 h su (jv_stl n k pc ls i st h) := by
  unfold jk_so2 at hs
  split at hs
  · rename_i t s as'
    split at hs
    · rename_i hb
      simp only [Bool.and_eq_true, beq_iff_eq, decide_eq_true_eq] at hb
      cases hs
      obtain ⟨v, vs, rfl, hv, _, hS'⟩ := jk_S_cons hS
      obtain ⟨x, e, rfl⟩ := jk_kd1 hb.1.1 hv
      have e : t = jk_lg := e
      subst e
      unfold jv_stl
      simp only
      rw [if_pos (by rw [hL.1]; exact hb.1.2), jk_len hb.2]
      refine jk_one (List.mem_singleton.mpr rfl) ?_ (jk_S_ns hS') hO (jk_Fr_rf h)
      exact jk_setn (jk_set (jk_kl_ok hL i) (by rw [jk_kl_len]; omega) hv (fun d e => by cases e)) (i + 1)
    · cases hs
  · cases hs
theorem jk_o2_inv {f : Int × Int → Int × Int → Option jk_T} (hs : jk_o2 f n pc al as = some su) (hS : jk_S ρ ls as st) : ∃ (X Y : Int × Int) (x y : Int32) (as' : jk_AS) (vs : List Value) (t : jk_T), st = .int y :: .int x :: vs ∧ (X.1 ≤ x.toInt ∧ x.toInt ≤ X.2) ∧ (Y.1 ≤ y.toInt ∧ y.toInt ≤ Y.2) ∧ f X Y = some t ∧ jk_ps n 1 pc al as' t none = some su ∧ jk_S ρ ls as' vs := by
  unfold jk_o2 at hs
  split at hs
  · rename_i Y _ X _ as'
    split at hs
    · rename_i t e
      obtain ⟨v, vs, rfl, hv, _, hS'⟩ := jk_S_cons hS
      obtain ⟨w, ws, rfl, hw, _, hS2⟩ := jk_S_cons hS'
      obtain ⟨y, rfl, y1, y2⟩ := hv
      obtain ⟨x, rfl, x1, x2⟩ := hw
      exact ⟨X, Y, x, y, as', ws, t, rfl, ⟨x1, x2⟩, ⟨y1, y2⟩, e, hs, hS2⟩
    · cases hs
  · cases hs
theorem jk_b2_ok {f : Int × Int → Int × Int → Option jk_T} {g : Int32 → Int32 → Int32} (hg : ∀ (X Y : Int × Int) (x y : Int32) (t : jk_T), X.1 ≤ x.toInt ∧ x.toInt ≤ X.2 → Y.1 ≤ y.toInt ∧ y.toInt ≤ Y.2 → f X Y = some t → jk_V ρ t (.int (g x y))) (hs : jk_o2 f n pc al as = some su) (hL : jk_L ρ l0 al ls) (hS : jk_S ρ ls as st) (hO : jk_Ok RT ρ h) : jk_Nx RT pr rt ρ l0 h su (jv_b2 g n pc ls st h) := by
  obtain ⟨X, Y, x, y, as', vs, t, rfl, hx, hy, hf, hp, hS'⟩ := jk_o2_inv hs hS
  unfold jv_b2
  exact jk_ps_ok hp (hg X Y x y t hx hy hf) (fun i e => by cases e) hL hS' hO
theorem jk_l2_ok {g : Int64 → Int64 → Int64} (hs : jk_l2 n pc al as = some su) (hL : jk_L ρ l0 al ls) (hS : jk_S ρ ls as st) (hO : jk_Ok RT ρ h) : jk_Nx RT pr rt ρ l0 h su (jv_l2 g n pc ls st h) := by
  unfold jk_l2 at hs
  split at hs
  · obtain ⟨v, vs, rfl, hv, _, hS'⟩ := jk_S_cons hS
    obtain ⟨w, ws, rfl, hw, _, hS2⟩ := jk_S_cons hS'
    obtain ⟨y, rfl⟩ := hv
    obtain ⟨x, rfl⟩ := hw
    unfold jv_l2
    exact jk_ps_ok hs ⟨_, rfl⟩ (fun i e => by cases e) hL hS2 hO
  · cases hs
theorem jk_cj_ok {c : ClassFile.Cond} {off : Int} {x y : Int32} {X Y : Int × Int} {sx sy : Option Nat} (hs : jk_cj c n pc off al as X sx Y sy = some su) (hx : X.1 ≤ x.toInt ∧ x.toInt ≤ X.2) (hy : Y.1 ≤ y.toInt ∧ y.toInt ≤ Y.2) (hsx : ∀ i, sx = some i → ls[i]? = some (some (.int x))) (hsy : ∀ i, sy = some i → ls[i]? = some (some (.int y))) (hL : jk_L ρ l0 al ls) (hS : jk_S ρ ls as st) (hO : jk_Ok RT ρ h) : jk_Nx RT pr rt ρ l0 h su (jv_len n 3 (jv_go pc off (jv_cmp c x y) ls st h)) := by
  unfold jk_cj at hs
  split at hs
  · rename_i hn
    split at hs
    · rename_i t e
      cases hs
      rw [jk_len (eq_of_beq hn)]
      unfold jv_go
      rw [e]
      by_cases b : jv_cmp c x y = true
      · obtain ⟨al', m, l⟩ := jk_bs_ok (t := t) (as := as) hx hy hsx hsy b hL
        simp only [b, if_true]
        exact jk_one (List.mem_append_left _ m) l hS hO (jk_Fr_rf h)
      · obtain ⟨al', m, l⟩ := jk_bs_ok (t := pc + 3) (as := as) hx hy hsx hsy (jk_neg_ok b) hL
        simp only [b, if_false, Bool.false_eq_true]
        exact jk_one (List.mem_append_right _ m) l hS hO (jk_Fr_rf h)
    · cases hs
  · cases hs
theorem jk_idx {n lo : Nat} {j : Int × Int} {x : Int32} (h0 : 0 ≤ j.1) (h1 : j.2 < (lo : Int)) (hx : j.1 ≤ x.toInt ∧ x.toInt ≤ j.2) (hn : lo ≤ n) : ¬ (x < 0 ∨ n ≤ x.toNatClampNeg) := by
  have e : (0 : Int32).toInt = 0 := by decide
  rw [Int32.lt_iff_toInt_lt, e]
  unfold Int32.toNatClampNeg
  omega
theorem jk_al_ok {p : FieldType → Bool} {w : Nat} (hs : jk_al RT p w n pc al as = some su) (hL : jk_L ρ l0 al ls) (hS : jk_S ρ ls as st) (hO : jk_Ok RT ρ h) : ∃ (j : Int32) (a : Nat) (vs : List Value) (ty : FieldType) (kd : Nat) (v : Value), st = .int j :: .ref a :: vs ∧ p ty = true ∧ jt_at[kd]? = some ty ∧ ¬ kd = jt_scr ∧ (∃ n f, h.1 a = some (.inr (kd, n, f))) ∧ jv_al h a ty j = some v ∧ jk_Nx RT pr rt ρ l0 h su (jv_len n 1 (jv_n (pc + 1) ls (v :: vs) h)) := by
  unfold jk_al at hs
  split at hs
  · rename_i J _ A _ as'
    split at hs
    · rename_i q kd lo e he
      split at hs
      · rename_i ty hty
        split at hs
        · rename_i hb
          simp only [Bool.and_eq_true, beq_iff_eq, decide_eq_true_eq, Bool.not_eq_true', beq_eq_false_iff_ne, ne_eq] at hb
          obtain ⟨v, vs, rfl, hv, _, hS'⟩ := jk_S_cons hS
          obtain ⟨w', ws, rfl, hw, _, hS2⟩ := jk_S_cons hS'
          obtain ⟨j, rfl, j1, j2⟩ := hv
          obtain ⟨a, len, f, rfl, ha, hr, hc, hlo, hle, hf⟩ := jk_ar_ok he hw hO
          have hi := jk_idx hb.1.2 hb.2 ⟨j1, j2⟩ hlo
          refine ⟨j, a, ws, ty, kd, f j.toNatClampNeg, rfl, hb.1.1.1.1, hty, hb.1.1.2, ⟨len, f, hc⟩, ?_, jk_ps_ok hs (hf _) (fun i e => by cases e) hL hS2 hO⟩
          unfold jv_al
          rw [hc]
          exact if_pos ⟨hty, hi⟩
        · cases hs
      · cases hs
    · cases hs
  · cases hs
theorem jk_as_ok {p : FieldType → Bool} (hs : jk_as RT pr p n pc al as = some su) (hL : jk_L ρ l0 al ls) (hS : jk_S ρ ls as st) (hO : jk_Ok RT ρ h) : ∃ (v : Value) (j : Int32) (a : Nat) (vs : List Value) (ty : FieldType) (kd : Nat) (tv : jk_T) (h' : jv_H), st = v :: .int j :: .ref a :: vs ∧ jk_V ρ tv v ∧ jk_fit ty tv = true ∧ p ty = true ∧ jt_at[kd]? = some ty ∧ ¬ kd = jt_scr ∧ (∃ n f, h.1 a = some (.inr (kd, n, f))) ∧ jv_as h a ty j v = some h' ∧ (∀ C, ty = .object C → jk_isA RT C tv = true) ∧ jk_Nx RT pr rt ρ l0 h su (jv_len n 1 (jv_n (pc + 1) ls vs h')) := by
  unfold jk_as at hs
  split at hs
  · rename_i tv _ J _ A _ as'
    split at hs
    · rename_i q kd lo e he
      split at hs
      · rename_i ty hty
        split at hs
        · rename_i hb
          rw [Bool.and_eq_true, Bool.and_eq_true] at hb
          obtain ⟨⟨hb, hC⟩, hn⟩ := hb
          simp only [Bool.and_eq_true, beq_iff_eq, decide_eq_true_eq, Bool.not_eq_true', beq_eq_false_iff_ne, ne_eq] at hb
          cases hs
          obtain ⟨u, us, rfl, hu, _, hS0⟩ := jk_S_cons hS
          obtain ⟨v, vs, rfl, hv, _, hS'⟩ := jk_S_cons hS0
          obtain ⟨w', ws, rfl, hw, _, hS2⟩ := jk_S_cons hS'
          obtain ⟨j, rfl, j1, j2⟩ := hv
          obtain ⟨a, len, f, rfl, ha, hr, hc, hlo, hle, hf⟩ := jk_ar_ok he hw hO
          have hi := jk_idx hb.1.2 hb.2 ⟨j1, j2⟩ hlo
          refine ⟨u, j, a, ws, ty, kd, tv, (jv_up h.1 a (.inr (kd, len, updV f j.toNatClampNeg u)), h.2), rfl, hu, hb.1.1.1.1.2, hb.1.1.1.1.1.1, hty, hb.1.1.1.2, ⟨len, f, hc⟩, ?_, fun C hC' => ?_, ?_⟩
          · unfold jv_as
            rw [hc]
            exact if_pos ⟨hb.1.1.1.2, hty, hi⟩
          · subst hC'
            exact hC
          · rw [jk_len (eq_of_beq hn)]
            refine jk_one (List.mem_singleton.mpr rfl) hL hS2 ?_ ?_
            · refine jk_Ok_up hO ha hr ⟨rfl, hlo, hle, fun i => ?_⟩
              unfold updV
              split
              · exact jk_V_sub hb.1.1.1.1.1.2 hu
              · exact hf i
            · refine jk_Fr_up ha hc ⟨rfl, rfl, fun z => ?_⟩
              rw [hb.1.1.2] at z
              cases z
        · cases hs
      · cases hs
    · cases hs
  · cases hs
theorem jk_isA_ok {C : String} {t : jk_T} (hA : jk_isA RT C t = true) (hv : jk_V ρ t v) (hO : jk_Ok RT ρ h) : jv_isA h C v = true := by
  unfold jk_isA at hA
  split at hA
  · have e : v = .null := hv
    subst e
    rfl
  · rename_i q nn
    split at hA
    · rename_i ci ts hr
      rcases hv with ⟨_, rfl⟩ | ⟨a, rfl, ha⟩
      · rfl
      · obtain ⟨d, c, h1, h2, h3⟩ := hO a q ha
        rw [hr] at h1
        cases h1
        rcases c with ⟨ci2, fs⟩ | ⟨kd, n, f⟩
        · obtain ⟨rfl, _⟩ := h3
          simp only [jv_isA, jv_cl, h2]
          exact hA
        · exact h3.elim
    · cases hA
  · cases hA
theorem jk_cl_ok (hc : ∀ y, jk_Sp RT pr sg call y) {y : Nat} {args rest : jk_AS} {vs ws : List Value} (hs : jk_cl sg n pc y al args rest = some su) (hV : jk_Vs ρ (args.map fun a => a.1) vs) (hL : jk_L ρ l0 al ls) (hS : jk_S ρ ls rest ws) (hO : jk_Ok RT ρ h) : jk_Nx RT pr rt ρ l0 h su (jv_inv call y n pc ls vs ws h) := by
  unfold jk_cl at hs
  split at hs
  · rename_i ats rty hsg
    split at hs
    · rename_i hb
      simp only [Bool.and_eq_true, beq_iff_eq, decide_eq_true_eq] at hb
      obtain ⟨r, h', e, hO', hF, hR⟩ := hc y ats rty hsg ρ h vs hO (jk_Vs_sub hb.1.2 hV)
      have hw : jv_wide ws = true := by
        unfold jv_wide
        rw [jk_S_w hS]
        exact decide_eq_true hb.2
      unfold jv_inv
      rw [if_pos ⟨hb.1.1, hw⟩, e]
      cases rty with
      | none =>
        cases hs
        cases r with
        | none => exact jk_one (List.mem_singleton.mpr rfl) hL hS hO' hF
        | some v => exact hR.elim
      | some t =>
        cases hs
        cases r with
        | none => exact hR.elim
        | some v => exact jk_one (List.mem_singleton.mpr rfl) hL ⟨hR, fun i e => (by cases e), hS⟩ hO' hF
    · cases hs
  · cases hs
end JK
end
section
/-! every instruction that the checker takes -/
section JK
variable {RT : List jk_D} {pr : Nat → Nat → Bool} {sg : jk_G} {rt : Option jk_T} {ρ : jk_R} {M n pc : Nat} {l0 ls : jv_L} {al : jk_AL} {as : jk_AS} {st : List Value} {h : jv_H} {call : jv_F} {su : List jk_A} {v : Value}
theorem jk_two {off : Int} {t : Nat} {b : Bool} (hn : n = 3) (e : jv_to pc off = some t) (h1 : (t, al, as) ∈ su) (h2 : (pc + 3, al, as) ∈ su) (hL : jk_L ρ l0 al ls) (hS : jk_S ρ ls as st) (hO : jk_Ok RT ρ h) : jk_Nx RT pr rt ρ l0 h su (jv_len n 3 (jv_go pc off b ls st h)) := by
  rw [jk_len hn]
  unfold jv_go
  rw [e]
  cases b
  · exact jk_one h2 hL hS hO (jk_Fr_rf h)
  · exact jk_one h1 hL hS hO (jk_Fr_rf h)
theorem jk_goto {off : Int} {t : Nat} (e : jv_to pc off = some t) (h1 : (t, al, as) ∈ su) (hL : jk_L ρ l0 al ls) (hS : jk_S ρ ls as st) (hO : jk_Ok RT ρ h) : jk_Nx RT pr rt ρ l0 h su (jv_go pc off true ls st h) := by
  unfold jv_go
  rw [e]
  exact jk_one h1 hL hS hO (jk_Fr_rf h)
theorem jk_gt_mem {off : Int} {t : Nat} (e : jv_to pc off = some t) : (t, al, as) ∈ jk_gt pc off al as := by
  unfold jk_gt
  rw [e]
  exact List.mem_singleton.mpr rfl
theorem jk_i_iinc {k : Nat} {c : Int} (hs : jk_ins RT pr sg rt M (.iinc k c) n pc al as = some su) (hL : jk_L ρ l0 al ls) (hS : jk_S ρ ls as st) (hO : jk_Ok RT ρ h) : jk_Nx RT pr rt ρ l0 h su (jv_ins call M (.iinc k c) n pc ls st h) := by
  simp only [jk_ins] at hs
  split at hs
  · rename_i b δ e
    obtain ⟨v, e1, hv, hd⟩ := hL.2 k _ δ e
    obtain ⟨x, rfl, x1, x2⟩ := hv
    split at hs
    · rename_i hb
      simp only [Bool.and_eq_true, beq_iff_eq, decide_eq_true_eq] at hb
      have hk : k < ls.length := (List.getElem?_eq_some_iff.mp e1).1
      have hka : k < (jk_kl al k).length := by rw [jk_kl_len, ← hL.1]; exact hk
      have ec : (Int32.ofInt c).toInt = c := by
        rw [Int32.toInt_ofInt]
        exact Int.bmod_eq_of_le (by simp only [Int32.size]; omega) (by simp only [Int32.size]; omega)
      have ex : jk_x ls k = x.toInt := by unfold jk_x; rw [e1]
      simp only [jv_ins, e1, if_pos hk]
      rw [jk_len hb.1.1]
      split at hs
      · rename_i hr
        simp only [Bool.and_eq_true, decide_eq_true_eq] at hr
        cases hs
        have ea : (x + Int32.ofInt c).toInt = x.toInt + c := by
          rw [Int32.toInt_add, ec]
          exact Int.bmod_eq_of_le (by omega) (by omega)
        refine jk_one (List.mem_singleton.mpr rfl) (jk_set (jk_kl_ok hL k) hka ⟨_, rfl, by rw [ea]; show b.1 + c ≤ _; omega, by rw [ea]; show _ ≤ b.2 + c; omega⟩ (fun d q => ?_)) (jk_S_ns hS) hO (jk_Fr_rf h)
        cases δ with
        | none => cases q
        | some d0 =>
          cases q
          have := hd d0 rfl
          exact ⟨_, rfl, by rw [ea]; show _ = _ + (d0 + c); omega⟩
      · cases hs
        exact jk_one (List.mem_singleton.mpr rfl) (jk_set (jk_kl_ok hL k) hka jk_V_top (fun d q => by cases q)) (jk_S_ns hS) hO (jk_Fr_rf h)
    · cases hs
  · cases hs
theorem jk_i_acmp {cd : ACond} {off : Int} (hs : jk_ins RT pr sg rt M (.if_acmp cd off) n pc al as = some su) (hL : jk_L ρ l0 al ls) (hS : jk_S ρ ls as st) (hO : jk_Ok RT ρ h) : jk_Nx RT pr rt ρ l0 h su (jv_ins call M (.if_acmp cd off) n pc ls st h) := by
  simp only [jk_ins] at hs
  split at hs
  · rename_i y _ x _ as'
    split at hs
    · rename_i hb
      simp only [Bool.and_eq_true, beq_iff_eq] at hb
      split at hs
      · rename_i t e
        cases hs
        obtain ⟨v, vs, rfl, hv, _, hS'⟩ := jk_S_cons hS
        obtain ⟨w, ws, rfl, hw, _, hS2⟩ := jk_S_cons hS'
        have m1 : (t, al, as') ∈ [(t, al, as'), (pc + 3, al, as')] := List.mem_cons_self
        have m2 : (pc + 3, al, as') ∈ [(t, al, as'), (pc + 3, al, as')] := List.mem_cons_of_mem _ List.mem_cons_self
        rcases jk_kd2 hb.1.1 hv with rfl | ⟨a, rfl⟩ <;> rcases jk_kd2 hb.1.2 hw with rfl | ⟨a', rfl⟩ <;> exact jk_two hb.2 e m1 m2 hL hS2 hO
      · cases hs
    · cases hs
  · cases hs
theorem jk_i_null {off : Int} (hs : jk_ins RT pr sg rt M (.ifnull off) n pc al as = some su) (hL : jk_L ρ l0 al ls) (hS : jk_S ρ ls as st) (hO : jk_Ok RT ρ h) : jk_Nx RT pr rt ρ l0 h su (jv_ins call M (.ifnull off) n pc ls st h) := by
  simp only [jk_ins] at hs
  split at hs
  · rename_i s as'
    split at hs
    · rename_i t e
      split at hs
      · rename_i hn
        cases hs
        obtain ⟨v, vs, rfl, hv, _, hS'⟩ := jk_S_cons hS
        have q : v = .null := hv
        subst q
        show jk_Nx RT pr rt ρ l0 h _ (jv_len n 3 (jv_go pc off true ls vs h))
        rw [jk_len (eq_of_beq hn)]
        exact jk_goto e (List.mem_singleton.mpr rfl) hL hS' hO
      · cases hs
    · cases hs
  · rename_i q nn s as'
    split at hs
    · rename_i t e
      split at hs
      · rename_i hn
        cases hs
        obtain ⟨v, vs, rfl, hv, hsrc, hS'⟩ := jk_S_cons hS
        rcases hv with ⟨e1, rfl⟩ | ⟨a, rfl, ha⟩
        · show jk_Nx RT pr rt ρ l0 h _ (jv_len n 3 (jv_go pc off true ls vs h))
          rw [jk_len (eq_of_beq hn)]
          have e1 : nn = false := e1
          subst e1
          exact jk_goto e (List.mem_append_left _ (List.mem_singleton.mpr rfl)) hL hS' hO
        · show jk_Nx RT pr rt ρ l0 h _ (jv_len n 3 (jv_n (pc + 3) ls vs h))
          rw [jk_len (eq_of_beq hn)]
          exact jk_one (List.mem_append_right _ (List.mem_singleton.mpr rfl)) (jk_nar_ok hL hsrc (Or.inr ⟨a, rfl, ha⟩)) hS' hO (jk_Fr_rf h)
      · cases hs
    · cases hs
  · cases hs
theorem jk_i_nonnull {off : Int} (hs : jk_ins RT pr sg rt M (.ifnonnull off) n pc al as = some su) (hL : jk_L ρ l0 al ls) (hS : jk_S ρ ls as st) (hO : jk_Ok RT ρ h) : jk_Nx RT pr rt ρ l0 h su (jv_ins call M (.ifnonnull off) n pc ls st h) := by
  simp only [jk_ins] at hs
  split at hs
  · rename_i s as'
    split at hs
    · rename_i hn
      cases hs
      obtain ⟨v, vs, rfl, hv, _, hS'⟩ := jk_S_cons hS
      have q : v = .null := hv
      subst q
      show jk_Nx RT pr rt ρ l0 h _ (jv_len n 3 (jv_n (pc + 3) ls vs h))
      rw [jk_len (eq_of_beq hn)]
      exact jk_one (List.mem_singleton.mpr rfl) hL hS' hO (jk_Fr_rf h)
    · cases hs
  · rename_i q nn s as'
    split at hs
    · rename_i t e
      split at hs
      · rename_i hn
        cases hs
        obtain ⟨v, vs, rfl, hv, hsrc, hS'⟩ := jk_S_cons hS
        rcases hv with ⟨e1, rfl⟩ | ⟨a, rfl, ha⟩
        · show jk_Nx RT pr rt ρ l0 h _ (jv_len n 3 (jv_n (pc + 3) ls vs h))
          rw [jk_len (eq_of_beq hn)]
          have e1 : nn = false := e1
          subst e1
          exact jk_one (List.mem_append_left _ (List.mem_singleton.mpr rfl)) hL hS' hO (jk_Fr_rf h)
        · show jk_Nx RT pr rt ρ l0 h _ (jv_len n 3 (jv_go pc off true ls vs h))
          rw [jk_len (eq_of_beq hn)]
          exact jk_goto e (List.mem_append_right _ (List.mem_singleton.mpr rfl)) (jk_nar_ok hL hsrc (Or.inr ⟨a, rfl, ha⟩)) hS' hO
      · cases hs
    · cases hs
  · cases hs
theorem jk_i_table {dflt lo hi : Int} {offs : Array Int} (hs : jk_ins RT pr sg rt M (.tableswitch dflt lo hi offs) n pc al as = some su) (hL : jk_L ρ l0 al ls) (hS : jk_S ρ ls as st) (hO : jk_Ok RT ρ h) : jk_Nx RT pr rt ρ l0 h su (jv_ins call M (.tableswitch dflt lo hi offs) n pc ls st h) := by
  simp only [jk_ins] at hs
  split at hs
  · rename_i X s as'
    split at hs
    · rename_i hb
      simp only [Bool.and_eq_true, decide_eq_true_eq, List.all_eq_true] at hb
      cases hs
      obtain ⟨v, vs, rfl, hv, _, hS'⟩ := jk_S_cons hS
      obtain ⟨x, rfl, x1, x2⟩ := hv
      simp only [jv_ins]
      by_cases hr : x.toInt < lo ∨ hi < x.toInt
      · rw [if_pos hr]
        obtain ⟨t, e⟩ := Option.isSome_iff_exists.mp hb.1.2
        refine jk_goto e (List.mem_append_left _ ?_) hL hS' hO
        rw [if_pos (by simp only [Bool.or_eq_true, decide_eq_true_eq]; omega)]
        exact jk_gt_mem e
      · rw [if_neg hr]
        have hr1 : lo ≤ x.toInt := by omega
        have hr2 : x.toInt ≤ hi := by omega
        have hlt : (x.toInt - lo).toNat < offs.size := by omega
        rw [Array.getElem?_eq_getElem hlt]
        have hm : offs[(x.toInt - lo).toNat] ∈ offs.toList := by simp
        obtain ⟨t, e⟩ := Option.isSome_iff_exists.mp (hb.2 _ hm)
        refine jk_goto e (List.mem_append_right _ (List.mem_flatMap.mpr ⟨(offs[(x.toInt - lo).toNat], (x.toInt - lo).toNat), ?_, ?_⟩)) hL hS' hO
        · rw [List.mk_mem_zipIdx_iff_getElem?]
          simp
        · simp only
          rw [if_pos (by simp only [Bool.and_eq_true, decide_eq_true_eq]; omega)]
          exact jk_gt_mem e
    · cases hs
  · cases hs
theorem jk_off (ps : List (Int × Int)) (d k : Int) : Op.lookupswitch.offset ps d k = d ∨ ∃ q ∈ ps, q.1 = k ∧ Op.lookupswitch.offset ps d k = q.2 := by
  induction ps with
  | nil => exact Or.inl rfl
  | cons p r ih =>
    obtain ⟨a, o⟩ := p
    unfold Op.lookupswitch.offset
    split
    · rename_i e
      exact Or.inr ⟨(a, o), List.mem_cons_self, e, rfl⟩
    · rcases ih with q | ⟨q, m, e⟩
      · exact Or.inl q
      · exact Or.inr ⟨q, List.mem_cons_of_mem _ m, e⟩
theorem jk_i_lookup {dflt : Int} {ps : Array (Int × Int)} (hs : jk_ins RT pr sg rt M (.lookupswitch dflt ps) n pc al as = some su) (hL : jk_L ρ l0 al ls) (hS : jk_S ρ ls as st) (hO : jk_Ok RT ρ h) : jk_Nx RT pr rt ρ l0 h su (jv_ins call M (.lookupswitch dflt ps) n pc ls st h) := by
  simp only [jk_ins] at hs
  split at hs
  · rename_i X s as'
    split at hs
    · rename_i hb
      rw [Bool.and_eq_true, Bool.and_eq_true] at hb
      obtain ⟨⟨hb1, hb2⟩, hb3⟩ := hb
      cases hs
      obtain ⟨v, vs, rfl, hv, _, hS'⟩ := jk_S_cons hS
      obtain ⟨x, rfl, x1, x2⟩ := hv
      simp only [jv_ins]
      rw [if_pos hb1]
      rcases jk_off ps.toList dflt x.toInt with q | ⟨q, m, eq, e0⟩
      · rw [q]
        obtain ⟨t, e⟩ := Option.isSome_iff_exists.mp hb2
        exact jk_goto e (List.mem_append_left _ (jk_gt_mem e)) hL hS' hO
      · rw [e0]
        obtain ⟨t, e⟩ := Option.isSome_iff_exists.mp (List.all_eq_true.mp hb3 q m)
        refine jk_goto e (List.mem_append_right _ (List.mem_flatMap.mpr ⟨q, m, ?_⟩)) hL hS' hO
        rw [if_pos (by simp only [Bool.and_eq_true, decide_eq_true_eq]; omega)]
        exact jk_gt_mem e
    · cases hs
  · cases hs
theorem jk_i_get {k : Nat} (hs : jk_ins RT pr sg rt M (.getfield k) n pc al as = some su) (hL : jk_L ρ l0 al ls) (hS : jk_S ρ ls as st) (hO : jk_Ok RT ρ h) : jk_Nx RT pr rt ρ l0 h su (jv_ins call M (.getfield k) n pc ls st h) := by
  simp only [jk_ins] at hs
  split at hs
  · rename_i a s as'
    split at hs
    · rename_i q ci ts ci' f hob hf
      split at hs
      · rename_i t ht
        split at hs
        · rename_i hb
          have hb := eq_of_beq hb
          subst hb
          obtain ⟨v, vs, rfl, hv, _, hS'⟩ := jk_S_cons hS
          obtain ⟨a, fs, rfl, ha, hr, hc, hV⟩ := jk_ob_ok hob hv hO
          obtain ⟨w, hw, hwv⟩ := jk_Vs_get hV ht
          have hg : jv_gf h a ci f = some w := by
            unfold jv_gf
            rw [hc]
            exact (if_pos rfl).trans hw
          simp only [jv_ins, hf, hg]
          exact jk_ps_ok hs hwv (fun i e => by cases e) hL hS' hO
        · cases hs
      · cases hs
    · cases hs
  · cases hs
theorem jk_i_put {k : Nat} (hs : jk_ins RT pr sg rt M (.putfield k) n pc al as = some su) (hL : jk_L ρ l0 al ls) (hS : jk_S ρ ls as st) (hO : jk_Ok RT ρ h) : jk_Nx RT pr rt ρ l0 h su (jv_ins call M (.putfield k) n pc ls st h) := by
  simp only [jk_ins] at hs
  split at hs
  · rename_i tv _ a s as'
    split at hs
    · rename_i q ci ts ci' f hob hf
      split at hs
      · rename_i t ht
        split at hs
        · rename_i hb
          simp only [Bool.and_eq_true, beq_iff_eq, Bool.not_eq_true'] at hb
          obtain ⟨⟨⟨⟨⟨rfl, b2⟩, b3⟩, b4⟩, b5⟩, b6⟩ := hb
          cases hs
          obtain ⟨w, ws, rfl, hw, _, hS0⟩ := jk_S_cons hS
          obtain ⟨v, vs, rfl, hv, _, hS'⟩ := jk_S_cons hS0
          obtain ⟨a, fs, rfl, ha, hr, hc, hV⟩ := jk_ob_ok hob hv hO
          have hfl : f < fs.length := by rw [jk_Vs_len hV]; exact (List.getElem?_eq_some_iff.mp ht).1
          have hfit := jk_fit_ok b3 hw
          have hp : jv_pf h a ci f w = some (jv_up h.1 a (.inl (ci, fs.set f w)), h.2) := by
            unfold jv_pf
            rw [hc]
            exact if_pos ⟨rfl, hfl, hfit.1, hfit.2⟩
          simp only [jv_ins, hf, hp]
          rw [if_pos (Or.inl b5), jk_len b6]
          refine jk_one (List.mem_singleton.mpr rfl) hL hS' (jk_Ok_up hO ha hr ⟨rfl, jk_Vs_set hV ht (jk_V_sub b2 hw)⟩) (jk_Fr_up ha hc ⟨rfl, by simp, fun k hk => ?_⟩)
          have hne : ¬ f = k := fun e => by rw [← e, b4] at hk; cases hk
          exact List.getElem?_set_ne hne
        · cases hs
      · cases hs
    · cases hs
  · cases hs
theorem jk_isO_inv {ty : FieldType} (hp : jk_isO ty = true) : ∃ C, ty = .object C := by
  cases ty <;> first | exact ⟨_, rfl⟩ | cases hp
theorem jk_kn_ok {a kd : Nat} {C : String} (hc : ∃ n f, h.1 a = some (.inr (kd, n, f))) (hs : ¬ kd = jt_scr) (ht : jt_at[kd]? = some (.object C)) : jv_kn h a = some C := by
  obtain ⟨n, f, hc⟩ := hc
  unfold jv_kn
  rw [hc]
  simp only
  rw [if_neg hs, ht]
  rfl
theorem jk_i_virt (hc : ∀ y, jk_Sp RT pr sg call y) {k : Nat} (hs : jk_ins RT pr sg rt M (.invokevirtual k) n pc al as = some su) (hL : jk_L ρ l0 al ls) (hS : jk_S ρ ls as st) (hO : jk_Ok RT ρ h) : jk_Nx RT pr rt ρ l0 h su (jv_ins call M (.invokevirtual k) n pc ls st h) := by
  simp only [jk_ins] at hs
  split at hs
  · rename_i y hy
    split at hs
    · rename_i b s rest hdr
      split at hs
      · rename_i q ci ts hob
        split at hs
        · rename_i hb
          simp only [Bool.and_eq_true, beq_iff_eq] at hb
          have hS' := jk_S_drop (k := jt_np y) hS
          rw [hdr] at hS'
          obtain ⟨v, vs, hst, hv, hsrc, hS2⟩ := jk_S_cons hS'
          obtain ⟨a, fs, rfl, ha, hr, hcell, hV⟩ := jk_ob_ok hob hv hO
          have hcl : jv_cl h a = some (jt_own y) := by
            unfold jv_cl
            rw [hcell, ← hb.2]
          have hlen : jt_np y ≤ st.length := by
            have := congrArg List.length hst
            simp at this
            omega
          simp only [jv_ins, hy, hst]
          rw [if_pos ⟨hb.1, hcl, hlen⟩]
          refine jk_cl_ok hc hs ?_ hL hS2 hO
          rw [List.map_cons, List.map_reverse]
          exact ⟨hv, jk_Vs_rev (jk_S_take hS)⟩
        · cases hs
      · cases hs
    · cases hs
  · cases hs
theorem jk_i_stat (hc : ∀ y, jk_Sp RT pr sg call y) {k : Nat} (hs : jk_ins RT pr sg rt M (.invokestatic k) n pc al as = some su) (hL : jk_L ρ l0 al ls) (hS : jk_S ρ ls as st) (hO : jk_Ok RT ρ h) : jk_Nx RT pr rt ρ l0 h su (jv_ins call M (.invokestatic k) n pc ls st h) := by
  simp only [jk_ins] at hs
  split at hs
  · rename_i y hy
    split at hs
    · rename_i hb
      simp only [Bool.and_eq_true, beq_iff_eq, decide_eq_true_eq] at hb
      simp only [jv_ins, hy]
      rw [if_pos ⟨hb.1, by rw [jk_S_len hS]; exact hb.2⟩]
      refine jk_cl_ok hc hs ?_ hL (jk_S_drop hS) hO
      rw [List.map_reverse]
      exact jk_Vs_rev (jk_S_take hS)
    · cases hs
  · cases hs
theorem jk_i_iret (hs : jk_ins RT pr sg rt M .ireturn n pc al as = some su) (hS : jk_S ρ ls as st) : jk_Nx RT pr rt ρ l0 h su (jv_ins call M .ireturn n pc ls st h) := by
  simp only [jk_ins] at hs
  split at hs
  · rename_i v s ty t hret
    split at hs
    · rename_i hb
      simp only [Bool.and_eq_true, beq_iff_eq] at hb
      obtain ⟨w, ws, rfl, hw, _, hS'⟩ := jk_S_cons hS
      have e := jk_S_nil hS'
      subst e
      obtain ⟨X, x, _, rfl, _⟩ := jk_kd0 hb.1.1.2 hw
      have hfit := jk_fit_ok hb.2 hw
      simp only [jv_ins, hret]
      rw [if_pos ⟨hb.1.1.1, hfit.1, hfit.2⟩]
      exact Or.inr ⟨_, rfl, jk_V_sub hb.1.2 hw⟩
    · cases hs
  · cases hs
theorem jk_i_lret (hs : jk_ins RT pr sg rt M .lreturn n pc al as = some su) (hS : jk_S ρ ls as st) : jk_Nx RT pr rt ρ l0 h su (jv_ins call M .lreturn n pc ls st h) := by
  simp only [jk_ins] at hs
  split at hs
  · rename_i v s ty t hret
    split at hs
    · rename_i hb
      simp only [Bool.and_eq_true, beq_iff_eq] at hb
      obtain ⟨w, ws, rfl, hw, _, hS'⟩ := jk_S_cons hS
      have e := jk_S_nil hS'
      subst e
      obtain ⟨x, _, rfl⟩ := jk_kd1 hb.1.1.2 hw
      have ety : ty = .long := by cases ty <;> first | rfl | cases hb.2
      subst ety
      simp only [jv_ins, hret]
      rw [if_pos hb.1.1.1]
      exact Or.inr ⟨_, rfl, jk_V_sub hb.1.2 hw⟩
    · cases hs
  · cases hs
theorem jk_i_aret (hs : jk_ins RT pr sg rt M .areturn n pc al as = some su) (hS : jk_S ρ ls as st) : jk_Nx RT pr rt ρ l0 h su (jv_ins call M .areturn n pc ls st h) := by
  simp only [jk_ins] at hs
  split at hs
  · rename_i v s ty t hret
    split at hs
    · rename_i hb
      simp only [Bool.and_eq_true, beq_iff_eq] at hb
      obtain ⟨w, ws, rfl, hw, _, hS'⟩ := jk_S_cons hS
      have e := jk_S_nil hS'
      subst e
      obtain ⟨C, rfl⟩ := jk_isO_inv hb.2
      rcases jk_kd2 hb.1.1.2 hw with rfl | ⟨a, rfl⟩
      · simp only [jv_ins, hret]
        rw [if_pos hb.1.1.1]
        exact Or.inr ⟨_, rfl, jk_V_sub hb.1.2 hw⟩
      · simp only [jv_ins, hret]
        rw [if_pos hb.1.1.1]
        exact Or.inr ⟨_, rfl, jk_V_sub hb.1.2 hw⟩
    · cases hs
  · cases hs
theorem jk_i_ret (hs : jk_ins RT pr sg rt M .return_ n pc al as = some su) (hS : jk_S ρ ls as st) : jk_Nx RT pr rt ρ l0 h su (jv_ins call M .return_ n pc ls st h) := by
  simp only [jk_ins] at hs
  split at hs
  · rename_i hret
    split at hs
    · rename_i hb
      have e := jk_S_nil hS
      subst e
      simp only [jv_ins, hret]
      rw [if_pos (eq_of_beq hb)]
      exact Or.inr ⟨_, rfl, True.intro⟩
    · cases hs
  · cases hs
theorem jk_nos {ls : jv_L} {v : Value} : ∀ i, (none : Option Nat) = some i → ls[i]? = some (some v) := fun i e => by cases e
end JK
end
section
/-! a method that the checker takes keeps its types -/
section JK
variable {RT : List jk_D} {pr : Nat → Nat → Bool} {sg : jk_G} {rt : Option jk_T} {ρ : jk_R} {M n pc : Nat} {l0 ls : jv_L} {al : jk_AL} {as : jk_AS} {st : List Value} {h : jv_H} {call : jv_F} {su : List jk_A} {v : Value}
theorem jk_ins_ok (hc : ∀ y, jk_Sp RT pr sg call y) {i : Instr} (hs : jk_ins RT pr sg rt M i n pc al as = some su) (hL : jk_L ρ l0 al ls) (hS : jk_S ρ ls as st) (hO : jk_Ok RT ρ h) : jk_Nx RT pr rt ρ l0 h su (jv_ins call M i n pc ls st h) := by
  cases i
  case aconst_null => exact jk_ps_ok hs rfl jk_nos hL hS hO
  case iconst v => exact jk_ps_ok hs (jk_V_ps rfl) jk_nos hL hS hO
  case bipush v => exact jk_ps_ok hs (jk_V_ps rfl) jk_nos hL hS hO
  case sipush v => exact jk_ps_ok hs (jk_V_ps rfl) jk_nos hL hS hO
  case lconst v => exact jk_ps_ok hs ⟨_, rfl⟩ jk_nos hL hS hO
  case ldc k =>
    simp only [jk_ins] at hs
    split at hs
    · rename_i v e
      simp only [jv_ins, e]
      exact jk_ps_ok hs (jk_V_ps rfl) jk_nos hL hS hO
    · cases hs
  case ldc2_w k =>
    simp only [jk_ins] at hs
    split at hs
    · rename_i v e
      simp only [jv_ins, e]
      exact jk_ps_ok hs ⟨_, rfl⟩ jk_nos hL hS hO
    · cases hs
  case iload k => exact jk_ldi_ok hs hL hS hO
  case iload_n k => exact jk_ldi_ok hs hL hS hO
  case lload k => exact jk_ldl_ok hs hL hS hO
  case lload_n k => exact jk_ldl_ok hs hL hS hO
  case aload k => exact jk_lda_ok hs hL hS hO
  case aload_n k => exact jk_lda_ok hs hL hS hO
  case istore k => exact jk_sti_ok hs hL hS hO
  case istore_n k => exact jk_sti_ok hs hL hS hO
  case lstore k => exact jk_stl_ok hs hL hS hO
  case lstore_n k => exact jk_stl_ok hs hL hS hO
  case astore k => exact jk_sta_ok hs hL hS hO
  case astore_n k => exact jk_sta_ok hs hL hS hO
  case iinc k c => exact jk_i_iinc hs hL hS hO
  case iadd => exact jk_b2_ok (f := jk_fadd) (g := fun x y => x + y) (fun X Y x y t hx hy e => by unfold jk_fadd at e; cases e; exact jk_V_add hx hy) hs hL hS hO
  case isub => exact jk_b2_ok (f := jk_fsub) (g := fun x y => x - y) (fun X Y x y t hx hy e => by unfold jk_fsub at e; cases e; exact jk_V_subt hx hy) hs hL hS hO
  case imul => exact jk_b2_ok (f := jk_fmul) (g := fun x y => x * y) (fun X Y x y t hx hy e => jk_V_mul hx hy e) hs hL hS hO
  case iand => exact jk_b2_ok (f := jk_fand) (g := fun x y => x &&& y) (fun X Y x y t hx hy e => jk_V_and hx hy e) hs hL hS hO
  case ixor => exact jk_b2_ok (f := jk_fany) (g := fun x y => x ^^^ y) (fun X Y x y t hx hy e => by unfold jk_fany at e; cases e; exact jk_V_top) hs hL hS hO
  case ishl => exact jk_b2_ok (f := jk_fany) (g := fun x y => x <<< (y &&& 31)) (fun X Y x y t hx hy e => by unfold jk_fany at e; cases e; exact jk_V_top) hs hL hS hO
  case ishr => exact jk_b2_ok (f := jk_fany) (g := fun x y => x >>> (y &&& 31)) (fun X Y x y t hx hy e => by unfold jk_fany at e; cases e; exact jk_V_top) hs hL hS hO
  case idiv =>
    obtain ⟨X, Y, x, y, as', vs, t, rfl, hx, hy, hf, hp, hS'⟩ := jk_o2_inv hs hS
    have hd := jk_V_div (ρ := ρ) hx hy hf
    simp only [jv_ins]
    rw [if_neg hd.1]
    exact jk_ps_ok hp hd.2 jk_nos hL hS' hO
  case irem =>
    obtain ⟨X, Y, x, y, as', vs, t, rfl, hx, hy, hf, hp, hS'⟩ := jk_o2_inv hs hS
    have hd := jk_V_rem (ρ := ρ) (z := x - x / y * y) hy hf
    simp only [jv_ins]
    rw [if_neg hd.1]
    exact jk_ps_ok hp hd.2 jk_nos hL hS' hO
  case ladd => exact jk_l2_ok hs hL hS hO
  case lsub => exact jk_l2_ok hs hL hS hO
  case lmul => exact jk_l2_ok hs hL hS hO
  case land => exact jk_l2_ok hs hL hS hO
  case lor => exact jk_l2_ok hs hL hS hO
  case lneg =>
    simp only [jk_ins] at hs
    split at hs
    · obtain ⟨v, vs, rfl, hv, _, hS'⟩ := jk_S_cons hS
      obtain ⟨y, rfl⟩ := hv
      exact jk_ps_ok hs ⟨_, rfl⟩ jk_nos hL hS' hO
    · cases hs
  case lshl =>
    simp only [jk_ins] at hs
    split at hs
    · obtain ⟨v, vs, rfl, hv, _, hS'⟩ := jk_S_cons hS
      obtain ⟨w, ws, rfl, hw, _, hS2⟩ := jk_S_cons hS'
      obtain ⟨y, rfl, _⟩ := hv
      obtain ⟨x, rfl⟩ := hw
      exact jk_ps_ok hs ⟨_, rfl⟩ jk_nos hL hS2 hO
    · cases hs
  case lshr =>
    simp only [jk_ins] at hs
    split at hs
    · obtain ⟨v, vs, rfl, hv, _, hS'⟩ := jk_S_cons hS
      obtain ⟨w, ws, rfl, hw, _, hS2⟩ := jk_S_cons hS'
      obtain ⟨y, rfl, _⟩ := hv
      obtain ⟨x, rfl⟩ := hw
      exact jk_ps_ok hs ⟨_, rfl⟩ jk_nos hL hS2 hO
    · cases hs
  case lcmp =>
    simp only [jk_ins] at hs
    split at hs
    · obtain ⟨v, vs, rfl, hv, _, hS'⟩ := jk_S_cons hS
      obtain ⟨w, ws, rfl, hw, _, hS2⟩ := jk_S_cons hS'
      obtain ⟨y, rfl⟩ := hv
      obtain ⟨x, rfl⟩ := hw
      exact jk_ps_ok hs jk_V_top jk_nos hL hS2 hO
    · cases hs
  case i2l =>
    simp only [jk_ins] at hs
    split at hs
    · obtain ⟨v, vs, rfl, hv, _, hS'⟩ := jk_S_cons hS
      obtain ⟨y, rfl, _⟩ := hv
      exact jk_ps_ok hs ⟨_, rfl⟩ jk_nos hL hS' hO
    · cases hs
  case l2i =>
    simp only [jk_ins] at hs
    split at hs
    · obtain ⟨v, vs, rfl, hv, _, hS'⟩ := jk_S_cons hS
      obtain ⟨y, rfl⟩ := hv
      exact jk_ps_ok hs jk_V_top jk_nos hL hS' hO
    · cases hs
  case dup =>
    simp only [jk_ins] at hs
    split at hs
    · split at hs
      · rename_i hw
        obtain ⟨v, vs, rfl, hv, hsrc, hS'⟩ := jk_S_cons hS
        simp only [jv_ins]
        rw [if_pos ((jk_V_w hv).trans (eq_of_beq hw))]
        exact jk_ps_ok hs hv hsrc hL ⟨hv, hsrc, hS'⟩ hO
      · cases hs
    · cases hs
  case dup2 =>
    simp only [jk_ins] at hs
    split at hs
    · split at hs
      · rename_i hw
        simp only [Bool.and_eq_true, beq_iff_eq] at hw
        cases hs
        obtain ⟨v, vs, rfl, hv, hsrc, hS'⟩ := jk_S_cons hS
        obtain ⟨u, us, rfl, hu, hsrc', hS2⟩ := jk_S_cons hS'
        simp only [jv_ins]
        rw [if_pos ⟨(jk_V_w hv).trans hw.1.1, (jk_V_w hu).trans hw.1.2⟩, jk_len hw.2]
        exact jk_one (List.mem_singleton.mpr rfl) hL ⟨hv, hsrc, hu, hsrc', hv, hsrc, hu, hsrc', hS2⟩ hO (jk_Fr_rf h)
      · cases hs
    · cases hs
  case pop =>
    simp only [jk_ins] at hs
    split at hs
    · split at hs
      · rename_i hw
        simp only [Bool.and_eq_true, beq_iff_eq] at hw
        cases hs
        obtain ⟨v, vs, rfl, hv, hsrc, hS'⟩ := jk_S_cons hS
        simp only [jv_ins]
        rw [if_pos ((jk_V_w hv).trans hw.1), jk_len hw.2]
        exact jk_one (List.mem_singleton.mpr rfl) hL hS' hO (jk_Fr_rf h)
      · cases hs
    · cases hs
  case goto off =>
    simp only [jk_ins] at hs
    split at hs
    · rename_i t e
      split at hs
      · rename_i hn
        cases hs
        simp only [jv_ins]
        rw [jk_len (eq_of_beq hn)]
        exact jk_goto e (List.mem_singleton.mpr rfl) hL hS hO
      · cases hs
    · cases hs
  case if_icmp c off =>
    simp only [jk_ins] at hs
    split at hs
    · obtain ⟨v, vs, rfl, hv, hsy, hS'⟩ := jk_S_cons hS
      obtain ⟨w, ws, rfl, hw, hsx, hS2⟩ := jk_S_cons hS'
      obtain ⟨y, rfl, y1, y2⟩ := hv
      obtain ⟨x, rfl, x1, x2⟩ := hw
      exact jk_cj_ok hs ⟨x1, x2⟩ ⟨y1, y2⟩ hsx hsy hL hS2 hO
    · cases hs
  case ifCond c off =>
    simp only [jk_ins] at hs
    split at hs
    · obtain ⟨w, ws, rfl, hw, hsx, hS'⟩ := jk_S_cons hS
      obtain ⟨x, rfl, x1, x2⟩ := hw
      exact jk_cj_ok (y := 0) hs ⟨x1, x2⟩ ⟨by decide, by decide⟩ hsx jk_nos hL hS' hO
    · cases hs
  case if_acmp cd off => exact jk_i_acmp hs hL hS hO
  case ifnull off => exact jk_i_null hs hL hS hO
  case ifnonnull off => exact jk_i_nonnull hs hL hS hO
  case tableswitch d lo hi offs => exact jk_i_table hs hL hS hO
  case lookupswitch d ps => exact jk_i_lookup hs hL hS hO
  case getfield k => exact jk_i_get hs hL hS hO
  case putfield k => exact jk_i_put hs hL hS hO
  case arraylength =>
    simp only [jk_ins] at hs
    split at hs
    · split at hs
      · rename_i q kd lo e he
        obtain ⟨v, vs, rfl, hv, _, hS'⟩ := jk_S_cons hS
        obtain ⟨a, len, f, rfl, ha, hr, hcell, hlo, hle, hf⟩ := jk_ar_ok he hv hO
        have hln : jv_ln h a = some len := by
          unfold jv_ln
          rw [hcell]
        simp only [jv_ins, hln]
        have e1 : (Int32.ofNat len).toInt = (len : Int) := nI_toInt (by omega)
        exact jk_ps_ok hs ⟨_, rfl, by rw [e1]; show (lo : Int) ≤ _; omega, by rw [e1]; show _ ≤ (100000 : Int); omega⟩ jk_nos hL hS' hO
      · cases hs
    · cases hs
  case iaload =>
    obtain ⟨j, a, vs, ty, kd, v, rfl, hp, hty, hscr, hcell, hal, hN⟩ := jk_al_ok (pr := pr) (rt := rt) hs hL hS hO
    have e : ty = .int := by cases ty <;> first | rfl | cases hp
    subst e
    simp only [jv_ins, hal]
    exact hN
  case laload =>
    obtain ⟨j, a, vs, ty, kd, v, rfl, hp, hty, hscr, hcell, hal, hN⟩ := jk_al_ok (pr := pr) (rt := rt) hs hL hS hO
    have e : ty = .long := by cases ty <;> first | rfl | cases hp
    subst e
    simp only [jv_ins, hal]
    exact hN
  case baload =>
    obtain ⟨j, a, vs, ty, kd, v, rfl, hp, hty, hscr, hcell, hal, hN⟩ := jk_al_ok (pr := pr) (rt := rt) hs hL hS hO
    have e : ty = .boolean := by cases ty <;> first | rfl | cases hp
    subst e
    simp only [jv_ins, hal]
    exact hN
  case aaload =>
    obtain ⟨j, a, vs, ty, kd, v, rfl, hp, hty, hscr, hcell, hal, hN⟩ := jk_al_ok (pr := pr) (rt := rt) hs hL hS hO
    obtain ⟨C, rfl⟩ := jk_isO_inv hp
    simp only [jv_ins, jk_kn_ok hcell hscr hty, hal]
    exact hN
  case iastore =>
    obtain ⟨v, j, a, vs, ty, kd, tv, h', rfl, hv, hfit, hp, hty, hscr, hcell, has, hC, hN⟩ := jk_as_ok (rt := rt) hs hL hS hO
    have e : ty = .int := by cases ty <;> first | rfl | cases hp
    subst e
    have hk : jk_kd tv = 0 := by
      rcases tv with a | a | a
      · rfl
      · cases a <;> cases hfit
      · cases hfit
    obtain ⟨X, x, _, rfl, _⟩ := jk_kd0 hk hv
    simp only [jv_ins, has]
    exact hN
  case lastore =>
    obtain ⟨v, j, a, vs, ty, kd, tv, h', rfl, hv, hfit, hp, hty, hscr, hcell, has, hC, hN⟩ := jk_as_ok (rt := rt) hs hL hS hO
    have e : ty = .long := by cases ty <;> first | rfl | cases hp
    subst e
    have hk : jk_kd tv = 1 := by
      rcases tv with a | a | a
      · cases hfit
      · cases a
        · cases hfit
        · rfl
      · cases hfit
    obtain ⟨x, _, rfl⟩ := jk_kd1 hk hv
    simp only [jv_ins, has]
    exact hN
  case bastore =>
    obtain ⟨v, j, a, vs, ty, kd, tv, h', rfl, hv, hfit, hp, hty, hscr, hcell, has, hC, hN⟩ := jk_as_ok (rt := rt) hs hL hS hO
    have e : ty = .boolean := by cases ty <;> first | rfl | cases hp
    subst e
    have hk : jk_kd tv = 0 := by
      rcases tv with a | a | a
      · rfl
      · cases a <;> cases hfit
      · cases hfit
    have hn := (jk_fit_ok hfit hv).1
    obtain ⟨X, x, _, rfl, _⟩ := jk_kd0 hk hv
    simp only [jv_ins, hn, has]
    exact hN
  case aastore =>
    obtain ⟨v, j, a, vs, ty, kd, tv, h', rfl, hv, hfit, hp, hty, hscr, hcell, has, hC, hN⟩ := jk_as_ok (rt := rt) hs hL hS hO
    obtain ⟨C, rfl⟩ := jk_isO_inv hp
    simp only [jv_ins, jk_kn_ok hcell hscr hty, jk_isA_ok (hC C rfl) hv hO, if_true, has]
    exact hN
  case invokevirtual k => exact jk_i_virt hc hs hL hS hO
  case invokestatic k => exact jk_i_stat hc hs hL hS hO
  case ireturn => exact jk_i_iret hs hS
  case lreturn => exact jk_i_lret hs hS
  case areturn => exact jk_i_aret hs hS
  case return_ => exact jk_i_ret hs hS
  all_goals (simp only [jk_ins] at hs; cases hs)
/-! the number that falls -/
def jk_sum (ls : jv_L) : List (Nat × Int) → Int
  | [] => 0
  | q :: t => q.2 * jk_x ls q.1 + jk_sum ls t
def jk_mu (e : jk_N) (ls : jv_L) : Int := e.2.2.1 - jk_sum ls e.2.2.2
theorem jk_0_get {ts : List (Option jk_T)} {k : Nat} {t : jk_T} (e : ts[k]? = some (some t)) : (jk_0 ts)[k]? = some (some (t, some 0)) := by
  unfold jk_0
  rw [List.getElem?_map, e]
  rfl
theorem jk_x_in {k : Nat} {b : Int × Int} {δ : Option Int} (hL : jk_L ρ l0 al ls) (e : al[k]? = some (some (.inl b, δ))) : b.1 ≤ jk_x ls k ∧ jk_x ls k ≤ b.2 := by
  obtain ⟨v, e1, hv, _⟩ := hL.2 k _ δ e
  obtain ⟨x, rfl, h1, h2⟩ := hv
  have : jk_x ls k = x.toInt := by unfold jk_x; rw [e1]
  rw [this]
  exact ⟨h1, h2⟩
theorem jk_tm_ok {ts : List (Option jk_T)} {k : Nat} {a a' x : Int} (h0 : jk_L ρ l0 (jk_0 ts) l0) (hL : al = [] ∧ a' = 0 ∨ jk_L ρ l0 al ls) (e : jk_tm ts al k a a' = some x) : x ≤ a' * jk_x ls k - a * jk_x l0 k := by
  have hmul : ∀ {p q r : Int}, 0 ≤ p → q ≤ r → p * q ≤ p * r := fun hp hq => Int.mul_le_mul_of_nonneg_left hq hp
  unfold jk_tm at e
  split at e
  · rename_i hz
    simp only [Bool.and_eq_true, beq_iff_eq] at hz
    cases e
    rw [hz.1, hz.2]
    simp
  · split at e
    · rename_i b' d hal
      have hL : jk_L ρ l0 al ls := by
        rcases hL with ⟨q, _⟩ | q
        · rw [q] at hal; simp at hal
        · exact q
      have hx := jk_x_in hL hal
      split at e
      · rename_i hz
        have hz := eq_of_beq hz
        cases e
        obtain ⟨v, e1, hv, hd⟩ := hL.2 k _ _ hal
        rw [hd d rfl, ← hz, Int.mul_add]
        omega
      · split at e
        · rename_i b hb
          have hy := jk_x_in h0 (jk_0_get hb)
          split at e
          · rename_i hz
            simp only [Bool.and_eq_true, decide_eq_true_eq] at hz
            cases e
            have := hmul hz.2 hx.1
            have := hmul hz.1 hy.2
            omega
          · cases e
        · split at e
          · rename_i hz
            simp only [Bool.and_eq_true, beq_iff_eq, decide_eq_true_eq] at hz
            cases e
            have := hmul hz.2 hx.1
            rw [hz.1, Int.zero_mul]
            omega
          · cases e
    · rename_i b' hal
      have hL : jk_L ρ l0 al ls := by
        rcases hL with ⟨q, _⟩ | q
        · rw [q] at hal; simp at hal
        · exact q
      have hx := jk_x_in hL hal
      split at e
      · rename_i b hb
        have hy := jk_x_in h0 (jk_0_get hb)
        split at e
        · rename_i hz
          simp only [Bool.and_eq_true, decide_eq_true_eq] at hz
          cases e
          have := hmul hz.2 hx.1
          have := hmul hz.1 hy.2
          omega
        · cases e
      · split at e
        · rename_i hz
          simp only [Bool.and_eq_true, beq_iff_eq, decide_eq_true_eq] at hz
          cases e
          have := hmul hz.2 hx.1
          rw [hz.1, Int.zero_mul]
          omega
        · cases e
    · split at e
      · rename_i b hb
        have hy := jk_x_in h0 (jk_0_get hb)
        split at e
        · rename_i hz
          simp only [Bool.and_eq_true, beq_iff_eq, decide_eq_true_eq] at hz
          cases e
          have := hmul hz.2 hy.2
          rw [hz.1, Int.zero_mul, Int.neg_mul]
          omega
        · cases e
      · cases e
theorem jk_lw_ok {ts : List (Option jk_T)} (h0 : jk_L ρ l0 (jk_0 ts) l0) (hL : jk_L ρ l0 al ls) : ∀ (s t : List (Nat × Int)) (x : Int), jk_lw ts al s t = some x → x ≤ jk_sum ls t - jk_sum l0 s
  | [], [], x, e => by
    cases e
    simp [jk_sum]
  | [], _ :: _, _, e => by simp [jk_lw] at e
  | _ :: _, [], _, e => by simp [jk_lw] at e
  | (k, a) :: s, (k', a') :: t, x, e => by
    unfold jk_lw at e
    split at e
    · rename_i hk
      have hk := eq_of_beq hk
      subst hk
      split at e
      · rename_i p q hp hq
        cases e
        have h1 := jk_tm_ok h0 (Or.inr hL) hp
        have h2 := jk_lw_ok h0 hL s t q hq
        simp only [jk_sum]
        omega
      · cases e
    · cases e
theorem jk_lp_ok {ts : List (Option jk_T)} (h0 : jk_L ρ l0 (jk_0 ts) l0) : ∀ (s : List (Nat × Int)) (x : Int), jk_lw ts [] s (s.map fun q => (q.1, 0)) = some x → x ≤ - jk_sum l0 s
  | [], x, e => by
    cases e
    simp [jk_sum]
  | (k, a) :: s, x, e => by
    rw [List.map_cons] at e
    unfold jk_lw at e
    split at e
    · split at e
      · rename_i p q hp hq
        cases e
        have h1 := jk_tm_ok (ls := l0) h0 (Or.inl ⟨rfl, rfl⟩) hp
        have h2 := jk_lp_ok h0 s q hq
        simp only [jk_sum]
        rw [Int.zero_mul] at h1
        omega
      · cases e
    · cases e
theorem jk_sL_ok : ∀ {al : jk_AL} {ts : List (Option jk_T)}, jk_sL al ts = true → al.length = ts.length ∧ ∀ (k : Nat) (t : jk_T), ts[k]? = some (some t) → ∃ s δ, al[k]? = some (some (s, δ)) ∧ jk_sub s t = true
  | [], [], _ => ⟨rfl, fun k t e => by simp at e⟩
  | [], none :: _, e => by simp [jk_sL] at e
  | [], some _ :: _, e => by simp [jk_sL] at e
  | _ :: _, [], e => by simp [jk_sL] at e
  | a :: al, none :: ts, e => by
    have ih := jk_sL_ok (al := al) (ts := ts) (by simpa [jk_sL] using e)
    refine ⟨by simp [ih.1], fun k t q => ?_⟩
    cases k with
    | zero => simp at q
    | succ k =>
      simp only [List.getElem?_cons_succ] at q ⊢
      exact ih.2 k t q
  | none :: al, some _ :: ts, e => by simp [jk_sL] at e
  | some (s, δ) :: al, some t :: ts, e => by
    simp only [jk_sL, Bool.and_eq_true] at e
    have ih := jk_sL_ok (al := al) (ts := ts) e.2
    refine ⟨by simp [ih.1], fun k t' q => ?_⟩
    cases k with
    | zero =>
      simp only [List.getElem?_cons_zero, Option.some.injEq] at q ⊢
      subst q
      exact ⟨s, δ, rfl, e.1⟩
    | succ k =>
      simp only [List.getElem?_cons_succ] at q ⊢
      exact ih.2 k t' q
theorem jk_new {ts : List (Option jk_T)} (hl : ls.length = ts.length) (hv : ∀ (k : Nat) (t : jk_T), ts[k]? = some (some t) → ∃ v, ls[k]? = some (some v) ∧ jk_V ρ t v) : jk_L ρ ls (jk_0 ts) ls := by
  refine ⟨by rw [hl]; simp [jk_0], fun k t δ e => ?_⟩
  unfold jk_0 at e
  rw [List.getElem?_map] at e
  cases ht : ts[k]? with
  | none => rw [ht] at e; cases e
  | some o =>
    rw [ht] at e
    cases o with
    | none => cases e
    | some t' =>
      cases e
      obtain ⟨v, e1, hv'⟩ := hv k t ht
      exact ⟨v, e1, hv', fun d q => by cases q; simp⟩
theorem jk_anew {ts : List (Option jk_T)} (hL : jk_L ρ l0 al ls) (hs : jk_sL al ts = true) : jk_L ρ ls (jk_0 ts) ls := by
  have hq := jk_sL_ok hs
  refine jk_new (hL.1.trans hq.1) (fun k t e => ?_)
  obtain ⟨s, δ, e1, e2⟩ := hq.2 k t e
  obtain ⟨v, e3, hv, _⟩ := hL.2 k s δ e1
  exact ⟨v, e3, jk_V_sub e2 hv⟩
theorem jk_go_ok (hc : ∀ y, jk_Sp RT pr sg call y) (an : List jk_N) (e : jk_N) (h0 : jk_L ρ l0 (jk_0 e.2.1) l0) (IH : ∀ e' ∈ an, ∀ (ls' : jv_L) (h' : jv_H), jk_L ρ ls' (jk_0 e'.2.1) ls' → jk_Ok RT ρ h' → jk_mu e' ls' < jk_mu e l0 → jk_Gd RT pr rt ρ h' (jv_ev call M e'.1 ls' [] h')) : ∀ (f pc : Nat) (al : jk_AL) (as : jk_AS) (ls : jv_L) (st : List Value) (h : jv_H), jk_go RT pr sg rt M an e f (pc, al, as) = true → jk_L ρ l0 al ls → jk_S ρ ls as st → jk_Ok RT ρ h → jk_Gd RT pr rt ρ h (jv_ev call M pc ls st h)
  | 0, _, _, _, _, _, _, hg, _, _, _ => by simp [jk_go] at hg
  | f + 1, pc, al, as, ls, st, h, hg, hL, hS, hO => by
    unfold jk_go at hg
    split at hg
    · rename_i i n hd
      split at hg
      · rename_i su hsu
        rw [je_of hd]
        rcases jk_ins_ok (call := call) hc hsu hL hS hO with ⟨pc', ls', st', h', al', as', e1, hm, hO', hF, hL', hS'⟩ | ⟨r, e1, hR⟩
        · rw [e1]
          have ha := List.all_eq_true.mp hg _ hm
          split at ha
          · rename_i e' hfind
            simp only [Bool.and_eq_true] at ha
            have hmem := List.mem_of_find?_eq_some hfind
            have hpc : e'.1 = pc' := by simpa using List.find?_some hfind
            have has : as' = [] := List.isEmpty_iff.mp ha.1.1
            subst has
            have hst := jk_S_nil hS'
            subst hst
            have hL2 := jk_anew hL' ha.1.2
            have hfall : jk_mu e' ls' < jk_mu e l0 := by
              have hf := ha.2
              unfold jk_fall at hf
              split at hf
              · rename_i x hx
                have h1 := jk_lw_ok h0 hL' _ _ x hx
                have h2 := of_decide_eq_true hf
                unfold jk_mu
                omega
              · cases hf
            obtain ⟨r, h2, e2, hO2, hF2, hR2⟩ := IH e' hmem ls' h' hL2 hO' hfall
            rw [hpc] at e2
            exact ⟨r, h2, e2, hO2, jk_Fr_tr hF hF2, hR2⟩
          · obtain ⟨r, h2, e2, hO2, hF2, hR2⟩ := jk_go_ok hc an e h0 IH f pc' al' as' ls' st' h' ha hL' hS' hO'
            exact ⟨r, h2, e2, hO2, jk_Fr_tr hF hF2, hR2⟩
        · rw [e1]
          exact ⟨r, h, rfl, hO, jk_Fr_rf h, hR⟩
      · cases hg
    · cases hg
theorem jk_an_ok (hc : ∀ y, jk_Sp RT pr sg call y) (an : List jk_N) (f : Nat) (hall : ∀ e ∈ an, jk_pos e = true ∧ jk_go RT pr sg rt M an e f (e.1, jk_0 e.2.1, []) = true) : ∀ (N : Nat) (e : jk_N), e ∈ an → ∀ (ls : jv_L) (h : jv_H), jk_L ρ ls (jk_0 e.2.1) ls → jk_Ok RT ρ h → jk_mu e ls < (N : Int) → jk_Gd RT pr rt ρ h (jv_ev call M e.1 ls [] h)
  | 0, e, he, ls, h, hL, hO, hN => by
    exfalso
    have hp := (hall e he).1
    unfold jk_pos at hp
    split at hp
    · rename_i x hx
      have h1 := jk_lp_ok hL _ x hx
      have h2 := of_decide_eq_true hp
      unfold jk_mu at hN
      omega
    · cases hp
  | N + 1, e, he, ls, h, hL, hO, hN => jk_go_ok hc an e hL (fun e' he' ls' h' hL' hO' hlt => jk_an_ok hc an f hall N e' he' ls' h' hL' hO' (by omega)) f e.1 _ [] ls [] h (hall e he).2 hL True.intro hO
/-! a method's entry -/
def jk_en : List jk_T → Nat → List (Option jk_T)
  | [], ml => List.replicate ml none
  | t :: ts, ml => if jk_w t == 2 then some t :: none :: jk_en ts (ml - 2) else some t :: jk_en ts (ml - 1)
def jk_wd : List jk_T → Nat
  | [] => 0
  | t :: ts => jk_w t + jk_wd ts
theorem jk_wd_c {t : jk_T} {ts : List jk_T} : jk_wd (t :: ts) = jk_w t + jk_wd ts := rfl
theorem jk_sl_len : ∀ {ts : List jk_T} {vs : List Value}, jk_Vs ρ ts vs → (jv_sl vs).length = jk_wd ts
  | [], [], _ => rfl
  | [], _ :: _, hv => hv.elim
  | _ :: _, [], hv => hv.elim
  | t :: ts, v :: vs, hv => by
    have ih := jk_sl_len hv.2
    have hw := jk_V_w hv.1
    unfold jv_sl at ih ⊢
    rw [List.flatMap_cons, List.length_append, ih]
    rw [jk_wd_c, ← hw]
    split
    · rename_i q; rw [q]; rfl
    · rename_i q
      have : v.category = 1 ∨ v.category = 2 := by cases v <;> first | exact Or.inl rfl | exact Or.inr rfl
      rcases this with q' | q'
      · rw [q']; rfl
      · exact absurd q' q
def jk_LL (ρ : jk_R) : List (Option jk_T) → jv_L → Prop
  | [], [] => True
  | none :: ts, _ :: ls => jk_LL ρ ts ls
  | some t :: ts, o :: ls => (∃ v, o = some v ∧ jk_V ρ t v) ∧ jk_LL ρ ts ls
  | _, _ => False
theorem jk_LL_rep : ∀ n, jk_LL ρ (List.replicate n none) (List.replicate n none)
  | 0 => True.intro
  | n + 1 => jk_LL_rep n
theorem jk_LL_get : ∀ {ts : List (Option jk_T)} {ls : jv_L}, jk_LL ρ ts ls → ls.length = ts.length ∧ ∀ (k : Nat) (t : jk_T), ts[k]? = some (some t) → ∃ v, ls[k]? = some (some v) ∧ jk_V ρ t v
  | [], [], _ => ⟨rfl, fun k t e => by simp at e⟩
  | [], _ :: _, hl => hl.elim
  | none :: _, [], hl => hl.elim
  | some _ :: _, [], hl => hl.elim
  | none :: ts, o :: ls, hl => by
    have ih := jk_LL_get (ts := ts) (ls := ls) hl
    refine ⟨by simp [ih.1], fun k t e => ?_⟩
    cases k with
    | zero => simp at e
    | succ k =>
      simp only [List.getElem?_cons_succ] at e ⊢
      exact ih.2 k t e
  | some t :: ts, o :: ls, hl => by
    have ih := jk_LL_get (ts := ts) (ls := ls) hl.2
    refine ⟨by simp [ih.1], fun k t' e => ?_⟩
    cases k with
    | zero =>
      simp only [List.getElem?_cons_zero, Option.some.injEq] at e ⊢
      subst e
      obtain ⟨v, e1, hv⟩ := hl.1
      exact ⟨v, e1, hv⟩
    | succ k =>
      simp only [List.getElem?_cons_succ] at e ⊢
      exact ih.2 k t' e
theorem jk_LL_ent : ∀ {ts : List jk_T} {vs : List Value} (ml : Nat), jk_Vs ρ ts vs → jk_wd ts ≤ ml → jk_LL ρ (jk_en ts ml) (jv_sl vs ++ List.replicate (ml - jk_wd ts) none)
  | [], [], ml, _, _ => jk_LL_rep ml
  | [], _ :: _, _, hv, _ => hv.elim
  | _ :: _, [], _, hv, _ => hv.elim
  | t :: ts, v :: vs, ml, hv, hw => by
    have hc := jk_V_w hv.1
    rw [jk_wd_c] at hw
    have e1 : jv_sl (v :: vs) = (if v.category = 2 then [some v, none] else [some v]) ++ jv_sl vs := List.flatMap_cons
    unfold jk_en
    rw [e1]
    by_cases h2 : jk_w t = 2
    · rw [if_pos (beq_iff_eq.mpr h2), if_pos (hc.trans h2)]
      have ih := jk_LL_ent (ml - 2) hv.2 (by omega)
      rw [show ml - jk_wd (t :: ts) = ml - 2 - jk_wd ts by rw [jk_wd_c]; omega]
      exact ⟨⟨v, rfl, hv.1⟩, ih⟩
    · have h1 : jk_w t = 1 := by
        rcases t with a | a | a
        · rfl
        · cases a
          · rfl
          · exact absurd rfl h2
        · rfl
      rw [if_neg (fun q => h2 (eq_of_beq q)), if_neg (by rw [hc]; exact h2)]
      have ih := jk_LL_ent (ml - 1) hv.2 (by omega)
      rw [show ml - jk_wd (t :: ts) = ml - 1 - jk_wd ts by rw [jk_wd_c]; omega]
      exact ⟨⟨v, rfl, hv.1⟩, ih⟩
/-- the whole check of a method -/
def jk_chk (RT : List jk_D) (pr : Nat → Nat → Bool) (sg : jk_G) (ats : List jk_T) (rt : Option jk_T) (M f : Nat) (c : Int) (cs : List (Nat × Int)) (an : List jk_N) : Bool :=
  decide (jk_wd ats ≤ jt_maxL M) && ((0, jk_en ats (jt_maxL M), c, cs) :: an).all fun e => jk_pos e && jk_go RT pr sg rt M ((0, jk_en ats (jt_maxL M), c, cs) :: an) e f (e.1, jk_0 e.2.1, [])
theorem jk_meth {d f : Nat} {c : Int} {cs : List (Nat × Int)} {an : List jk_N} {ats : List jk_T} {sg' : jk_G} (hM : sg M = some (ats, rt)) (hk : jk_chk RT pr sg' ats rt M f c cs an = true) (hc : ∀ y, jk_Sp RT pr sg' (jv_run d) y) : jk_Sp RT pr sg (jv_run (d + 1)) M := by
  intro ats' rt' hsg ρ h as hO hV
  rw [hM] at hsg
  cases hsg
  unfold jk_chk at hk
  rw [Bool.and_eq_true] at hk
  have hw := of_decide_eq_true hk.1
  have hsl := jk_sl_len hV
  rw [jv_run_eq (by rw [hsl]; exact hw) rfl]
  have hall : ∀ e ∈ (0, jk_en ats (jt_maxL M), c, cs) :: an, jk_pos e = true ∧ jk_go RT pr sg' rt M ((0, jk_en ats (jt_maxL M), c, cs) :: an) e f (e.1, jk_0 e.2.1, []) = true := fun e he => by
    have := List.all_eq_true.mp hk.2 e he
    rwa [Bool.and_eq_true] at this
  have hLL := jk_LL_ent (jt_maxL M) hV hw
  have hent : jv_ent M as = jv_sl as ++ List.replicate (jt_maxL M - jk_wd ats) none := by
    unfold jv_ent
    rw [hsl]
  rw [← hent] at hLL
  have hg := jk_LL_get hLL
  exact jk_an_ok hc _ f hall ((jk_mu (0, jk_en ats (jt_maxL M), c, cs) (jv_ent M as)).toNat + 1) _ List.mem_cons_self (jv_ent M as) h (jk_new hg.1 hg.2) hO (by omega)
/-- a method that is checked without calls, or with these callees -/
def jk_sgl (sg : jk_G) (cs : List Nat) : jk_G := fun y => if cs.contains y then sg y else none
theorem jk_sgl_ok {cs : List Nat} (hc : ∀ y ∈ cs, jk_Sp RT pr sg call y) : ∀ y, jk_Sp RT pr (jk_sgl sg cs) call y := by
  intro y ats rt e
  unfold jk_sgl at e
  split at e
  · rename_i hy
    exact hc y (List.contains_iff_mem.mp hy) ats rt e
  · cases e
end JK
end
section
/-! roles, what is kept, signatures (written by wip/gen/check.py) -/
def jc_RT : List jk_D := [.inl (6, [.inr (.inr (1, true)), .inr (.inr (2, true)), .inr (.inr (3, true)), .inr (.inr (11, true)), .inl (0, 12), jk_top, jk_top, jk_top, jk_top, jk_top, jk_top, jk_top]),
  .inl (5, [.inr (.inr (6, true)), .inr (.inr (7, true)), .inl (0, 1000), .inl (0, 2000)]),
  .inl (2, [.inr (.inr (8, true)), .inl (3, 17), jk_top, jk_top]),
  .inl (3, [.inr (.inr (9, true)), .inr (.inr (10, true)), .inl (0, 17), .inr (.inr (5, false)), jk_top, .inl (0, 1), jk_top, jk_top]),
  .inl (4, [jk_top, jk_top, jk_lg, .inr (.inr (12, true)), jk_top, .inr (.inr (13, true)), .inr (.inr (14, true)), .inr (.inr (15, true)), jk_top, .inr (.inr (16, true)), jk_top, jk_top, jk_top, .inl (0, 1), .inr (.inr (5, false)), .inl (0, 1)]),
  .inl (1, [.inr (.inr (4, true)), jk_top, jk_top, jk_top, .inl (0, 1), .inl (0, 1), jk_top, jk_top, jk_top, jk_top]),
  .inr (1, 1000, jk_lg),
  .inr (0, 2000, jk_top),
  .inr (3, 17, .inr (.inr (5, false))),
  .inr (3, 64, .inr (.inr (5, false))),
  .inr (3, 17, .inr (.inr (5, false))),
  .inr (4, 12, .inr (.inr (4, false))),
  .inr (0, 128, jk_top),
  .inr (1, 1024, jk_lg),
  .inr (3, 64, .inr (.inr (5, false))),
  .inr (0, 0, jk_top),
  .inr (0, 400, jk_top)]
def jc_pr (q k : Nat) : Bool := [(0, 0), (0, 1), (0, 2), (0, 3), (0, 4), (0, 5), (0, 6), (1, 0), (1, 1), (1, 2), (1, 3), (2, 0), (2, 1), (3, 0), (3, 1), (4, 0), (4, 1), (4, 3), (4, 5), (4, 6), (4, 7), (4, 9), (4, 12), (4, 13), (5, 0), (5, 1), (11, 0), (14, 0)].contains (q, k)
def jc_sgT : List (Nat × List jk_T × Option jk_T) := [(61, [.inr (.inr (5, true)), jk_top], none),
  (62, [.inr (.inr (5, true)), jk_top], none),
  (63, [.inr (.inr (5, true))], some (.inl (0, 1))),
  (64, [.inr (.inr (5, true))], some jk_top),
  (65, [.inr (.inr (5, true)), .inr (.inr (5, true))], some (.inl (0, 1))),
  (68, [.inr (.inr (2, true))], some jk_top),
  (69, [.inr (.inr (2, true)), jk_top], some (.inr (.inr (5, false)))),
  (70, [.inr (.inr (2, true))], some jk_top),
  (71, [.inr (.inr (2, true)), .inr (.inr (5, true)), jk_top], none),
  (72, [.inr (.inr (2, true)), .inr (.inr (5, true))], none),
  (73, [.inr (.inr (2, true))], some (.inr (.inr (5, false)))),
  (74, [.inr (.inr (2, true)), .inr (.inr (5, false))], none),
  (75, [.inr (.inr (2, true))], none),
  (77, [.inr (.inr (3, true)), jk_top], some (.inr (.inr (5, false)))),
  (78, [.inr (.inr (3, true)), .inr (.inr (5, true))], none),
  (79, [.inr (.inr (3, true)), .inr (.inr (5, true)), jk_top], none),
  (80, [.inr (.inr (3, true)), .inr (.inr (5, true))], none),
  (81, [.inr (.inr (3, true)), .inr (.inr (5, true))], none),
  (82, [.inr (.inr (3, true)), .inr (.inr (5, true))], none),
  (83, [.inr (.inr (3, true)), jk_top], none),
  (84, [.inr (.inr (3, true)), jk_top], none),
  (85, [.inr (.inr (3, true)), jk_top], some (.inr (.inr (5, false)))),
  (86, [.inr (.inr (3, true)), jk_top], some jk_top),
  (87, [jk_top, jk_top], some jk_top),
  (89, [jk_lg], some jk_lg),
  (90, [jk_top], some jk_top),
  (91, [jk_top], some (.inl (0, 1))),
  (92, [.inr (.inr (4, true)), .inl (0, 1)], some (.inl (0, 1))),
  (93, [.inr (.inr (4, true))], none),
  (94, [.inr (.inr (4, true)), .inr (.inr (5, true))], some (.inl (0, 1))),
  (95, [.inr (.inr (4, true)), jk_top], some (.inr (.inr (5, false)))),
  (97, [.inr (.inr (4, true)), jk_top], some jk_lg),
  (98, [.inr (.inr (4, true)), jk_top, jk_lg], none),
  (99, [.inr (.inr (4, true)), jk_top], some jk_top),
  (100, [.inr (.inr (4, true)), jk_top, jk_top], none),
  (101, [.inr (.inr (4, true)), jk_top], some jk_top),
  (102, [.inr (.inr (4, true)), jk_lg], some jk_top),
  (103, [.inr (.inr (4, true)), jk_top, jk_top, jk_top], some jk_top),
  (104, [.inr (.inr (4, true)), jk_top, jk_top, jk_top], none),
  (105, [.inr (.inr (4, true)), jk_top, jk_top], none),
  (106, [.inr (.inr (4, true)), jk_top, jk_top], some (.inl (0, 1))),
  (107, [.inr (.inr (4, true)), jk_top, jk_top], some jk_top),
  (108, [.inr (.inr (4, true)), jk_top], some jk_top),
  (109, [.inr (.inr (4, true))], some jk_top),
  (110, [.inr (.inr (4, true))], some jk_top),
  (111, [.inr (.inr (4, true))], some jk_top),
  (112, [.inr (.inr (4, true))], some jk_lg),
  (113, [.inr (.inr (4, true)), jk_lg, .inl (0, 1)], some jk_top),
  (114, [.inr (.inr (4, true))], some jk_top),
  (115, [.inr (.inr (4, true)), jk_lg], some jk_lg),
  (117, [.inr (.inr (1, true)), jk_top], some (.inl (0, 1))),
  (118, [.inr (.inr (1, true)), jk_top], some (.inl (0, 1))),
  (128, [.inr (.inr (0, true)), jk_top], some jk_top),
  (129, [.inr (.inr (0, true)), jk_top], some jk_top),
  (130, [.inr (.inr (0, true)), jk_top], some jk_top),
  (131, [.inr (.inr (0, true)), jk_top, jk_top], some jk_top),
  (132, [.inr (.inr (0, true)), jk_top, jk_top], some jk_lg),
  (133, [.inr (.inr (0, true)), jk_top, jk_top], some jk_lg),
  (134, [.inr (.inr (0, true))], some jk_top),
  (135, [.inr (.inr (0, true)), jk_top], some jk_top),
  (136, [.inr (.inr (0, true)), jk_top, jk_top], some jk_top),
  (137, [.inr (.inr (0, true)), jk_top], some jk_top),
  (138, [.inr (.inr (0, true))], some jk_lg),
  (139, [.inr (.inr (0, true)), jk_top], some (.inr (.inr (4, false)))),
  (143, [.inr (.inr (0, true))], none),
  (146, [jk_top], some (.inl (0, 1))),
  (149, [.inr (.inr (0, true)), .inr (.inr (4, true)), .inr (.inr (5, true))], some jk_top),
  (153, [jk_top, .inl (1, 2147483647)], some jk_top),
  (154, [jk_top, .inl (1, 2147483647)], some jk_top),
  (155, [jk_lg], some jk_lg),
  (156, [jk_top, jk_top], some jk_top),
  (157, [jk_top, jk_top], some jk_top),
  (158, [jk_lg], some jk_top),
  (159, [jk_lg], some jk_top),
  (160, [jk_lg], some jk_top),
  (161, [jk_top], some (.inl (0, 1))),
  (162, [jk_top], some (.inl (0, 1)))]
def jc_sg (y : Nat) : Option (List jk_T × Option jk_T) := (jc_sgT.find? fun q => q.1 == y).map fun q => q.2
end
section
/-! methods of the class that the checker takes -/
theorem jc_s61 (d : Nat) : jk_Sp jc_RT jc_pr jc_sg (jv_run (d + 1)) 61 := jk_meth (d := d) (f := 21) (c := 0) (cs := []) (an := []) (sg' := jk_sgl jc_sg []) rfl (by decide +kernel) (jk_sgl_ok (List.forall_mem_nil _))
theorem jc_s62 (d : Nat) : jk_Sp jc_RT jc_pr jc_sg (jv_run (d + 1)) 62 := jk_meth (d := d) (f := 19) (c := 0) (cs := []) (an := []) (sg' := jk_sgl jc_sg []) rfl (by decide +kernel) (jk_sgl_ok (List.forall_mem_nil _))
theorem jc_s64 (d : Nat) : jk_Sp jc_RT jc_pr jc_sg (jv_run (d + 1)) 64 := jk_meth (d := d) (f := 17) (c := 0) (cs := []) (an := []) (sg' := jk_sgl jc_sg []) rfl (by decide +kernel) (jk_sgl_ok (List.forall_mem_nil _))
theorem jc_s68 (d : Nat) : jk_Sp jc_RT jc_pr jc_sg (jv_run (d + 1)) 68 := jk_meth (d := d) (f := 11) (c := 0) (cs := []) (an := []) (sg' := jk_sgl jc_sg []) rfl (by decide +kernel) (jk_sgl_ok (List.forall_mem_nil _))
theorem jc_s69 (d : Nat) : jk_Sp jc_RT jc_pr jc_sg (jv_run (d + 1)) 69 := jk_meth (d := d) (f := 19) (c := 0) (cs := []) (an := []) (sg' := jk_sgl jc_sg []) rfl (by decide +kernel) (jk_sgl_ok (List.forall_mem_nil _))
theorem jc_s71 (d : Nat) : jk_Sp jc_RT jc_pr jc_sg (jv_run (d + 1)) 71 := jk_meth (d := d) (f := 24) (c := 0) (cs := []) (an := []) (sg' := jk_sgl jc_sg []) rfl (by decide +kernel) (jk_sgl_ok (List.forall_mem_nil _))
theorem jc_s72 (d : Nat) : jk_Sp jc_RT jc_pr jc_sg (jv_run (d + 1)) 72 := jk_meth (d := d) (f := 27) (c := 0) (cs := []) (an := []) (sg' := jk_sgl jc_sg []) rfl (by decide +kernel) (jk_sgl_ok (List.forall_mem_nil _))
theorem jc_s74 (d : Nat) : jk_Sp jc_RT jc_pr jc_sg (jv_run (d + 1)) 74 := jk_meth (d := d) (f := 11) (c := 0) (cs := []) (an := []) (sg' := jk_sgl jc_sg []) rfl (by decide +kernel) (jk_sgl_ok (List.forall_mem_nil _))
theorem jc_s77 (d : Nat) : jk_Sp jc_RT jc_pr jc_sg (jv_run (d + 1)) 77 := jk_meth (d := d) (f := 15) (c := 0) (cs := []) (an := []) (sg' := jk_sgl jc_sg []) rfl (by decide +kernel) (jk_sgl_ok (List.forall_mem_nil _))
theorem jc_s79 (d : Nat) : jk_Sp jc_RT jc_pr jc_sg (jv_run (d + 1)) 79 := jk_meth (d := d) (f := 18) (c := 0) (cs := []) (an := []) (sg' := jk_sgl jc_sg []) rfl (by decide +kernel) (jk_sgl_ok (List.forall_mem_nil _))
theorem jc_s80 (d : Nat) : jk_Sp jc_RT jc_pr jc_sg (jv_run (d + 1)) 80 := jk_meth (d := d) (f := 21) (c := 0) (cs := []) (an := []) (sg' := jk_sgl jc_sg []) rfl (by decide +kernel) (jk_sgl_ok (List.forall_mem_nil _))
theorem jc_s85 (d : Nat) : jk_Sp jc_RT jc_pr jc_sg (jv_run (d + 1)) 85 := jk_meth (d := d) (f := 28) (c := 0) (cs := []) (an := []) (sg' := jk_sgl jc_sg []) rfl (by decide +kernel) (jk_sgl_ok (List.forall_mem_nil _))
theorem jc_s89 (d : Nat) : jk_Sp jc_RT jc_pr jc_sg (jv_run (d + 1)) 89 := jk_meth (d := d) (f := 10) (c := 0) (cs := []) (an := []) (sg' := jk_sgl jc_sg []) rfl (by decide +kernel) (jk_sgl_ok (List.forall_mem_nil _))
theorem jc_s90 (d : Nat) : jk_Sp jc_RT jc_pr jc_sg (jv_run (d + 1)) 90 := jk_meth (d := d) (f := 10) (c := 0) (cs := []) (an := []) (sg' := jk_sgl jc_sg []) rfl (by decide +kernel) (jk_sgl_ok (List.forall_mem_nil _))
theorem jc_s91 (d : Nat) : jk_Sp jc_RT jc_pr jc_sg (jv_run (d + 1)) 91 := jk_meth (d := d) (f := 12) (c := 0) (cs := []) (an := []) (sg' := jk_sgl jc_sg []) rfl (by decide +kernel) (jk_sgl_ok (List.forall_mem_nil _))
theorem jc_s93 (d : Nat) : jk_Sp jc_RT jc_pr jc_sg (jv_run (d + 1)) 93 := jk_meth (d := d) (f := 11) (c := 0) (cs := []) (an := []) (sg' := jk_sgl jc_sg []) rfl (by decide +kernel) (jk_sgl_ok (List.forall_mem_nil _))
theorem jc_s99 (d : Nat) : jk_Sp jc_RT jc_pr jc_sg (jv_run (d + 1)) 99 := jk_meth (d := d) (f := 15) (c := 0) (cs := []) (an := []) (sg' := jk_sgl jc_sg []) rfl (by decide +kernel) (jk_sgl_ok (List.forall_mem_nil _))
theorem jc_s101 (d : Nat) : jk_Sp jc_RT jc_pr jc_sg (jv_run (d + 1)) 101 := jk_meth (d := d) (f := 19) (c := 0) (cs := []) (an := []) (sg' := jk_sgl jc_sg []) rfl (by decide +kernel) (jk_sgl_ok (List.forall_mem_nil _))
theorem jc_s115 (d : Nat) : jk_Sp jc_RT jc_pr jc_sg (jv_run (d + 1)) 115 := jk_meth (d := d) (f := 30) (c := 1426) (cs := [(5, 0)]) (an := [(39, [some (.inr (.inr (4, true))), some jk_lg, none, some jk_lg, none, some (.inl (0, 400))], 1425, [(5, 1)]), (91, [some (.inr (.inr (4, true))), some jk_lg, none, some jk_lg, none, some (.inl (0, 1024))], 1024, [(5, 1)])]) (sg' := jk_sgl jc_sg []) rfl (by decide +kernel) (jk_sgl_ok (List.forall_mem_nil _))
theorem jc_s117 (d : Nat) : jk_Sp jc_RT jc_pr jc_sg (jv_run (d + 1)) 117 := jk_meth (d := d) (f := 13) (c := 0) (cs := []) (an := []) (sg' := jk_sgl jc_sg []) rfl (by decide +kernel) (jk_sgl_ok (List.forall_mem_nil _))
theorem jc_s118 (d : Nat) : jk_Sp jc_RT jc_pr jc_sg (jv_run (d + 1)) 118 := jk_meth (d := d) (f := 13) (c := 0) (cs := []) (an := []) (sg' := jk_sgl jc_sg []) rfl (by decide +kernel) (jk_sgl_ok (List.forall_mem_nil _))
theorem jc_s134 (d : Nat) : jk_Sp jc_RT jc_pr jc_sg (jv_run (d + 1)) 134 := jk_meth (d := d) (f := 7) (c := 0) (cs := []) (an := []) (sg' := jk_sgl jc_sg []) rfl (by decide +kernel) (jk_sgl_ok (List.forall_mem_nil _))
theorem jc_s139 (d : Nat) : jk_Sp jc_RT jc_pr jc_sg (jv_run (d + 1)) 139 := jk_meth (d := d) (f := 19) (c := 0) (cs := []) (an := []) (sg' := jk_sgl jc_sg []) rfl (by decide +kernel) (jk_sgl_ok (List.forall_mem_nil _))
theorem jc_s146 (d : Nat) : jk_Sp jc_RT jc_pr jc_sg (jv_run (d + 1)) 146 := jk_meth (d := d) (f := 12) (c := 0) (cs := []) (an := []) (sg' := jk_sgl jc_sg []) rfl (by decide +kernel) (jk_sgl_ok (List.forall_mem_nil _))
theorem jc_s149 (d : Nat) : jk_Sp jc_RT jc_pr jc_sg (jv_run (d + 1)) 149 := jk_meth (d := d) (f := 12) (c := 0) (cs := []) (an := []) (sg' := jk_sgl jc_sg []) rfl (by decide +kernel) (jk_sgl_ok (List.forall_mem_nil _))
theorem jc_s153 (d : Nat) : jk_Sp jc_RT jc_pr jc_sg (jv_run (d + 1)) 153 := jk_meth (d := d) (f := 21) (c := 0) (cs := []) (an := []) (sg' := jk_sgl jc_sg []) rfl (by decide +kernel) (jk_sgl_ok (List.forall_mem_nil _))
theorem jc_s154 (d : Nat) : jk_Sp jc_RT jc_pr jc_sg (jv_run (d + 1)) 154 := jk_meth (d := d) (f := 18) (c := 0) (cs := []) (an := []) (sg' := jk_sgl jc_sg []) rfl (by decide +kernel) (jk_sgl_ok (List.forall_mem_nil _))
theorem jc_s155 (d : Nat) : jk_Sp jc_RT jc_pr jc_sg (jv_run (d + 1)) 155 := jk_meth (d := d) (f := 12) (c := 0) (cs := []) (an := []) (sg' := jk_sgl jc_sg []) rfl (by decide +kernel) (jk_sgl_ok (List.forall_mem_nil _))
theorem jc_s156 (d : Nat) : jk_Sp jc_RT jc_pr jc_sg (jv_run (d + 1)) 156 := jk_meth (d := d) (f := 10) (c := 0) (cs := []) (an := []) (sg' := jk_sgl jc_sg []) rfl (by decide +kernel) (jk_sgl_ok (List.forall_mem_nil _))
theorem jc_s157 (d : Nat) : jk_Sp jc_RT jc_pr jc_sg (jv_run (d + 1)) 157 := jk_meth (d := d) (f := 10) (c := 0) (cs := []) (an := []) (sg' := jk_sgl jc_sg []) rfl (by decide +kernel) (jk_sgl_ok (List.forall_mem_nil _))
theorem jc_s158 (d : Nat) : jk_Sp jc_RT jc_pr jc_sg (jv_run (d + 1)) 158 := jk_meth (d := d) (f := 11) (c := 0) (cs := []) (an := []) (sg' := jk_sgl jc_sg []) rfl (by decide +kernel) (jk_sgl_ok (List.forall_mem_nil _))
theorem jc_s159 (d : Nat) : jk_Sp jc_RT jc_pr jc_sg (jv_run (d + 1)) 159 := jk_meth (d := d) (f := 11) (c := 0) (cs := []) (an := []) (sg' := jk_sgl jc_sg []) rfl (by decide +kernel) (jk_sgl_ok (List.forall_mem_nil _))
theorem jc_s160 (d : Nat) : jk_Sp jc_RT jc_pr jc_sg (jv_run (d + 1)) 160 := jk_meth (d := d) (f := 11) (c := 0) (cs := []) (an := []) (sg' := jk_sgl jc_sg []) rfl (by decide +kernel) (jk_sgl_ok (List.forall_mem_nil _))
theorem jc_s161 (d : Nat) : jk_Sp jc_RT jc_pr jc_sg (jv_run (d + 1)) 161 := jk_meth (d := d) (f := 31) (c := 0) (cs := []) (an := []) (sg' := jk_sgl jc_sg []) rfl (by decide +kernel) (jk_sgl_ok (List.forall_mem_nil _))
theorem jc_s162 (d : Nat) : jk_Sp jc_RT jc_pr jc_sg (jv_run (d + 1)) 162 := jk_meth (d := d) (f := 25) (c := 0) (cs := []) (an := []) (sg' := jk_sgl jc_sg []) rfl (by decide +kernel) (jk_sgl_ok (List.forall_mem_nil _))
theorem jc_s65 (d : Nat) : jk_Sp jc_RT jc_pr jc_sg (jv_run (d + 2)) 65 := jk_meth (d := d + 1) (f := 29) (c := 0) (cs := []) (an := []) (sg' := jk_sgl jc_sg [64]) rfl (by decide +kernel) (jk_sgl_ok (List.forall_mem_cons.mpr ⟨jc_s64 d, List.forall_mem_nil _⟩))
theorem jc_s70 (d : Nat) : jk_Sp jc_RT jc_pr jc_sg (jv_run (d + 2)) 70 := jk_meth (d := d + 1) (f := 17) (c := 18) (cs := [(1, 0)]) (an := [(2, [some (.inr (.inr (2, true))), some (.inl (0, 17))], 17, [(1, 1)])]) (sg' := jk_sgl jc_sg [69]) rfl (by decide +kernel) (jk_sgl_ok (List.forall_mem_cons.mpr ⟨jc_s69 d, List.forall_mem_nil _⟩))
theorem jc_s75 (d : Nat) : jk_Sp jc_RT jc_pr jc_sg (jv_run (d + 2)) 75 := jk_meth (d := d + 1) (f := 23) (c := 18) (cs := [(1, 0)]) (an := [(2, [some (.inr (.inr (2, true))), some (.inl (0, 17)), none], 17, [(1, 1)])]) (sg' := jk_sgl jc_sg [62, 69]) rfl (by decide +kernel) (jk_sgl_ok (List.forall_mem_cons.mpr ⟨jc_s62 d, List.forall_mem_cons.mpr ⟨jc_s69 d, List.forall_mem_nil _⟩⟩))
theorem jc_s78 (d : Nat) : jk_Sp jc_RT jc_pr jc_sg (jv_run (d + 2)) 78 := jk_meth (d := d + 1) (f := 17) (c := 65) (cs := [(2, 0)]) (an := [(2, [some (.inr (.inr (3, true))), some (.inr (.inr (5, true))), some (.inl (0, 64))], 64, [(2, 1)])]) (sg' := jk_sgl jc_sg [79]) rfl (by decide +kernel) (jk_sgl_ok (List.forall_mem_cons.mpr ⟨jc_s79 d, List.forall_mem_nil _⟩))
theorem jc_s87 (d : Nat) : jk_Sp jc_RT jc_pr jc_sg (jv_run (d + 2)) 87 := jk_meth (d := d + 1) (f := 14) (c := 0) (cs := []) (an := []) (sg' := jk_sgl jc_sg [154]) rfl (by decide +kernel) (jk_sgl_ok (List.forall_mem_cons.mpr ⟨jc_s154 d, List.forall_mem_nil _⟩))
theorem jc_s94 (d : Nat) : jk_Sp jc_RT jc_pr jc_sg (jv_run (d + 2)) 94 := jk_meth (d := d + 1) (f := 21) (c := 0) (cs := []) (an := []) (sg' := jk_sgl jc_sg [153]) rfl (by decide +kernel) (jk_sgl_ok (List.forall_mem_cons.mpr ⟨jc_s153 d, List.forall_mem_nil _⟩))
theorem jc_s100 (d : Nat) : jk_Sp jc_RT jc_pr jc_sg (jv_run (d + 2)) 100 := jk_meth (d := d + 1) (f := 16) (c := 0) (cs := []) (an := []) (sg' := jk_sgl jc_sg [90]) rfl (by decide +kernel) (jk_sgl_ok (List.forall_mem_cons.mpr ⟨jc_s90 d, List.forall_mem_nil _⟩))
theorem jc_s102 (d : Nat) : jk_Sp jc_RT jc_pr jc_sg (jv_run (d + 2)) 102 := jk_meth (d := d + 1) (f := 26) (c := 0) (cs := []) (an := []) (sg' := jk_sgl jc_sg [90, 99, 158, 159, 160]) rfl (by decide +kernel) (jk_sgl_ok (List.forall_mem_cons.mpr ⟨jc_s90 d, List.forall_mem_cons.mpr ⟨jc_s99 d, List.forall_mem_cons.mpr ⟨jc_s158 d, List.forall_mem_cons.mpr ⟨jc_s159 d, List.forall_mem_cons.mpr ⟨jc_s160 d, List.forall_mem_nil _⟩⟩⟩⟩⟩))
theorem jc_s106 (d : Nat) : jk_Sp jc_RT jc_pr jc_sg (jv_run (d + 2)) 106 := jk_meth (d := d + 1) (f := 14) (c := 0) (cs := []) (an := []) (sg' := jk_sgl jc_sg [99]) rfl (by decide +kernel) (jk_sgl_ok (List.forall_mem_cons.mpr ⟨jc_s99 d, List.forall_mem_nil _⟩))
theorem jc_s128 (d : Nat) : jk_Sp jc_RT jc_pr jc_sg (jv_run (d + 2)) 128 := jk_meth (d := d + 1) (f := 13) (c := 0) (cs := []) (an := []) (sg' := jk_sgl jc_sg [139]) rfl (by decide +kernel) (jk_sgl_ok (List.forall_mem_cons.mpr ⟨jc_s139 d, List.forall_mem_nil _⟩))
theorem jc_s129 (d : Nat) : jk_Sp jc_RT jc_pr jc_sg (jv_run (d + 2)) 129 := jk_meth (d := d + 1) (f := 13) (c := 0) (cs := []) (an := []) (sg' := jk_sgl jc_sg [139]) rfl (by decide +kernel) (jk_sgl_ok (List.forall_mem_cons.mpr ⟨jc_s139 d, List.forall_mem_nil _⟩))
theorem jc_s130 (d : Nat) : jk_Sp jc_RT jc_pr jc_sg (jv_run (d + 2)) 130 := jk_meth (d := d + 1) (f := 13) (c := 0) (cs := []) (an := []) (sg' := jk_sgl jc_sg [139]) rfl (by decide +kernel) (jk_sgl_ok (List.forall_mem_cons.mpr ⟨jc_s139 d, List.forall_mem_nil _⟩))
theorem jc_s131 (d : Nat) : jk_Sp jc_RT jc_pr jc_sg (jv_run (d + 2)) 131 := jk_meth (d := d + 1) (f := 14) (c := 0) (cs := []) (an := []) (sg' := jk_sgl jc_sg [101, 139]) rfl (by decide +kernel) (jk_sgl_ok (List.forall_mem_cons.mpr ⟨jc_s101 d, List.forall_mem_cons.mpr ⟨jc_s139 d, List.forall_mem_nil _⟩⟩))
theorem jc_s132 (d : Nat) : jk_Sp jc_RT jc_pr jc_sg (jv_run (d + 2)) 132 := jk_meth (d := d + 1) (f := 21) (c := 0) (cs := []) (an := []) (sg' := jk_sgl jc_sg [99, 139]) rfl (by decide +kernel) (jk_sgl_ok (List.forall_mem_cons.mpr ⟨jc_s99 d, List.forall_mem_cons.mpr ⟨jc_s139 d, List.forall_mem_nil _⟩⟩))
theorem jc_s135 (d : Nat) : jk_Sp jc_RT jc_pr jc_sg (jv_run (d + 2)) 135 := jk_meth (d := d + 1) (f := 13) (c := 0) (cs := []) (an := []) (sg' := jk_sgl jc_sg [68, 157]) rfl (by decide +kernel) (jk_sgl_ok (List.forall_mem_cons.mpr ⟨jc_s68 d, List.forall_mem_cons.mpr ⟨jc_s157 d, List.forall_mem_nil _⟩⟩))
theorem jc_s136 (d : Nat) : jk_Sp jc_RT jc_pr jc_sg (jv_run (d + 2)) 136 := jk_meth (d := d + 1) (f := 31) (c := 0) (cs := []) (an := []) (sg' := jk_sgl jc_sg [69]) rfl (by decide +kernel) (jk_sgl_ok (List.forall_mem_cons.mpr ⟨jc_s69 d, List.forall_mem_nil _⟩))
theorem jc_s137 (d : Nat) : jk_Sp jc_RT jc_pr jc_sg (jv_run (d + 2)) 137 := jk_meth (d := d + 1) (f := 20) (c := 0) (cs := []) (an := []) (sg' := jk_sgl jc_sg [77]) rfl (by decide +kernel) (jk_sgl_ok (List.forall_mem_cons.mpr ⟨jc_s77 d, List.forall_mem_nil _⟩))
theorem jc_s63 (d : Nat) : jk_Sp jc_RT jc_pr jc_sg (jv_run (d + 3)) 63 := jk_meth (d := d + 2) (f := 15) (c := 0) (cs := []) (an := []) (sg' := jk_sgl jc_sg [94]) rfl (by decide +kernel) (jk_sgl_ok (List.forall_mem_cons.mpr ⟨jc_s94 d, List.forall_mem_nil _⟩))
theorem jc_s86 (d : Nat) : jk_Sp jc_RT jc_pr jc_sg (jv_run (d + 3)) 86 := jk_meth (d := d + 2) (f := 25) (c := 65) (cs := [(4, 0)]) (an := [(8, [some (.inr (.inr (3, true))), some jk_top, some (.inl ((-1), 63)), some (.inl ((-2147483648), 32)), some (.inl (0, 64)), none], 64, [(4, 1)])]) (sg' := jk_sgl jc_sg [87]) rfl (by decide +kernel) (jk_sgl_ok (List.forall_mem_cons.mpr ⟨jc_s87 d, List.forall_mem_nil _⟩))
theorem jc_s138 (d : Nat) : jk_Sp jc_RT jc_pr jc_sg (jv_run (d + 3)) 138 := jk_meth (d := d + 2) (f := 20) (c := 142) (cs := [(3, 0), (4, 0)]) (an := [(6, [some (.inr (.inr (0, true))), some jk_lg, none, some (.inl (0, 12)), none], 141, [(3, 1), (4, 0)]), (57, [some (.inr (.inr (0, true))), some jk_lg, none, some (.inl (0, 8)), none], 128, [(3, 1), (4, 0)]), (84, [some (.inr (.inr (0, true))), some jk_lg, none, some (.inl (0, 17)), none], 119, [(3, 7), (4, 0)]), (98, [some (.inr (.inr (0, true))), some jk_lg, none, some (.inl (0, 16)), some (.inl (0, 5))], 118, [(3, 7), (4, 1)])]) (sg' := jk_sgl jc_sg [115, 135, 136, 139]) rfl (by decide +kernel) (jk_sgl_ok (List.forall_mem_cons.mpr ⟨jc_s115 (d + 1), List.forall_mem_cons.mpr ⟨jc_s135 d, List.forall_mem_cons.mpr ⟨jc_s136 d, List.forall_mem_cons.mpr ⟨jc_s139 (d + 1), List.forall_mem_nil _⟩⟩⟩⟩))
theorem jc_s73 (d : Nat) : jk_Sp jc_RT jc_pr jc_sg (jv_run (d + 4)) 73 := jk_meth (d := d + 3) (f := 27) (c := 18) (cs := [(2, 0)]) (an := [(4, [some (.inr (.inr (2, true))), some (.inr (.inr (5, false))), some (.inl (0, 17)), none], 17, [(2, 1)])]) (sg' := jk_sgl jc_sg [63, 65, 69]) rfl (by decide +kernel) (jk_sgl_ok (List.forall_mem_cons.mpr ⟨jc_s63 d, List.forall_mem_cons.mpr ⟨jc_s65 (d + 1), List.forall_mem_cons.mpr ⟨jc_s69 (d + 2), List.forall_mem_nil _⟩⟩⟩))
end
section
/-! the same with askedCount kept -/
def ja_pr (q k : Nat) : Bool := jc_pr q k || (q == 3 && k == 2)
theorem ja_pr_le (q k : Nat) (h : jc_pr q k = true) : ja_pr q k = true := by
  unfold ja_pr
  rw [h]
  rfl
theorem ja_s79 (d : Nat) : jk_Sp jc_RT ja_pr jc_sg (jv_run (d + 1)) 79 := jk_meth (d := d) (f := 18) (c := 0) (cs := []) (an := []) (sg' := jk_sgl jc_sg []) rfl (by decide +kernel) (jk_sgl_ok (List.forall_mem_nil _))
theorem ja_s80 (d : Nat) : jk_Sp jc_RT ja_pr jc_sg (jv_run (d + 1)) 80 := jk_meth (d := d) (f := 21) (c := 0) (cs := []) (an := []) (sg' := jk_sgl jc_sg []) rfl (by decide +kernel) (jk_sgl_ok (List.forall_mem_nil _))
theorem ja_s154 (d : Nat) : jk_Sp jc_RT ja_pr jc_sg (jv_run (d + 1)) 154 := jk_meth (d := d) (f := 18) (c := 0) (cs := []) (an := []) (sg' := jk_sgl jc_sg []) rfl (by decide +kernel) (jk_sgl_ok (List.forall_mem_nil _))
theorem ja_s87 (d : Nat) : jk_Sp jc_RT ja_pr jc_sg (jv_run (d + 2)) 87 := jk_meth (d := d + 1) (f := 14) (c := 0) (cs := []) (an := []) (sg' := jk_sgl jc_sg [154]) rfl (by decide +kernel) (jk_sgl_ok (List.forall_mem_cons.mpr ⟨ja_s154 d, List.forall_mem_nil _⟩))
theorem ja_s86 (d : Nat) : jk_Sp jc_RT ja_pr jc_sg (jv_run (d + 3)) 86 := jk_meth (d := d + 2) (f := 25) (c := 65) (cs := [(4, 0)]) (an := [(8, [some (.inr (.inr (3, true))), some jk_top, some (.inl ((-1), 63)), some (.inl ((-2147483648), 32)), some (.inl (0, 64)), none], 64, [(4, 1)])]) (sg' := jk_sgl jc_sg [87]) rfl (by decide +kernel) (jk_sgl_ok (List.forall_mem_cons.mpr ⟨ja_s87 d, List.forall_mem_nil _⟩))
end
section
/-! the reference's blocks, frames, sectors and transfers: what stays true, said of plain functions
F: what a frame holds; S: what a sector holds; E: which blocks exist; q: transfers asked for (true: a write; its frame); w: the one under way (its frame, its sector) -/
section JZ
def jz_cnt (E : Nat → Bool) : Nat → Nat
  | 0 => 0
  | n + 1 => jz_cnt E n + if E n = true then 1 else 0
def jz_P (n J : Nat) (F S : Nat → Option Nat) (E : Nat → Bool) (q : List (Bool × Nat)) (w : Option (Bool × Nat × Nat)) : Prop :=
  (∀ f k, F f = some k → f < n ∧ k < 64 * J) ∧
  (∀ s k, S s = some k → s < 64 ∧ k < 64 * J) ∧
  (∀ f g k, F f = some k → F g = some k → f = g) ∧
  (∀ s t k, S s = some k → S t = some k → s = t) ∧
  (∀ k, E k = true ↔ (∃ f, F f = some k) ∨ ∃ s, S s = some k) ∧
  (q.map fun a => a.2).Nodup ∧
  (∀ b f, (b, f) ∈ q → ∃ k, F f = some k ∧ (b = true → ∀ s, ¬ S s = some k) ∧ (b = false → ∃ s, S s = some k)) ∧
  (∀ b f s, w = some (b, f, s) → ¬ f ∈ (q.map fun a => a.2) ∧ s < 64 ∧ ∃ k, F f = some k ∧ (b = true → S s = some k) ∧ (b = false → ∀ t, ¬ S t = some k)) ∧
  (∀ f s k, F f = some k → S s = some k → (false, f) ∈ q ∨ ∃ s', w = some (true, f, s')) ∧
  jz_cnt E 768 ≤ 64
variable {n J : Nat} {F S : Nat → Option Nat} {E : Nat → Bool} {q : List (Bool × Nat)} {w : Option (Bool × Nat × Nat)}
/-- a frame is locked -/
def jz_lk (q : List (Bool × Nat)) (w : Option (Bool × Nat × Nat)) (f : Nat) : Prop := f ∈ (q.map fun a => a.2) ∨ ∃ b s, w = some (b, f, s)
theorem jz_mem {b : Bool} {f : Nat} (h : (b, f) ∈ q) : f ∈ (q.map fun a => a.2) := List.mem_map.mpr ⟨(b, f), h, rfl⟩
theorem jz_us {α : Type} {f : Nat → α} {k : Nat} {v : α} : va_up f k v k = v := if_pos rfl
theorem jz_un {α : Type} {f : Nat → α} {k j : Nat} {v : α} (h : ¬ j = k) : va_up f k v j = f j := if_neg h
theorem jz_cnt_up {k : Nat} {b : Bool} : ∀ N, jz_cnt (va_up E k b) N = jz_cnt E N + (if k < N then (if b = true then 1 else 0) else 0) - (if k < N then (if E k = true then 1 else 0) else 0) ∧ (if k < N then (if E k = true then 1 else 0) else 0) ≤ jz_cnt E N
  | 0 => by simp [jz_cnt]
  | N + 1 => by
    obtain ⟨h1, h2⟩ := jz_cnt_up (k := k) (b := b) N
    unfold jz_cnt
    rw [h1]
    by_cases e : N = k
    · subst e
      rw [jz_us]
      have a1 : ¬ N < N := by omega
      have a2 : N < N + 1 := by omega
      simp only [a1, a2, if_true, if_false]
      constructor
      · split <;> split <;> omega
      · split <;> omega
    · rw [jz_un e]
      by_cases hk : k < N
      · have a2 : k < N + 1 := by omega
        simp only [hk, a2, if_true] at h2 ⊢
        constructor
        · split <;> split <;> split <;> simp_all <;> omega
        · exact Nat.le_trans h2 (Nat.le_add_right _ _)
      · have a2 : ¬ k < N + 1 := by omega
        simp only [hk, a2, if_false]
        constructor
        · split <;> omega
        · omega
theorem jz_cnt_add {k N : Nat} (hk : k < N) (he : ¬ E k = true) : jz_cnt (va_up E k true) N = jz_cnt E N + 1 := by
  have h := (jz_cnt_up (E := E) (k := k) (b := true) N).1
  simp only [hk, he, if_true, if_false] at h
  simpa using h
theorem jz_cnt_del {k N : Nat} (hk : k < N) (he : E k = true) : jz_cnt (va_up E k false) N + 1 = jz_cnt E N := by
  have h := jz_cnt_up (E := E) (k := k) (b := false) N
  simp only [hk, he, if_true] at h
  have h1 := h.1
  have h2 := h.2
  simp at h1
  omega
theorem jz_cnt_mono {E' : Nat → Bool} (h : ∀ k, E k = true → E' k = true) : ∀ N, jz_cnt E N ≤ jz_cnt E' N
  | 0 => Nat.le_refl 0
  | N + 1 => by
    have ih := jz_cnt_mono h N
    unfold jz_cnt
    by_cases e : E N = true
    · rw [if_pos e, if_pos (h N e)]
      omega
    · rw [if_neg e]
      split <;> omega
/-- how many sectors are taken -/
def jz_occ (S : Nat → Option Nat) : Nat → Nat
  | 0 => 0
  | N + 1 => jz_occ S N + if S N = none then 0 else 1
theorem jz_occ_le (hi : ∀ s t k, S s = some k → S t = some k → s = t) (hb : ∀ s k, S s = some k → k < 768) : ∀ N, ∃ G : Nat → Bool, (∀ k, G k = true → ∃ s, s < N ∧ S s = some k) ∧ jz_occ S N ≤ jz_cnt G 768
  | 0 => ⟨fun _ => false, fun k h => (by cases h), Nat.zero_le _⟩
  | N + 1 => by
    obtain ⟨G, h1, h2⟩ := jz_occ_le hi hb N
    cases hs : S N with
    | none =>
      refine ⟨G, fun k hk => ?_, ?_⟩
      · obtain ⟨s, a, b⟩ := h1 k hk
        exact ⟨s, by omega, b⟩
      · unfold jz_occ
        rw [hs]
        simpa using h2
    | some k =>
      have hg : ¬ G k = true := fun hk => by
        obtain ⟨s, a, b⟩ := h1 k hk
        have := hi s N k b hs
        omega
      refine ⟨va_up G k true, fun k' hk => ?_, ?_⟩
      · by_cases e : k' = k
        · subst e
          exact ⟨N, by omega, hs⟩
        · rw [jz_un e] at hk
          obtain ⟨s, a, b⟩ := h1 k' hk
          exact ⟨s, by omega, b⟩
      · rw [jz_cnt_add (hb N k hs) hg]
        unfold jz_occ
        rw [hs]
        simp
        omega
theorem jz_occ_full : ∀ N, (∀ s, s < N → ¬ S s = none) → jz_occ S N = N
  | 0, _ => rfl
  | N + 1, h => by
    have ih := jz_occ_full N (fun s hs => h s (by omega))
    unfold jz_occ
    rw [ih, if_neg (h N (by omega))]
/-- where fewer than 64 blocks lie on sectors, one is free -/
theorem jz_free (hi : ∀ s t k, S s = some k → S t = some k → s = t) (hb : ∀ s k, S s = some k → k < 768) {E' : Nat → Bool} (hE : ∀ s k, S s = some k → E' k = true) (hc : jz_cnt E' 768 < 64) : ∃ s, s < 64 ∧ S s = none := by
  apply Classical.byContradiction
  intro hn
  have hf := jz_occ_full (S := S) 64 (fun s hs e => hn ⟨s, hs, e⟩)
  obtain ⟨G, h1, h2⟩ := jz_occ_le hi hb 64
  have h3 := jz_cnt_mono (E := G) (E' := E') (fun k hk => by
    obtain ⟨s, _, e⟩ := h1 k hk
    exact hE s k e) 768
  omega
theorem jz_P_free (hJ : J ≤ 12) (h : jz_P n J F S E q w) {f k : Nat} (hf : F f = some k) (hs : ∀ s, ¬ S s = some k) : ∃ s, s < 64 ∧ S s = none := by
  obtain ⟨h1, h2, h3, h4, h5, h6, h7, h8, h9, h10⟩ := h
  have hk := (h1 f k hf).2
  have hE : E k = true := (h5 k).mpr (Or.inl ⟨f, hf⟩)
  refine jz_free h4 (fun s k hk => by have := (h2 s k hk).2; omega) (E' := va_up E k false) (fun s k' e => ?_) ?_
  · rw [jz_un (fun q => hs s (by rw [← q]; exact e))]
    exact (h5 k').mpr (Or.inr ⟨s, e⟩)
  · have := jz_cnt_del (E := E) (k := k) (N := 768) (by omega) hE
    omega
/-- a write's end: its frame is free -/
theorem jz_fin_w {f s : Nat} (h : jz_P n J F S E q (some (true, f, s))) : jz_P n J (va_up F f none) S E q none := by
  obtain ⟨h1, h2, h3, h4, h5, h6, h7, h8, h9, h10⟩ := h
  obtain ⟨a1, a2, k, a3, a4, _⟩ := h8 true f s rfl
  have a4 := a4 rfl
  have up : ∀ {g k'}, va_up F f none g = some k' → ¬ g = f ∧ F g = some k' := fun {g k'} e => by
    by_cases x : g = f
    · rw [x, jz_us] at e; cases e
    · rw [jz_un x] at e; exact ⟨x, e⟩
  refine ⟨fun g k' e => h1 g k' (up e).2, h2, fun g g' k' e e' => h3 g g' k' (up e).2 (up e').2, h4, fun k' => ?_, h6, fun b g hm => ?_, fun b g t e => (by cases e), fun g t k' e e' => ?_, h10⟩
  · rw [h5 k']
    constructor
    · rintro (⟨g, e⟩ | e)
      · by_cases x : g = f
        · rw [x, a3] at e
          cases e
          exact Or.inr ⟨s, a4⟩
        · exact Or.inl ⟨g, by rw [jz_un x]; exact e⟩
      · exact Or.inr e
    · rintro (⟨g, e⟩ | e)
      · exact Or.inl ⟨g, (up e).2⟩
      · exact Or.inr e
  · have x : ¬ g = f := fun x => a1 (by rw [← x]; exact jz_mem hm)
    obtain ⟨k', e, r⟩ := h7 b g hm
    exact ⟨k', by rw [jz_un x]; exact e, r⟩
  · rcases h9 g t k' (up e).2 e' with m | ⟨s', m⟩
    · exact Or.inl m
    · cases m
      exact absurd rfl (up e).1
/-- a block that lies on a sector alone vanishes -/
theorem jz_van_s {s k : Nat} (hk : k < 768) (h : jz_P n J F S E q w) (hs : S s = some k) (hf : ∀ f, ¬ F f = some k) : jz_P n J F (va_up S s none) (va_up E k false) q w := by
  obtain ⟨h1, h2, h3, h4, h5, h6, h7, h8, h9, h10⟩ := h
  have up : ∀ {t k'}, va_up S s none t = some k' → ¬ t = s ∧ S t = some k' := fun {t k'} e => by
    by_cases x : t = s
    · rw [x, jz_us] at e; cases e
    · rw [jz_un x] at e; exact ⟨x, e⟩
  have hE : E k = true := (h5 k).mpr (Or.inr ⟨s, hs⟩)
  have ne : ∀ {g k'}, F g = some k' → ¬ k' = k := fun {g k'} e x => hf g (by rw [← x]; exact e)
  refine ⟨h1, fun t k' e => h2 t k' (up e).2, h3, fun t t' k' e e' => h4 t t' k' (up e).2 (up e').2, fun k' => ?_, h6, fun b g hm => ?_, fun b g t e => ?_, fun g t k' e e' => h9 g t k' e (up e').2, ?_⟩
  · by_cases x : k' = k
    · subst x
      rw [jz_us]
      refine ⟨fun e => (by cases e), ?_⟩
      rintro (⟨g, e⟩ | ⟨t, e⟩)
      · exact absurd e (hf g)
      · exact absurd (h4 t s k' (up e).2 hs) (up e).1
    · rw [jz_un x, h5 k']
      constructor
      · rintro (e | ⟨t, e⟩)
        · exact Or.inl e
        · refine Or.inr ⟨t, ?_⟩
          rw [jz_un (fun y => by rw [y, hs] at e; cases e; exact x rfl)]
          exact e
      · rintro (e | ⟨t, e⟩)
        · exact Or.inl e
        · exact Or.inr ⟨t, (up e).2⟩
  · obtain ⟨k', e, r1, r2⟩ := h7 b g hm
    refine ⟨k', e, fun hb t e' => r1 hb t (up e').2, fun hb => ?_⟩
    obtain ⟨t, e'⟩ := r2 hb
    exact ⟨t, by rw [jz_un (fun y => by rw [y, hs] at e'; cases e'; exact ne e rfl)]; exact e'⟩
  · obtain ⟨b1, b2, k', e', r1, r2⟩ := h8 b g t e
    refine ⟨b1, b2, k', e', fun hb => ?_, fun hb t' e2 => r2 hb t' (up e2).2⟩
    have := r1 hb
    rw [jz_un (fun y => by rw [y, hs] at this; cases this; exact ne e' rfl)]
    exact this
  · have := jz_cnt_del (E := E) (k := k) (N := 768) hk hE
    omega
/-- a read's end -/
theorem jz_fin_r {f s : Nat} (h : jz_P n J F S E q (some (false, f, s))) : jz_P n J F S E q none := by
  obtain ⟨h1, h2, h3, h4, h5, h6, h7, h8, h9, h10⟩ := h
  refine ⟨h1, h2, h3, h4, h5, h6, h7, fun b g t e => (by cases e), fun g t k e e' => ?_, h10⟩
  rcases h9 g t k e e' with m | ⟨s', m⟩
  · exact Or.inl m
  · cases m
/-- a victim's write is asked for -/
theorem jz_ask_w {f k : Nat} (h : jz_P n J F S E q w) (hf : F f = some k) (hl : ¬ jz_lk q w f) : jz_P n J F S E (q ++ [(true, f)]) w := by
  obtain ⟨h1, h2, h3, h4, h5, h6, h7, h8, h9, h10⟩ := h
  have hnq : ¬ f ∈ (q.map fun a => a.2) := fun m => hl (Or.inl m)
  have hns : ∀ s, ¬ S s = some k := fun s e => by
    rcases h9 f s k hf e with m | ⟨s', m⟩
    · exact hnq (jz_mem m)
    · exact hl (Or.inr ⟨true, s', m⟩)
  refine ⟨h1, h2, h3, h4, h5, ?_, fun b g hm => ?_, fun b g t e => ?_, fun g t k' e e' => ?_, h10⟩
  · rw [List.map_append, List.nodup_append]
    refine ⟨h6, by simp, fun a ha b hb => ?_⟩
    simp at hb
    subst hb
    exact fun x => hnq (by rw [← x]; exact ha)
  · rcases List.mem_append.mp hm with m | m
    · exact h7 b g m
    · simp at m
      obtain ⟨rfl, rfl⟩ := m
      exact ⟨k, hf, fun _ => hns, fun x => by cases x⟩
  · obtain ⟨b1, b2, r⟩ := h8 b g t e
    refine ⟨fun m => ?_, b2, r⟩
    rw [List.map_append, List.mem_append] at m
    rcases m with m | m
    · exact b1 m
    · simp at m
      subst m
      exact hl (Or.inr ⟨b, t, e⟩)
  · rcases h9 g t k' e e' with m | m
    · exact Or.inl (List.mem_append_left _ m)
    · exact Or.inr m
/-- a read is asked for: a free frame is locked for a block that lies on a sector alone -/
theorem jz_ask_r {f s k : Nat} (h : jz_P n J F S E q w) (hf : F f = none) (hfn : f < n) (hs : S s = some k) (hk : ∀ g, ¬ F g = some k) : jz_P n J (va_up F f (some k)) S E (q ++ [(false, f)]) w := by
  obtain ⟨h1, h2, h3, h4, h5, h6, h7, h8, h9, h10⟩ := h
  have hnq : ¬ f ∈ (q.map fun a => a.2) := fun m => by
    obtain ⟨⟨b, g⟩, m', e⟩ := List.mem_map.mp m
    simp only at e
    subst e
    obtain ⟨k', e, _⟩ := h7 b g m'
    rw [hf] at e; cases e
  have hnw : ∀ b t, ¬ w = some (b, f, t) := fun b t e => by
    obtain ⟨_, _, k', e', _⟩ := h8 b f t e
    rw [hf] at e'; cases e'
  have up : ∀ {g k'}, va_up F f (some k) g = some k' → (g = f ∧ k' = k) ∨ (¬ g = f ∧ F g = some k') := fun {g k'} e => by
    by_cases x : g = f
    · rw [x, jz_us] at e; cases e; exact Or.inl ⟨x, rfl⟩
    · rw [jz_un x] at e; exact Or.inr ⟨x, e⟩
  have old : ∀ {g k'}, F g = some k' → va_up F f (some k) g = some k' := fun {g k'} e => by
    rw [jz_un (fun x => by rw [x, hf] at e; cases e)]; exact e
  refine ⟨fun g k' e => ?_, h2, fun g g' k' e e' => ?_, h4, fun k' => ?_, ?_, fun b g hm => ?_, fun b g t e => ?_, fun g t k' e e' => ?_, h10⟩
  · rcases up e with ⟨rfl, rfl⟩ | ⟨_, e⟩
    · exact ⟨hfn, (h2 s k' hs).2⟩
    · exact h1 g k' e
  · rcases up e with ⟨rfl, rfl⟩ | ⟨x, e1⟩ <;> rcases up e' with ⟨y, z⟩ | ⟨y, e2⟩
    · exact y.symm
    · exact absurd e2 (hk g')
    · subst z; exact absurd e1 (hk g)
    · exact h3 g g' k' e1 e2
  · rw [h5 k']
    constructor
    · rintro (⟨g, e⟩ | e)
      · exact Or.inl ⟨g, old e⟩
      · exact Or.inr e
    · rintro (⟨g, e⟩ | e)
      · rcases up e with ⟨rfl, rfl⟩ | ⟨_, e⟩
        · exact Or.inr ⟨s, hs⟩
        · exact Or.inl ⟨g, e⟩
      · exact Or.inr e
  · rw [List.map_append, List.nodup_append]
    refine ⟨h6, by simp, fun a ha b hb => ?_⟩
    simp at hb
    subst hb
    exact fun x => hnq (by rw [← x]; exact ha)
  · rcases List.mem_append.mp hm with m | m
    · obtain ⟨k', e, r⟩ := h7 b g m
      exact ⟨k', old e, r⟩
    · simp at m
      obtain ⟨rfl, rfl⟩ := m
      exact ⟨k, jz_us, fun x => (by cases x), fun _ => ⟨s, hs⟩⟩
  · obtain ⟨b1, b2, k', e', r⟩ := h8 b g t e
    refine ⟨fun m => ?_, b2, k', old e', r⟩
    rw [List.map_append, List.mem_append] at m
    rcases m with m | m
    · exact b1 m
    · simp at m
      subst m
      exact hnw b t e
  · rcases up e with ⟨rfl, rfl⟩ | ⟨x, e⟩
    · exact Or.inl (List.mem_append_right _ (by simp))
    · rcases h9 g t k' e e' with m | m
      · exact Or.inl (List.mem_append_left _ m)
      · exact Or.inr m
/-- a new block in a free frame -/
theorem jz_new {f k : Nat} (h : jz_P n J F S E q w) (hf : F f = none) (hfn : f < n) (hkJ : k < 64 * J) (hk : k < 768) (he : ¬ E k = true) (hc : jz_cnt E 768 < 64) : jz_P n J (va_up F f (some k)) S (va_up E k true) q w := by
  obtain ⟨h1, h2, h3, h4, h5, h6, h7, h8, h9, h10⟩ := h
  have nf : ∀ g, ¬ F g = some k := fun g e => he ((h5 k).mpr (Or.inl ⟨g, e⟩))
  have nS : ∀ s, ¬ S s = some k := fun s e => he ((h5 k).mpr (Or.inr ⟨s, e⟩))
  have up : ∀ {g k'}, va_up F f (some k) g = some k' → (g = f ∧ k' = k) ∨ (¬ g = f ∧ F g = some k') := fun {g k'} e => by
    by_cases x : g = f
    · rw [x, jz_us] at e; cases e; exact Or.inl ⟨x, rfl⟩
    · rw [jz_un x] at e; exact Or.inr ⟨x, e⟩
  have old : ∀ {g k'}, F g = some k' → va_up F f (some k) g = some k' := fun {g k'} e => by
    rw [jz_un (fun x => by rw [x, hf] at e; cases e)]; exact e
  refine ⟨fun g k' e => ?_, h2, fun g g' k' e e' => ?_, h4, fun k' => ?_, h6, fun b g hm => ?_, fun b g t e => ?_, fun g t k' e e' => ?_, ?_⟩
  · rcases up e with ⟨rfl, rfl⟩ | ⟨_, e⟩
    · exact ⟨hfn, hkJ⟩
    · exact h1 g k' e
  · rcases up e with ⟨rfl, rfl⟩ | ⟨x, e1⟩ <;> rcases up e' with ⟨y, z⟩ | ⟨y, e2⟩
    · exact y.symm
    · exact absurd e2 (nf g')
    · subst z; exact absurd e1 (nf g)
    · exact h3 g g' k' e1 e2
  · by_cases x : k' = k
    · subst x
      rw [jz_us]
      exact ⟨fun _ => Or.inl ⟨f, jz_us⟩, fun _ => rfl⟩
    · rw [jz_un x, h5 k']
      constructor
      · rintro (⟨g, e⟩ | e)
        · exact Or.inl ⟨g, old e⟩
        · exact Or.inr e
      · rintro (⟨g, e⟩ | e)
        · rcases up e with ⟨_, z⟩ | ⟨_, e⟩
          · exact absurd z x
          · exact Or.inl ⟨g, e⟩
        · exact Or.inr e
  · obtain ⟨k', e, r⟩ := h7 b g hm
    exact ⟨k', old e, r⟩
  · obtain ⟨b1, b2, k', e', r⟩ := h8 b g t e
    exact ⟨b1, b2, k', old e', r⟩
  · rcases up e with ⟨rfl, rfl⟩ | ⟨_, e⟩
    · exact absurd e' (nS t)
    · exact h9 g t k' e e'
  · rw [jz_cnt_add hk he]
    omega
end JZ
end
section
/-! the same: a transfer's beginning, a job's end, a job's program -/
section JZ
variable {n J : Nat} {F S : Nat → Option Nat} {E : Nat → Bool} {q : List (Bool × Nat)} {w : Option (Bool × Nat × Nat)}
/-- a read begins: its sector is free -/
theorem jz_beg_r {f s k : Nat} (h : jz_P n J F S E ((false, f) :: q) none) (hf : F f = some k) (hs : S s = some k) : jz_P n J F (va_up S s none) E q (some (false, f, s)) := by
  obtain ⟨h1, h2, h3, h4, h5, h6, h7, h8, h9, h10⟩ := h
  rw [List.map_cons, List.nodup_cons] at h6
  have up : ∀ {t k'}, va_up S s none t = some k' → ¬ t = s ∧ S t = some k' := fun {t k'} e => by
    by_cases x : t = s
    · rw [x, jz_us] at e; cases e
    · rw [jz_un x] at e; exact ⟨x, e⟩
  refine ⟨h1, fun t k' e => h2 t k' (up e).2, h3, fun t t' k' e e' => h4 t t' k' (up e).2 (up e').2, fun k' => ?_, h6.2, fun b g hm => ?_, fun b g t e => ?_, fun g t k' e e' => ?_, h10⟩
  · rw [h5 k']
    constructor
    · rintro (e | ⟨t, e⟩)
      · exact Or.inl e
      · by_cases x : t = s
        · rw [x, hs] at e; cases e; exact Or.inl ⟨f, hf⟩
        · exact Or.inr ⟨t, by rw [jz_un x]; exact e⟩
    · rintro (e | ⟨t, e⟩)
      · exact Or.inl e
      · exact Or.inr ⟨t, (up e).2⟩
  · obtain ⟨k', e, r1, r2⟩ := h7 b g (List.mem_cons_of_mem _ hm)
    refine ⟨k', e, fun hb t e' => r1 hb t (up e').2, fun hb => ?_⟩
    obtain ⟨t, e'⟩ := r2 hb
    have x : ¬ t = s := fun x => by
      rw [x, hs] at e'
      cases e'
      have := h3 g f k e hf
      exact h6.1 (by rw [← this]; exact jz_mem hm)
    exact ⟨t, by rw [jz_un x]; exact e'⟩
  · cases e
    refine ⟨h6.1, (h2 s k hs).1, k, hf, fun x => (by cases x), fun _ t e' => ?_⟩
    exact (up e').1 (h4 t s k (up e').2 hs)
  · rcases h9 g t k' e (up e').2 with m | ⟨s', m⟩
    · rcases List.mem_cons.mp m with x | m
      · cases x
        rw [hf] at e
        cases e
        exact absurd (h4 t s k (up e').2 hs) (up e').1
      · exact Or.inl m
    · cases m
/-- a write begins: a free sector is taken -/
theorem jz_beg_w {f s k : Nat} (h : jz_P n J F S E ((true, f) :: q) none) (hf : F f = some k) (hs : S s = none) (hs64 : s < 64) : jz_P n J F (va_up S s (some k)) E q (some (true, f, s)) := by
  obtain ⟨h1, h2, h3, h4, h5, h6, h7, h8, h9, h10⟩ := h
  rw [List.map_cons, List.nodup_cons] at h6
  have hn : ∀ t, ¬ S t = some k := by
    obtain ⟨k', e, r1, _⟩ := h7 true f List.mem_cons_self
    rw [hf] at e
    cases e
    exact r1 rfl
  have up : ∀ {t k'}, va_up S s (some k) t = some k' → (t = s ∧ k' = k) ∨ (¬ t = s ∧ S t = some k') := fun {t k'} e => by
    by_cases x : t = s
    · rw [x, jz_us] at e; cases e; exact Or.inl ⟨x, rfl⟩
    · rw [jz_un x] at e; exact Or.inr ⟨x, e⟩
  have old : ∀ {t k'}, S t = some k' → va_up S s (some k) t = some k' := fun {t k'} e => by
    rw [jz_un (fun x => by rw [x, hs] at e; cases e)]; exact e
  refine ⟨h1, fun t k' e => ?_, h3, fun t t' k' e e' => ?_, fun k' => ?_, h6.2, fun b g hm => ?_, fun b g t e => ?_, fun g t k' e e' => ?_, h10⟩
  · rcases up e with ⟨rfl, rfl⟩ | ⟨_, e⟩
    · exact ⟨hs64, (h1 f k' hf).2⟩
    · exact h2 t k' e
  · rcases up e with ⟨rfl, rfl⟩ | ⟨x, e1⟩ <;> rcases up e' with ⟨y, z⟩ | ⟨y, e2⟩
    · exact y.symm
    · exact absurd e2 (hn t')
    · subst z; exact absurd e1 (hn t)
    · exact h4 t t' k' e1 e2
  · rw [h5 k']
    constructor
    · rintro (e | ⟨t, e⟩)
      · exact Or.inl e
      · exact Or.inr ⟨t, old e⟩
    · rintro (e | ⟨t, e⟩)
      · exact Or.inl e
      · rcases up e with ⟨_, z⟩ | ⟨_, e⟩
        · subst z; exact Or.inl ⟨f, hf⟩
        · exact Or.inr ⟨t, e⟩
  · obtain ⟨k', e, r1, r2⟩ := h7 b g (List.mem_cons_of_mem _ hm)
    refine ⟨k', e, fun hb t e' => ?_, fun hb => ?_⟩
    · rcases up e' with ⟨_, z⟩ | ⟨_, e'⟩
      · subst z
        have := h3 g f k' e hf
        exact h6.1 (by rw [← this]; exact jz_mem hm)
      · exact r1 hb t e'
    · obtain ⟨t, e'⟩ := r2 hb
      exact ⟨t, old e'⟩
  · cases e
    exact ⟨h6.1, hs64, k, hf, fun _ => jz_us, fun x => (by cases x)⟩
  · rcases up e' with ⟨rfl, rfl⟩ | ⟨_, e'⟩
    · have := h3 g f k' e hf
      subst this
      exact Or.inr ⟨t, rfl⟩
    · rcases h9 g t k' e e' with m | ⟨s', m⟩
      · rcases List.mem_cons.mp m with x | m
        · cases x
        · exact Or.inl m
      · cases m
/-- an asked write is dropped -/
theorem jz_drop {p r : List (Bool × Nat)} {f : Nat} (h : jz_P n J F S E (p ++ (true, f) :: r) w) : jz_P n J F S E (p ++ r) w := by
  obtain ⟨h1, h2, h3, h4, h5, h6, h7, h8, h9, h10⟩ := h
  have sub : ∀ x, x ∈ p ++ r → x ∈ p ++ (true, f) :: r := fun x m => by
    rcases List.mem_append.mp m with m | m
    · exact List.mem_append_left _ m
    · exact List.mem_append_right _ (List.mem_cons_of_mem _ m)
  refine ⟨h1, h2, h3, h4, h5, ?_, fun b g m => h7 b g (sub _ m), fun b g t e => ?_, fun g t k e e' => ?_, h10⟩
  · rw [List.map_append, List.map_cons] at h6
    rw [List.map_append]
    exact List.Nodup.sublist (List.Sublist.append_left (List.sublist_cons_self _ _) _) h6
  · obtain ⟨b1, b2⟩ := h8 b g t e
    refine ⟨fun m => b1 ?_, b2⟩
    obtain ⟨x, m, e⟩ := List.mem_map.mp m
    exact List.mem_map.mpr ⟨x, sub x m, e⟩
  · rcases h9 g t k e e' with m | m
    · rcases List.mem_append.mp m with m | m
      · exact Or.inl (List.mem_append_left _ m)
      · rcases List.mem_cons.mp m with x | m
        · cases x
        · exact Or.inl (List.mem_append_right _ m)
    · exact Or.inr m
/-- a block in an unlocked frame vanishes -/
theorem jz_van_f {f k : Nat} (hk : k < 768) (h : jz_P n J F S E q w) (hf : F f = some k) (hl : ¬ jz_lk q w f) : jz_P n J (va_up F f none) S (va_up E k false) q w := by
  obtain ⟨h1, h2, h3, h4, h5, h6, h7, h8, h9, h10⟩ := h
  have hns : ∀ s, ¬ S s = some k := fun s e => by
    rcases h9 f s k hf e with m | ⟨s', m⟩
    · exact hl (Or.inl (jz_mem m))
    · exact hl (Or.inr ⟨true, s', m⟩)
  have hE : E k = true := (h5 k).mpr (Or.inl ⟨f, hf⟩)
  have up : ∀ {g k'}, va_up F f none g = some k' → ¬ g = f ∧ F g = some k' := fun {g k'} e => by
    by_cases x : g = f
    · rw [x, jz_us] at e; cases e
    · rw [jz_un x] at e; exact ⟨x, e⟩
  refine ⟨fun g k' e => h1 g k' (up e).2, h2, fun g g' k' e e' => h3 g g' k' (up e).2 (up e').2, h4, fun k' => ?_, h6, fun b g hm => ?_, fun b g t e => ?_, fun g t k' e e' => h9 g t k' (up e).2 e', ?_⟩
  · by_cases x : k' = k
    · subst x
      rw [jz_us]
      refine ⟨fun e => (by cases e), ?_⟩
      rintro (⟨g, e⟩ | ⟨t, e⟩)
      · exact absurd (h3 g f k' (up e).2 hf) (up e).1
      · exact absurd e (hns t)
    · rw [jz_un x, h5 k']
      constructor
      · rintro (⟨g, e⟩ | e)
        · refine Or.inl ⟨g, ?_⟩
          rw [jz_un (fun y => by rw [y, hf] at e; cases e; exact x rfl)]
          exact e
        · exact Or.inr e
      · rintro (⟨g, e⟩ | e)
        · exact Or.inl ⟨g, (up e).2⟩
        · exact Or.inr e
  · have x : ¬ g = f := fun x => hl (Or.inl (by rw [← x]; exact jz_mem hm))
    obtain ⟨k', e, r⟩ := h7 b g hm
    exact ⟨k', by rw [jz_un x]; exact e, r⟩
  · have x : ¬ g = f := fun x => hl (Or.inr ⟨b, t, by rw [← x]; exact e⟩)
    obtain ⟨b1, b2, k', e', r⟩ := h8 b g t e
    exact ⟨b1, b2, k', by rw [jz_un x]; exact e', r⟩
  · have := jz_cnt_del (E := E) (k := k) (N := 768) hk hE
    omega
/-- a program's block on a free sector -/
theorem jz_load {s k : Nat} (h : jz_P n J F S E q w) (hs : S s = none) (hs64 : s < 64) (hkJ : k < 64 * J) (hk : k < 768) (he : ¬ E k = true) (hc : jz_cnt E 768 < 64) : jz_P n J F (va_up S s (some k)) (va_up E k true) q w := by
  obtain ⟨h1, h2, h3, h4, h5, h6, h7, h8, h9, h10⟩ := h
  have nf : ∀ g, ¬ F g = some k := fun g e => he ((h5 k).mpr (Or.inl ⟨g, e⟩))
  have nS : ∀ s, ¬ S s = some k := fun s e => he ((h5 k).mpr (Or.inr ⟨s, e⟩))
  have up : ∀ {t k'}, va_up S s (some k) t = some k' → (t = s ∧ k' = k) ∨ (¬ t = s ∧ S t = some k') := fun {t k'} e => by
    by_cases x : t = s
    · rw [x, jz_us] at e; cases e; exact Or.inl ⟨x, rfl⟩
    · rw [jz_un x] at e; exact Or.inr ⟨x, e⟩
  have old : ∀ {t k'}, S t = some k' → va_up S s (some k) t = some k' := fun {t k'} e => by
    rw [jz_un (fun x => by rw [x, hs] at e; cases e)]; exact e
  refine ⟨h1, fun t k' e => ?_, h3, fun t t' k' e e' => ?_, fun k' => ?_, h6, fun b g hm => ?_, fun b g t e => ?_, fun g t k' e e' => ?_, ?_⟩
  · rcases up e with ⟨rfl, rfl⟩ | ⟨_, e⟩
    · exact ⟨hs64, hkJ⟩
    · exact h2 t k' e
  · rcases up e with ⟨rfl, rfl⟩ | ⟨x, e1⟩ <;> rcases up e' with ⟨y, z⟩ | ⟨y, e2⟩
    · exact y.symm
    · exact absurd e2 (nS t')
    · subst z; exact absurd e1 (nS t)
    · exact h4 t t' k' e1 e2
  · by_cases x : k' = k
    · subst x
      rw [jz_us]
      exact ⟨fun _ => Or.inr ⟨s, jz_us⟩, fun _ => rfl⟩
    · rw [jz_un x, h5 k']
      constructor
      · rintro (e | ⟨t, e⟩)
        · exact Or.inl e
        · exact Or.inr ⟨t, old e⟩
      · rintro (e | ⟨t, e⟩)
        · exact Or.inl e
        · rcases up e with ⟨_, z⟩ | ⟨_, e⟩
          · exact absurd z x
          · exact Or.inr ⟨t, e⟩
  · obtain ⟨k', e, r1, r2⟩ := h7 b g hm
    refine ⟨k', e, fun hb t e' => ?_, fun hb => ?_⟩
    · rcases up e' with ⟨_, z⟩ | ⟨_, e'⟩
      · subst z; exact nf g e
      · exact r1 hb t e'
    · obtain ⟨t, e'⟩ := r2 hb
      exact ⟨t, old e'⟩
  · obtain ⟨b1, b2, k', e', r1, r2⟩ := h8 b g t e
    refine ⟨b1, b2, k', e', fun hb => old (r1 hb), fun hb t' e2 => ?_⟩
    rcases up e2 with ⟨_, z⟩ | ⟨_, e2⟩
    · subst z; exact nf g e'
    · exact r2 hb t' e2
  · rcases up e' with ⟨_, z⟩ | ⟨_, e'⟩
    · subst z; exact absurd e (nf g)
    · exact h9 g t k' e e'
  · rw [jz_cnt_add hk he]
    omega
theorem jz_more {J' : Nat} (hJ : J ≤ J') (h : jz_P n J F S E q w) : jz_P n J' F S E q w := by
  obtain ⟨h1, h2, r⟩ := h
  exact ⟨fun f k e => ⟨(h1 f k e).1, by have := (h1 f k e).2; omega⟩, fun s k e => ⟨(h2 s k e).1, by have := (h2 s k e).2; omega⟩, r⟩
/-- never more transfers than frames -/
theorem jz_len (h : jz_P n J F S E q w) : q.length ≤ n := by
  obtain ⟨h1, h2, h3, h4, h5, h6, h7, _⟩ := h
  have hb : ∀ x ∈ (q.map fun a => a.2), x < n := fun x m => by
    obtain ⟨⟨b, f⟩, m', e⟩ := List.mem_map.mp m
    simp only at e
    subst e
    obtain ⟨k, e, _⟩ := h7 b f m'
    exact (h1 f k e).1
  have key : ∀ (n : Nat) (l : List Nat), l.Nodup → (∀ x ∈ l, x < n) → l.length ≤ n := by
    intro n
    induction n with
    | zero =>
      intro l _ hl
      cases l with
      | nil => exact Nat.le_refl 0
      | cons a l => exact absurd (hl a List.mem_cons_self) (by omega)
    | succ n ih =>
      intro l hn hl
      by_cases m : n ∈ l
      · have h1 := ih (l.erase n) (hn.erase n) (fun x mx => by
          have mx' := (List.Nodup.mem_erase_iff hn).mp mx
          have := hl x mx'.2
          have := mx'.1
          omega)
        rw [List.length_erase_of_mem m] at h1
        omega
      · have := ih l hn (fun x mx => by
          have := hl x mx
          have : ¬ x = n := fun e => m (by rw [← e]; exact mx)
          omega)
        omega
  have := key n _ h6 hb
  simpa using this
end JZ
end
