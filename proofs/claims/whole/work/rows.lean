section
-- ===== PART A: goes FIRST, ahead of the names: the tables' words, and 'selects' of the private methods out of them =====
/-- a private method of a class that the tables say can be made, by its rows of tables_1 -/
def lw_okq (q : MethodName × Nat) : Prop := (q.1.cls ≠ "java/lang/invoke/MethodHandle" ∧ q.1.cls ≠ "java/lang/invoke/VarHandle") ∧ Cond.instantiable q.1.cls q.2 ∈ tables_1 ∧ Cond.privateMethod q.1 ∈ tables_1 ∧ Cond.instanceMethod q.1 ∈ tables_1
theorem lw_p0 : lw_okq (⟨"DrumMachine", "createBlock", "(LDrumMachine$Job;I)LDrumMachine$Block;"⟩, 12) := ⟨⟨by decide +kernel, by decide +kernel⟩, List.mem_of_getElem? (i := 11) (by decide +kernel), List.mem_of_getElem? (i := 256) (by decide +kernel), List.mem_of_getElem? (i := 257) (by decide +kernel)⟩
theorem lw_p1 : lw_okq (⟨"DrumMachine", "activate", "()V"⟩, 12) := ⟨⟨by decide +kernel, by decide +kernel⟩, List.mem_of_getElem? (i := 11) (by decide +kernel), List.mem_of_getElem? (i := 324) (by decide +kernel), List.mem_of_getElem? (i := 325) (by decide +kernel)⟩
theorem lw_p2 : lw_okq (⟨"DrumMachine", "find", "(I)LDrumMachine$Job;"⟩, 12) := ⟨⟨by decide +kernel, by decide +kernel⟩, List.mem_of_getElem? (i := 11) (by decide +kernel), List.mem_of_getElem? (i := 332) (by decide +kernel), List.mem_of_getElem? (i := 333) (by decide +kernel)⟩
theorem lw_p3 : lw_okq (⟨"DrumMachine", "tick", "()V"⟩, 12) := ⟨⟨by decide +kernel, by decide +kernel⟩, List.mem_of_getElem? (i := 11) (by decide +kernel), List.mem_of_getElem? (i := 340) (by decide +kernel), List.mem_of_getElem? (i := 341) (by decide +kernel)⟩
theorem lw_p4 : lw_okq (⟨"DrumMachine", "finishTransfer", "()V"⟩, 12) := ⟨⟨by decide +kernel, by decide +kernel⟩, List.mem_of_getElem? (i := 11) (by decide +kernel), List.mem_of_getElem? (i := 344) (by decide +kernel), List.mem_of_getElem? (i := 345) (by decide +kernel)⟩
theorem lw_p5 : lw_okq (⟨"DrumMachine", "forget", "(LDrumMachine$Block;)V"⟩, 12) := ⟨⟨by decide +kernel, by decide +kernel⟩, List.mem_of_getElem? (i := 11) (by decide +kernel), List.mem_of_getElem? (i := 360) (by decide +kernel), List.mem_of_getElem? (i := 361) (by decide +kernel)⟩
theorem lw_p6 : lw_okq (⟨"DrumMachine", "chooseVictim", "()V"⟩, 12) := ⟨⟨by decide +kernel, by decide +kernel⟩, List.mem_of_getElem? (i := 11) (by decide +kernel), List.mem_of_getElem? (i := 368) (by decide +kernel), List.mem_of_getElem? (i := 369) (by decide +kernel)⟩
theorem lw_p7 : lw_okq (⟨"DrumMachine", "nextInHand", "()I"⟩, 12) := ⟨⟨by decide +kernel, by decide +kernel⟩, List.mem_of_getElem? (i := 11) (by decide +kernel), List.mem_of_getElem? (i := 423) (by decide +kernel), List.mem_of_getElem? (i := 424) (by decide +kernel)⟩
theorem lw_p8 : lw_okq (⟨"DrumMachine", "doNextOrder", "(LDrumMachine$Job;)I"⟩, 12) := ⟨⟨by decide +kernel, by decide +kernel⟩, List.mem_of_getElem? (i := 11) (by decide +kernel), List.mem_of_getElem? (i := 436) (by decide +kernel), List.mem_of_getElem? (i := 437) (by decide +kernel)⟩
theorem lw_p9 : lw_okq (⟨"DrumMachine", "reach", "(LDrumMachine$Job;I)I"⟩, 12) := ⟨⟨by decide +kernel, by decide +kernel⟩, List.mem_of_getElem? (i := 11) (by decide +kernel), List.mem_of_getElem? (i := 440) (by decide +kernel), List.mem_of_getElem? (i := 441) (by decide +kernel)⟩
theorem lw_p10 : lw_okq (⟨"DrumMachine", "reachHeld", "(LDrumMachine$Job;LDrumMachine$Block;)I"⟩, 12) := ⟨⟨by decide +kernel, by decide +kernel⟩, List.mem_of_getElem? (i := 11) (by decide +kernel), List.mem_of_getElem? (i := 452) (by decide +kernel), List.mem_of_getElem? (i := 453) (by decide +kernel)⟩
theorem lw_p11 : lw_okq (⟨"DrumMachine", "settle", "(LDrumMachine$Job;I)V"⟩, 12) := ⟨⟨by decide +kernel, by decide +kernel⟩, List.mem_of_getElem? (i := 11) (by decide +kernel), List.mem_of_getElem? (i := 569) (by decide +kernel), List.mem_of_getElem? (i := 570) (by decide +kernel)⟩
theorem lw_p12 : lw_okq (⟨"DrumMachine", "endJob", "(LDrumMachine$Job;I)V"⟩, 12) := ⟨⟨by decide +kernel, by decide +kernel⟩, List.mem_of_getElem? (i := 11) (by decide +kernel), List.mem_of_getElem? (i := 573) (by decide +kernel), List.mem_of_getElem? (i := 574) (by decide +kernel)⟩
theorem lw_p13 : lw_okq (⟨"DrumMachineModel", "exist", "(I)V"⟩, 44) := ⟨⟨by decide +kernel, by decide +kernel⟩, List.mem_of_getElem? (i := 655) (by decide +kernel), List.mem_of_getElem? (i := 814) (by decide +kernel), List.mem_of_getElem? (i := 815) (by decide +kernel)⟩
theorem lw_p14 : lw_okq (⟨"DrumMachineModel", "notEnded", "()I"⟩, 44) := ⟨⟨by decide +kernel, by decide +kernel⟩, List.mem_of_getElem? (i := 655) (by decide +kernel), List.mem_of_getElem? (i := 822) (by decide +kernel), List.mem_of_getElem? (i := 823) (by decide +kernel)⟩
theorem lw_p15 : lw_okq (⟨"DrumMachineModel", "tick", "()V"⟩, 44) := ⟨⟨by decide +kernel, by decide +kernel⟩, List.mem_of_getElem? (i := 655) (by decide +kernel), List.mem_of_getElem? (i := 826) (by decide +kernel), List.mem_of_getElem? (i := 827) (by decide +kernel)⟩
def lw_privs_1 : List (MethodName × Nat) := [(⟨"DrumMachine", "createBlock", "(LDrumMachine$Job;I)LDrumMachine$Block;"⟩, 12), (⟨"DrumMachine", "activate", "()V"⟩, 12), (⟨"DrumMachine", "find", "(I)LDrumMachine$Job;"⟩, 12), (⟨"DrumMachine", "tick", "()V"⟩, 12), (⟨"DrumMachine", "finishTransfer", "()V"⟩, 12), (⟨"DrumMachine", "forget", "(LDrumMachine$Block;)V"⟩, 12), (⟨"DrumMachine", "chooseVictim", "()V"⟩, 12), (⟨"DrumMachine", "nextInHand", "()I"⟩, 12), (⟨"DrumMachine", "doNextOrder", "(LDrumMachine$Job;)I"⟩, 12), (⟨"DrumMachine", "reach", "(LDrumMachine$Job;I)I"⟩, 12), (⟨"DrumMachine", "reachHeld", "(LDrumMachine$Job;LDrumMachine$Block;)I"⟩, 12), (⟨"DrumMachine", "settle", "(LDrumMachine$Job;I)V"⟩, 12), (⟨"DrumMachine", "endJob", "(LDrumMachine$Job;I)V"⟩, 12), (⟨"DrumMachineModel", "exist", "(I)V"⟩, 44), (⟨"DrumMachineModel", "notEnded", "()I"⟩, 44), (⟨"DrumMachineModel", "tick", "()V"⟩, 44)]
theorem lw_r1 : ∀ q ∈ lw_privs_1, lw_okq q := List.forall_mem_cons.mpr ⟨lw_p0, List.forall_mem_cons.mpr ⟨lw_p1, List.forall_mem_cons.mpr ⟨lw_p2, List.forall_mem_cons.mpr ⟨lw_p3, List.forall_mem_cons.mpr ⟨lw_p4, List.forall_mem_cons.mpr ⟨lw_p5, List.forall_mem_cons.mpr ⟨lw_p6, List.forall_mem_cons.mpr ⟨lw_p7, List.forall_mem_cons.mpr ⟨lw_p8, List.forall_mem_cons.mpr ⟨lw_p9, List.forall_mem_cons.mpr ⟨lw_p10, List.forall_mem_cons.mpr ⟨lw_p11, List.forall_mem_cons.mpr ⟨lw_p12, List.forall_mem_cons.mpr ⟨lw_p13, List.forall_mem_cons.mpr ⟨lw_p14, List.forall_mem_cons.mpr ⟨lw_p15, fun _ h => absurd h List.not_mem_nil⟩⟩⟩⟩⟩⟩⟩⟩⟩⟩⟩⟩⟩⟩⟩⟩
theorem lw_p16 : lw_okq (⟨"DrumMachineModel", "finish", "()V"⟩, 44) := ⟨⟨by decide +kernel, by decide +kernel⟩, List.mem_of_getElem? (i := 655) (by decide +kernel), List.mem_of_getElem? (i := 830) (by decide +kernel), List.mem_of_getElem? (i := 831) (by decide +kernel)⟩
theorem lw_p17 : lw_okq (⟨"DrumMachineModel", "leave", "(I)V"⟩, 44) := ⟨⟨by decide +kernel, by decide +kernel⟩, List.mem_of_getElem? (i := 655) (by decide +kernel), List.mem_of_getElem? (i := 834) (by decide +kernel), List.mem_of_getElem? (i := 835) (by decide +kernel)⟩
theorem lw_p18 : lw_okq (⟨"DrumMachineModel", "vanish", "(I)V"⟩, 44) := ⟨⟨by decide +kernel, by decide +kernel⟩, List.mem_of_getElem? (i := 655) (by decide +kernel), List.mem_of_getElem? (i := 838) (by decide +kernel), List.mem_of_getElem? (i := 839) (by decide +kernel)⟩
theorem lw_p19 : lw_okq (⟨"DrumMachineModel", "freeFrame", "()I"⟩, 44) := ⟨⟨by decide +kernel, by decide +kernel⟩, List.mem_of_getElem? (i := 655) (by decide +kernel), List.mem_of_getElem? (i := 842) (by decide +kernel), List.mem_of_getElem? (i := 843) (by decide +kernel)⟩
theorem lw_p20 : lw_okq (⟨"DrumMachineModel", "frameOf", "(I)I"⟩, 44) := ⟨⟨by decide +kernel, by decide +kernel⟩, List.mem_of_getElem? (i := 655) (by decide +kernel), List.mem_of_getElem? (i := 846) (by decide +kernel), List.mem_of_getElem? (i := 847) (by decide +kernel)⟩
theorem lw_p21 : lw_okq (⟨"DrumMachineModel", "isWriteAsked", "()Z"⟩, 44) := ⟨⟨by decide +kernel, by decide +kernel⟩, List.mem_of_getElem? (i := 655) (by decide +kernel), List.mem_of_getElem? (i := 850) (by decide +kernel), List.mem_of_getElem? (i := 851) (by decide +kernel)⟩
theorem lw_p22 : lw_okq (⟨"DrumMachineModel", "choose", "()V"⟩, 44) := ⟨⟨by decide +kernel, by decide +kernel⟩, List.mem_of_getElem? (i := 655) (by decide +kernel), List.mem_of_getElem? (i := 854) (by decide +kernel), List.mem_of_getElem? (i := 855) (by decide +kernel)⟩
theorem lw_p23 : lw_okq (⟨"DrumMachineModel", "mayGo", "(I)Z"⟩, 44) := ⟨⟨by decide +kernel, by decide +kernel⟩, List.mem_of_getElem? (i := 655) (by decide +kernel), List.mem_of_getElem? (i := 858) (by decide +kernel), List.mem_of_getElem? (i := 859) (by decide +kernel)⟩
theorem lw_p24 : lw_okq (⟨"DrumMachineModel", "isWanted", "(I)Z"⟩, 44) := ⟨⟨by decide +kernel, by decide +kernel⟩, List.mem_of_getElem? (i := 655) (by decide +kernel), List.mem_of_getElem? (i := 862) (by decide +kernel), List.mem_of_getElem? (i := 863) (by decide +kernel)⟩
theorem lw_p25 : lw_okq (⟨"DrumMachineModel", "isActive", "(I)Z"⟩, 44) := ⟨⟨by decide +kernel, by decide +kernel⟩, List.mem_of_getElem? (i := 655) (by decide +kernel), List.mem_of_getElem? (i := 866) (by decide +kernel), List.mem_of_getElem? (i := 867) (by decide +kernel)⟩
theorem lw_p26 : lw_okq (⟨"DrumMachineModel", "ask", "(II)V"⟩, 44) := ⟨⟨by decide +kernel, by decide +kernel⟩, List.mem_of_getElem? (i := 655) (by decide +kernel), List.mem_of_getElem? (i := 876) (by decide +kernel), List.mem_of_getElem? (i := 877) (by decide +kernel)⟩
theorem lw_p27 : lw_okq (⟨"DrumMachineModel", "begin", "()V"⟩, 44) := ⟨⟨by decide +kernel, by decide +kernel⟩, List.mem_of_getElem? (i := 655) (by decide +kernel), List.mem_of_getElem? (i := 880) (by decide +kernel), List.mem_of_getElem? (i := 881) (by decide +kernel)⟩
theorem lw_p28 : lw_okq (⟨"DrumMachineModel", "drop", "(I)V"⟩, 44) := ⟨⟨by decide +kernel, by decide +kernel⟩, List.mem_of_getElem? (i := 655) (by decide +kernel), List.mem_of_getElem? (i := 884) (by decide +kernel), List.mem_of_getElem? (i := 885) (by decide +kernel)⟩
theorem lw_p29 : lw_okq (⟨"DrumMachineModel", "sectorOf", "(I)I"⟩, 44) := ⟨⟨by decide +kernel, by decide +kernel⟩, List.mem_of_getElem? (i := 655) (by decide +kernel), List.mem_of_getElem? (i := 888) (by decide +kernel), List.mem_of_getElem? (i := 889) (by decide +kernel)⟩
theorem lw_p30 : lw_okq (⟨"DrumMachineModel", "passes", "(I)I"⟩, 44) := ⟨⟨by decide +kernel, by decide +kernel⟩, List.mem_of_getElem? (i := 655) (by decide +kernel), List.mem_of_getElem? (i := 892) (by decide +kernel), List.mem_of_getElem? (i := 893) (by decide +kernel)⟩
theorem lw_p31 : lw_okq (⟨"DrumMachineModel", "next", "()I"⟩, 44) := ⟨⟨by decide +kernel, by decide +kernel⟩, List.mem_of_getElem? (i := 655) (by decide +kernel), List.mem_of_getElem? (i := 896) (by decide +kernel), List.mem_of_getElem? (i := 897) (by decide +kernel)⟩
def lw_privs_2 : List (MethodName × Nat) := [(⟨"DrumMachineModel", "finish", "()V"⟩, 44), (⟨"DrumMachineModel", "leave", "(I)V"⟩, 44), (⟨"DrumMachineModel", "vanish", "(I)V"⟩, 44), (⟨"DrumMachineModel", "freeFrame", "()I"⟩, 44), (⟨"DrumMachineModel", "frameOf", "(I)I"⟩, 44), (⟨"DrumMachineModel", "isWriteAsked", "()Z"⟩, 44), (⟨"DrumMachineModel", "choose", "()V"⟩, 44), (⟨"DrumMachineModel", "mayGo", "(I)Z"⟩, 44), (⟨"DrumMachineModel", "isWanted", "(I)Z"⟩, 44), (⟨"DrumMachineModel", "isActive", "(I)Z"⟩, 44), (⟨"DrumMachineModel", "ask", "(II)V"⟩, 44), (⟨"DrumMachineModel", "begin", "()V"⟩, 44), (⟨"DrumMachineModel", "drop", "(I)V"⟩, 44), (⟨"DrumMachineModel", "sectorOf", "(I)I"⟩, 44), (⟨"DrumMachineModel", "passes", "(I)I"⟩, 44), (⟨"DrumMachineModel", "next", "()I"⟩, 44)]
theorem lw_r2 : ∀ q ∈ lw_privs_2, lw_okq q := List.forall_mem_cons.mpr ⟨lw_p16, List.forall_mem_cons.mpr ⟨lw_p17, List.forall_mem_cons.mpr ⟨lw_p18, List.forall_mem_cons.mpr ⟨lw_p19, List.forall_mem_cons.mpr ⟨lw_p20, List.forall_mem_cons.mpr ⟨lw_p21, List.forall_mem_cons.mpr ⟨lw_p22, List.forall_mem_cons.mpr ⟨lw_p23, List.forall_mem_cons.mpr ⟨lw_p24, List.forall_mem_cons.mpr ⟨lw_p25, List.forall_mem_cons.mpr ⟨lw_p26, List.forall_mem_cons.mpr ⟨lw_p27, List.forall_mem_cons.mpr ⟨lw_p28, List.forall_mem_cons.mpr ⟨lw_p29, List.forall_mem_cons.mpr ⟨lw_p30, List.forall_mem_cons.mpr ⟨lw_p31, fun _ h => absurd h List.not_mem_nil⟩⟩⟩⟩⟩⟩⟩⟩⟩⟩⟩⟩⟩⟩⟩⟩
theorem lw_p32 : lw_okq (⟨"DrumMachineModel", "isReady", "(I)Z"⟩, 44) := ⟨⟨by decide +kernel, by decide +kernel⟩, List.mem_of_getElem? (i := 655) (by decide +kernel), List.mem_of_getElem? (i := 900) (by decide +kernel), List.mem_of_getElem? (i := 901) (by decide +kernel)⟩
theorem lw_p33 : lw_okq (⟨"DrumMachineModel", "step", "(I)V"⟩, 44) := ⟨⟨by decide +kernel, by decide +kernel⟩, List.mem_of_getElem? (i := 655) (by decide +kernel), List.mem_of_getElem? (i := 904) (by decide +kernel), List.mem_of_getElem? (i := 905) (by decide +kernel)⟩
theorem lw_p34 : lw_okq (⟨"DrumMachineModel", "ends", "(II)V"⟩, 44) := ⟨⟨by decide +kernel, by decide +kernel⟩, List.mem_of_getElem? (i := 655) (by decide +kernel), List.mem_of_getElem? (i := 908) (by decide +kernel), List.mem_of_getElem? (i := 909) (by decide +kernel)⟩
theorem lw_p35 : lw_okq (⟨"DrumMachineModel", "comes", "(II)Z"⟩, 44) := ⟨⟨by decide +kernel, by decide +kernel⟩, List.mem_of_getElem? (i := 655) (by decide +kernel), List.mem_of_getElem? (i := 912) (by decide +kernel), List.mem_of_getElem? (i := 913) (by decide +kernel)⟩
theorem lw_p36 : lw_okq (⟨"DrumMachineModel", "sum", "(IIIII)I"⟩, 44) := ⟨⟨by decide +kernel, by decide +kernel⟩, List.mem_of_getElem? (i := 655) (by decide +kernel), List.mem_of_getElem? (i := 922) (by decide +kernel), List.mem_of_getElem? (i := 923) (by decide +kernel)⟩
theorem lw_p37 : lw_okq (⟨"DrumMachineModel", "why", "(III)I"⟩, 44) := ⟨⟨by decide +kernel, by decide +kernel⟩, List.mem_of_getElem? (i := 655) (by decide +kernel), List.mem_of_getElem? (i := 929) (by decide +kernel), List.mem_of_getElem? (i := 930) (by decide +kernel)⟩
theorem lw_p38 : lw_okq (⟨"DrumMachineModel", "at", "(II)J"⟩, 44) := ⟨⟨by decide +kernel, by decide +kernel⟩, List.mem_of_getElem? (i := 655) (by decide +kernel), List.mem_of_getElem? (i := 934) (by decide +kernel), List.mem_of_getElem? (i := 935) (by decide +kernel)⟩
theorem lw_p39 : lw_okq (⟨"DrumMachineModel", "writeNumber", "(II)V"⟩, 44) := ⟨⟨by decide +kernel, by decide +kernel⟩, List.mem_of_getElem? (i := 655) (by decide +kernel), List.mem_of_getElem? (i := 939) (by decide +kernel), List.mem_of_getElem? (i := 940) (by decide +kernel)⟩
theorem lw_p40 : lw_okq (⟨"DrumMachineModel", "prints", "(II)Z"⟩, 44) := ⟨⟨by decide +kernel, by decide +kernel⟩, List.mem_of_getElem? (i := 655) (by decide +kernel), List.mem_of_getElem? (i := 943) (by decide +kernel), List.mem_of_getElem? (i := 944) (by decide +kernel)⟩
theorem lw_p41 : lw_okq (⟨"DrumMachineModel", "ofRegister", "(IIIII)I"⟩, 44) := ⟨⟨by decide +kernel, by decide +kernel⟩, List.mem_of_getElem? (i := 655) (by decide +kernel), List.mem_of_getElem? (i := 948) (by decide +kernel), List.mem_of_getElem? (i := 949) (by decide +kernel)⟩
theorem lw_p42 : lw_okq (⟨"DrumMachineModel", "setB", "(IIJ)V"⟩, 44) := ⟨⟨by decide +kernel, by decide +kernel⟩, List.mem_of_getElem? (i := 655) (by decide +kernel), List.mem_of_getElem? (i := 952) (by decide +kernel), List.mem_of_getElem? (i := 953) (by decide +kernel)⟩
theorem lw_p43 : lw_okq (⟨"DrumMachineModel", "ofAccumulator", "(IIII)I"⟩, 44) := ⟨⟨by decide +kernel, by decide +kernel⟩, List.mem_of_getElem? (i := 655) (by decide +kernel), List.mem_of_getElem? (i := 956) (by decide +kernel), List.mem_of_getElem? (i := 957) (by decide +kernel)⟩
theorem lw_p44 : lw_okq (⟨"DrumMachineModel", "other", "(III)V"⟩, 44) := ⟨⟨by decide +kernel, by decide +kernel⟩, List.mem_of_getElem? (i := 655) (by decide +kernel), List.mem_of_getElem? (i := 960) (by decide +kernel), List.mem_of_getElem? (i := 961) (by decide +kernel)⟩
theorem lw_p45 : lw_okq (⟨"DrumMachineModel", "nextByte", "(I)I"⟩, 44) := ⟨⟨by decide +kernel, by decide +kernel⟩, List.mem_of_getElem? (i := 655) (by decide +kernel), List.mem_of_getElem? (i := 964) (by decide +kernel), List.mem_of_getElem? (i := 965) (by decide +kernel)⟩
theorem lw_p46 : lw_okq (⟨"DrumMachineModel", "readNumber", "(I)V"⟩, 44) := ⟨⟨by decide +kernel, by decide +kernel⟩, List.mem_of_getElem? (i := 655) (by decide +kernel), List.mem_of_getElem? (i := 968) (by decide +kernel), List.mem_of_getElem? (i := 969) (by decide +kernel)⟩
theorem lw_p47 : lw_okq (⟨"DrumMachineModel", "round", "()V"⟩, 44) := ⟨⟨by decide +kernel, by decide +kernel⟩, List.mem_of_getElem? (i := 655) (by decide +kernel), List.mem_of_getElem? (i := 977) (by decide +kernel), List.mem_of_getElem? (i := 978) (by decide +kernel)⟩
def lw_privs_3 : List (MethodName × Nat) := [(⟨"DrumMachineModel", "isReady", "(I)Z"⟩, 44), (⟨"DrumMachineModel", "step", "(I)V"⟩, 44), (⟨"DrumMachineModel", "ends", "(II)V"⟩, 44), (⟨"DrumMachineModel", "comes", "(II)Z"⟩, 44), (⟨"DrumMachineModel", "sum", "(IIIII)I"⟩, 44), (⟨"DrumMachineModel", "why", "(III)I"⟩, 44), (⟨"DrumMachineModel", "at", "(II)J"⟩, 44), (⟨"DrumMachineModel", "writeNumber", "(II)V"⟩, 44), (⟨"DrumMachineModel", "prints", "(II)Z"⟩, 44), (⟨"DrumMachineModel", "ofRegister", "(IIIII)I"⟩, 44), (⟨"DrumMachineModel", "setB", "(IIJ)V"⟩, 44), (⟨"DrumMachineModel", "ofAccumulator", "(IIII)I"⟩, 44), (⟨"DrumMachineModel", "other", "(III)V"⟩, 44), (⟨"DrumMachineModel", "nextByte", "(I)I"⟩, 44), (⟨"DrumMachineModel", "readNumber", "(I)V"⟩, 44), (⟨"DrumMachineModel", "round", "()V"⟩, 44)]
theorem lw_r3 : ∀ q ∈ lw_privs_3, lw_okq q := List.forall_mem_cons.mpr ⟨lw_p32, List.forall_mem_cons.mpr ⟨lw_p33, List.forall_mem_cons.mpr ⟨lw_p34, List.forall_mem_cons.mpr ⟨lw_p35, List.forall_mem_cons.mpr ⟨lw_p36, List.forall_mem_cons.mpr ⟨lw_p37, List.forall_mem_cons.mpr ⟨lw_p38, List.forall_mem_cons.mpr ⟨lw_p39, List.forall_mem_cons.mpr ⟨lw_p40, List.forall_mem_cons.mpr ⟨lw_p41, List.forall_mem_cons.mpr ⟨lw_p42, List.forall_mem_cons.mpr ⟨lw_p43, List.forall_mem_cons.mpr ⟨lw_p44, List.forall_mem_cons.mpr ⟨lw_p45, List.forall_mem_cons.mpr ⟨lw_p46, List.forall_mem_cons.mpr ⟨lw_p47, fun _ h => absurd h List.not_mem_nil⟩⟩⟩⟩⟩⟩⟩⟩⟩⟩⟩⟩⟩⟩⟩⟩
theorem lw_p48 : lw_okq (⟨"DrumMachineModel", "isJob", "(I)Z"⟩, 44) := ⟨⟨by decide +kernel, by decide +kernel⟩, List.mem_of_getElem? (i := 655) (by decide +kernel), List.mem_of_getElem? (i := 985) (by decide +kernel), List.mem_of_getElem? (i := 986) (by decide +kernel)⟩
def lw_privs_4 : List (MethodName × Nat) := [(⟨"DrumMachineModel", "isJob", "(I)Z"⟩, 44)]
theorem lw_r4 : ∀ q ∈ lw_privs_4, lw_okq q := List.forall_mem_cons.mpr ⟨lw_p48, fun _ h => absurd h List.not_mem_nil⟩
def lw_privs : List (MethodName × Nat) := lw_privs_1 ++ (lw_privs_2 ++ (lw_privs_3 ++ (lw_privs_4)))
def lw_tbl : List Cond := k2_sels lw_privs ++ tables_1
theorem lw_privs_ok : ∀ q ∈ lw_privs, lw_okq q := by
  show ∀ q ∈ lw_privs_1 ++ (lw_privs_2 ++ (lw_privs_3 ++ (lw_privs_4))), lw_okq q
  exact List.forall_mem_append.mpr ⟨lw_r1, List.forall_mem_append.mpr ⟨lw_r2, List.forall_mem_append.mpr ⟨lw_r3, lw_r4⟩⟩⟩
end
section
/-! ===== BEGIN words of one list among another's, by their places ===== -/
theorem goodIn_r {big : List Cond} (ws : List Cond) (ps : List Nat) (hp : ws = ps.filterMap (fun i => big[i]?)) (h : ws.all goodWord = true) : GoodIn big ws := by
  intro w hw
  have h1 := List.all_eq_true.mp h w hw
  rw [hp] at hw
  obtain ⟨i, -, hi⟩ := List.mem_filterMap.mp hw
  have hm : w ∈ big := by first | exact List.mem_of_getElem? hi | exact List.getElem?_mem hi
  exact ⟨hm, good_of_word h1⟩
theorem goodIn_app {big a b : List Cond} (ha : GoodIn big a) (hb : GoodIn big b) : GoodIn big (a ++ b) := fun w h => (List.mem_append.mp h).elim (ha w) (hb w)
theorem goodIn_ca {big a b : List Cond} {c : Cond} (ha : GoodIn big (c :: a)) (hb : GoodIn big b) : GoodIn big (c :: (a ++ b)) := fun w h => (List.mem_cons.mp h).elim (fun e => ha w (List.mem_cons.mpr (Or.inl e))) (fun h => (List.mem_append.mp h).elim (fun h => ha w (List.mem_cons.mpr (Or.inr h))) (hb w))
theorem goodIn_sub {big ws : List Cond} (hm : ∀ w ∈ ws, w ∈ big) (h : ws.all goodWord = true) : GoodIn big ws := fun w hw => ⟨hm w hw, good_of_word (List.all_eq_true.mp h w hw)⟩
/-! ===== END ===== -/

/-! ===== BEGIN printed: names, fields, word lists, decode rows ===== -/
def RX0 : String := "DrumMachine$Block"
def TX0 : u_T := fun k => match k with
  | 0 => ("DrumMachine$Block", "owner", "LDrumMachine$Job;", true)
  | 1 => ("DrumMachine$Block", "number", "I", true)
  | 2 => ("DrumMachine$Block", "frame", "I", false)
  | 3 => ("DrumMachine$Block", "sector", "I", false)
  | 4 => ("DrumMachine$Block", "locked", "Z", false)
  | 5 => ("DrumMachine$Block", "leaving", "Z", false)
  | 6 => ("DrumMachine$Block", "unusedRounds", "I", false)
  | 7 => ("DrumMachine$Block", "lastPause", "I", false)
  | 8 => ("DrumMachine$Block", "usedInRound", "I", false)
  | _ => ("DrumMachine$Block", "chosenInRound", "I", false)
def tyX0 : Nat → FieldType := fun k => match k with
  | 0 => .object "DrumMachine$Job"
  | 1 => .int
  | 2 => .int
  | 3 => .int
  | 4 => .boolean
  | 5 => .boolean
  | 6 => .int
  | 7 => .int
  | 8 => .int
  | _ => .int
theorem nmX0 : ∀ a, a < 10 → ∀ b, b < 10 → a ≠ b → (TX0 a).2.1 ≠ (TX0 b).2.1 := by decide +kernel
theorem tyX0_ok : ∀ k, k < 10 → parseFieldDescriptor (TX0 k).2.2.1 = some (tyX0 k) := by decide +kernel
abbrev cX0_init : ByteArray := prog_2_method_1_code
def yX0_init : MethodName := ⟨RX0, "<init>", "(LDrumMachine$Job;I)V"⟩
abbrev cX0_arrive : ByteArray := prog_2_method_2_code
def yX0_arrive : MethodName := ⟨RX0, "arrive", "(I)V"⟩
abbrev cX0_age : ByteArray := prog_2_method_3_code
def yX0_age : MethodName := ⟨RX0, "age", "(I)V"⟩
abbrev cX0_mayLeave : ByteArray := prog_2_method_4_code
def yX0_mayLeave : MethodName := ⟨RX0, "mayLeave", "()Z"⟩
abbrev cX0_victimClass : ByteArray := prog_2_method_5_code
def yX0_victimClass : MethodName := ⟨RX0, "victimClass", "()I"⟩
abbrev cX0_isBetterVictimThan : ByteArray := prog_2_method_6_code
def yX0_isBetterVictimThan : MethodName := ⟨RX0, "isBetterVictimThan", "(LDrumMachine$Block;)Z"⟩
def RX1 : String := "DrumMachine$Core"
def TX1 : u_T := fun k => match k with
  | 0 => ("DrumMachine$Core", "held", "[LDrumMachine$Block;", true)
  | 1 => ("DrumMachine$Core", "size", "I", false)
  | 2 => ("DrumMachine$Core", "free", "I", false)
  | _ => ("DrumMachine$Core", "rounds", "I", false)
def tyX1 : Nat → FieldType := fun k => match k with
  | 0 => .array (.object "DrumMachine$Block")
  | 1 => .int
  | 2 => .int
  | _ => .int
theorem nmX1 : ∀ a, a < 4 → ∀ b, b < 4 → a ≠ b → (TX1 a).2.1 ≠ (TX1 b).2.1 := by decide +kernel
theorem tyX1_ok : ∀ k, k < 4 → parseFieldDescriptor (TX1 k).2.2.1 = some (tyX1 k) := by decide +kernel
abbrev cX1_init : ByteArray := prog_3_method_1_code
def yX1_init : MethodName := ⟨RX1, "<init>", "()V"⟩
abbrev cX1_resize : ByteArray := prog_3_method_2_code
def yX1_resize : MethodName := ⟨RX1, "resize", "(I)V"⟩
abbrev cX1_mostActive : ByteArray := prog_3_method_3_code
def yX1_mostActive : MethodName := ⟨RX1, "mostActive", "()I"⟩
abbrev cX1_blockIn : ByteArray := prog_3_method_4_code
def yX1_blockIn : MethodName := ⟨RX1, "blockIn", "(I)LDrumMachine$Block;"⟩
abbrev cX1_lowestFree : ByteArray := prog_3_method_5_code
def yX1_lowestFree : MethodName := ⟨RX1, "lowestFree", "()I"⟩
abbrev cX1_place : ByteArray := prog_3_method_6_code
def yX1_place : MethodName := ⟨RX1, "place", "(LDrumMachine$Block;I)V"⟩
abbrev cX1_release : ByteArray := prog_3_method_7_code
def yX1_release : MethodName := ⟨RX1, "release", "(LDrumMachine$Block;)V"⟩
abbrev cX1_victim : ByteArray := prog_3_method_8_code
def yX1_victim : MethodName := ⟨RX1, "victim", "()LDrumMachine$Block;"⟩
abbrev cX1_use : ByteArray := prog_3_method_9_code
def yX1_use : MethodName := ⟨RX1, "use", "(LDrumMachine$Block;)V"⟩
abbrev cX1_holdRound : ByteArray := prog_3_method_10_code
def yX1_holdRound : MethodName := ⟨RX1, "holdRound", "()V"⟩
def RX2 : String := "DrumMachine$Drum"
def TX2 : u_T := fun k => match k with
  | 0 => ("DrumMachine$Drum", "sectors", "[LDrumMachine$Block;", true)
  | 1 => ("DrumMachine$Drum", "asked", "[LDrumMachine$Block;", true)
  | 2 => ("DrumMachine$Drum", "askedCount", "I", false)
  | 3 => ("DrumMachine$Drum", "underWay", "LDrumMachine$Block;", false)
  | 4 => ("DrumMachine$Drum", "endsAt", "I", false)
  | 5 => ("DrumMachine$Drum", "writePending", "Z", false)
  | 6 => ("DrumMachine$Drum", "reads", "I", false)
  | _ => ("DrumMachine$Drum", "writes", "I", false)
def tyX2 : Nat → FieldType := fun k => match k with
  | 0 => .array (.object "DrumMachine$Block")
  | 1 => .array (.object "DrumMachine$Block")
  | 2 => .int
  | 3 => .object "DrumMachine$Block"
  | 4 => .int
  | 5 => .boolean
  | 6 => .int
  | _ => .int
theorem nmX2 : ∀ a, a < 8 → ∀ b, b < 8 → a ≠ b → (TX2 a).2.1 ≠ (TX2 b).2.1 := by decide +kernel
theorem tyX2_ok : ∀ k, k < 8 → parseFieldDescriptor (TX2 k).2.2.1 = some (tyX2 k) := by decide +kernel
abbrev cX2_init : ByteArray := prog_4_method_1_code
def yX2_init : MethodName := ⟨RX2, "<init>", "()V"⟩
abbrev cX2_blockOn : ByteArray := prog_4_method_2_code
def yX2_blockOn : MethodName := ⟨RX2, "blockOn", "(I)LDrumMachine$Block;"⟩
abbrev cX2_load : ByteArray := prog_4_method_3_code
def yX2_load : MethodName := ⟨RX2, "load", "(LDrumMachine$Block;)V"⟩
abbrev cX2_put : ByteArray := prog_4_method_4_code
def yX2_put : MethodName := ⟨RX2, "put", "(LDrumMachine$Block;I)V"⟩
abbrev cX2_release : ByteArray := prog_4_method_5_code
def yX2_release : MethodName := ⟨RX2, "release", "(LDrumMachine$Block;)V"⟩
abbrev cX2_ask : ByteArray := prog_4_method_6_code
def yX2_ask : MethodName := ⟨RX2, "ask", "(LDrumMachine$Block;)V"⟩
abbrev cX2_cancel : ByteArray := prog_4_method_7_code
def yX2_cancel : MethodName := ⟨RX2, "cancel", "(LDrumMachine$Block;)V"⟩
abbrev cX2_dropAsked : ByteArray := prog_4_method_8_code
def yX2_dropAsked : MethodName := ⟨RX2, "dropAsked", "(I)V"⟩
abbrev cX2_begin : ByteArray := prog_4_method_9_code
def yX2_begin : MethodName := ⟨RX2, "begin", "(I)V"⟩
abbrev cX2_takeEnded : ByteArray := prog_4_method_10_code
def yX2_takeEnded : MethodName := ⟨RX2, "takeEnded", "(I)LDrumMachine$Block;"⟩
abbrev cX2_nextFreeSector : ByteArray := prog_4_method_11_code
def yX2_nextFreeSector : MethodName := ⟨RX2, "nextFreeSector", "(I)I"⟩
abbrev cX2_ticksTill : ByteArray := prog_4_method_12_code
def yX2_ticksTill : MethodName := ⟨RX2, "ticksTill", "(II)I"⟩
def RX3 : String := "DrumMachine$Job"
def TX3 : u_T := fun k => match k with
  | 0 => ("DrumMachine$Job", "number", "I", true)
  | 1 => ("DrumMachine$Job", "limit", "I", true)
  | 2 => ("DrumMachine$Job", "accumulator", "J", false)
  | 3 => ("DrumMachine$Job", "indexes", "[I", true)
  | 4 => ("DrumMachine$Job", "control", "I", false)
  | 5 => ("DrumMachine$Job", "store", "[J", true)
  | 6 => ("DrumMachine$Job", "blocks", "[LDrumMachine$Block;", true)
  | 7 => ("DrumMachine$Job", "tape", "[I", true)
  | 8 => ("DrumMachine$Job", "tapeAt", "I", false)
  | 9 => ("DrumMachine$Job", "print", "[I", true)
  | 10 => ("DrumMachine$Job", "printCount", "I", false)
  | 11 => ("DrumMachine$Job", "ordersDone", "I", false)
  | 12 => ("DrumMachine$Job", "end", "I", false)
  | 13 => ("DrumMachine$Job", "active", "Z", false)
  | 14 => ("DrumMachine$Job", "awaited", "LDrumMachine$Block;", false)
  | _ => ("DrumMachine$Job", "awaitsFrame", "Z", false)
def tyX3 : Nat → FieldType := fun k => match k with
  | 0 => .int
  | 1 => .int
  | 2 => .long
  | 3 => .array .int
  | 4 => .int
  | 5 => .array .long
  | 6 => .array (.object "DrumMachine$Block")
  | 7 => .array .int
  | 8 => .int
  | 9 => .array .int
  | 10 => .int
  | 11 => .int
  | 12 => .int
  | 13 => .boolean
  | 14 => .object "DrumMachine$Block"
  | _ => .boolean
theorem nmX3 : ∀ a, a < 16 → ∀ b, b < 16 → a ≠ b → (TX3 a).2.1 ≠ (TX3 b).2.1 := by decide +kernel
theorem tyX3_ok : ∀ k, k < 16 → parseFieldDescriptor (TX3 k).2.2.1 = some (tyX3 k) := by decide +kernel
abbrev cX3_init : ByteArray := prog_5_method_1_code
def yX3_init : MethodName := ⟨RX3, "<init>", "(IILDrumMachine$Tray;I)V"⟩
abbrev cX3_wrapWord : ByteArray := prog_5_method_2_code
def yX3_wrapWord : MethodName := ⟨RX3, "wrapWord", "(J)J"⟩
abbrev cX3_wrapIndex : ByteArray := prog_5_method_3_code
def yX3_wrapIndex : MethodName := ⟨RX3, "wrapIndex", "(I)I"⟩
abbrev cX3_isInStore : ByteArray := prog_5_method_4_code
def yX3_isInStore : MethodName := ⟨RX3, "isInStore", "(I)Z"⟩
abbrev cX3_isReady : ByteArray := prog_5_method_5_code
def yX3_isReady : MethodName := ⟨RX3, "isReady", "(Z)Z"⟩
abbrev cX3_stopWaiting : ByteArray := prog_5_method_6_code
def yX3_stopWaiting : MethodName := ⟨RX3, "stopWaiting", "()V"⟩
abbrev cX3_wants : ByteArray := prog_5_method_7_code
def yX3_wants : MethodName := ⟨RX3, "wants", "(LDrumMachine$Block;)Z"⟩
abbrev cX3_blockOf : ByteArray := prog_5_method_8_code
def yX3_blockOf : MethodName := ⟨RX3, "blockOf", "(I)LDrumMachine$Block;"⟩
abbrev cX3_setBlock : ByteArray := prog_5_method_9_code
def yX3_setBlock : MethodName := ⟨RX3, "setBlock", "(ILDrumMachine$Block;)V"⟩
abbrev cX3_load : ByteArray := prog_5_method_10_code
def yX3_load : MethodName := ⟨RX3, "load", "(I)J"⟩
abbrev cX3_keep : ByteArray := prog_5_method_11_code
def yX3_keep : MethodName := ⟨RX3, "keep", "(IJ)V"⟩
abbrev cX3_index : ByteArray := prog_5_method_12_code
def yX3_index : MethodName := ⟨RX3, "index", "(I)I"⟩
abbrev cX3_setIndex : ByteArray := prog_5_method_13_code
def yX3_setIndex : MethodName := ⟨RX3, "setIndex", "(II)V"⟩
abbrev cX3_printedByte : ByteArray := prog_5_method_14_code
def yX3_printedByte : MethodName := ⟨RX3, "printedByte", "(I)I"⟩
abbrev cX3_addressIn : ByteArray := prog_5_method_15_code
def yX3_addressIn : MethodName := ⟨RX3, "addressIn", "(J)I"⟩
abbrev cX3_obey : ByteArray := prog_5_method_16_code
def yX3_obey : MethodName := ⟨RX3, "obey", "(III)I"⟩
abbrev cX3_obeyIndexOrder : ByteArray := prog_5_method_17_code
def yX3_obeyIndexOrder : MethodName := ⟨RX3, "obeyIndexOrder", "(III)V"⟩
abbrev cX3_obeyAccumulatorOrder : ByteArray := prog_5_method_18_code
def yX3_obeyAccumulatorOrder : MethodName := ⟨RX3, "obeyAccumulatorOrder", "(II)V"⟩
abbrev cX3_goesElsewhere : ByteArray := prog_5_method_19_code
def yX3_goesElsewhere : MethodName := ⟨RX3, "goesElsewhere", "(II)Z"⟩
abbrev cX3_obeyRoutine : ByteArray := prog_5_method_20_code
def yX3_obeyRoutine : MethodName := ⟨RX3, "obeyRoutine", "(II)I"⟩
abbrev cX3_printByte : ByteArray := prog_5_method_21_code
def yX3_printByte : MethodName := ⟨RX3, "printByte", "(I)I"⟩
abbrev cX3_printNumber : ByteArray := prog_5_method_22_code
def yX3_printNumber : MethodName := ⟨RX3, "printNumber", "()I"⟩
abbrev cX3_nextByte : ByteArray := prog_5_method_23_code
def yX3_nextByte : MethodName := ⟨RX3, "nextByte", "()I"⟩
abbrev cX3_takeByte : ByteArray := prog_5_method_24_code
def yX3_takeByte : MethodName := ⟨RX3, "takeByte", "()I"⟩
abbrev cX3_takeNumber : ByteArray := prog_5_method_25_code
def yX3_takeNumber : MethodName := ⟨RX3, "takeNumber", "()J"⟩
abbrev cX3_divide : ByteArray := prog_5_method_26_code
def yX3_divide : MethodName := ⟨RX3, "divide", "(JZ)I"⟩
abbrev cX3_takeRoot : ByteArray := prog_5_method_27_code
def yX3_takeRoot : MethodName := ⟨RX3, "takeRoot", "()I"⟩
abbrev cX3_digestFrom : ByteArray := prog_5_method_28_code
def yX3_digestFrom : MethodName := ⟨RX3, "digestFrom", "(J)J"⟩
def RX4 : String := "DrumMachine$Order"
def TX4 : u_T := fun k => match k with
  | _ => ("", "", "", false)
def tyX4 : Nat → FieldType := fun k => match k with
  | _ => .int
theorem nmX4 : ∀ a, a < 0 → ∀ b, b < 0 → a ≠ b → (TX4 a).2.1 ≠ (TX4 b).2.1 := by decide +kernel
theorem tyX4_ok : ∀ k, k < 0 → parseFieldDescriptor (TX4 k).2.2.1 = some (tyX4 k) := by decide +kernel
abbrev cX4_function : ByteArray := prog_6_method_2_code
def yX4_function : MethodName := ⟨RX4, "function", "(J)I"⟩
abbrev cX4_indexRegister : ByteArray := prog_6_method_3_code
def yX4_indexRegister : MethodName := ⟨RX4, "indexRegister", "(J)I"⟩
abbrev cX4_modifier : ByteArray := prog_6_method_4_code
def yX4_modifier : MethodName := ⟨RX4, "modifier", "(J)I"⟩
abbrev cX4_isKnown : ByteArray := prog_6_method_5_code
def yX4_isKnown : MethodName := ⟨RX4, "isKnown", "(I)Z"⟩
abbrev cX4_takesWord : ByteArray := prog_6_method_6_code
def yX4_takesWord : MethodName := ⟨RX4, "takesWord", "(I)Z"⟩
def RX5 : String := "DrumMachine$Tray"
def TX5 : u_T := fun k => match k with
  | 0 => ("DrumMachine$Tray", "words", "[J", true)
  | 1 => ("DrumMachine$Tray", "bytes", "[I", true)
  | 2 => ("DrumMachine$Tray", "wordCount", "I", false)
  | _ => ("DrumMachine$Tray", "byteCount", "I", false)
def tyX5 : Nat → FieldType := fun k => match k with
  | 0 => .array .long
  | 1 => .array .int
  | 2 => .int
  | _ => .int
theorem nmX5 : ∀ a, a < 4 → ∀ b, b < 4 → a ≠ b → (TX5 a).2.1 ≠ (TX5 b).2.1 := by decide +kernel
theorem tyX5_ok : ∀ k, k < 4 → parseFieldDescriptor (TX5 k).2.2.1 = some (tyX5 k) := by decide +kernel
abbrev cX5_init : ByteArray := prog_7_method_1_code
def yX5_init : MethodName := ⟨RX5, "<init>", "()V"⟩
abbrev cX5_hasRoomForWords : ByteArray := prog_7_method_2_code
def yX5_hasRoomForWords : MethodName := ⟨RX5, "hasRoomForWords", "(I)Z"⟩
abbrev cX5_hasRoomForBytes : ByteArray := prog_7_method_3_code
def yX5_hasRoomForBytes : MethodName := ⟨RX5, "hasRoomForBytes", "(I)Z"⟩
abbrev cX5_addWord : ByteArray := prog_7_method_4_code
def yX5_addWord : MethodName := ⟨RX5, "addWord", "(J)V"⟩
abbrev cX5_addBytes : ByteArray := prog_7_method_5_code
def yX5_addBytes : MethodName := ⟨RX5, "addBytes", "(JI)V"⟩
abbrev cX5_empty : ByteArray := prog_7_method_6_code
def yX5_empty : MethodName := ⟨RX5, "empty", "()V"⟩
def RX6 : String := "DrumMachine"
def TX6 : u_T := fun k => match k with
  | 0 => ("DrumMachine", "tray", "LDrumMachine$Tray;", true)
  | 1 => ("DrumMachine", "core", "LDrumMachine$Core;", true)
  | 2 => ("DrumMachine", "drum", "LDrumMachine$Drum;", true)
  | 3 => ("DrumMachine", "jobs", "[LDrumMachine$Job;", true)
  | 4 => ("DrumMachine", "taken", "I", false)
  | 5 => ("DrumMachine", "unended", "I", false)
  | 6 => ("DrumMachine", "existing", "I", false)
  | 7 => ("DrumMachine", "inHand", "I", false)
  | 8 => ("DrumMachine", "now", "I", false)
  | 9 => ("DrumMachine", "misses", "I", false)
  | 10 => ("DrumMachine", "idleTicks", "I", false)
  | _ => ("DrumMachine", "ordersDone", "I", false)
def tyX6 : Nat → FieldType := fun k => match k with
  | 0 => .object "DrumMachine$Tray"
  | 1 => .object "DrumMachine$Core"
  | 2 => .object "DrumMachine$Drum"
  | 3 => .array (.object "DrumMachine$Job")
  | 4 => .int
  | 5 => .int
  | 6 => .int
  | 7 => .int
  | 8 => .int
  | 9 => .int
  | 10 => .int
  | _ => .int
theorem nmX6 : ∀ a, a < 12 → ∀ b, b < 12 → a ≠ b → (TX6 a).2.1 ≠ (TX6 b).2.1 := by decide +kernel
theorem tyX6_ok : ∀ k, k < 12 → parseFieldDescriptor (TX6 k).2.2.1 = some (tyX6 k) := by decide +kernel
abbrev cX6_init : ByteArray := prog_1_method_1_code
def yX6_init : MethodName := ⟨RX6, "<init>", "()V"⟩
abbrev cX6_frames : ByteArray := prog_1_method_2_code
def yX6_frames : MethodName := ⟨RX6, "frames", "(I)I"⟩
abbrev cX6_words : ByteArray := prog_1_method_3_code
def yX6_words : MethodName := ⟨RX6, "words", "(JJJJJ)I"⟩
abbrev cX6_bytes : ByteArray := prog_1_method_4_code
def yX6_bytes : MethodName := ⟨RX6, "bytes", "(JJJJI)I"⟩
abbrev cX6_job : ByteArray := prog_1_method_5_code
def yX6_job : MethodName := ⟨RX6, "job", "(II)I"⟩
abbrev cX6_run : ByteArray := prog_1_method_6_code
def yX6_run : MethodName := ⟨RX6, "run", "(I)I"⟩
abbrev cX6_ended : ByteArray := prog_1_method_7_code
def yX6_ended : MethodName := ⟨RX6, "ended", "(I)I"⟩
abbrev cX6_done : ByteArray := prog_1_method_8_code
def yX6_done : MethodName := ⟨RX6, "done", "(I)I"⟩
abbrev cX6_printed : ByteArray := prog_1_method_9_code
def yX6_printed : MethodName := ⟨RX6, "printed", "(I)I"⟩
abbrev cX6_out : ByteArray := prog_1_method_10_code
def yX6_out : MethodName := ⟨RX6, "out", "(II)I"⟩
abbrev cX6_register : ByteArray := prog_1_method_11_code
def yX6_register : MethodName := ⟨RX6, "register", "(II)J"⟩
abbrev cX6_word : ByteArray := prog_1_method_12_code
def yX6_word : MethodName := ⟨RX6, "word", "(II)J"⟩
abbrev cX6_clock : ByteArray := prog_1_method_13_code
def yX6_clock : MethodName := ⟨RX6, "clock", "()I"⟩
abbrev cX6_told : ByteArray := prog_1_method_14_code
def yX6_told : MethodName := ⟨RX6, "told", "(I)I"⟩
abbrev cX6_frame : ByteArray := prog_1_method_15_code
def yX6_frame : MethodName := ⟨RX6, "frame", "(II)I"⟩
abbrev cX6_sector : ByteArray := prog_1_method_16_code
def yX6_sector : MethodName := ⟨RX6, "sector", "(I)I"⟩
abbrev cX6_digest : ByteArray := prog_1_method_17_code
def yX6_digest : MethodName := ⟨RX6, "digest", "()J"⟩
abbrev cX6_find : ByteArray := prog_1_method_18_code
def yX6_find : MethodName := ⟨RX6, "find", "(I)LDrumMachine$Job;"⟩
abbrev cX6_activate : ByteArray := prog_1_method_19_code
def yX6_activate : MethodName := ⟨RX6, "activate", "()V"⟩
abbrev cX6_tick : ByteArray := prog_1_method_20_code
def yX6_tick : MethodName := ⟨RX6, "tick", "()V"⟩
abbrev cX6_finishTransfer : ByteArray := prog_1_method_21_code
def yX6_finishTransfer : MethodName := ⟨RX6, "finishTransfer", "()V"⟩
abbrev cX6_chooseVictim : ByteArray := prog_1_method_22_code
def yX6_chooseVictim : MethodName := ⟨RX6, "chooseVictim", "()V"⟩
abbrev cX6_nextInHand : ByteArray := prog_1_method_23_code
def yX6_nextInHand : MethodName := ⟨RX6, "nextInHand", "()I"⟩
abbrev cX6_settle : ByteArray := prog_1_method_24_code
def yX6_settle : MethodName := ⟨RX6, "settle", "(LDrumMachine$Job;I)V"⟩
abbrev cX6_isCounted : ByteArray := prog_1_method_25_code
def yX6_isCounted : MethodName := ⟨RX6, "isCounted", "(I)Z"⟩
abbrev cX6_doNextOrder : ByteArray := prog_1_method_26_code
def yX6_doNextOrder : MethodName := ⟨RX6, "doNextOrder", "(LDrumMachine$Job;)I"⟩
abbrev cX6_reach : ByteArray := prog_1_method_27_code
def yX6_reach : MethodName := ⟨RX6, "reach", "(LDrumMachine$Job;I)I"⟩
abbrev cX6_reachHeld : ByteArray := prog_1_method_28_code
def yX6_reachHeld : MethodName := ⟨RX6, "reachHeld", "(LDrumMachine$Job;LDrumMachine$Block;)I"⟩
abbrev cX6_createBlock : ByteArray := prog_1_method_29_code
def yX6_createBlock : MethodName := ⟨RX6, "createBlock", "(LDrumMachine$Job;I)LDrumMachine$Block;"⟩
abbrev cX6_endJob : ByteArray := prog_1_method_30_code
def yX6_endJob : MethodName := ⟨RX6, "endJob", "(LDrumMachine$Job;I)V"⟩
abbrev cX6_forget : ByteArray := prog_1_method_31_code
def yX6_forget : MethodName := ⟨RX6, "forget", "(LDrumMachine$Block;)V"⟩
def RX7 : String := "DrumMachineModel"
def TX7 : u_T := fun k => match k with
  | 0 => ("DrumMachineModel", "many", "I", false)
  | 1 => ("DrumMachineModel", "tray", "[J", true)
  | 2 => ("DrumMachineModel", "trayed", "I", false)
  | 3 => ("DrumMachineModel", "bytes", "[I", true)
  | 4 => ("DrumMachineModel", "taped", "I", false)
  | 5 => ("DrumMachineModel", "jobs", "I", false)
  | 6 => ("DrumMachineModel", "limit", "[I", true)
  | 7 => ("DrumMachineModel", "done", "[I", true)
  | 8 => ("DrumMachineModel", "end", "[I", true)
  | 9 => ("DrumMachineModel", "control", "[I", true)
  | 10 => ("DrumMachineModel", "acc", "[J", true)
  | 11 => ("DrumMachineModel", "b", "[I", true)
  | 12 => ("DrumMachineModel", "store", "[J", true)
  | 13 => ("DrumMachineModel", "tape", "[I", true)
  | 14 => ("DrumMachineModel", "tapeSize", "[I", true)
  | 15 => ("DrumMachineModel", "tapeAt", "[I", true)
  | 16 => ("DrumMachineModel", "print", "[I", true)
  | 17 => ("DrumMachineModel", "printed", "[I", true)
  | 18 => ("DrumMachineModel", "wait", "[I", true)
  | 19 => ("DrumMachineModel", "waitBlock", "[I", true)
  | 20 => ("DrumMachineModel", "exists", "[Z", true)
  | 21 => ("DrumMachineModel", "gone", "[I", true)
  | 22 => ("DrumMachineModel", "existing", "I", false)
  | 23 => ("DrumMachineModel", "inFrame", "[I", true)
  | 24 => ("DrumMachineModel", "idle", "[I", true)
  | 25 => ("DrumMachineModel", "before", "[I", true)
  | 26 => ("DrumMachineModel", "isLocked", "[Z", true)
  | 27 => ("DrumMachineModel", "isUsed", "[Z", true)
  | 28 => ("DrumMachineModel", "onSector", "[I", true)
  | 29 => ("DrumMachineModel", "askedWhat", "[I", true)
  | 30 => ("DrumMachineModel", "askedFrame", "[I", true)
  | 31 => ("DrumMachineModel", "asked", "I", false)
  | 32 => ("DrumMachineModel", "underWay", "I", false)
  | 33 => ("DrumMachineModel", "wayFrame", "I", false)
  | 34 => ("DrumMachineModel", "waySector", "I", false)
  | 35 => ("DrumMachineModel", "wayEnd", "I", false)
  | 36 => ("DrumMachineModel", "clock", "I", false)
  | 37 => ("DrumMachineModel", "hand", "I", false)
  | 38 => ("DrumMachineModel", "reads", "I", false)
  | 39 => ("DrumMachineModel", "writes", "I", false)
  | 40 => ("DrumMachineModel", "misses", "I", false)
  | 41 => ("DrumMachineModel", "idles", "I", false)
  | 42 => ("DrumMachineModel", "rounds", "I", false)
  | _ => ("DrumMachineModel", "steps", "I", false)
def tyX7 : Nat → FieldType := fun k => match k with
  | 0 => .int
  | 1 => .array .long
  | 2 => .int
  | 3 => .array .int
  | 4 => .int
  | 5 => .int
  | 6 => .array .int
  | 7 => .array .int
  | 8 => .array .int
  | 9 => .array .int
  | 10 => .array .long
  | 11 => .array .int
  | 12 => .array .long
  | 13 => .array .int
  | 14 => .array .int
  | 15 => .array .int
  | 16 => .array .int
  | 17 => .array .int
  | 18 => .array .int
  | 19 => .array .int
  | 20 => .array .boolean
  | 21 => .array .int
  | 22 => .int
  | 23 => .array .int
  | 24 => .array .int
  | 25 => .array .int
  | 26 => .array .boolean
  | 27 => .array .boolean
  | 28 => .array .int
  | 29 => .array .int
  | 30 => .array .int
  | 31 => .int
  | 32 => .int
  | 33 => .int
  | 34 => .int
  | 35 => .int
  | 36 => .int
  | 37 => .int
  | 38 => .int
  | 39 => .int
  | 40 => .int
  | 41 => .int
  | 42 => .int
  | _ => .int
theorem nmX7 : ∀ a, a < 44 → ∀ b, b < 44 → a ≠ b → (TX7 a).2.1 ≠ (TX7 b).2.1 := by decide +kernel
theorem tyX7_ok : ∀ k, k < 44 → parseFieldDescriptor (TX7 k).2.2.1 = some (tyX7 k) := by decide +kernel
abbrev cX7_init : ByteArray := prog_9_method_1_code
def yX7_init : MethodName := ⟨RX7, "<init>", "()V"⟩
abbrev cX7_word48 : ByteArray := prog_9_method_2_code
def yX7_word48 : MethodName := ⟨RX7, "word48", "(J)J"⟩
abbrev cX7_word24 : ByteArray := prog_9_method_3_code
def yX7_word24 : MethodName := ⟨RX7, "word24", "(J)I"⟩
abbrev cX7_frames : ByteArray := prog_9_method_4_code
def yX7_frames : MethodName := ⟨RX7, "frames", "(I)I"⟩
abbrev cX7_words : ByteArray := prog_9_method_5_code
def yX7_words : MethodName := ⟨RX7, "words", "(JJJJJ)I"⟩
abbrev cX7_bytes : ByteArray := prog_9_method_6_code
def yX7_bytes : MethodName := ⟨RX7, "bytes", "(JJJJI)I"⟩
abbrev cX7_job : ByteArray := prog_9_method_7_code
def yX7_job : MethodName := ⟨RX7, "job", "(II)I"⟩
abbrev cX7_exist : ByteArray := prog_9_method_8_code
def yX7_exist : MethodName := ⟨RX7, "exist", "(I)V"⟩
abbrev cX7_frameOf : ByteArray := prog_9_method_9_code
def yX7_frameOf : MethodName := ⟨RX7, "frameOf", "(I)I"⟩
abbrev cX7_sectorOf : ByteArray := prog_9_method_10_code
def yX7_sectorOf : MethodName := ⟨RX7, "sectorOf", "(I)I"⟩
abbrev cX7_freeFrame : ByteArray := prog_9_method_11_code
def yX7_freeFrame : MethodName := ⟨RX7, "freeFrame", "()I"⟩
abbrev cX7_notEnded : ByteArray := prog_9_method_12_code
def yX7_notEnded : MethodName := ⟨RX7, "notEnded", "()I"⟩
abbrev cX7_isActive : ByteArray := prog_9_method_13_code
def yX7_isActive : MethodName := ⟨RX7, "isActive", "(I)Z"⟩
abbrev cX7_isReady : ByteArray := prog_9_method_14_code
def yX7_isReady : MethodName := ⟨RX7, "isReady", "(I)Z"⟩
abbrev cX7_isAddress : ByteArray := prog_9_method_15_code
def yX7_isAddress : MethodName := ⟨RX7, "isAddress", "(I)Z"⟩
abbrev cX7_blockOf : ByteArray := prog_9_method_16_code
def yX7_blockOf : MethodName := ⟨RX7, "blockOf", "(II)I"⟩
abbrev cX7_isWanted : ByteArray := prog_9_method_17_code
def yX7_isWanted : MethodName := ⟨RX7, "isWanted", "(I)Z"⟩
abbrev cX7_run : ByteArray := prog_9_method_18_code
def yX7_run : MethodName := ⟨RX7, "run", "(I)I"⟩
abbrev cX7_tick : ByteArray := prog_9_method_19_code
def yX7_tick : MethodName := ⟨RX7, "tick", "()V"⟩
abbrev cX7_isWriteAsked : ByteArray := prog_9_method_20_code
def yX7_isWriteAsked : MethodName := ⟨RX7, "isWriteAsked", "()Z"⟩
abbrev cX7_leave : ByteArray := prog_9_method_21_code
def yX7_leave : MethodName := ⟨RX7, "leave", "(I)V"⟩
abbrev cX7_finish : ByteArray := prog_9_method_22_code
def yX7_finish : MethodName := ⟨RX7, "finish", "()V"⟩
abbrev cX7_vanish : ByteArray := prog_9_method_23_code
def yX7_vanish : MethodName := ⟨RX7, "vanish", "(I)V"⟩
abbrev cX7_mayGo : ByteArray := prog_9_method_24_code
def yX7_mayGo : MethodName := ⟨RX7, "mayGo", "(I)Z"⟩
abbrev cX7_choose : ByteArray := prog_9_method_25_code
def yX7_choose : MethodName := ⟨RX7, "choose", "()V"⟩
abbrev cX7_ask : ByteArray := prog_9_method_26_code
def yX7_ask : MethodName := ⟨RX7, "ask", "(II)V"⟩
abbrev cX7_drop : ByteArray := prog_9_method_27_code
def yX7_drop : MethodName := ⟨RX7, "drop", "(I)V"⟩
abbrev cX7_passes : ByteArray := prog_9_method_28_code
def yX7_passes : MethodName := ⟨RX7, "passes", "(I)I"⟩
abbrev cX7_begin : ByteArray := prog_9_method_29_code
def yX7_begin : MethodName := ⟨RX7, "begin", "()V"⟩
abbrev cX7_next : ByteArray := prog_9_method_30_code
def yX7_next : MethodName := ⟨RX7, "next", "()I"⟩
abbrev cX7_ends : ByteArray := prog_9_method_31_code
def yX7_ends : MethodName := ⟨RX7, "ends", "(II)V"⟩
abbrev cX7_comes : ByteArray := prog_9_method_32_code
def yX7_comes : MethodName := ⟨RX7, "comes", "(II)Z"⟩
abbrev cX7_isOrder : ByteArray := prog_9_method_33_code
def yX7_isOrder : MethodName := ⟨RX7, "isOrder", "(I)Z"⟩
abbrev cX7_isWithWord : ByteArray := prog_9_method_34_code
def yX7_isWithWord : MethodName := ⟨RX7, "isWithWord", "(I)Z"⟩
abbrev cX7_sum : ByteArray := prog_9_method_35_code
def yX7_sum : MethodName := ⟨RX7, "sum", "(IIIII)I"⟩
abbrev cX7_step : ByteArray := prog_9_method_36_code
def yX7_step : MethodName := ⟨RX7, "step", "(I)V"⟩
abbrev cX7_at : ByteArray := prog_9_method_37_code
def yX7_at : MethodName := ⟨RX7, "at", "(II)J"⟩
abbrev cX7_why : ByteArray := prog_9_method_38_code
def yX7_why : MethodName := ⟨RX7, "why", "(III)I"⟩
abbrev cX7_prints : ByteArray := prog_9_method_39_code
def yX7_prints : MethodName := ⟨RX7, "prints", "(II)Z"⟩
abbrev cX7_writeNumber : ByteArray := prog_9_method_40_code
def yX7_writeNumber : MethodName := ⟨RX7, "writeNumber", "(II)V"⟩
abbrev cX7_setB : ByteArray := prog_9_method_41_code
def yX7_setB : MethodName := ⟨RX7, "setB", "(IIJ)V"⟩
abbrev cX7_ofRegister : ByteArray := prog_9_method_42_code
def yX7_ofRegister : MethodName := ⟨RX7, "ofRegister", "(IIIII)I"⟩
abbrev cX7_ofAccumulator : ByteArray := prog_9_method_43_code
def yX7_ofAccumulator : MethodName := ⟨RX7, "ofAccumulator", "(IIII)I"⟩
abbrev cX7_nextByte : ByteArray := prog_9_method_44_code
def yX7_nextByte : MethodName := ⟨RX7, "nextByte", "(I)I"⟩
abbrev cX7_other : ByteArray := prog_9_method_45_code
def yX7_other : MethodName := ⟨RX7, "other", "(III)V"⟩
abbrev cX7_readNumber : ByteArray := prog_9_method_46_code
def yX7_readNumber : MethodName := ⟨RX7, "readNumber", "(I)V"⟩
abbrev cX7_root : ByteArray := prog_9_method_47_code
def yX7_root : MethodName := ⟨RX7, "root", "(J)J"⟩
abbrev cX7_round : ByteArray := prog_9_method_48_code
def yX7_round : MethodName := ⟨RX7, "round", "()V"⟩
abbrev cX7_isJob : ByteArray := prog_9_method_49_code
def yX7_isJob : MethodName := ⟨RX7, "isJob", "(I)Z"⟩
abbrev cX7_ended : ByteArray := prog_9_method_50_code
def yX7_ended : MethodName := ⟨RX7, "ended", "(I)I"⟩
abbrev cX7_done : ByteArray := prog_9_method_51_code
def yX7_done : MethodName := ⟨RX7, "done", "(I)I"⟩
abbrev cX7_printed : ByteArray := prog_9_method_52_code
def yX7_printed : MethodName := ⟨RX7, "printed", "(I)I"⟩
abbrev cX7_out : ByteArray := prog_9_method_53_code
def yX7_out : MethodName := ⟨RX7, "out", "(II)I"⟩
abbrev cX7_register : ByteArray := prog_9_method_54_code
def yX7_register : MethodName := ⟨RX7, "register", "(II)J"⟩
abbrev cX7_word : ByteArray := prog_9_method_55_code
def yX7_word : MethodName := ⟨RX7, "word", "(II)J"⟩
abbrev cX7_clock : ByteArray := prog_9_method_56_code
def yX7_clock : MethodName := ⟨RX7, "clock", "()I"⟩
abbrev cX7_told : ByteArray := prog_9_method_57_code
def yX7_told : MethodName := ⟨RX7, "told", "(I)I"⟩
abbrev cX7_frame : ByteArray := prog_9_method_58_code
def yX7_frame : MethodName := ⟨RX7, "frame", "(II)I"⟩
abbrev cX7_sector : ByteArray := prog_9_method_59_code
def yX7_sector : MethodName := ⟨RX7, "sector", "(I)I"⟩
abbrev cX7_digest : ByteArray := prog_9_method_60_code
def yX7_digest : MethodName := ⟨RX7, "digest", "()J"⟩
def RJ9 : String := "java/lang/Math"
def TJ9 : u_T := fun k => match k with
  | _ => ("", "", "", false)
def tyJ9 : Nat → FieldType := fun k => match k with
  | _ => .int
theorem nmJ9 : ∀ a, a < 0 → ∀ b, b < 0 → a ≠ b → (TJ9 a).2.1 ≠ (TJ9 b).2.1 := by decide +kernel
theorem tyJ9_ok : ∀ k, k < 0 → parseFieldDescriptor (TJ9 k).2.2.1 = some (tyJ9 k) := by decide +kernel
abbrev cJ9_floorDiv_7cf53 : ByteArray := prog_10_method_47_code
def yJ9_floorDiv_7cf53 : MethodName := ⟨RJ9, "floorDiv", "(II)I"⟩
abbrev cJ9_floorMod_7cf53 : ByteArray := prog_10_method_50_code
def yJ9_floorMod_7cf53 : MethodName := ⟨RJ9, "floorMod", "(II)I"⟩
abbrev cJ9_abs_067f4 : ByteArray := prog_10_method_61_code
def yJ9_abs_067f4 : MethodName := ⟨RJ9, "abs", "(J)J"⟩
abbrev cJ9_max_7cf53 : ByteArray := prog_10_method_65_code
def yJ9_max_7cf53 : MethodName := ⟨RJ9, "max", "(II)I"⟩
abbrev cJ9_min_7cf53 : ByteArray := prog_10_method_69_code
def yJ9_min_7cf53 : MethodName := ⟨RJ9, "min", "(II)I"⟩
def RL : String := "DrumMachineLaw"
abbrev cL_law : ByteArray := code
def yL_law : MethodName := ⟨RL, "law", "([I)Z"⟩
end
section
/-! my tables: class numbers, method numbers, and what each pool number of a class means (written by wip/gen/tables.py) -/
def jt_cl : List vw_C := [(RX7, TX7, 44), (RX0, TX0, 10), (RX1, TX1, 4), (RX2, TX2, 8), (RX3, TX3, 16), (RX5, TX5, 4), (RX6, TX6, 12)]
def jt_tf : List (Nat → FieldType) := [tyX7, tyX0, tyX1, tyX2, tyX3, tyX5, tyX6]
def jt_on : List String := [RX7, RX0, RX1, RX2, RX3, RX5, RX6, RL, RJ9, RX4]
/-- a method: its name, its bytes, its locals, its answer's type, its class's number, how many parameters, its kind (0 instance, 1 static, 2 constructor, 3 the law) -/
abbrev jt_M : Type := MethodName × ByteArray × Nat × Option FieldType × Nat × Nat × Nat
def jt_ms0 : List jt_M := [(yX7_init, cX7_init, 2, none, 0, 0, 2),
  (yX7_word48, cX7_word48, 2, (some .long), 0, 1, 1),
  (yX7_word24, cX7_word24, 2, (some .int), 0, 1, 1),
  (yX7_frames, cX7_frames, 2, (some .int), 0, 1, 0),
  (yX7_words, cX7_words, 11, (some .int), 0, 5, 0),
  (yX7_bytes, cX7_bytes, 13, (some .int), 0, 5, 0),
  (yX7_job, cX7_job, 7, (some .int), 0, 2, 0),
  (yX7_exist, cX7_exist, 2, none, 0, 1, 0),
  (yX7_frameOf, cX7_frameOf, 3, (some .int), 0, 1, 0),
  (yX7_sectorOf, cX7_sectorOf, 3, (some .int), 0, 1, 0),
  (yX7_freeFrame, cX7_freeFrame, 1, (some .int), 0, 0, 0),
  (yX7_notEnded, cX7_notEnded, 3, (some .int), 0, 0, 0),
  (yX7_isActive, cX7_isActive, 4, (some .boolean), 0, 1, 0),
  (yX7_isReady, cX7_isReady, 3, (some .boolean), 0, 1, 0),
  (yX7_isAddress, cX7_isAddress, 1, (some .boolean), 0, 1, 1),
  (yX7_blockOf, cX7_blockOf, 2, (some .int), 0, 2, 1),
  (yX7_isWanted, cX7_isWanted, 3, (some .boolean), 0, 1, 0),
  (yX7_run, cX7_run, 3, (some .int), 0, 1, 0),
  (yX7_tick, cX7_tick, 2, none, 0, 0, 0),
  (yX7_isWriteAsked, cX7_isWriteAsked, 2, (some .boolean), 0, 0, 0)]
def jt_ms1 : List jt_M := [(yX7_leave, cX7_leave, 2, none, 0, 1, 0),
  (yX7_finish, cX7_finish, 2, none, 0, 0, 0),
  (yX7_vanish, cX7_vanish, 2, none, 0, 1, 0),
  (yX7_mayGo, cX7_mayGo, 2, (some .boolean), 0, 1, 0),
  (yX7_choose, cX7_choose, 3, none, 0, 0, 0),
  (yX7_ask, cX7_ask, 3, none, 0, 2, 0),
  (yX7_drop, cX7_drop, 3, none, 0, 1, 0),
  (yX7_passes, cX7_passes, 3, (some .int), 0, 1, 0),
  (yX7_begin, cX7_begin, 3, none, 0, 0, 0),
  (yX7_next, cX7_next, 3, (some .int), 0, 0, 0),
  (yX7_ends, cX7_ends, 5, none, 0, 2, 0),
  (yX7_comes, cX7_comes, 6, (some .boolean), 0, 2, 0),
  (yX7_isOrder, cX7_isOrder, 1, (some .boolean), 0, 1, 1),
  (yX7_isWithWord, cX7_isWithWord, 1, (some .boolean), 0, 1, 1),
  (yX7_sum, cX7_sum, 6, (some .int), 0, 5, 0),
  (yX7_step, cX7_step, 12, none, 0, 1, 0),
  (yX7_at, cX7_at, 3, (some .long), 0, 2, 0),
  (yX7_why, cX7_why, 7, (some .int), 0, 3, 0),
  (yX7_prints, cX7_prints, 3, (some .boolean), 0, 2, 0),
  (yX7_writeNumber, cX7_writeNumber, 9, none, 0, 2, 0)]
def jt_ms2 : List jt_M := [(yX7_setB, cX7_setB, 5, none, 0, 3, 0),
  (yX7_ofRegister, cX7_ofRegister, 7, (some .int), 0, 5, 0),
  (yX7_ofAccumulator, cX7_ofAccumulator, 7, (some .int), 0, 4, 0),
  (yX7_nextByte, cX7_nextByte, 2, (some .int), 0, 1, 0),
  (yX7_other, cX7_other, 7, none, 0, 3, 0),
  (yX7_readNumber, cX7_readNumber, 5, none, 0, 1, 0),
  (yX7_root, cX7_root, 6, (some .long), 0, 1, 1),
  (yX7_round, cX7_round, 2, none, 0, 0, 0),
  (yX7_isJob, cX7_isJob, 2, (some .boolean), 0, 1, 0),
  (yX7_ended, cX7_ended, 2, (some .int), 0, 1, 0),
  (yX7_done, cX7_done, 2, (some .int), 0, 1, 0),
  (yX7_printed, cX7_printed, 2, (some .int), 0, 1, 0),
  (yX7_out, cX7_out, 3, (some .int), 0, 2, 0),
  (yX7_register, cX7_register, 3, (some .long), 0, 2, 0),
  (yX7_word, cX7_word, 3, (some .long), 0, 2, 0),
  (yX7_clock, cX7_clock, 1, (some .int), 0, 0, 0),
  (yX7_told, cX7_told, 4, (some .int), 0, 1, 0),
  (yX7_frame, cX7_frame, 4, (some .int), 0, 2, 0),
  (yX7_sector, cX7_sector, 2, (some .int), 0, 1, 0),
  (yX7_digest, cX7_digest, 5, (some .long), 0, 0, 0)]
def jt_ms3 : List jt_M := [(yX0_init, cX0_init, 3, none, 1, 2, 2),
  (yX0_arrive, cX0_arrive, 2, none, 1, 1, 0),
  (yX0_age, cX0_age, 2, none, 1, 1, 0),
  (yX0_mayLeave, cX0_mayLeave, 1, (some .boolean), 1, 0, 0),
  (yX0_victimClass, cX0_victimClass, 1, (some .int), 1, 0, 0),
  (yX0_isBetterVictimThan, cX0_isBetterVictimThan, 4, (some .boolean), 1, 1, 0),
  (yX1_init, cX1_init, 1, none, 2, 0, 2),
  (yX1_resize, cX1_resize, 2, none, 2, 1, 0),
  (yX1_mostActive, cX1_mostActive, 1, (some .int), 2, 0, 0),
  (yX1_blockIn, cX1_blockIn, 2, (some (.object "DrumMachine$Block")), 2, 1, 0),
  (yX1_lowestFree, cX1_lowestFree, 2, (some .int), 2, 0, 0),
  (yX1_place, cX1_place, 3, none, 2, 2, 0),
  (yX1_release, cX1_release, 3, none, 2, 1, 0),
  (yX1_victim, cX1_victim, 4, (some (.object "DrumMachine$Block")), 2, 0, 0),
  (yX1_use, cX1_use, 2, none, 2, 1, 0),
  (yX1_holdRound, cX1_holdRound, 3, none, 2, 0, 0),
  (yX2_init, cX2_init, 1, none, 3, 0, 2),
  (yX2_blockOn, cX2_blockOn, 2, (some (.object "DrumMachine$Block")), 3, 1, 0),
  (yX2_load, cX2_load, 3, none, 3, 1, 0),
  (yX2_put, cX2_put, 3, none, 3, 2, 0)]
def jt_ms4 : List jt_M := [(yX2_release, cX2_release, 3, none, 3, 1, 0),
  (yX2_ask, cX2_ask, 2, none, 3, 1, 0),
  (yX2_cancel, cX2_cancel, 3, none, 3, 1, 0),
  (yX2_dropAsked, cX2_dropAsked, 3, none, 3, 1, 0),
  (yX2_begin, cX2_begin, 4, none, 3, 1, 0),
  (yX2_takeEnded, cX2_takeEnded, 3, (some (.object "DrumMachine$Block")), 3, 1, 0),
  (yX2_nextFreeSector, cX2_nextFreeSector, 6, (some .int), 3, 1, 0),
  (yX2_ticksTill, cX2_ticksTill, 2, (some .int), 3, 2, 1),
  (yX3_init, cX3_init, 6, none, 4, 4, 2),
  (yX3_wrapWord, cX3_wrapWord, 2, (some .long), 4, 1, 1),
  (yX3_wrapIndex, cX3_wrapIndex, 1, (some .int), 4, 1, 1),
  (yX3_isInStore, cX3_isInStore, 1, (some .boolean), 4, 1, 1),
  (yX3_isReady, cX3_isReady, 2, (some .boolean), 4, 1, 0),
  (yX3_stopWaiting, cX3_stopWaiting, 1, none, 4, 0, 0),
  (yX3_wants, cX3_wants, 2, (some .boolean), 4, 1, 0),
  (yX3_blockOf, cX3_blockOf, 2, (some (.object "DrumMachine$Block")), 4, 1, 0),
  (yX3_setBlock, cX3_setBlock, 3, none, 4, 2, 0),
  (yX3_load, cX3_load, 2, (some .long), 4, 1, 0),
  (yX3_keep, cX3_keep, 4, none, 4, 2, 0),
  (yX3_index, cX3_index, 2, (some .int), 4, 1, 0)]
def jt_ms5 : List jt_M := [(yX3_setIndex, cX3_setIndex, 3, none, 4, 2, 0),
  (yX3_printedByte, cX3_printedByte, 2, (some .int), 4, 1, 0),
  (yX3_addressIn, cX3_addressIn, 4, (some .int), 4, 1, 0),
  (yX3_obey, cX3_obey, 5, (some .int), 4, 3, 0),
  (yX3_obeyIndexOrder, cX3_obeyIndexOrder, 4, none, 4, 3, 0),
  (yX3_obeyAccumulatorOrder, cX3_obeyAccumulatorOrder, 3, none, 4, 2, 0),
  (yX3_goesElsewhere, cX3_goesElsewhere, 3, (some .boolean), 4, 2, 0),
  (yX3_obeyRoutine, cX3_obeyRoutine, 3, (some .int), 4, 2, 0),
  (yX3_printByte, cX3_printByte, 2, (some .int), 4, 1, 0),
  (yX3_printNumber, cX3_printNumber, 7, (some .int), 4, 0, 0),
  (yX3_nextByte, cX3_nextByte, 1, (some .int), 4, 0, 0),
  (yX3_takeByte, cX3_takeByte, 2, (some .int), 4, 0, 0),
  (yX3_takeNumber, cX3_takeNumber, 5, (some .long), 4, 0, 0),
  (yX3_divide, cX3_divide, 6, (some .int), 4, 2, 0),
  (yX3_takeRoot, cX3_takeRoot, 7, (some .int), 4, 0, 0),
  (yX3_digestFrom, cX3_digestFrom, 6, (some .long), 4, 1, 0),
  (yX5_init, cX5_init, 1, none, 5, 0, 2),
  (yX5_hasRoomForWords, cX5_hasRoomForWords, 2, (some .boolean), 5, 1, 0),
  (yX5_hasRoomForBytes, cX5_hasRoomForBytes, 2, (some .boolean), 5, 1, 0),
  (yX5_addWord, cX5_addWord, 3, none, 5, 1, 0)]
def jt_ms6 : List jt_M := [(yX5_addBytes, cX5_addBytes, 5, none, 5, 2, 0),
  (yX5_empty, cX5_empty, 1, none, 5, 0, 0),
  (yX6_init, cX6_init, 1, none, 6, 0, 2),
  (yX6_frames, cX6_frames, 2, (some .int), 6, 1, 0),
  (yX6_words, cX6_words, 11, (some .int), 6, 5, 0),
  (yX6_bytes, cX6_bytes, 10, (some .int), 6, 5, 0),
  (yX6_job, cX6_job, 6, (some .int), 6, 2, 0),
  (yX6_run, cX6_run, 3, (some .int), 6, 1, 0),
  (yX6_ended, cX6_ended, 3, (some .int), 6, 1, 0),
  (yX6_done, cX6_done, 3, (some .int), 6, 1, 0),
  (yX6_printed, cX6_printed, 3, (some .int), 6, 1, 0),
  (yX6_out, cX6_out, 4, (some .int), 6, 2, 0),
  (yX6_register, cX6_register, 4, (some .long), 6, 2, 0),
  (yX6_word, cX6_word, 4, (some .long), 6, 2, 0),
  (yX6_clock, cX6_clock, 1, (some .int), 6, 0, 0),
  (yX6_told, cX6_told, 2, (some .int), 6, 1, 0),
  (yX6_frame, cX6_frame, 4, (some .int), 6, 2, 0),
  (yX6_sector, cX6_sector, 3, (some .int), 6, 1, 0),
  (yX6_digest, cX6_digest, 5, (some .long), 6, 0, 0),
  (yX6_find, cX6_find, 2, (some (.object "DrumMachine$Job")), 6, 1, 0)]
def jt_ms7 : List jt_M := [(yX6_activate, cX6_activate, 4, none, 6, 0, 0),
  (yX6_tick, cX6_tick, 3, none, 6, 0, 0),
  (yX6_finishTransfer, cX6_finishTransfer, 2, none, 6, 0, 0),
  (yX6_chooseVictim, cX6_chooseVictim, 2, none, 6, 0, 0),
  (yX6_nextInHand, cX6_nextInHand, 5, (some .int), 6, 0, 0),
  (yX6_settle, cX6_settle, 3, none, 6, 2, 0),
  (yX6_isCounted, cX6_isCounted, 1, (some .boolean), 6, 1, 1),
  (yX6_doNextOrder, cX6_doNextOrder, 10, (some .int), 6, 1, 0),
  (yX6_reach, cX6_reach, 5, (some .int), 6, 2, 0),
  (yX6_reachHeld, cX6_reachHeld, 3, (some .int), 6, 2, 0),
  (yX6_createBlock, cX6_createBlock, 4, (some (.object "DrumMachine$Block")), 6, 2, 0),
  (yX6_endJob, cX6_endJob, 5, none, 6, 2, 0),
  (yX6_forget, cX6_forget, 2, none, 6, 1, 0),
  (yJ9_floorDiv_7cf53, cJ9_floorDiv_7cf53, 3, (some .int), 8, 2, 1),
  (yJ9_floorMod_7cf53, cJ9_floorMod_7cf53, 3, (some .int), 8, 2, 1),
  (yJ9_abs_067f4, cJ9_abs_067f4, 2, (some .long), 8, 1, 1),
  (yJ9_max_7cf53, cJ9_max_7cf53, 2, (some .int), 8, 2, 1),
  (yJ9_min_7cf53, cJ9_min_7cf53, 2, (some .int), 8, 2, 1),
  (yX4_function, cX4_function, 2, (some .int), 9, 1, 1),
  (yX4_indexRegister, cX4_indexRegister, 2, (some .int), 9, 1, 1)]
def jt_ms8 : List jt_M := [(yX4_modifier, cX4_modifier, 2, (some .int), 9, 1, 1),
  (yX4_isKnown, cX4_isKnown, 1, (some .boolean), 9, 1, 1),
  (yX4_takesWord, cX4_takesWord, 1, (some .boolean), 9, 1, 1)]
def jt_msL : List jt_M := [(yL_law, cL_law, 4, some .boolean, 7, 1, 3)]
def jt_mc : List jt_M := jt_ms0 ++ (jt_ms1 ++ (jt_ms2 ++ (jt_ms3 ++ (jt_ms4 ++ (jt_ms5 ++ (jt_ms6 ++ (jt_ms7 ++ (jt_ms8))))))))
def jt_ms : List jt_M := jt_mc ++ jt_msL
def jt_fl : List (Nat × Nat × Nat × Nat) := [(5, 9, 5, 0), (4, 65, 5, 0), (5, 15, 5, 1), (4, 82, 5, 1), (5, 19, 5, 2), (6, 73, 5, 2), (5, 23, 5, 3), (4, 70, 5, 3),
  (6, 83, 5, 3), (2, 11, 2, 0), (2, 17, 2, 1), (6, 156, 2, 1), (2, 21, 2, 2), (6, 238, 2, 2), (2, 24, 2, 3), (6, 143, 2, 3),
  (3, 11, 3, 0), (3, 17, 3, 1), (3, 20, 3, 2), (3, 24, 3, 3), (6, 338, 3, 3), (3, 28, 3, 4), (3, 31, 3, 5), (6, 241, 3, 5),
  (3, 35, 3, 6), (6, 137, 3, 6), (3, 38, 3, 7), (6, 140, 3, 7), (6, 12, 6, 0), (6, 19, 6, 1), (6, 26, 6, 2), (6, 32, 6, 3),
  (6, 36, 6, 4), (6, 40, 6, 5), (6, 43, 6, 6), (6, 46, 6, 7), (6, 49, 6, 8), (6, 52, 6, 9), (6, 55, 6, 10), (6, 58, 6, 11),
  (4, 59, 4, 0), (6, 103, 4, 0), (4, 62, 4, 1), (6, 270, 4, 1), (4, 9, 4, 2), (6, 124, 4, 2), (4, 15, 4, 3), (4, 19, 4, 4),
  (6, 128, 4, 4), (4, 23, 4, 5), (4, 29, 4, 6), (6, 334, 4, 6), (4, 79, 4, 7), (4, 33, 4, 8), (4, 36, 4, 9), (4, 39, 4, 10),
  (6, 117, 4, 10), (4, 42, 4, 11), (6, 116, 4, 11), (4, 45, 4, 12), (6, 113, 4, 12), (4, 48, 4, 13), (6, 197, 4, 13), (4, 52, 4, 14),
  (6, 324, 4, 14), (4, 56, 4, 15), (6, 317, 4, 15), (1, 37, 1, 0), (6, 163, 1, 0), (1, 41, 1, 1), (4, 91, 1, 1), (6, 169, 1, 1),
  (1, 9, 1, 2), (2, 31, 1, 2), (6, 308, 1, 2), (1, 15, 1, 3), (3, 45, 1, 3), (1, 18, 1, 4), (4, 85, 1, 4), (2, 45, 1, 4),
  (6, 170, 1, 4), (1, 22, 1, 5), (3, 48, 1, 5), (6, 226, 1, 5), (1, 25, 1, 6), (6, 174, 1, 6), (1, 28, 1, 7), (6, 177, 1, 7),
  (1, 31, 1, 8), (2, 42, 1, 8), (1, 34, 1, 9), (6, 248, 1, 9), (0, 7, 0, 0), (0, 13, 0, 1), (0, 100, 0, 2), (0, 17, 0, 3),
  (0, 107, 0, 4), (0, 97, 0, 5), (0, 21, 0, 6), (0, 24, 0, 7), (0, 27, 0, 8), (0, 30, 0, 9), (0, 33, 0, 10), (0, 36, 0, 11),
  (0, 39, 0, 12), (0, 42, 0, 13), (0, 45, 0, 14), (0, 48, 0, 15), (0, 51, 0, 16), (0, 54, 0, 17), (0, 57, 0, 18), (0, 60, 0, 19),
  (0, 63, 0, 20), (0, 67, 0, 21), (0, 110, 0, 22), (0, 70, 0, 23), (0, 73, 0, 24), (0, 76, 0, 25), (0, 79, 0, 26), (0, 82, 0, 27),
  (0, 85, 0, 28), (0, 88, 0, 29), (0, 91, 0, 30), (0, 161, 0, 31), (0, 142, 0, 32), (0, 176, 0, 33), (0, 182, 0, 34), (0, 145, 0, 35),
  (0, 148, 0, 36), (0, 94, 0, 37), (0, 207, 0, 38), (0, 213, 0, 39), (0, 222, 0, 40), (0, 170, 0, 41), (0, 188, 0, 42), (0, 258, 0, 43)]
def jt_ml : List (Nat × Nat × Nat) := [(7, 9, 122), (7, 13, 123), (6, 61, 67), (7, 20, 124), (6, 65, 117), (6, 69, 119), (5, 26, 89), (7, 25, 125),
  (6, 76, 118), (6, 79, 120), (7, 30, 126), (6, 86, 88), (4, 73, 156), (6, 89, 121), (6, 92, 150), (6, 328, 60),
  (6, 330, 96), (6, 96, 78), (3, 41, 79), (6, 100, 140), (6, 146, 68), (6, 109, 139), (7, 35, 127), (6, 106, 141),
  (6, 200, 142), (6, 223, 85), (6, 229, 61), (6, 232, 72), (6, 235, 152), (6, 344, 80), (6, 203, 143), (6, 244, 73),
  (2, 27, 69), (2, 34, 63), (1, 44, 94), (4, 88, 153), (2, 38, 65), (1, 50, 64), (6, 251, 81), (6, 206, 84),
  (3, 55, 86), (3, 63, 87), (3, 70, 154), (3, 59, 80), (3, 51, 83), (6, 209, 144), (6, 254, 156), (6, 257, 92),
  (6, 212, 93), (6, 215, 147), (6, 273, 148), (6, 305, 91), (6, 277, 95), (4, 92, 91), (6, 310, 149), (6, 314, 70),
  (6, 320, 71), (6, 134, 97), (6, 280, 158), (6, 286, 161), (6, 289, 102), (4, 100, 160), (4, 106, 99), (4, 109, 158),
  (4, 112, 159), (4, 96, 90), (6, 292, 162), (6, 295, 159), (6, 298, 103), (4, 115, 104), (4, 133, 100), (4, 136, 97),
  (4, 140, 98), (4, 119, 105), (4, 144, 89), (4, 123, 107), (4, 148, 108), (4, 151, 111), (4, 176, 110), (4, 155, 113),
  (4, 159, 109), (4, 169, 155), (4, 162, 112), (4, 166, 114), (4, 129, 106), (6, 264, 146), (6, 302, 74), (6, 219, 145),
  (6, 261, 151), (6, 341, 82), (6, 267, 75), (2, 49, 62), (7, 39, 128), (7, 43, 129), (7, 47, 130), (7, 51, 131),
  (6, 120, 101), (7, 55, 132), (6, 131, 99), (7, 60, 133), (7, 64, 134), (7, 69, 135), (6, 150, 157), (7, 73, 136),
  (6, 159, 69), (7, 77, 137), (6, 180, 77), (7, 81, 138), (6, 185, 115), (6, 191, 135), (6, 194, 136), (7, 12, 0),
  (7, 17, 3), (7, 24, 4), (0, 103, 1), (7, 29, 5), (7, 34, 6), (0, 113, 7), (7, 38, 17), (0, 136, 11),
  (0, 139, 18), (0, 151, 21), (0, 179, 20), (0, 185, 22), (0, 121, 10), (0, 117, 8), (0, 154, 19), (0, 158, 24),
  (0, 194, 23), (0, 191, 16), (0, 125, 12), (0, 129, 14), (0, 132, 15), (0, 197, 25), (0, 164, 28), (0, 201, 26),
  (0, 204, 9), (0, 210, 27), (0, 167, 29), (0, 216, 13), (0, 173, 35), (0, 219, 30), (0, 229, 31), (0, 233, 32),
  (0, 225, 2), (0, 236, 34), (0, 240, 33), (0, 243, 37), (0, 266, 36), (0, 272, 39), (0, 275, 38), (0, 247, 41),
  (0, 280, 40), (0, 250, 42), (0, 254, 44), (0, 284, 43), (0, 287, 45), (0, 290, 46), (0, 261, 47), (7, 42, 49),
  (0, 297, 48), (7, 46, 50), (7, 50, 51), (7, 54, 52), (7, 59, 53), (7, 63, 54), (7, 68, 55), (7, 72, 56),
  (7, 76, 57), (7, 80, 58), (7, 85, 59), (0, 304, 56), (0, 307, 57)]
def jt_mn : List (Nat × Nat × Nat × Nat) := [(6, 11, 116, 6), (6, 18, 66, 6), (6, 25, 76, 6), (4, 126, 146, 6)]
def jt_ob : List (Nat × Nat) := [(6, 3), (5, 3), (2, 3), (3, 3), (4, 3), (1, 3), (0, 1)]
def jt_nl : List (Nat × Nat × Nat) := [(7, 7, 6), (6, 9, 5), (6, 16, 2), (2, 9, 1), (6, 23, 3), (3, 9, 1), (6, 30, 4), (4, 27, 1),
  (6, 164, 1), (7, 10, 0)]
def jt_ki : List (Nat × Nat × Int32) := [(3, 69, 2147483647)]
def jt_kj : List (Nat × Nat × Int64) := [(4, 179, (-140737488355328)), (4, 172, 10), (4, 174, 48), (4, 181, 8388608), (6, 183, 7), (4, 183, 31), (6, 189, 31), (0, 264, (-140737488355328)),
  (0, 270, 10), (0, 278, 48), (0, 293, 8388608), (0, 295, 2), (0, 300, 7), (0, 302, 31), (7, 18, 4294967295)]
/-- the kinds of arrays; the last one is the script (read only) -/
def jt_at : List FieldType := [.int, .long, .boolean, .object RX0, .object RX3, .int]
def jt_scr : Nat := 5
def jt_law : Nat := 163
def jt_m (M : Nat) : jt_M := jt_ms.getD M (⟨"", "", ""⟩, ⟨#[]⟩, 0, none, 0, 0, 9)
def jt_cn (k : Nat) : String := jt_on.getD k ""
def jt_wfl (q : Nat × Nat × Nat × Nat) : Cond := match jt_cl[q.2.2.1]? with | some r => .fieldLink (jt_cn q.1) q.2.1 (r.2.1 q.2.2.2).1 (r.2.1 q.2.2.2).2.1 (r.2.1 q.2.2.2).2.2.1 | none => .tt
def jt_wml (q : Nat × Nat × Nat) : Cond := .methodLink (jt_cn q.1) q.2.1 (jt_m q.2.2).1
def jt_wmn (q : Nat × Nat × Nat × Nat) : Cond := .methodLinkNest (jt_cn q.1) q.2.1 (jt_m q.2.2.1).1 (jt_cn q.2.2.2)
def jt_wob (q : Nat × Nat) : Cond := .methodLink (jt_cn q.1) q.2 objectInit
def jt_wnl (q : Nat × Nat × Nat) : Cond := .classLink (jt_cn q.1) q.2.1 (jt_cn q.2.2)
def jt_wki (q : Nat × Nat × Int32) : Cond := .constant (jt_cn q.1) q.2.1 q.2.2
def jt_wkj (q : Nat × Nat × Int64) : Cond := .constantLong (jt_cn q.1) q.2.1 q.2.2
def jt_wm (q : jt_M) : List Cond := .code q.1 q.2.1 q.2.2.1 q.2.2.2.1 :: .initialized q.1.cls :: (if q.2.2.2.2.2.2 = 1 then [.static q.1] else if q.2.2.2.2.2.2 = 2 then [.instanceMethod q.1] else [.instanceMethod q.1, .selects q.1.cls q.1 q.1])
def jt_wc (r : vw_C) : List Cond := .instantiable r.1 r.2.2 :: .initialized r.1 :: u_ws r.1 r.2.1 r.2.2
theorem jt_in {α : Type} {L : List α} {f : α → Cond} (ps : List Nat) (h : L.map f = ps.filterMap (fun i => lw_tbl[i]?)) : ∀ q ∈ L, f q ∈ lw_tbl := by
  intro q hq
  have h1 : f q ∈ L.map f := List.mem_map_of_mem hq
  rw [h] at h1
  obtain ⟨i, -, hi⟩ := List.mem_filterMap.mp h1
  exact List.mem_of_getElem? hi
theorem jt_inL {α : Type} {L : List α} {f : α → List Cond} (ps : List Nat) (h : L.flatMap f = ps.filterMap (fun i => lw_tbl[i]?)) : ∀ q ∈ L, ∀ w ∈ f q, w ∈ lw_tbl := by
  intro q hq w hw
  have h1 : w ∈ L.flatMap f := List.mem_flatMap.mpr ⟨q, hq, hw⟩
  rw [h] at h1
  obtain ⟨i, -, hi⟩ := List.mem_filterMap.mp h1
  exact List.mem_of_getElem? hi
set_option maxRecDepth 100000 in
theorem jt_fl_in : ∀ q ∈ jt_fl, jt_wfl q ∈ lw_tbl := jt_in [73, 74, 75, 76, 77, 78, 79, 80, 81, 101, 102, 103, 104, 105, 106, 107, 124, 125, 126, 127, 128, 129, 130, 131, 132, 133, 134, 135, 155, 156, 157, 158, 159, 160, 161, 162, 163, 164, 165, 166, 240, 241, 242, 243, 244, 245, 246, 247, 248, 249, 250, 251, 252, 253, 254, 255, 256, 257, 258, 259, 260, 261, 262, 263, 264, 265, 266, 314, 315, 316, 317, 318, 319, 320, 321, 322, 323, 324, 325, 326, 327, 328, 329, 330, 331, 332, 333, 334, 335, 336, 337, 338, 709, 710, 711, 712, 713, 714, 715, 716, 717, 718, 719, 720, 721, 722, 723, 724, 725, 726, 727, 728, 729, 730, 731, 732, 733, 734, 735, 736, 737, 738, 739, 740, 741, 742, 743, 744, 745, 746, 747, 748, 749, 750, 751, 752] rfl
set_option maxRecDepth 100000 in
theorem jt_ml_in : ∀ q ∈ jt_ml, jt_wml q ∈ lw_tbl := jt_in [61, 192, 196, 200, 204, 208, 212, 215, 219, 223, 227, 232, 237, 300, 304, 310, 360, 364, 368, 372, 376, 380, 384, 388, 392, 396, 400, 404, 408, 412, 416, 420, 424, 428, 432, 436, 439, 443, 447, 451, 455, 460, 463, 466, 467, 471, 475, 476, 480, 484, 488, 492, 495, 499, 500, 504, 508, 512, 516, 519, 522, 526, 529, 533, 534, 537, 540, 543, 544, 548, 552, 556, 557, 561, 565, 566, 570, 574, 578, 582, 587, 591, 596, 600, 608, 612, 613, 617, 621, 625, 629, 633, 637, 641, 645, 649, 653, 657, 661, 662, 666, 670, 674, 677, 681, 682, 686, 690, 695, 701, 702, 705, 843, 847, 851, 854, 858, 862, 866, 870, 874, 878, 882, 886, 890, 894, 898, 902, 906, 910, 914, 918, 921, 924, 928, 932, 936, 940, 944, 948, 952, 956, 960, 964, 967, 970, 974, 977, 982, 987, 991, 996, 1000, 1004, 1008, 1012, 1016, 1020, 1025, 1029, 1033, 1037, 1041, 1045, 1049, 1053, 1057, 1061, 1065, 1069, 1073, 1079, 1080] rfl
set_option maxRecDepth 100000 in
theorem jt_mn_in : ∀ q ∈ jt_mn, jt_wmn q ∈ lw_tbl := jt_in [69, 95, 119, 605] rfl
set_option maxRecDepth 100000 in
theorem jt_ob_in : ∀ q ∈ jt_ob, jt_wob q ∈ lw_tbl := jt_in [64, 72, 98, 122, 235, 313, 708] rfl
set_option maxRecDepth 100000 in
theorem jt_nl_in : ∀ q ∈ jt_nl, jt_wnl q ∈ lw_tbl := jt_in [59, 67, 93, 99, 117, 123, 153, 236, 308, 703] rfl
set_option maxRecDepth 100000 in
theorem jt_ki_in : ∀ q ∈ jt_ki, jt_wki q ∈ lw_tbl := jt_in [459] rfl
set_option maxRecDepth 100000 in
theorem jt_kj_in : ∀ q ∈ jt_kj, jt_wkj q ∈ lw_tbl := jt_in [586, 594, 595, 604, 694, 699, 700, 981, 986, 995, 1023, 1024, 1077, 1078, 1081] rfl
set_option maxRecDepth 100000 in
theorem jt_ms0_in : ∀ q ∈ jt_ms0, ∀ w ∈ jt_wm q, w ∈ lw_tbl := jt_inL [707, 54, 706, 853, 54, 852, 969, 54, 968, 846, 54, 844, 845, 850, 54, 848, 849, 857, 54, 855, 856, 861, 54, 859, 860, 865, 54, 864, 13, 897, 54, 896, 20, 939, 54, 938, 29, 893, 54, 892, 19, 873, 54, 872, 14, 917, 54, 916, 25, 951, 54, 950, 32, 920, 54, 919, 923, 54, 922, 913, 54, 912, 24, 869, 54, 867, 868, 877, 54, 876, 15, 901, 54, 900, 21] rfl
set_option maxRecDepth 100000 in
theorem jt_ms1_in : ∀ q ∈ jt_ms1, ∀ w ∈ jt_wm q, w ∈ lw_tbl := jt_inL [885, 54, 884, 17, 881, 54, 880, 16, 889, 54, 888, 18, 909, 54, 908, 23, 905, 54, 904, 22, 927, 54, 926, 26, 935, 54, 934, 28, 943, 54, 942, 30, 931, 54, 930, 27, 947, 54, 946, 31, 959, 54, 958, 34, 963, 54, 962, 35, 966, 54, 965, 976, 54, 975, 973, 54, 972, 36, 955, 54, 954, 33, 985, 54, 984, 38, 980, 54, 979, 37, 994, 54, 993, 40, 990, 54, 989, 39] rfl
set_option maxRecDepth 100000 in
theorem jt_ms2_in : ∀ q ∈ jt_ms2, ∀ w ∈ jt_wm q, w ∈ lw_tbl := jt_inL [1003, 54, 1002, 42, 999, 54, 998, 41, 1007, 54, 1006, 43, 1015, 54, 1014, 45, 1011, 54, 1010, 44, 1019, 54, 1018, 46, 1022, 54, 1021, 1028, 54, 1027, 47, 1036, 54, 1035, 48, 1032, 54, 1030, 1031, 1040, 54, 1038, 1039, 1044, 54, 1042, 1043, 1048, 54, 1046, 1047, 1052, 54, 1050, 1051, 1056, 54, 1054, 1055, 1060, 54, 1058, 1059, 1064, 54, 1062, 1063, 1068, 54, 1066, 1067, 1072, 54, 1070, 1071, 1076, 54, 1074, 1075] rfl
set_option maxRecDepth 100000 in
theorem jt_ms3_in : ∀ q ∈ jt_ms3, ∀ w ∈ jt_wm q, w ∈ lw_tbl := jt_inL [312, 57, 311, 403, 57, 401, 402, 636, 57, 634, 635, 431, 57, 429, 430, 446, 57, 444, 445, 442, 57, 440, 441, 97, 52, 96, 199, 52, 197, 198, 379, 52, 377, 378, 427, 52, 425, 426, 507, 52, 505, 506, 511, 52, 509, 510, 407, 52, 405, 406, 423, 52, 421, 422, 616, 52, 614, 615, 632, 52, 630, 631, 121, 53, 120, 689, 53, 687, 688, 367, 53, 365, 366, 371, 53, 369, 370] rfl
set_option maxRecDepth 100000 in
theorem jt_ms4_in : ∀ q ∈ jt_ms4, ∀ w ∈ jt_wm q, w ∈ lw_tbl := jt_inL [415, 53, 413, 414, 450, 53, 448, 449, 628, 53, 626, 627, 470, 53, 468, 469, 454, 53, 452, 453, 399, 53, 397, 398, 458, 53, 456, 457, 462, 53, 461, 234, 55, 233, 214, 55, 213, 539, 55, 538, 494, 55, 493, 479, 55, 477, 478, 483, 55, 481, 482, 435, 55, 433, 434, 498, 55, 496, 497, 363, 55, 361, 362, 515, 55, 513, 514, 560, 55, 558, 559, 532, 55, 530, 531] rfl
set_option maxRecDepth 100000 in
theorem jt_ms5_in : ∀ q ∈ jt_ms5, ∀ w ∈ jt_wm q, w ∈ lw_tbl := jt_inL [555, 55, 553, 554, 656, 55, 654, 655, 525, 55, 523, 524, 547, 55, 545, 546, 551, 55, 549, 550, 564, 55, 562, 563, 611, 55, 609, 610, 569, 55, 567, 568, 573, 55, 571, 572, 590, 55, 588, 589, 581, 55, 579, 580, 577, 55, 575, 576, 599, 55, 597, 598, 585, 55, 583, 584, 603, 55, 601, 602, 698, 55, 696, 697, 71, 51, 70, 207, 51, 205, 206, 222, 51, 220, 221, 211, 51, 209, 210] rfl
set_option maxRecDepth 100000 in
theorem jt_ms6_in : ∀ q ∈ jt_ms6, ∀ w ∈ jt_wm q, w ∈ lw_tbl := jt_inL [226, 51, 224, 225, 303, 51, 301, 302, 63, 50, 62, 195, 50, 193, 194, 203, 50, 201, 202, 218, 50, 216, 217, 230, 50, 228, 229, 387, 50, 385, 386, 640, 50, 638, 639, 644, 50, 642, 643, 648, 50, 646, 647, 652, 50, 650, 651, 660, 50, 658, 659, 665, 50, 663, 664, 669, 50, 667, 668, 673, 50, 671, 672, 680, 50, 678, 679, 685, 50, 683, 684, 693, 50, 691, 692, 383, 50, 382, 2] rfl
set_option maxRecDepth 100000 in
theorem jt_ms7_in : ∀ q ∈ jt_ms7, ∀ w ∈ jt_wm q, w ∈ lw_tbl := jt_inL [375, 50, 374, 1, 391, 50, 390, 3, 395, 50, 394, 4, 419, 50, 418, 6, 474, 50, 473, 7, 620, 50, 619, 11, 607, 50, 606, 487, 50, 486, 8, 491, 50, 490, 9, 503, 50, 502, 10, 307, 50, 306, 0, 624, 50, 623, 12, 411, 50, 410, 5, 438, 56, 437, 465, 56, 464, 593, 56, 592, 239, 56, 238, 676, 56, 675, 518, 58, 517, 536, 58, 535] rfl
set_option maxRecDepth 100000 in
theorem jt_ms8_in : ∀ q ∈ jt_ms8, ∀ w ∈ jt_wm q, w ∈ lw_tbl := jt_inL [528, 58, 527, 521, 58, 520, 542, 58, 541] rfl
theorem jt_mc_in : ∀ q ∈ jt_mc, ∀ w ∈ jt_wm q, w ∈ lw_tbl := by
  intro q hq
  simp only [jt_mc, List.mem_append] at hq
  rcases hq with h | h | h | h | h | h | h | h | h
  · exact jt_ms0_in q h
  · exact jt_ms1_in q h
  · exact jt_ms2_in q h
  · exact jt_ms3_in q h
  · exact jt_ms4_in q h
  · exact jt_ms5_in q h
  · exact jt_ms6_in q h
  · exact jt_ms7_in q h
  · exact jt_ms8_in q h
set_option maxRecDepth 100000 in
theorem jt_cl_in : ∀ q ∈ jt_cl, ∀ w ∈ jt_wc q, w ∈ lw_tbl := jt_inL [704, 54, 753, 755, 757, 759, 761, 763, 765, 767, 769, 771, 773, 775, 777, 779, 781, 783, 785, 787, 789, 791, 793, 795, 797, 799, 801, 803, 805, 807, 809, 811, 813, 815, 817, 819, 821, 823, 825, 827, 829, 831, 833, 835, 837, 839, 309, 57, 339, 341, 343, 345, 347, 349, 351, 353, 355, 357, 94, 52, 108, 110, 112, 114, 118, 53, 136, 138, 140, 142, 144, 146, 148, 150, 231, 55, 267, 269, 271, 273, 275, 277, 279, 281, 283, 285, 287, 289, 291, 293, 295, 297, 68, 51, 82, 84, 86, 88, 60, 50, 167, 169, 171, 173, 175, 177, 179, 181, 183, 185, 187, 189] rfl
def jt_ap : List (Nat) := [92, 91, 842]
theorem jt_ac0 : Cond.arrayClass .int ∈ lw_tbl := List.mem_of_getElem? (i := 92) (by decide +kernel)
theorem jt_ac1 : Cond.arrayClass .long ∈ lw_tbl := List.mem_of_getElem? (i := 91) (by decide +kernel)
theorem jt_ac2 : Cond.arrayClass .boolean ∈ lw_tbl := List.mem_of_getElem? (i := 842) (by decide +kernel)
theorem jt_ao0 : Cond.arrayOver (.object RX0) ∈ lw_tbl := List.mem_of_getElem? (i := 100) (by decide +kernel)
theorem jt_ao1 : Cond.arrayOver (.object RX3) ∈ lw_tbl := List.mem_of_getElem? (i := 154) (by decide +kernel)
theorem jt_obc : Cond.code objectInit ⟨#[0xb1]⟩ 1 none ∈ lw_tbl := List.mem_of_getElem? (i := 66) (by decide +kernel)
theorem jt_obi : Cond.instanceMethod objectInit ∈ lw_tbl := List.mem_of_getElem? (i := 65) (by decide +kernel)
theorem jt_cl_ty : ∀ (ci : Nat) (r : vw_C), jt_cl[ci]? = some r → (∀ k, k < r.2.2 → parseFieldDescriptor (r.2.1 k).2.2.1 = some ((jt_tf.getD ci (fun _ => .int)) k)) ∧ ∀ a, a < r.2.2 → ∀ b, b < r.2.2 → a ≠ b → (r.2.1 a).2.1 ≠ (r.2.1 b).2.1 := by
  intro ci r h
  match ci, h with
  | 0, h => cases h; exact ⟨tyX7_ok, nmX7⟩
  | 1, h => cases h; exact ⟨tyX0_ok, nmX0⟩
  | 2, h => cases h; exact ⟨tyX1_ok, nmX1⟩
  | 3, h => cases h; exact ⟨tyX2_ok, nmX2⟩
  | 4, h => cases h; exact ⟨tyX3_ok, nmX3⟩
  | 5, h => cases h; exact ⟨tyX5_ok, nmX5⟩
  | 6, h => cases h; exact ⟨tyX6_ok, nmX6⟩
  | n + 7, h => simp [jt_cl] at h
theorem jt_cl_cn : ∀ (ci : Nat) (r : vw_C), jt_cl[ci]? = some r → jt_cn ci = r.1 := by
  intro ci r h
  match ci, h with
  | 0, h => cases h; rfl
  | 1, h => cases h; rfl
  | 2, h => cases h; rfl
  | 3, h => cases h; rfl
  | 4, h => cases h; rfl
  | 5, h => cases h; rfl
  | 6, h => cases h; rfl
  | n + 7, h => simp [jt_cl] at h
theorem jt_cl_decl : ∀ (ci : Nat) (r : vw_C), jt_cl[ci]? = some r → ∀ f, f < r.2.2 → (r.2.1 f).1 = jt_cn ci := by
  intro ci r h
  match ci, h with
  | 0, h => cases h; decide +kernel
  | 1, h => cases h; decide +kernel
  | 2, h => cases h; decide +kernel
  | 3, h => cases h; decide +kernel
  | 4, h => cases h; decide +kernel
  | 5, h => cases h; decide +kernel
  | 6, h => cases h; decide +kernel
  | n + 7, h => simp [jt_cl] at h
def jt_prim (t : FieldType) : Bool := match t with | .object _ => false | .array _ => false | _ => true
theorem jt_ac_in : ∀ (k : Nat) (t : FieldType), jt_at[k]? = some t → jt_prim t = true → Cond.arrayClass t ∈ lw_tbl := by
  intro k t h hp
  match k, h with
  | 0, h => cases h; exact jt_ac0
  | 1, h => cases h; exact jt_ac1
  | 2, h => cases h; exact jt_ac2
  | 3, h => cases h; cases hp
  | 4, h => cases h; cases hp
  | 5, h => cases h; exact jt_ac0
  | n + 6, h => simp [jt_at] at h
theorem jt_ob_of : ∀ (k : Nat) (t : FieldType), jt_at[k]? = some t → jt_prim t = false → ∃ C, t = .object C := by
  intro k t h hp
  match k, h with
  | 0, h => cases h; cases hp
  | 1, h => cases h; cases hp
  | 2, h => cases h; cases hp
  | 3, h => cases h; exact ⟨_, rfl⟩
  | 4, h => cases h; exact ⟨_, rfl⟩
  | 5, h => cases h; cases hp
  | n + 6, h => simp [jt_at] at h
theorem jt_ao_in : ∀ (k : Nat) (C : String), jt_at[k]? = some (.object C) → Cond.arrayOver (.object C) ∈ lw_tbl := by
  intro k t h
  match k, h with
  | 0, h => cases h
  | 1, h => cases h
  | 2, h => cases h
  | 3, h => cases h; exact jt_ao0
  | 4, h => cases h; exact jt_ao1
  | 5, h => cases h
  | n + 6, h => simp [jt_at] at h
end
section
/-! A small machine over an abstract heap: what the bytecode of the claim's methods does, as a function. Part 05 proves that the real machine does the same. -/
/-- a cell: an object (its class's number, its fields) or an array (its kind's number, its length, its contents) -/
abbrev jv_C : Type := (Nat × List Value) ⊕ (Nat × Nat × (Nat → Value))
/-- a heap: what is known of its cells, how many cells there are, how many slots were made -/
abbrev jv_H : Type := (Nat → Option jv_C) × Nat × Nat
abbrev jv_L : Type := List (Option Value)
abbrev jv_Z : Type := Option Value × jv_H
abbrev jv_S : Type := Nat × jv_L × List Value × jv_H
abbrev jv_F : Type := Nat → List Value → jv_H → Option jv_Z
def jt_code (M : Nat) : ByteArray := (jt_m M).2.1
def jt_maxL (M : Nat) : Nat := (jt_m M).2.2.1
def jt_ret (M : Nat) : Option FieldType := (jt_m M).2.2.2.1
def jt_own (M : Nat) : Nat := (jt_m M).2.2.2.2.1
def jt_np (M : Nat) : Nat := (jt_m M).2.2.2.2.2.1
def jt_kd (M : Nat) : Nat := (jt_m M).2.2.2.2.2.2
def jt_f4 (l : List (Nat × Nat × Nat × Nat)) (o i : Nat) : Option (Nat × Nat) := (l.find? (fun q => q.1 == o && q.2.1 == i)).map (fun q => q.2.2)
def jt_f3 {α : Type} (l : List (Nat × Nat × α)) (o i : Nat) : Option α := (l.find? (fun q => q.1 == o && q.2.1 == i)).map (fun q => q.2.2)
def jt_fty (ci k : Nat) : FieldType := (jt_tf.getD ci (fun _ => .int)) k
def jt_ffin (ci k : Nat) : Bool := match jt_cl[ci]? with
  | some r => (r.2.1 k).2.2.2
  | none => true
def jt_dfl (ci : Nat) : List Value := match jt_cl[ci]? with
  | some r => (List.range r.2.2).map (fun k => defaultValue (jt_fty ci k))
  | none => []
def jv_up (m : Nat → Option jv_C) (a : Nat) (c : jv_C) : Nat → Option jv_C := fun q => if q = a then some c else m q
def jv_n (pc : Nat) (ls : jv_L) (st : List Value) (h : jv_H) : Option (jv_S ⊕ jv_Z) := some (.inl (pc, ls, st, h))
def jv_len {α : Type} (n k : Nat) (x : Option α) : Option α := if n = k then x else none
def jv_gf (h : jv_H) (a ci k : Nat) : Option Value := match h.1 a with
  | some (.inl (c, fs)) => if c = ci then fs[k]? else none
  | _ => none
def jv_pf (h : jv_H) (a ci k : Nat) (v : Value) : Option jv_H := match h.1 a with
  | some (.inl (c, fs)) => if c = ci ∧ k < fs.length ∧ narrow (jt_fty ci k) v = v ∧ fits (jt_fty ci k) v = true then some (jv_up h.1 a (.inl (c, fs.set k v)), h.2) else none
  | _ => none
def jv_al (h : jv_H) (a : Nat) (ty : FieldType) (i : Int32) : Option Value := match h.1 a with
  | some (.inr (k, n, f)) => if jt_at[k]? = some ty ∧ ¬ (i < 0 ∨ n ≤ i.toNatClampNeg) then some (f i.toNatClampNeg) else none
  | _ => none
def jv_as (h : jv_H) (a : Nat) (ty : FieldType) (i : Int32) (v : Value) : Option jv_H := match h.1 a with
  | some (.inr (k, n, f)) => if ¬ k = jt_scr ∧ jt_at[k]? = some ty ∧ ¬ (i < 0 ∨ n ≤ i.toNatClampNeg) then some (jv_up h.1 a (.inr (k, n, updV f i.toNatClampNeg v)), h.2) else none
  | _ => none
def jv_ln (h : jv_H) (a : Nat) : Option Nat := match h.1 a with
  | some (.inr (_, n, _)) => some n
  | _ => none
def jv_ob (ty : FieldType) : Option String := match ty with
  | .object C => some C
  | _ => none
def jv_kn (h : jv_H) (a : Nat) : Option String := match h.1 a with
  | some (.inr (k, _, _)) => if k = jt_scr then none else (jt_at[k]?).bind jv_ob
  | _ => none
def jv_cl (h : jv_H) (a : Nat) : Option Nat := match h.1 a with
  | some (.inl (c, _)) => some c
  | _ => none
def jv_isA (h : jv_H) (C : String) (v : Value) : Bool := match v with
  | .null => true
  | .ref q => match jv_cl h q with
    | some ci => match jt_cl[ci]? with
      | some r => decide (r.1 = C)
      | none => false
    | none => false
  | _ => false
def jv_new (h : jv_H) (ci : Nat) : jv_H := (jv_up h.1 h.2.1 (.inl (ci, jt_dfl ci)), h.2.1 + 1, h.2.2 + (jt_dfl ci).length)
def jv_newa (h : jv_H) (k n : Nat) (v : Value) : jv_H := (jv_up h.1 h.2.1 (.inr (k, n, fun _ => v)), h.2.1 + 1, h.2.2 + n)
def jv_cmp (c : ClassFile.Cond) (x y : Int32) : Bool := match c with
  | .eq => decide (x = y)
  | .ne => decide (¬ x = y)
  | .lt => decide (x < y)
  | .ge => decide (y ≤ x)
  | .gt => decide (y < x)
  | .le => decide (x ≤ y)
def jv_to (pc : Nat) (off : Int) : Option Nat := if 0 ≤ (pc : Int) + off then some ((pc : Int) + off).toNat else none
def jv_go (pc : Nat) (off : Int) (b : Bool) (ls : jv_L) (st : List Value) (h : jv_H) : Option (jv_S ⊕ jv_Z) := match jv_to pc off with
  | some t => jv_n (if b then t else pc + 3) ls st h
  | none => none
def jv_is2 (o : Option (Option Value)) : Bool := match o with
  | some (some v) => decide (v.category = 2)
  | _ => false
/-- the long that a store to place i spoils -/
def jv_kill (ls : jv_L) (i : Nat) : jv_L := match i with
  | 0 => ls
  | j + 1 => if jv_is2 ls[j]? then ls.set j none else ls
def jv_st1 (ls : jv_L) (i : Nat) (v : Value) : jv_L := (jv_kill ls i).set i (some v)
def jv_st2 (ls : jv_L) (i : Nat) (v : Value) : jv_L := ((jv_kill ls i).set i (some v)).set (i + 1) none
def jv_ldi (n k pc : Nat) (ls : jv_L) (i : Nat) (st : List Value) (h : jv_H) : Option (jv_S ⊕ jv_Z) := match ls[i]? with
  | some (some (.int x)) => jv_len n k (jv_n (pc + k) ls (.int x :: st) h)
  | _ => none
def jv_ldl (n k pc : Nat) (ls : jv_L) (i : Nat) (st : List Value) (h : jv_H) : Option (jv_S ⊕ jv_Z) := match ls[i]? with
  | some (some (.long x)) => jv_len n k (jv_n (pc + k) ls (.long x :: st) h)
  | _ => none
def jv_lda (n k pc : Nat) (ls : jv_L) (i : Nat) (st : List Value) (h : jv_H) : Option (jv_S ⊕ jv_Z) := match ls[i]? with
  | some (some (.ref x)) => jv_len n k (jv_n (pc + k) ls (.ref x :: st) h)
  | some (some .null) => jv_len n k (jv_n (pc + k) ls (.null :: st) h)
  | _ => none
def jv_sti (n k pc : Nat) (ls : jv_L) (i : Nat) (st : List Value) (h : jv_H) : Option (jv_S ⊕ jv_Z) := match st with
  | .int x :: st => if i < ls.length then jv_len n k (jv_n (pc + k) (jv_st1 ls i (.int x)) st h) else none
  | _ => none
def jv_stl (n k pc : Nat) (ls : jv_L) (i : Nat) (st : List Value) (h : jv_H) : Option (jv_S ⊕ jv_Z) := match st with
  | .long x :: st => if i + 1 < ls.length then jv_len n k (jv_n (pc + k) (jv_st2 ls i (.long x)) st h) else none
  | _ => none
def jv_sta (n k pc : Nat) (ls : jv_L) (i : Nat) (st : List Value) (h : jv_H) : Option (jv_S ⊕ jv_Z) := match st with
  | .ref x :: st => if i < ls.length then jv_len n k (jv_n (pc + k) (jv_st1 ls i (.ref x)) st h) else none
  | .null :: st => if i < ls.length then jv_len n k (jv_n (pc + k) (jv_st1 ls i .null) st h) else none
  | _ => none
def jv_b2 (f : Int32 → Int32 → Int32) (n pc : Nat) (ls : jv_L) (st : List Value) (h : jv_H) : Option (jv_S ⊕ jv_Z) := match st with
  | .int y :: .int x :: st => jv_len n 1 (jv_n (pc + 1) ls (.int (f x y) :: st) h)
  | _ => none
def jv_l2 (f : Int64 → Int64 → Int64) (n pc : Nat) (ls : jv_L) (st : List Value) (h : jv_H) : Option (jv_S ⊕ jv_Z) := match st with
  | .long y :: .long x :: st => jv_len n 1 (jv_n (pc + 1) ls (.long (f x y) :: st) h)
  | _ => none
def jv_wide (st : List Value) : Bool := decide ((st.map fun v => v.category).sum ≤ 8)
def jv_inv (call : jv_F) (y n pc : Nat) (ls : jv_L) (as rest : List Value) (h : jv_H) : Option (jv_S ⊕ jv_Z) :=
  if n = 3 ∧ jv_wide rest = true then match call y as h with
    | some (r, h') => jv_n (pc + 3) ls (r.toList ++ rest) h'
    | none => none
  else none
/-- the method that a pool number names, and whether it is named as a nest mate's -/
def jt_inv (o i : Nat) : Option Nat := match jt_f3 jt_ml o i with
  | some y => some y
  | none => (jt_f4 jt_mn o i).map (fun q => q.1)
def jv_ins (call : jv_F) (M : Nat) (i : Instr) (n pc : Nat) (ls : jv_L) (st : List Value) (h : jv_H) : Option (jv_S ⊕ jv_Z) :=
  match i with
  | .aconst_null => jv_len n 1 (jv_n (pc + 1) ls (.null :: st) h)
  | .iconst v => jv_len n 1 (jv_n (pc + 1) ls (.int (Int32.ofInt v) :: st) h)
  | .bipush v => jv_len n 2 (jv_n (pc + 2) ls (.int (Int8.ofInt v).toInt32 :: st) h)
  | .sipush v => jv_len n 3 (jv_n (pc + 3) ls (.int (Int16.ofInt v).toInt32 :: st) h)
  | .lconst v => jv_len n 1 (jv_n (pc + 1) ls (.long (Int64.ofNat (v : Nat)) :: st) h)
  | .ldc k => match jt_f3 jt_ki (jt_own M) k with
    | some v => jv_len n 2 (jv_n (pc + 2) ls (.int v :: st) h)
    | none => none
  | .ldc2_w k => match jt_f3 jt_kj (jt_own M) k with
    | some v => jv_len n 3 (jv_n (pc + 3) ls (.long v :: st) h)
    | none => none
  | .iload k => jv_ldi n 2 pc ls k st h
  | .iload_n k => jv_ldi n 1 pc ls k st h
  | .lload k => jv_ldl n 2 pc ls k st h
  | .lload_n k => jv_ldl n 1 pc ls k st h
  | .aload k => jv_lda n 2 pc ls k st h
  | .aload_n k => jv_lda n 1 pc ls k st h
  | .istore k => jv_sti n 2 pc ls k st h
  | .istore_n k => jv_sti n 1 pc ls k st h
  | .lstore k => jv_stl n 2 pc ls k st h
  | .lstore_n k => jv_stl n 1 pc ls k st h
  | .astore k => jv_sta n 2 pc ls k st h
  | .astore_n k => jv_sta n 1 pc ls k st h
  | .iinc k c => match ls[k]? with
    | some (some (.int x)) => if k < ls.length then jv_len n 3 (jv_n (pc + 3) (jv_st1 ls k (.int (x + Int32.ofInt c))) st h) else none
    | _ => none
  | .iadd => jv_b2 (fun x y => x + y) n pc ls st h
  | .isub => jv_b2 (fun x y => x - y) n pc ls st h
  | .imul => jv_b2 (fun x y => x * y) n pc ls st h
  | .iand => jv_b2 (fun x y => x &&& y) n pc ls st h
  | .ixor => jv_b2 (fun x y => x ^^^ y) n pc ls st h
  | .ishl => jv_b2 (fun x y => x <<< (y &&& 31)) n pc ls st h
  | .ishr => jv_b2 (fun x y => x >>> (y &&& 31)) n pc ls st h
  | .idiv => match st with
    | .int y :: .int x :: st => if y = 0 then none else jv_len n 1 (jv_n (pc + 1) ls (.int (x / y) :: st) h)
    | _ => none
  | .irem => match st with
    | .int y :: .int x :: st => if y = 0 then none else jv_len n 1 (jv_n (pc + 1) ls (.int (x - x / y * y) :: st) h)
    | _ => none
  | .ladd => jv_l2 (fun x y => x + y) n pc ls st h
  | .lsub => jv_l2 (fun x y => x - y) n pc ls st h
  | .lmul => jv_l2 (fun x y => x * y) n pc ls st h
  | .land => jv_l2 (fun x y => x &&& y) n pc ls st h
  | .lor => jv_l2 (fun x y => x ||| y) n pc ls st h
  | .ldiv => match st with
    | .long y :: .long x :: st => if y = 0 then none else jv_len n 1 (jv_n (pc + 1) ls (.long (x / y) :: st) h)
    | _ => none
  | .lrem => match st with
    | .long y :: .long x :: st => if y = 0 then none else jv_len n 1 (jv_n (pc + 1) ls (.long (x - x / y * y) :: st) h)
    | _ => none
  | .lneg => match st with
    | .long x :: st => jv_len n 1 (jv_n (pc + 1) ls (.long (-x) :: st) h)
    | _ => none
  | .lshl => match st with
    | .int y :: .long x :: st => jv_len n 1 (jv_n (pc + 1) ls (.long (x <<< (y.toInt64 &&& 63)) :: st) h)
    | _ => none
  | .lshr => match st with
    | .int y :: .long x :: st => jv_len n 1 (jv_n (pc + 1) ls (.long (x >>> (y.toInt64 &&& 63)) :: st) h)
    | _ => none
  | .lcmp => match st with
    | .long y :: .long x :: st => jv_len n 1 (jv_n (pc + 1) ls (.int (lg_cmp x y) :: st) h)
    | _ => none
  | .i2l => match st with
    | .int x :: st => jv_len n 1 (jv_n (pc + 1) ls (.long x.toInt64 :: st) h)
    | _ => none
  | .l2i => match st with
    | .long x :: st => jv_len n 1 (jv_n (pc + 1) ls (.int x.toInt32 :: st) h)
    | _ => none
  | .dup => match st with
    | v :: st => if v.category = 1 then jv_len n 1 (jv_n (pc + 1) ls (v :: v :: st) h) else none
    | _ => none
  | .dup2 => match st with
    | v :: w :: st => if v.category = 1 ∧ w.category = 1 then jv_len n 1 (jv_n (pc + 1) ls (v :: w :: v :: w :: st) h) else none
    | _ => none
  | .pop => match st with
    | v :: st => if v.category = 1 then jv_len n 1 (jv_n (pc + 1) ls st h) else none
    | _ => none
  | .goto off => jv_len n 3 (jv_go pc off true ls st h)
  | .if_icmp c off => match st with
    | .int y :: .int x :: st => jv_len n 3 (jv_go pc off (jv_cmp c x y) ls st h)
    | _ => none
  | .ifCond c off => match st with
    | .int x :: st => jv_len n 3 (jv_go pc off (jv_cmp c x 0) ls st h)
    | _ => none
  | .if_acmp c off => match st with
    | .ref y :: .ref x :: st => jv_len n 3 (jv_go pc off (match c with | .eq => decide (x = y) | .ne => decide (¬ x = y)) ls st h)
    | .null :: .ref _ :: st => jv_len n 3 (jv_go pc off (match c with | .eq => false | .ne => true) ls st h)
    | .ref _ :: .null :: st => jv_len n 3 (jv_go pc off (match c with | .eq => false | .ne => true) ls st h)
    | .null :: .null :: st => jv_len n 3 (jv_go pc off (match c with | .eq => true | .ne => false) ls st h)
    | _ => none
  | .ifnull off => match st with
    | .ref _ :: st => jv_len n 3 (jv_n (pc + 3) ls st h)
    | .null :: st => jv_len n 3 (jv_go pc off true ls st h)
    | _ => none
  | .ifnonnull off => match st with
    | .ref _ :: st => jv_len n 3 (jv_go pc off true ls st h)
    | .null :: st => jv_len n 3 (jv_n (pc + 3) ls st h)
    | _ => none
  | .tableswitch dflt lo hi offs => match st with
    | .int x :: st => if x.toInt < lo ∨ hi < x.toInt then jv_go pc dflt true ls st h else match offs[(x.toInt - lo).toNat]? with
      | some off => jv_go pc off true ls st h
      | none => none
    | _ => none
  | .lookupswitch dflt ps => match st with
    | .int x :: st => if (ps.toList.zip (ps.toList.drop 1)).all (fun (a, next) => a.1 < next.1) = true then jv_go pc (Op.lookupswitch.offset ps.toList dflt x.toInt) true ls st h else none
    | _ => none
  | .getfield k => match st, jt_f4 jt_fl (jt_own M) k with
    | .ref a :: st, some (ci, f) => match jv_gf h a ci f with
      | some v => jv_len n 3 (jv_n (pc + 3) ls (v :: st) h)
      | none => none
    | _, _ => none
  | .putfield k => match st, jt_f4 jt_fl (jt_own M) k with
    | v :: .ref a :: st, some (ci, f) => if jt_ffin ci f = false ∨ (jt_kd M = 2 ∧ jt_own M = ci) then match jv_pf h a ci f v with
        | some h' => jv_len n 3 (jv_n (pc + 3) ls st h')
        | none => none
      else none
    | _, _ => none
  | .new k => match jt_f3 jt_nl (jt_own M) k with
    | some ci => if ci < jt_cl.length then jv_len n 3 (jv_n (pc + 3) ls (.ref h.2.1 :: st) (jv_new h ci)) else none
    | none => none
  | .newarray t => match st with
    | .int x :: st => match jt_at.idxOf? (newarray.typeOf t) with
      | some k => if ¬ k = jt_scr ∧ ¬ x < 0 ∧ x.toNatClampNeg ≤ 100000 then jv_len n 2 (jv_n (pc + 2) ls (.ref h.2.1 :: st) (jv_newa h k x.toNatClampNeg (defaultValue (newarray.typeOf t)))) else none
      | none => none
    | _ => none
  | .anewarray k => match st, jt_f3 jt_nl (jt_own M) k with
    | .int x :: st, some ci => match jt_at.idxOf? (.object (jt_cn ci)) with
      | some k => if ¬ k = jt_scr ∧ ¬ x < 0 ∧ x.toNatClampNeg ≤ 100000 then jv_len n 3 (jv_n (pc + 3) ls (.ref h.2.1 :: st) (jv_newa h k x.toNatClampNeg .null)) else none
      | none => none
    | _, _ => none
  | .arraylength => match st with
    | .ref a :: st => match jv_ln h a with
      | some z => jv_len n 1 (jv_n (pc + 1) ls (.int (Int32.ofNat z) :: st) h)
      | none => none
    | _ => none
  | .iaload => match st with
    | .int j :: .ref a :: st => match jv_al h a .int j with
      | some v => jv_len n 1 (jv_n (pc + 1) ls (v :: st) h)
      | none => none
    | _ => none
  | .laload => match st with
    | .int j :: .ref a :: st => match jv_al h a .long j with
      | some v => jv_len n 1 (jv_n (pc + 1) ls (v :: st) h)
      | none => none
    | _ => none
  | .baload => match st with
    | .int j :: .ref a :: st => match jv_al h a .boolean j with
      | some v => jv_len n 1 (jv_n (pc + 1) ls (v :: st) h)
      | none => none
    | _ => none
  | .aaload => match st with
    | .int j :: .ref a :: st => match jv_kn h a with
      | some C => match jv_al h a (.object C) j with
        | some v => jv_len n 1 (jv_n (pc + 1) ls (v :: st) h)
        | none => none
      | none => none
    | _ => none
  | .iastore => match st with
    | .int x :: .int j :: .ref a :: st => match jv_as h a .int j (.int x) with
      | some h' => jv_len n 1 (jv_n (pc + 1) ls st h')
      | none => none
    | _ => none
  | .lastore => match st with
    | .long x :: .int j :: .ref a :: st => match jv_as h a .long j (.long x) with
      | some h' => jv_len n 1 (jv_n (pc + 1) ls st h')
      | none => none
    | _ => none
  | .bastore => match st with
    | .int x :: .int j :: .ref a :: st => match jv_as h a .boolean j (narrow .boolean (.int x)) with
      | some h' => jv_len n 1 (jv_n (pc + 1) ls st h')
      | none => none
    | _ => none
  | .aastore => match st with
    | v :: .int j :: .ref a :: st => match jv_kn h a with
      | some C => if jv_isA h C v = true then match jv_as h a (.object C) j v with
          | some h' => jv_len n 1 (jv_n (pc + 1) ls st h')
          | none => none
        else none
      | none => none
    | _ => none
  | .invokevirtual k => match jt_inv (jt_own M) k with
    | some y => match st.drop (jt_np y) with
      | .ref b :: rest => if jt_kd y = 0 ∧ jv_cl h b = some (jt_own y) ∧ jt_np y ≤ st.length then jv_inv call y n pc ls (.ref b :: (st.take (jt_np y)).reverse) rest h else none
      | _ => none
    | none => none
  | .invokestatic k => match jt_inv (jt_own M) k with
    | some y => if jt_kd y = 1 ∧ jt_np y ≤ st.length then jv_inv call y n pc ls (st.take (jt_np y)).reverse (st.drop (jt_np y)) h else none
    | none => none
  | .invokespecial k => if jt_ob.contains (jt_own M, k) then match st with
      | .ref _ :: rest => if jv_wide rest = true then jv_len n 3 (jv_n (pc + 3) ls rest h) else none
      | _ => none
    else match jt_inv (jt_own M) k with
      | some y => match st.drop (jt_np y) with
        | .ref b :: rest => if jt_kd y = 2 ∧ jt_np y ≤ st.length then jv_inv call y n pc ls (.ref b :: (st.take (jt_np y)).reverse) rest h else none
        | _ => none
      | none => none
  | .ireturn => match st, jt_ret M with
    | [.int v], some ty => if n = 1 ∧ narrow ty (.int v) = .int v ∧ fits ty (.int v) = true then some (.inr (some (.int v), h)) else none
    | _, _ => none
  | .lreturn => match st, jt_ret M with
    | [.long v], some .long => if n = 1 then some (.inr (some (.long v), h)) else none
    | _, _ => none
  | .areturn => match st, jt_ret M with
    | [.ref v], some (.object _) => if n = 1 then some (.inr (some (.ref v), h)) else none
    | [.null], some (.object _) => if n = 1 then some (.inr (some .null, h)) else none
    | _, _ => none
  | .return_ => match st, jt_ret M with
    | [], none => if n = 1 then some (.inr (none, h)) else none
    | _, _ => none
  | _ => none
def jv_step (call : jv_F) (M : Nat) (pc : Nat) (ls : jv_L) (st : List Value) (h : jv_H) : Option (jv_S ⊕ jv_Z) := match decode (jt_code M) pc with
  | .ok (i, n) => jv_ins call M i n pc ls st h
  | .error _ => none
def jv_loop (call : jv_F) (M : Nat) : Nat → Nat → jv_L → List Value → jv_H → Option jv_Z
  | 0, _, _, _, _ => none
  | n + 1, pc, ls, st, h => match jv_step call M pc ls st h with
    | none => none
    | some (.inr z) => some z
    | some (.inl (pc', ls', st', h')) => jv_loop call M n pc' ls' st' h'
theorem jv_loop_mono (call : jv_F) (M : Nat) : ∀ (n k pc : Nat) (ls : jv_L) (st : List Value) (h : jv_H) (z : jv_Z), jv_loop call M n pc ls st h = some z → jv_loop call M (n + k) pc ls st h = some z
  | 0, _, _, _, _, _, _, hz => by simp [jv_loop] at hz
  | n + 1, k, pc, ls, st, h, z, hz => by
    rw [show n + 1 + k = (n + k) + 1 by omega]
    unfold jv_loop at hz ⊢
    cases hs : jv_step call M pc ls st h with
    | none => rw [hs] at hz; simp at hz
    | some o =>
      rw [hs] at hz
      cases o with
      | inr y => simpa using hz
      | inl y =>
        obtain ⟨pc', ls', st', h'⟩ := y
        simp only at hz ⊢
        exact jv_loop_mono call M n k pc' ls' st' h' z hz

noncomputable def jv_ev (call : jv_F) (M : Nat) (pc : Nat) (ls : jv_L) (st : List Value) (h : jv_H) : Option jv_Z :=
  @dite _ (∃ z : jv_Z, ∃ n, jv_loop call M n pc ls st h = some z) (Classical.propDecidable _) (fun hz => some (Classical.choose hz)) (fun _ => none)
end
section
/-! the fixed point, the relation between the abstract heap and the real one -/
theorem jv_loop_det {call : jv_F} {M n k pc : Nat} {ls : jv_L} {st : List Value} {h : jv_H} {z y : jv_Z} (h1 : jv_loop call M n pc ls st h = some z) (h2 : jv_loop call M k pc ls st h = some y) : z = y := by
  have e1 := jv_loop_mono call M n k pc ls st h z h1
  have e2 := jv_loop_mono call M k n pc ls st h y h2
  rw [Nat.add_comm k n] at e2
  rw [e1] at e2
  exact Option.some.inj e2
theorem jv_ev_some {call : jv_F} {M pc : Nat} {ls : jv_L} {st : List Value} {h : jv_H} {z : jv_Z} : jv_ev call M pc ls st h = some z ↔ ∃ n, jv_loop call M n pc ls st h = some z := by
  unfold jv_ev
  by_cases hz : ∃ z : jv_Z, ∃ n, jv_loop call M n pc ls st h = some z
  · rw [dif_pos hz]
    obtain ⟨k, hk⟩ := Classical.choose_spec hz
    constructor
    · intro e
      exact ⟨k, by rw [hk]; exact e⟩
    · rintro ⟨n, hn⟩
      rw [jv_loop_det hk hn]
  · rw [dif_neg hz]
    constructor
    · intro e
      cases e
    · rintro ⟨n, hn⟩
      exact absurd ⟨z, n, hn⟩ hz
theorem jv_ev_none {call : jv_F} {M pc : Nat} {ls : jv_L} {st : List Value} {h : jv_H} : jv_ev call M pc ls st h = none ↔ ∀ n, jv_loop call M n pc ls st h = none := by
  constructor
  · intro e n
    cases hn : jv_loop call M n pc ls st h with
    | none => rfl
    | some z => rw [jv_ev_some.mpr ⟨n, hn⟩] at e; cases e
  · intro e
    cases hz : jv_ev call M pc ls st h with
    | none => rfl
    | some z =>
      obtain ⟨n, hn⟩ := jv_ev_some.mp hz
      rw [e n] at hn
      cases hn
theorem jv_ev_eq (call : jv_F) (M pc : Nat) (ls : jv_L) (st : List Value) (h : jv_H) : jv_ev call M pc ls st h = match jv_step call M pc ls st h with
    | none => none
    | some (.inr z) => some z
    | some (.inl (pc', ls', st', h')) => jv_ev call M pc' ls' st' h' := by
  cases hs : jv_step call M pc ls st h with
  | none =>
    refine jv_ev_none.mpr (fun n => ?_)
    cases n with
    | zero => rfl
    | succ n => unfold jv_loop; rw [hs]
  | some o =>
    cases o with
    | inr z => exact jv_ev_some.mpr ⟨1, by unfold jv_loop; rw [hs]⟩
    | inl y =>
      obtain ⟨pc', ls', st', h'⟩ := y
      show _ = jv_ev call M pc' ls' st' h'
      have key : ∀ n, jv_loop call M (n + 1) pc ls st h = jv_loop call M n pc' ls' st' h' := fun n => by
        rw [jv_loop.eq_def]
        simp only [hs]
      cases he : jv_ev call M pc' ls' st' h' with
      | none =>
        have h1 := jv_ev_none.mp he
        refine jv_ev_none.mpr (fun n => ?_)
        cases n with
        | zero => rfl
        | succ n => rw [key]; exact h1 n
      | some z =>
        obtain ⟨n, hn⟩ := jv_ev_some.mp he
        exact jv_ev_some.mpr ⟨n + 1, by rw [key]; exact hn⟩
def jv_sl (as : List Value) : jv_L := as.flatMap fun v => if v.category = 2 then [some v, none] else [some v]
def jv_ent (y : Nat) (as : List Value) : jv_L := jv_sl as ++ List.replicate (jt_maxL y - (jv_sl as).length) none
noncomputable def jv_run : Nat → jv_F
  | 0 => fun _ _ _ => none
  | d + 1 => fun y as h => if (jv_sl as).length ≤ jt_maxL y then jv_ev (jv_run d) y 0 (jv_ent y as) [] h else none
/-! the heap grows -/
def jv_scr (x : jv_C) : Bool := match x with
  | .inr (k, _, _) => decide (k = jt_scr)
  | _ => false
def jv_G (h h' : jv_H) : Prop := h.2.1 ≤ h'.2.1 ∧ h.2.2 ≤ h'.2.2 ∧ ∀ a x, h'.1 a = some x → jv_scr x = false → (∃ y, h.1 a = some y ∧ jv_scr y = false) ∨ h.2.1 ≤ a
theorem jv_G.rf {h : jv_H} : jv_G h h := ⟨Nat.le_refl _, Nat.le_refl _, fun _ x e f => Or.inl ⟨x, e, f⟩⟩
theorem jv_G.tr {h h1 h2 : jv_H} (a : jv_G h h1) (b : jv_G h1 h2) : jv_G h h2 := by
  refine ⟨Nat.le_trans a.1 b.1, Nat.le_trans a.2.1 b.2.1, fun q x e f => ?_⟩
  rcases b.2.2 q x e f with ⟨y, e1, f1⟩ | h3
  · exact a.2.2 q y e1 f1
  · exact Or.inr (Nat.le_trans a.1 h3)
theorem jv_G.up {h : jv_H} {a : Nat} {x y : jv_C} (hx : h.1 a = some x) (hs : jv_scr x = false) : jv_G h (jv_up h.1 a y, h.2) := by
  refine ⟨Nat.le_refl _, Nat.le_refl _, fun q z e f => ?_⟩
  by_cases hq : q = a
  · subst hq
    exact Or.inl ⟨x, hx, hs⟩
  · simp only [jv_up, if_neg hq] at e
    exact Or.inl ⟨z, e, f⟩
theorem jv_G.push {h : jv_H} {y : jv_C} {n : Nat} : jv_G h (jv_up h.1 h.2.1 y, h.2.1 + 1, h.2.2 + n) := by
  refine ⟨Nat.le_succ _, Nat.le_add_right _ _, fun q z e f => ?_⟩
  by_cases hq : q = h.2.1
  · exact Or.inr (Nat.le_of_eq hq.symm)
  · simp only [jv_up, if_neg hq] at e
    exact Or.inl ⟨z, e, f⟩
/-! the relation -/
def jv_K (D : va_G) (dA : Nat → ClassId) (U : State) : Prop :=
  (∀ (c : Nat) (q : vw_C), jt_cl[c]? = some q → u_Kn U q.1 q.2.1 q.2.2 (D.1 c) (D.2 c)) ∧
  (∀ (k : Nat) (ty : FieldType), ¬ k = jt_scr → jt_at[k]? = some ty → ArrOfT U (dA k) ty ∧ va_RA U (dA k) ty) ∧
  (∀ C : String, FieldType.object C ∈ jt_at → va_AO C U) ∧ ∀ q ∈ jt_mn, va_Nw (jt_wmn q) U
def jv_at (D : va_G) (dA : Nat → ClassId) (U : State) (a : Nat) (x : jv_C) (H : Heap) : Prop := match x with
  | .inl (ci, fs) => ∃ r : vw_C, jt_cl[ci]? = some r ∧ fs.length = r.2.2 ∧ t_OB a (D.1 ci) r.2.2 (D.2 ci) H (vp_V fs)
  | .inr (k, n, f) => if k = jt_scr then ∃ cell : Cell, H[a]? = some cell ∧ U.isArrayOf cell .int ∧ cell.vm ≠ .unknown ∧ cell.slots.size = n ∧ ∀ j : Nat, j < n → cell.slots[j]? = some (f j)
    else (∃ ty, jt_at[k]? = some ty) ∧ H[a]? = some (arrV (dA k) n f)
def jv_R (D : va_G) (dA : Nat → ClassId) (U : State) (h : jv_H) (H : Heap) : Prop := H.size = h.2.1 ∧ ∀ a x, h.1 a = some x → jv_at D dA U a x H
theorem jv_at.kept {D : va_G} {dA : Nat → ClassId} {U : State} {a : Nat} {x : jv_C} {H H1 : Heap} (h : jv_at D dA U a x H) (e : H1[a]? = H[a]?) : jv_at D dA U a x H1 := by
  cases x with
  | inl o =>
    obtain ⟨r, h1, h2, h3⟩ := h
    exact ⟨r, h1, h2, h3.kept e⟩
  | inr o =>
    obtain ⟨k, n, f⟩ := o
    unfold jv_at at h ⊢
    simp only at h ⊢
    split at h
    · rw [if_pos ‹_›]
      obtain ⟨cell, h1, h2⟩ := h
      exact ⟨cell, e.trans h1, h2⟩
    · rw [if_neg ‹_›]
      exact ⟨h.1, e.trans h.2⟩
theorem jv_at.lt {D : va_G} {dA : Nat → ClassId} {U : State} {a : Nat} {x : jv_C} {H : Heap} (h : jv_at D dA U a x H) : a < H.size := by
  cases x with
  | inl o =>
    obtain ⟨r, -, -, cell, h3, -⟩ := h
    exact (Array.getElem?_eq_some_iff.mp h3).1
  | inr o =>
    obtain ⟨k, n, f⟩ := o
    unfold jv_at at h
    simp only at h
    split at h
    · obtain ⟨cell, h1, h2⟩ := h
      exact (Array.getElem?_eq_some_iff.mp h1).1
    · exact (Array.getElem?_eq_some_iff.mp h.2).1
theorem jv_at.moved {D : va_G} {dA : Nat → ClassId} {U V : State} {a : Nat} {x : jv_C} {H : Heap} (hvm : U.vm.Alike V.vm) (h : jv_at D dA U a x H) : jv_at D dA V a x H := by
  cases x with
  | inl o => exact h
  | inr o =>
    obtain ⟨k, n, f⟩ := o
    unfold jv_at at h ⊢
    simp only at h ⊢
    split at h
    · rw [if_pos ‹_›]
      obtain ⟨cell, h1, h2, h3⟩ := h
      exact ⟨cell, h1, State.isArrayOf_alike hvm h2, h3⟩
    · rw [if_neg ‹_›]
      exact h
theorem jv_R.moved {D : va_G} {dA : Nat → ClassId} {U V : State} {h : jv_H} {H : Heap} (hvm : U.vm.Alike V.vm) (hR : jv_R D dA U h H) : jv_R D dA V h H := ⟨hR.1, fun a x e => (hR.2 a x e).moved hvm⟩
theorem jv_R.put {D : va_G} {dA : Nat → ClassId} {U : State} {h : jv_H} {H H1 : Heap} {a : Nat} {y : jv_C} (hR : jv_R D dA U h H) (z : H1.size = H.size) (oq : ∀ q : Nat, q ≠ a → H1[q]? = H[q]?) (hy : jv_at D dA U a y H1) : jv_R D dA U (jv_up h.1 a y, h.2) H1 := by
  refine ⟨z.trans hR.1, fun q x e => ?_⟩
  by_cases hq : q = a
  · subst hq
    simp only [jv_up, if_pos] at e
    cases e
    exact hy
  · simp only [jv_up, if_neg hq] at e
    exact (hR.2 q x e).kept (oq q hq)
theorem jv_R.push {D : va_G} {dA : Nat → ClassId} {U : State} {h : jv_H} {H H1 : Heap} {y : jv_C} {n : Nat} (hR : jv_R D dA U h H) (z : H1.size = h.2.1 + 1) (oq : ∀ q : Nat, q < h.2.1 → H1[q]? = H[q]?) (hy : jv_at D dA U h.2.1 y H1) : jv_R D dA U (jv_up h.1 h.2.1 y, h.2.1 + 1, h.2.2 + n) H1 := by
  refine ⟨z, fun q x e => ?_⟩
  by_cases hq : q = h.2.1
  · subst hq
    simp only [jv_up, if_pos] at e
    cases e
    exact hy
  · simp only [jv_up, if_neg hq] at e
    have hl : q < h.2.1 := by rw [← hR.1]; exact (hR.2 q x e).lt
    exact (hR.2 q x e).kept (oq q hl)
theorem jv_K.warm {D : va_G} {dA : Nat → ClassId} {s U : State} (hW : s.WarmedH U.vm) (h : jv_K D dA s) : jv_K D dA U := by
  obtain ⟨h1, h2, h3, h4⟩ := h
  refine ⟨fun c q e => u_Kn_moved hW.alike (h1 c q e), fun k ty e f => ⟨arrOfT_moved hW.alike (h2 k ty e f).1, (h2 k ty e f).2.moved hW.alike⟩, fun C e => (h3 C e).moved hW.alike, fun q e => va_Nw.warmM hW (h4 q e)⟩
theorem jv_K.same {D : va_G} {dA : Nat → ClassId} {s U : State} (hv : s.vm = U.vm) (h : jv_K D dA s) : jv_K D dA U := by
  obtain ⟨h1, h2, h3, h4⟩ := h
  have hA : s.vm.Alike U.vm := by rw [hv]; exact Vm.Alike.refl _
  refine ⟨fun c q e => u_Kn_moved hA (h1 c q e), fun k ty e f => ⟨arrOfT_moved hA (h2 k ty e f).1, (h2 k ty e f).2.moved hA⟩, fun C e => (h3 C e).moved hA, fun q e => va_Nw.same rfl hv (h4 q e)⟩
/-! locals -/
def jv_lp (ls : jv_L) : List (Nat × Value) := (List.range ls.length).filterMap (fun k => (ls[k]?).join.map (fun v => (k, v)))
theorem jv_lp_mem {ls : jv_L} {k : Nat} {v : Value} : (k, v) ∈ jv_lp ls ↔ ls[k]? = some (some v) := by
  unfold jv_lp
  rw [List.mem_filterMap]
  constructor
  · rintro ⟨i, hi, e⟩
    cases hj : ls[i]? with
    | none => rw [hj] at e; cases e
    | some o =>
      rw [hj] at e
      cases o with
      | none => cases e
      | some w => cases e; exact hj
  · intro e
    refine ⟨k, List.mem_range.mpr (List.getElem?_eq_some_iff.mp e).1, ?_⟩
    rw [e]
    rfl
def jv_Lr (ls : jv_L) (la : Array Slot) : Prop := lv_has la ls.length (jv_lp ls)
theorem jv_Lr.at {ls : jv_L} {la : Array Slot} (h : jv_Lr ls la) {i : Nat} {v : Value} (e : ls[i]? = some (some v)) : la[i]? = some (.val v) := h.2.2 (i, v) (jv_lp_mem.mpr e)
theorem jv_kill_len (ls : jv_L) (i : Nat) : (jv_kill ls i).length = ls.length := by
  cases i with
  | zero => rfl
  | succ j => unfold jv_kill; simp only; split <;> simp
theorem jv_st1_len (ls : jv_L) (i : Nat) (v : Value) : (jv_st1 ls i v).length = ls.length := by simp [jv_st1, jv_kill_len]
theorem jv_st2_len (ls : jv_L) (i : Nat) (v : Value) : (jv_st2 ls i v).length = ls.length := by simp [jv_st2, jv_kill_len]
theorem jv_kill_get {ls : jv_L} {i k : Nat} {w : Value} (h : (jv_kill ls i)[k]? = some (some w)) : ls[k]? = some (some w) ∧ ¬ (k + 1 = i ∧ w.category = 2) := by
  cases i with
  | zero => exact ⟨h, fun q => absurd q.1 (by omega)⟩
  | succ j =>
    unfold jv_kill at h
    simp only at h
    split at h
    · by_cases hk : k = j
      · subst hk
        rw [List.getElem?_set_self'] at h
        cases hj : ls[k]? with
        | none => rw [hj] at h; cases h
        | some o => rw [hj] at h; simp at h
      · rw [List.getElem?_set_ne (Ne.symm hk)] at h
        exact ⟨h, fun q => hk (by omega)⟩
    · rename_i hb
      refine ⟨h, fun q => hb ?_⟩
      have hk : k = j := by omega
      subst hk
      simp [jv_is2, h, q.2]
theorem jv_st1_get {ls : jv_L} {i k : Nat} {v w : Value} (h : (jv_st1 ls i v)[k]? = some (some w)) : (k = i ∧ w = v) ∨ (¬ k = i ∧ ls[k]? = some (some w) ∧ ¬ (k + 1 = i ∧ w.category = 2)) := by
  unfold jv_st1 at h
  by_cases hk : k = i
  · subst hk
    rw [List.getElem?_set_self'] at h
    cases hj : (jv_kill ls k)[k]? with
    | none => rw [hj] at h; cases h
    | some o => rw [hj] at h; simp at h; exact Or.inl ⟨rfl, h.symm⟩
  · rw [List.getElem?_set_ne (Ne.symm hk)] at h
    exact Or.inr ⟨hk, jv_kill_get h⟩
theorem jv_st2_get {ls : jv_L} {i k : Nat} {v w : Value} (h : (jv_st2 ls i v)[k]? = some (some w)) : (k = i ∧ w = v) ∨ (¬ k = i ∧ ¬ k = i + 1 ∧ ls[k]? = some (some w) ∧ ¬ (k + 1 = i ∧ w.category = 2)) := by
  unfold jv_st2 at h
  by_cases hk : k = i + 1
  · subst hk
    rw [List.getElem?_set_self'] at h
    cases hj : ((jv_kill ls i).set i (some v))[i + 1]? with
    | none => rw [hj] at h; cases h
    | some o => rw [hj] at h; simp at h
  · rw [List.getElem?_set_ne (Ne.symm hk)] at h
    rcases jv_st1_get (ls := ls) (i := i) (v := v) h with e | ⟨e1, e2, e3⟩
    · exact Or.inl e
    · exact Or.inr ⟨e1, hk, e2, e3⟩
theorem jv_Lr.st1 {ls : jv_L} {la : Array Slot} {i : Nat} {v : Value} (h : lv_has la ls.length ((i, v) :: (jv_lp ls).filter (fun q => !(q.1 == i) && !(q.1 + 1 == i && q.2.category == 2)))) : jv_Lr (jv_st1 ls i v) la := by
  refine ⟨h.1.trans (jv_st1_len ls i v).symm, h.2.1, ?_⟩
  rintro ⟨k, w⟩ hq
  rcases jv_st1_get (jv_lp_mem.mp hq) with ⟨rfl, rfl⟩ | ⟨e1, e2, e3⟩
  · exact h.2.2 _ List.mem_cons_self
  · refine h.2.2 (k, w) (List.mem_cons_of_mem _ (List.mem_filter.mpr ⟨jv_lp_mem.mpr e2, ?_⟩))
    by_cases h1 : k + 1 = i
    · have h2 : ¬ w.category = 2 := fun q => e3 ⟨h1, q⟩
      simp [e1, h2]
    · simp [e1, h1]
theorem jv_Lr.st2 {ls : jv_L} {la : Array Slot} {i : Nat} {v : Value} (h : lv_has la ls.length ((i, v) :: (jv_lp ls).filter (fun q => !(q.1 == i) && (!(q.1 == i + 1) && !(q.1 + 1 == i && q.2.category == 2))))) : jv_Lr (jv_st2 ls i v) la := by
  refine ⟨h.1.trans (jv_st2_len ls i v).symm, h.2.1, ?_⟩
  rintro ⟨k, w⟩ hq
  rcases jv_st2_get (jv_lp_mem.mp hq) with ⟨rfl, rfl⟩ | ⟨e1, e0, e2, e3⟩
  · exact h.2.2 _ List.mem_cons_self
  · refine h.2.2 (k, w) (List.mem_cons_of_mem _ (List.mem_filter.mpr ⟨jv_lp_mem.mpr e2, ?_⟩))
    by_cases h1 : k + 1 = i
    · have h2 : ¬ w.category = 2 := fun q => e3 ⟨h1, q⟩
      simp [e1, e0, h2]
    · simp [e1, e0, h1]
end
section
/-! each instruction of the abstract machine is one of the real machine's -/
def jt_gd : List Cond := lw_tbl.filter goodWord
theorem jt_gd_of {w : Cond} (h : w ∈ lw_tbl) (g : goodWord w = true) : w ∈ jt_gd := List.mem_filter.mpr ⟨h, g⟩
def jv_X (p : Program) (s : State) (m : MethodId) (args : Array Value) (meth : Method) (c : Code) (D : va_G) (dA : Nat → ClassId) (M : Nat) : Prop :=
  p.tables.exec = Jvm.exec ∧ c.code = jt_code M ∧ c.maxLocals = jt_maxL M ∧ s.vm.findClass (jt_cn (jt_own M)) = some m.cls ∧ (∀ w ∈ jt_gd, w.before args s = true) ∧ jv_K D dA s ∧ (jt_kd M = 2 → meth.name = "<init>")
def jv_W (s : State) (D : va_G) (dA : Nat → ClassId) (A : Nat → Prop) (z0 y0 : Nat) (h : jv_H) (H : Heap) (locs : List Loc) (cells slots : Nat) : Prop :=
  jv_R D dA s h H ∧ va_S A s.heap H locs ∧ (∀ a x, h.1 a = some x → jv_scr x = false → A a) ∧ h.2.1 = z0 + cells ∧ h.2.2 = y0 + slots ∧ ∀ q : Nat, z0 ≤ q → A q
def jv_Wp (p : Program) (l : Launch) (e : Env) (R : Room) (s : State) (m : MethodId) (args : Array Value) (below : List Frame) (meth : Method) (c : Code) (D : va_G) (dA : Nat → ClassId) (A : Nat → Prop) (z0 y0 M : Nat) (Q : State → Prop) (pc : Nat) (ls : jv_L) (st : List Value) (h : jv_H) : Prop :=
  ∀ (H : Heap) (locs : List Loc) (cells slots : Nat) (la : Array Slot), jv_W s D dA A z0 y0 h H locs cells slots → jv_Lr ls la → ls.length = jt_maxL M → W p l e R s m args below meth c H locs cells slots Q (F0 m pc la st)
def jv_Rt (M pc : Nat) (st : List Value) (r : Option Value) : Prop :=
  (∃ (v : Int32) (ty : FieldType), decode (jt_code M) pc = .ok (.ireturn, 1) ∧ st = [.int v] ∧ jt_ret M = some ty ∧ narrow ty (.int v) = .int v ∧ r = some (.int v)) ∨
  (∃ v : Int64, decode (jt_code M) pc = .ok (.lreturn, 1) ∧ st = [.long v] ∧ jt_ret M = some .long ∧ r = some (.long v)) ∨
  (∃ (v : Value) (C : String), decode (jt_code M) pc = .ok (.areturn, 1) ∧ st = [v] ∧ (v = .null ∨ ∃ a, v = .ref a) ∧ jt_ret M = some (.object C) ∧ r = some v) ∨
  (decode (jt_code M) pc = .ok (.return_, 1) ∧ st = [] ∧ jt_ret M = none ∧ r = none)
def jv_Ok (p : Program) (l : Launch) (e : Env) (R : Room) (s : State) (m : MethodId) (args : Array Value) (below : List Frame) (meth : Method) (c : Code) (D : va_G) (dA : Nat → ClassId) (A : Nat → Prop) (z0 y0 M : Nat) (Q : State → Prop) (pc : Nat) (ls : jv_L) (st : List Value) (h : jv_H) (o : jv_S ⊕ jv_Z) : Prop := match o with
  | .inl (pc', ls', st', h') => jv_G h h' ∧ ls'.length = ls.length ∧ (h'.2.1 ≤ z0 + R.cells → h'.2.2 ≤ y0 + R.slots → jv_Wp p l e R s m args below meth c D dA A z0 y0 M Q pc' ls' st' h' → jv_Wp p l e R s m args below meth c D dA A z0 y0 M Q pc ls st h)
  | .inr z => z.2 = h ∧ jv_Rt M pc st z.1
section JX
variable {p : Program} {l : Launch} {e : Env} {R : Room} {s : State} {m : MethodId} {args : Array Value} {below : List Frame} {meth : Method} {c : Code} {Q : State → Prop} {D : va_G} {dA : Nat → ClassId} {A : Nat → Prop} {z0 y0 M n pc : Nat} {ls : jv_L} {st : List Value} {h : jv_H} {call : jv_F} {o : jv_S ⊕ jv_Z}
theorem jv_len_inv {α : Type} {n k : Nat} {x : Option α} {o : α} (hs : jv_len n k x = some o) : n = k ∧ x = some o := by
  unfold jv_len at hs
  split at hs
  · exact ⟨‹_›, hs⟩
  · cases hs
/-- a step that leaves the heap as it is -/
theorem jv_pure {pc' : Nat} {st' : List Value} (hs : jv_n pc' ls st' h = some o) (k : ∀ (H : Heap) (locs : List Loc) (cells slots : Nat) (la : Array Slot), jv_Lr ls la → W p l e R s m args below meth c H locs cells slots Q (F0 m pc' la st') → W p l e R s m args below meth c H locs cells slots Q (F0 m pc la st)) : jv_Ok p l e R s m args below meth c D dA A z0 y0 M Q pc ls st h o := by
  cases hs
  exact ⟨jv_G.rf, rfl, fun _ _ w H locs cells slots la hW hL hn => k H locs cells slots la hL (w H locs cells slots la hW hL hn)⟩
theorem js_const {i : Instr} {k : Nat} {v : Value} (hs : jv_len n k (jv_n (pc + k) ls (v :: st) h) = some o) (kk : n = k → ∀ (H : Heap) (locs : List Loc) (cells slots : Nat) (la : Array Slot), jv_Lr ls la → W p l e R s m args below meth c H locs cells slots Q (F0 m (pc + k) la (v :: st)) → W p l e R s m args below meth c H locs cells slots Q (F0 m pc la st)) : jv_Ok p l e R s m args below meth c D dA A z0 y0 M Q pc ls st h o := by
  obtain ⟨hn, hs⟩ := jv_len_inv hs
  exact jv_pure hs (kk hn)
theorem js_ldi {k i : Nat} (hs : jv_ldi n k pc ls i st h = some o) (kk : n = k → ∀ (x : Int32) (H : Heap) (locs : List Loc) (cells slots : Nat) (la : Array Slot), la[i]? = some (.val (.int x)) → W p l e R s m args below meth c H locs cells slots Q (F0 m (pc + k) la (.int x :: st)) → W p l e R s m args below meth c H locs cells slots Q (F0 m pc la st)) : jv_Ok p l e R s m args below meth c D dA A z0 y0 M Q pc ls st h o := by
  unfold jv_ldi at hs
  split at hs
  · rename_i x hx
    obtain ⟨hn, hs⟩ := jv_len_inv hs
    exact jv_pure hs (fun H locs cells slots la hL w => kk hn x H locs cells slots la (hL.at hx) w)
  · cases hs
theorem js_ldl {k i : Nat} (hs : jv_ldl n k pc ls i st h = some o) (kk : n = k → ∀ (x : Int64) (H : Heap) (locs : List Loc) (cells slots : Nat) (la : Array Slot), la[i]? = some (.val (.long x)) → W p l e R s m args below meth c H locs cells slots Q (F0 m (pc + k) la (.long x :: st)) → W p l e R s m args below meth c H locs cells slots Q (F0 m pc la st)) : jv_Ok p l e R s m args below meth c D dA A z0 y0 M Q pc ls st h o := by
  unfold jv_ldl at hs
  split at hs
  · rename_i x hx
    obtain ⟨hn, hs⟩ := jv_len_inv hs
    exact jv_pure hs (fun H locs cells slots la hL w => kk hn x H locs cells slots la (hL.at hx) w)
  · cases hs
theorem js_lda {k i : Nat} (hs : jv_lda n k pc ls i st h = some o) (kk : n = k → ∀ (x : Nat) (H : Heap) (locs : List Loc) (cells slots : Nat) (la : Array Slot), la[i]? = some (.val (.ref x)) → W p l e R s m args below meth c H locs cells slots Q (F0 m (pc + k) la (.ref x :: st)) → W p l e R s m args below meth c H locs cells slots Q (F0 m pc la st))
    (kn : n = k → ∀ (H : Heap) (locs : List Loc) (cells slots : Nat) (la : Array Slot), la[i]? = some (.val .null) → W p l e R s m args below meth c H locs cells slots Q (F0 m (pc + k) la (.null :: st)) → W p l e R s m args below meth c H locs cells slots Q (F0 m pc la st)) : jv_Ok p l e R s m args below meth c D dA A z0 y0 M Q pc ls st h o := by
  unfold jv_lda at hs
  split at hs
  · rename_i x hx
    obtain ⟨hn, hs⟩ := jv_len_inv hs
    exact jv_pure hs (fun H locs cells slots la hL w => kk hn x H locs cells slots la (hL.at hx) w)
  · rename_i hx
    obtain ⟨hn, hs⟩ := jv_len_inv hs
    exact jv_pure hs (fun H locs cells slots la hL w => kn hn H locs cells slots la (hL.at hx) w)
  · cases hs
/-- a store to a local -/
theorem jv_sto1 {pc' i : Nat} {v : Value} {rest : List Value} (hs : jv_n pc' (jv_st1 ls i v) rest h = some o) (k : ∀ (H : Heap) (locs : List Loc) (cells slots : Nat) (la : Array Slot), lv_has la ls.length (jv_lp ls) → (∀ la' : Array Slot, lv_has la' ls.length ((i, v) :: (jv_lp ls).filter (fun q => !(q.1 == i) && !(q.1 + 1 == i && q.2.category == 2))) → W p l e R s m args below meth c H locs cells slots Q (F0 m pc' la' rest)) → W p l e R s m args below meth c H locs cells slots Q (F0 m pc la st)) : jv_Ok p l e R s m args below meth c D dA A z0 y0 M Q pc ls st h o := by
  cases hs
  exact ⟨jv_G.rf, jv_st1_len ls i v, fun _ _ w H locs cells slots la hW hL hn => k H locs cells slots la hL (fun la' h' => w H locs cells slots la' hW (jv_Lr.st1 h') ((jv_st1_len ls i v).trans hn))⟩
theorem jv_sto2 {pc' i : Nat} {v : Value} {rest : List Value} (hs : jv_n pc' (jv_st2 ls i v) rest h = some o) (k : ∀ (H : Heap) (locs : List Loc) (cells slots : Nat) (la : Array Slot), lv_has la ls.length (jv_lp ls) → (∀ la' : Array Slot, lv_has la' ls.length ((i, v) :: (jv_lp ls).filter (fun q => !(q.1 == i) && (!(q.1 == i + 1) && !(q.1 + 1 == i && q.2.category == 2)))) → W p l e R s m args below meth c H locs cells slots Q (F0 m pc' la' rest)) → W p l e R s m args below meth c H locs cells slots Q (F0 m pc la st)) : jv_Ok p l e R s m args below meth c D dA A z0 y0 M Q pc ls st h o := by
  cases hs
  exact ⟨jv_G.rf, jv_st2_len ls i v, fun _ _ w H locs cells slots la hW hL hn => k H locs cells slots la hL (fun la' h' => w H locs cells slots la' hW (jv_Lr.st2 h') ((jv_st2_len ls i v).trans hn))⟩
theorem js_istore {i : Nat} (X : jv_X p s m args meth c D dA M) (hd : decode (jt_code M) pc = .ok (.istore i, n)) (hs : jv_sti n 2 pc ls i st h = some o) : jv_Ok p l e R s m args below meth c D dA A z0 y0 M Q pc ls st h o := by
  unfold jv_sti at hs
  split at hs
  · split at hs
    · rename_i x st' hi
      obtain ⟨hn, hs⟩ := jv_len_inv hs
      subst hn
      exact jv_sto1 hs (fun H locs cells slots la hL w => lv_istore X.1 X.2.1 hd hL hi rfl w)
    · cases hs
  · cases hs
theorem js_istore_n {i : Fin 4} (X : jv_X p s m args meth c D dA M) (hd : decode (jt_code M) pc = .ok (.istore_n i, n)) (hs : jv_sti n 1 pc ls i st h = some o) : jv_Ok p l e R s m args below meth c D dA A z0 y0 M Q pc ls st h o := by
  unfold jv_sti at hs
  split at hs
  · split at hs
    · rename_i x st' hi
      obtain ⟨hn, hs⟩ := jv_len_inv hs
      subst hn
      exact jv_sto1 hs (fun H locs cells slots la hL w => lv_istore_n X.1 X.2.1 hd rfl hL hi rfl w)
    · cases hs
  · cases hs
theorem js_lstore {i : Nat} (X : jv_X p s m args meth c D dA M) (hd : decode (jt_code M) pc = .ok (.lstore i, n)) (hs : jv_stl n 2 pc ls i st h = some o) : jv_Ok p l e R s m args below meth c D dA A z0 y0 M Q pc ls st h o := by
  unfold jv_stl at hs
  split at hs
  · split at hs
    · rename_i x st' hi
      obtain ⟨hn, hs⟩ := jv_len_inv hs
      subst hn
      exact jv_sto2 hs (fun H locs cells slots la hL w => lv_lstore X.1 X.2.1 hd hL hi rfl w)
    · cases hs
  · cases hs
theorem js_lstore_n {i : Fin 4} (X : jv_X p s m args meth c D dA M) (hd : decode (jt_code M) pc = .ok (.lstore_n i, n)) (hs : jv_stl n 1 pc ls i st h = some o) : jv_Ok p l e R s m args below meth c D dA A z0 y0 M Q pc ls st h o := by
  unfold jv_stl at hs
  split at hs
  · split at hs
    · rename_i x st' hi
      obtain ⟨hn, hs⟩ := jv_len_inv hs
      subst hn
      exact jv_sto2 hs (fun H locs cells slots la hL w => lv_lstore_n X.1 X.2.1 hd rfl hL hi rfl w)
    · cases hs
  · cases hs
theorem js_astore {i : Nat} (X : jv_X p s m args meth c D dA M) (hd : decode (jt_code M) pc = .ok (.astore i, n)) (hs : jv_sta n 2 pc ls i st h = some o) : jv_Ok p l e R s m args below meth c D dA A z0 y0 M Q pc ls st h o := by
  unfold jv_sta at hs
  split at hs
  · split at hs
    · rename_i x st' hi
      obtain ⟨hn, hs⟩ := jv_len_inv hs
      subst hn
      exact jv_sto1 hs (fun H locs cells slots la hL w => lv_astore X.1 X.2.1 hd hL hi rfl w)
    · cases hs
  · split at hs
    · rename_i st' hi
      obtain ⟨hn, hs⟩ := jv_len_inv hs
      subst hn
      exact jv_sto1 hs (fun H locs cells slots la hL w => lv_astoreN X.1 X.2.1 hd hL hi rfl w)
    · cases hs
  · cases hs
theorem js_astore_n {i : Fin 4} (X : jv_X p s m args meth c D dA M) (hd : decode (jt_code M) pc = .ok (.astore_n i, n)) (hs : jv_sta n 1 pc ls i st h = some o) : jv_Ok p l e R s m args below meth c D dA A z0 y0 M Q pc ls st h o := by
  unfold jv_sta at hs
  split at hs
  · split at hs
    · rename_i x st' hi
      obtain ⟨hn, hs⟩ := jv_len_inv hs
      subst hn
      exact jv_sto1 hs (fun H locs cells slots la hL w => lv_astore_n X.1 X.2.1 hd rfl hL hi rfl w)
    · cases hs
  · split at hs
    · rename_i st' hi
      obtain ⟨hn, hs⟩ := jv_len_inv hs
      subst hn
      exact jv_sto1 hs (fun H locs cells slots la hL w => lv_astore_nN X.1 X.2.1 hd rfl hL hi rfl w)
    · cases hs
  · cases hs
theorem js_iinc {i : Nat} {k : Int} (X : jv_X p s m args meth c D dA M) (hd : decode (jt_code M) pc = .ok (.iinc i k, n)) (hs : jv_ins call M (.iinc i k) n pc ls st h = some o) : jv_Ok p l e R s m args below meth c D dA A z0 y0 M Q pc ls st h o := by
  unfold jv_ins at hs
  simp only at hs
  split at hs
  · rename_i x hx
    split at hs
    · rename_i hi
      obtain ⟨hn, hs⟩ := jv_len_inv hs
      subst hn
      refine jv_sto1 hs (fun H locs cells slots la hL w => ?_)
      obtain ⟨j, hj⟩ := List.getElem?_of_mem (jv_lp_mem.mpr hx)
      exact lv_iinc X.1 X.2.1 hd hL (k := j) hj rfl hi rfl w
    · cases hs
  · cases hs
theorem js_b2 {f : Int32 → Int32 → Int32} (hs : jv_b2 f n pc ls st h = some o) (k : n = 1 → ∀ (x y : Int32) (rest : List Value) (H : Heap) (locs : List Loc) (cells slots : Nat) (la : Array Slot), W p l e R s m args below meth c H locs cells slots Q (F0 m (pc + 1) la (.int (f x y) :: rest)) → W p l e R s m args below meth c H locs cells slots Q (F0 m pc la (.int y :: .int x :: rest))) : jv_Ok p l e R s m args below meth c D dA A z0 y0 M Q pc ls st h o := by
  unfold jv_b2 at hs
  split at hs
  · obtain ⟨hn, hs⟩ := jv_len_inv hs
    exact jv_pure hs (fun H locs cells slots la hL w => k hn _ _ _ H locs cells slots la w)
  · cases hs
theorem js_l2 {f : Int64 → Int64 → Int64} (hs : jv_l2 f n pc ls st h = some o) (k : n = 1 → ∀ (x y : Int64) (rest : List Value) (H : Heap) (locs : List Loc) (cells slots : Nat) (la : Array Slot), W p l e R s m args below meth c H locs cells slots Q (F0 m (pc + 1) la (.long (f x y) :: rest)) → W p l e R s m args below meth c H locs cells slots Q (F0 m pc la (.long y :: .long x :: rest))) : jv_Ok p l e R s m args below meth c D dA A z0 y0 M Q pc ls st h o := by
  unfold jv_l2 at hs
  split at hs
  · obtain ⟨hn, hs⟩ := jv_len_inv hs
    exact jv_pure hs (fun H locs cells slots la hL w => k hn _ _ _ H locs cells slots la w)
  · cases hs
theorem jv_to_inv {pc t : Nat} {off : Int} (hs : jv_to pc off = some t) : (pc : Int) + off = (t : Int) := by
  unfold jv_to at hs
  split at hs
  · cases hs
    omega
  · cases hs
/-- a jump -/
theorem js_go {off : Int} {b : Bool} {rest : List Value} (hs : jv_go pc off b ls rest h = some o) (k : ∀ t : Nat, (pc : Int) + off = (t : Int) → ∀ (H : Heap) (locs : List Loc) (cells slots : Nat) (la : Array Slot), W p l e R s m args below meth c H locs cells slots Q (F0 m (if b then t else pc + 3) la rest) → W p l e R s m args below meth c H locs cells slots Q (F0 m pc la st)) : jv_Ok p l e R s m args below meth c D dA A z0 y0 M Q pc ls st h o := by
  unfold jv_go at hs
  split at hs
  · rename_i t ht
    exact jv_pure hs (fun H locs cells slots la hL w => k t (jv_to_inv ht) H locs cells slots la w)
  · cases hs
end JX
end
section
/-! the instructions that use the heap -/
theorem jt_f4_mem {l : List (Nat × Nat × Nat × Nat)} {o i : Nat} {q : Nat × Nat} (h : jt_f4 l o i = some q) : (o, i, q) ∈ l := by
  unfold jt_f4 at h
  cases hf : l.find? (fun q => q.1 == o && q.2.1 == i) with
  | none => rw [hf] at h; cases h
  | some x =>
    rw [hf] at h
    have h1 := List.mem_of_find?_eq_some hf
    have h2 := List.find?_some hf
    simp only [Bool.and_eq_true, beq_iff_eq] at h2
    obtain ⟨a, b, y⟩ := x
    simp only [Option.map_some, Option.some.injEq] at h
    simp only at h2
    rw [← h2.1, ← h2.2, ← h]
    exact h1
theorem jt_f3_mem {α : Type} {l : List (Nat × Nat × α)} {o i : Nat} {q : α} (h : jt_f3 l o i = some q) : (o, i, q) ∈ l := by
  unfold jt_f3 at h
  cases hf : l.find? (fun q => q.1 == o && q.2.1 == i) with
  | none => rw [hf] at h; cases h
  | some x =>
    rw [hf] at h
    have h1 := List.mem_of_find?_eq_some hf
    have h2 := List.find?_some hf
    simp only [Bool.and_eq_true, beq_iff_eq] at h2
    obtain ⟨a, b, y⟩ := x
    simp only [Option.map_some, Option.some.injEq] at h
    simp only at h2
    rw [← h2.1, ← h2.2, ← h]
    exact h1
theorem jt_lay_good {C : String} {T : u_T} {N : Nat} {w : Cond} (h : w ∈ u_ws C T N) : goodWord w = true := by
  unfold u_ws at h
  obtain ⟨k, -, e⟩ := List.mem_map.mp h
  subst e
  unfold u_lay
  split <;> rfl
theorem jt_ws_in {ci : Nat} {r : vw_C} (h : jt_cl[ci]? = some r) : ∀ w ∈ u_ws r.1 r.2.1 r.2.2, w ∈ jt_gd := fun w hw =>
  jt_gd_of (jt_cl_in r (List.mem_of_getElem? h) w (List.mem_cons_of_mem _ (List.mem_cons_of_mem _ hw))) (jt_lay_good hw)
theorem jv_gf_inv {h : jv_H} {a ci k : Nat} {v : Value} (e : jv_gf h a ci k = some v) : ∃ fs, h.1 a = some (.inl (ci, fs)) ∧ fs[k]? = some v := by
  unfold jv_gf at e
  split at e
  · rename_i x fs hx
    split at e
    · rename_i hc
      subst hc
      exact ⟨fs, hx, e⟩
    · cases e
  · cases e
theorem jv_pf_inv {h h' : jv_H} {a ci k : Nat} {v : Value} (e : jv_pf h a ci k v = some h') : ∃ fs, h.1 a = some (.inl (ci, fs)) ∧ k < fs.length ∧ narrow (jt_fty ci k) v = v ∧ fits (jt_fty ci k) v = true ∧ h' = (jv_up h.1 a (.inl (ci, fs.set k v)), h.2) := by
  unfold jv_pf at e
  split at e
  · rename_i x fs hx
    split at e
    · rename_i hc
      obtain ⟨rfl, h1, h2, h3⟩ := hc
      cases e
      exact ⟨fs, hx, h1, h2, h3, rfl⟩
    · cases e
  · cases e
theorem jv_al_inv {h : jv_H} {a : Nat} {ty : FieldType} {i : Int32} {v : Value} (e : jv_al h a ty i = some v) : ∃ k n f, h.1 a = some (.inr (k, n, f)) ∧ jt_at[k]? = some ty ∧ ¬ (i < 0 ∨ n ≤ i.toNatClampNeg) ∧ v = f i.toNatClampNeg := by
  unfold jv_al at e
  split at e
  · rename_i k n f hx
    split at e
    · rename_i hc
      cases e
      exact ⟨k, n, f, hx, hc.1, hc.2, rfl⟩
    · cases e
  · cases e
theorem jv_as_inv {h h' : jv_H} {a : Nat} {ty : FieldType} {i : Int32} {v : Value} (e : jv_as h a ty i v = some h') : ∃ k n f, h.1 a = some (.inr (k, n, f)) ∧ ¬ k = jt_scr ∧ jt_at[k]? = some ty ∧ ¬ (i < 0 ∨ n ≤ i.toNatClampNeg) ∧ h' = (jv_up h.1 a (.inr (k, n, updV f i.toNatClampNeg v)), h.2) := by
  unfold jv_as at e
  split at e
  · rename_i k n f hx
    split at e
    · rename_i hc
      cases e
      exact ⟨k, n, f, hx, hc.1, hc.2.1, hc.2.2, rfl⟩
    · cases e
  · cases e
section JY
variable {p : Program} {l : Launch} {e : Env} {R : Room} {s : State} {m : MethodId} {args : Array Value} {below : List Frame} {meth : Method} {c : Code} {Q : State → Prop} {D : va_G} {dA : Nat → ClassId} {A : Nat → Prop} {z0 y0 M n pc : Nat} {ls : jv_L} {st : List Value} {h : jv_H} {call : jv_F} {o : jv_S ⊕ jv_Z}
theorem jv_W.put {H H1 : Heap} {locs : List Loc} {cells slots a k : Nat} {x y : jv_C} (hW : jv_W s D dA A z0 y0 h H locs cells slots) (hx : h.1 a = some x) (hs : jv_scr x = false) (hs2 : jv_scr y = false) (z : H1.size = H.size) (oq : ∀ q : Nat, q ≠ a → H1[q]? = H[q]?) (hy : jv_at D dA s a y H1) : jv_W s D dA A z0 y0 (jv_up h.1 a y, h.2) H1 (locs ++ [⟨a, k⟩]) cells slots := by
  obtain ⟨h1, h2, h3, h4, h5, h6⟩ := hW
  refine ⟨h1.put z oq hy, h2.put z oq (h3 a x hx hs), fun q w e f => ?_, h4, h5, h6⟩
  by_cases hq : q = a
  · subst hq
    exact h3 q x hx hs
  · simp only [jv_up, if_neg hq] at e
    exact h3 q w e f
theorem jv_W.push {H H1 : Heap} {locs : List Loc} {cells slots k : Nat} {y : jv_C} (hW : jv_W s D dA A z0 y0 h H locs cells slots) (z : H1.size = h.2.1 + 1) (oq : ∀ q : Nat, q < h.2.1 → H1[q]? = H[q]?) (hy : jv_at D dA s h.2.1 y H1) : jv_W s D dA A z0 y0 (jv_up h.1 h.2.1 y, h.2.1 + 1, h.2.2 + k) H1 locs (cells + 1) (slots + k) := by
  obtain ⟨h1, h2, h3, h4, h5, h6⟩ := hW
  have hz : H.size = h.2.1 := h1.1
  refine ⟨h1.push z oq hy, ⟨by have := h2.1; omega, fun q e1 e2 => (oq q (by have := h2.1; omega)).trans (h2.2.1 q e1 e2), h2.2.2⟩, fun q w e f => ?_, by simp only; omega, by simp only; omega, h6⟩
  by_cases hq : q = h.2.1
  · exact h6 q (by omega)
  · simp only [jv_up, if_neg hq] at e
    exact h3 q w e f
theorem js_getfield {k : Nat} (X : jv_X p s m args meth c D dA M) (hd : decode (jt_code M) pc = .ok (.getfield k, n)) (hs : jv_ins call M (.getfield k) n pc ls st h = some o) : jv_Ok p l e R s m args below meth c D dA A z0 y0 M Q pc ls st h o := by
  unfold jv_ins at hs
  simp only at hs
  split at hs
  · rename_i a rest ci f hf
    split at hs
    · rename_i v hv
      obtain ⟨hn, hs⟩ := jv_len_inv hs
      subst hn
      obtain ⟨fs, e1, e2⟩ := jv_gf_inv hv
      cases hs
      refine ⟨jv_G.rf, rfl, fun _ _ w H locs cells slots la hW hL hn => ?_⟩
      obtain ⟨r, hr, hlen, hob⟩ := hW.1.2 a _ e1
      obtain ⟨hx, hb, hml, hown, hts, hK, -⟩ := X
      have hw := jt_fl_in _ (jt_f4_mem hf)
      have hk : f < r.2.2 := by rw [← hlen]; exact (List.getElem?_eq_some_iff.mp e2).1
      simp only [jt_wfl, hr] at hw
      have hP : va_P D jt_cl [(a, .inr (ci, fs))] H := fun k q hk => by
        have hz : k < 1 := (List.getElem?_eq_some_iff.mp hk).1
        rw [show k = 0 by omega] at hk
        cases hk
        exact ⟨r, hr, hob⟩
      exact va_get (D := D) (ci := ci) (v := v) (C := r.1) (T := r.2.1) (N := r.2.2) (tys := []) hx hb hts (jt_ws_in hr) hown ⟨hK.1, fun k q h => by simp at h⟩ hP 0 rfl hr f hk (hts _ (jt_gd_of hw rfl)) (fun _ h9 => h9) e2 hd (w H locs cells slots la hW hL hn)
    · cases hs
  · cases hs
theorem js_putfield {k : Nat} (X : jv_X p s m args meth c D dA M) (hd : decode (jt_code M) pc = .ok (.putfield k, n)) (hs : jv_ins call M (.putfield k) n pc ls st h = some o) : jv_Ok p l e R s m args below meth c D dA A z0 y0 M Q pc ls st h o := by
  unfold jv_ins at hs
  simp only at hs
  split at hs
  · rename_i v a rest ci f hf
    split at hs
    · rename_i hfin
      split at hs
      · rename_i h' hv
        obtain ⟨hn, hs⟩ := jv_len_inv hs
        subst hn
        obtain ⟨fs, e1, hl, hnar, hfit, rfl⟩ := jv_pf_inv hv
        cases hs
        refine ⟨jv_G.up e1 rfl, rfl, fun _ _ w H locs cells slots la hW hL hn => ?_⟩
        obtain ⟨r, hr, hlen, hob⟩ := hW.1.2 a _ e1
        obtain ⟨hx, hb, hml, hown, hts, hK, hin⟩ := X
        have hw := jt_fl_in _ (jt_f4_mem hf)
        have hk : f < r.2.2 := by rw [← hlen]; exact hl
        simp only [jt_wfl, hr] at hw
        have hlink := hts _ (jt_gd_of hw rfl)
        obtain ⟨hty, hnm⟩ := jt_cl_ty ci r hr
        have hap := va_apart (own := jt_cn (jt_own M)) (D := D) (cl := jt_cl) (ci := ci) (C := r.1) (T := r.2.1) (N := r.2.2) (tys := []) hts (jt_ws_in hr) _ hty hnm ⟨hK.1, fun k q h => by simp at h⟩ hr
        obtain ⟨cell, q1, q2, q3, q4⟩ := hob
        obtain ⟨hS, hfc, kC, hkC, hkind⟩ := hK.1 ci _ hr
        obtain ⟨cf, kf, fi, fd, hi, hsl⟩ := hS f hk
        have hst := (u_facts hfc hkC (u_lays hts (jt_ws_in hr) hk) hi).1
        have hlay := hts _ (jt_ws_in hr _ (u_in_lay hk))
        have fin : ∀ H1 : Heap, H1[a]? = some (cell.setSlot fd.slot v) → H1.size = H.size → (∀ q, q ≠ a → H1[q]? = H[q]?) → W p l e R s m args below meth c H1 (locs ++ [⟨a, fd.slot⟩]) cells slots Q (F0 m (pc + 3) la rest) := fun H1 e3 z oq => by
          rw [hsl] at e3 ⊢
          exact w H1 _ cells slots la (hW.put e1 rfl rfl z oq ⟨r, hr, by rw [List.length_set]; exact hlen, t_OB.to (V := updV (vp_V fs) f v) ⟨_, e3, q2, q3, t_set q4 hap hk v⟩ (fun j _ => vp_updV_set hl v j)⟩) hL hn
        cases hff : (r.2.1 f).2.2.2 with
        | false =>
          unfold u_lay at hlay
          rw [if_neg (by rw [hff]; decide)] at hlay
          have h6 := u_store hfc hkC hkind hlay hi (hty f hk) hnar hfit
          exact W.putK hx hb (f := fd) ⟨hown, hlink, ⟨_, _, _, hi⟩, hst⟩ (by rw [q2]; exact h6) q1 q3 (by rw [hsl]; exact k2_hasslot (q4 f hk)) rfl rfl hd fin
        | true =>
          have hfin2 : jt_kd M = 2 ∧ jt_own M = ci := by
            rcases hfin with h9 | h9
            · simp only [jt_ffin, hr, hff] at h9
              cases h9
            · exact h9
          unfold u_lay at hlay
          rw [if_pos hff] at hlay
          have hdecl : (r.2.1 f).1 = jt_cn (jt_own M) := by rw [hfin2.2]; exact jt_cl_decl ci r hr f hk
          have hcf : m.cls = cf := by
            obtain ⟨_, _, c', _, _, _, -, -, hf', -, -, -, hown2, -⟩ := Cond.laysFinal_spec hlay
            have e5 : c' = cf := by have := hi.symm.trans hf'; simp at this; exact this.1.symm
            rw [hdecl] at hown2
            rw [← e5]; exact Option.some.inj (hown.symm.trans hown2)
          have h6 := u_fits hfc hkC hkind (Or.inr hlay) hi (hty f hk) hnar hfit
          exact W.putFinK hx hb hown hlink hi hst hcf (hin hfin2.1) (by rw [q2]; exact h6) q1 q3 (by rw [hsl]; exact k2_hasslot (q4 f hk)) rfl rfl hd fin
      · cases hs
    · cases hs
  · cases hs
theorem js_new {k : Nat} (X : jv_X p s m args meth c D dA M) (hd : decode (jt_code M) pc = .ok (.new k, n)) (hs : jv_ins call M (.new k) n pc ls st h = some o) : jv_Ok p l e R s m args below meth c D dA A z0 y0 M Q pc ls st h o := by
  unfold jv_ins at hs
  simp only at hs
  split at hs
  · rename_i ci hf
    split at hs
    · rename_i hci
      obtain ⟨hn, hs⟩ := jv_len_inv hs
      subst hn
      cases hs
      refine ⟨jv_G.push, rfl, fun hc1 hc2 w H locs cells slots la hW hL hn => ?_⟩
      obtain ⟨hx, hb, hml, hown, hts, hK, hin⟩ := X
      obtain ⟨r, hr⟩ : ∃ r, jt_cl[ci]? = some r := ⟨_, List.getElem?_eq_getElem hci⟩
      have hw := jt_nl_in _ (jt_f3_mem hf)
      simp only [jt_wnl, jt_cl_cn ci r hr] at hw
      have hcl := jt_cl_in r (List.mem_of_getElem? hr)
      have hlen : (jt_dfl ci).length = r.2.2 := by simp [jt_dfl, hr]
      have hKn := hK.1 ci r hr
      have hcc : cells + 1 ≤ R.cells := by
        have := hW.2.2.2.1
        simp only [jv_new] at hc1
        omega
      have hss : slots + r.2.2 ≤ R.slots := by
        have := hW.2.2.2.2.1
        simp only [jv_new, hlen] at hc2
        omega
      refine W.newcK hx hb hown (hts _ (jt_gd_of hw rfl)) (hts _ (jt_gd_of (hcl _ List.mem_cons_self) rfl)) (hts _ (jt_gd_of (hcl _ (List.mem_cons_of_mem _ List.mem_cons_self)) rfl)) rfl hd hcc hss hKn.2.1 hW.1.1 fun H1 kC hkC e1 z1 o1 => ?_
      have hW1 := hW.push (k := r.2.2) (y := .inl (ci, jt_dfl ci)) z1 o1 ⟨r, hr, hlen, (u_born _ hts (jt_ws_in hr) hKn hkC e1 (jt_cl_ty ci r hr).1).to (fun j hj => by simp [vp_V, jt_dfl, hr, hj, jt_fty])⟩
      rw [← hlen] at hW1 ⊢
      exact w H1 locs _ _ la hW1 hL hn
    · cases hs
  · cases hs
theorem jt_idx {t : FieldType} {k : Nat} (h : jt_at.idxOf? t = some k) : jt_at[k]? = some t := by
  obtain ⟨h1, h2, -⟩ := List.idxOf?_eq_some_iff.mp h
  rw [List.getElem?_eq_getElem h1]
  first | rw [h2] | rw [eq_of_beq h2] | simpa using h2
theorem jt_ac_of {k : Nat} {t : FieldType} (hat : jt_at[k]? = some t) (hp : jt_prim t = true) {args : Array Value} {s : State} (hts : ∀ w ∈ jt_gd, w.before args s = true) : (Cond.arrayClass t).before args s = true := hts _ (jt_gd_of (jt_ac_in k t hat hp) rfl)
theorem js_newarray {t : ArrayType} (X : jv_X p s m args meth c D dA M) (hd : decode (jt_code M) pc = .ok (.newarray t, n)) (hs : jv_ins call M (.newarray t) n pc ls st h = some o) : jv_Ok p l e R s m args below meth c D dA A z0 y0 M Q pc ls st h o := by
  unfold jv_ins at hs
  simp only at hs
  split at hs
  · rename_i x rest
    split at hs
    · rename_i k hk
      split at hs
      · rename_i hc
        obtain ⟨hc0, hc1, hc2⟩ := hc
        obtain ⟨hn, hs⟩ := jv_len_inv hs
        subst hn
        cases hs
        refine ⟨jv_G.push, rfl, fun hr1 hr2 w H locs cells slots la hW hL hn => ?_⟩
        obtain ⟨hx, hb, hml, hown, hts, hK, hin⟩ := X
        have hat := jt_idx hk
        have hKk := hK.2.1 k _ hc0 hat
        have hcc : cells + 1 ≤ R.cells := by
          have := hW.2.2.2.1
          simp only [jv_newa] at hr1
          omega
        have hss : slots + x.toNatClampNeg ≤ R.slots := by
          have := hW.2.2.2.2.1
          simp only [jv_newa] at hr2
          omega
        have hby : x.toNatClampNeg * componentBytes (newarray.typeOf t) ≤ 536870912 := by
          have h8 : componentBytes (newarray.typeOf t) ≤ 8 := by cases t <;> decide
          exact Nat.le_trans (Nat.mul_le_mul hc2 h8) (by decide)
        refine va_newaK hx hb (jt_ac_of hat (by cases t <;> rfl) hts) rfl hd rfl hc1 rfl hby hcc hss hW.1.1 fun H1 cA e1 z1 o1 hAr hfc => ?_
        have hcA : cA = dA k := by
          have h9 : s.vm.findClass ("[" ++ (newarray.typeOf t).toString) = some (dA k) := by
            have h10 := hKk.2
            cases t <;> exact h10
          exact Option.some.inj (hfc.symm.trans h9)
        subst hcA
        exact w H1 locs _ _ la (hW.push z1 o1 (by unfold jv_at; simp only; rw [if_neg hc0]; exact ⟨⟨_, hat⟩, e1⟩)) hL hn
      · cases hs
    · cases hs
  · cases hs
theorem js_anewarray {k : Nat} (X : jv_X p s m args meth c D dA M) (hd : decode (jt_code M) pc = .ok (.anewarray k, n)) (hs : jv_ins call M (.anewarray k) n pc ls st h = some o) : jv_Ok p l e R s m args below meth c D dA A z0 y0 M Q pc ls st h o := by
  unfold jv_ins at hs
  simp only at hs
  split at hs
  · rename_i x rest ci hf
    split at hs
    · rename_i k hk
      split at hs
      · rename_i hc
        obtain ⟨hc0, hc1, hc2⟩ := hc
        obtain ⟨hn, hs⟩ := jv_len_inv hs
        subst hn
        cases hs
        refine ⟨jv_G.push, rfl, fun hr1 hr2 w H locs cells slots la hW hL hn => ?_⟩
        obtain ⟨hx, hb, hml, hown, hts, hK, hin⟩ := X
        have hat := jt_idx hk
        have hKk := hK.2.1 k _ hc0 hat
        have hw := jt_nl_in _ (jt_f3_mem hf)
        have hcc : cells + 1 ≤ R.cells := by
          have := hW.2.2.2.1
          simp only [jv_newa] at hr1
          omega
        have hss : slots + x.toNatClampNeg ≤ R.slots := by
          have := hW.2.2.2.2.1
          simp only [jv_newa] at hr2
          omega
        refine W.anew hx hb hown (hts _ (jt_gd_of hw rfl)) (va_AO.use (hK.2.2.1 _ (List.mem_of_getElem? hat))) rfl hd rfl hc1 (by omega) hcc hss fun cA kA comp f1 f2 f3 f4 => ?_
        have hcA : cA = dA k := by
          obtain ⟨kA', comp', g1, g2, g3, g4⟩ := hKk.2
          exact Option.some.inj (f1.symm.trans g4)
        subst hcA
        have hz := hW.1.1
        generalize hH1 : H.push ({ cls := dA k, slots := Array.replicate x.toNatClampNeg .null, vm := .none } : Cell) = H1
        have z1 : H1.size = h.2.1 + 1 := by rw [← hH1, Array.size_push, hz]
        have e1 : H1[h.2.1]? = some (arrV (dA k) x.toNatClampNeg (fun _ => .null)) := by rw [← hH1, ← hz, Array.getElem?_push_size, ← arrV_new]
        have o1 : ∀ q : Nat, q < h.2.1 → H1[q]? = H[q]? := fun q hq => by rw [← hH1, Array.getElem?_push, if_neg (Nat.ne_of_lt (by rw [hz]; exact hq))]
        rw [hz]
        exact w H1 locs _ _ la (hW.push z1 o1 (by unfold jv_at; simp only; rw [if_neg hc0]; exact ⟨⟨_, hat⟩, e1⟩)) hL hn
      · cases hs
    · cases hs
  · cases hs
end JY
end
section
/-! arrays -/
theorem jt_scr_ty {ty : FieldType} (h : jt_at[jt_scr]? = some ty) : ty = .int := by
  have h1 : jt_at[jt_scr]? = some .int := by decide
  exact Option.some.inj (h.symm.trans h1)
theorem jv_arr {D : va_G} {dA : Nat → ClassId} {s : State} {a k n : Nat} {f : Nat → Value} {H : Heap} {ty : FieldType} (hK : jv_K D dA s) (h : jv_at D dA s a (.inr (k, n, f)) H) (ht : jt_at[k]? = some ty) : ∃ cell : Cell, H[a]? = some cell ∧ s.isArrayOf cell ty ∧ cell.vm ≠ .unknown ∧ cell.slots.size = n ∧ ∀ j : Nat, j < n → cell.slots[j]? = some (f j) := by
  unfold jv_at at h
  simp only at h
  split at h
  · rename_i hk
    subst hk
    rw [jt_scr_ty ht]
    exact h
  · rename_i hk
    exact ⟨_, h.2, (hK.2.1 k ty hk ht).1 n f, (fun q => by cases q), arrV_size _ _ _, fun j hj => arrV_read _ _ hj⟩
theorem jv_arrW {D : va_G} {dA : Nat → ClassId} {s : State} {a k n : Nat} {f : Nat → Value} {H : Heap} (h : jv_at D dA s a (.inr (k, n, f)) H) (hk : ¬ k = jt_scr) : H[a]? = some (arrV (dA k) n f) := by
  unfold jv_at at h
  simp only at h
  rw [if_neg hk] at h
  exact h.2
theorem jv_arrV {D : va_G} {dA : Nat → ClassId} {s : State} {a k n : Nat} {f : Nat → Value} {H : Heap} {ty : FieldType} (hk : ¬ k = jt_scr) (ht : jt_at[k]? = some ty) (h : H[a]? = some (arrV (dA k) n f)) : jv_at D dA s a (.inr (k, n, f)) H := by
  unfold jv_at
  simp only
  rw [if_neg hk]
  exact ⟨⟨ty, ht⟩, h⟩
theorem jv_scrF {k n : Nat} {f : Nat → Value} (hk : ¬ k = jt_scr) : jv_scr (.inr (k, n, f)) = false := by simp [jv_scr, hk]
section JZ
variable {p : Program} {l : Launch} {e : Env} {R : Room} {s : State} {m : MethodId} {args : Array Value} {below : List Frame} {meth : Method} {c : Code} {Q : State → Prop} {D : va_G} {dA : Nat → ClassId} {A : Nat → Prop} {z0 y0 M n pc : Nat} {ls : jv_L} {st : List Value} {h : jv_H} {call : jv_F} {o : jv_S ⊕ jv_Z}
theorem js_arraylength (X : jv_X p s m args meth c D dA M) (hd : decode (jt_code M) pc = .ok (.arraylength, n)) (hs : jv_ins call M .arraylength n pc ls st h = some o) : jv_Ok p l e R s m args below meth c D dA A z0 y0 M Q pc ls st h o := by
  unfold jv_ins at hs
  simp only at hs
  split at hs
  · rename_i a rest
    split at hs
    · rename_i z hz
      obtain ⟨hn, hs⟩ := jv_len_inv hs
      subst hn
      cases hs
      refine ⟨jv_G.rf, rfl, fun _ _ w H locs cells slots la hW hL hn => ?_⟩
      unfold jv_ln at hz
      split at hz
      · rename_i k n f hx
        cases hz
        have hat := hW.1.2 a _ hx
        obtain ⟨ty, hty⟩ : ∃ ty, jt_at[k]? = some ty := by
          by_cases hk : k = jt_scr
          · exact ⟨.int, by rw [hk]; decide⟩
          · unfold jv_at at hat
            simp only at hat
            rw [if_neg hk] at hat
            exact hat.1
        obtain ⟨cell, q1, q2, q3, q4, q5⟩ := jv_arr X.2.2.2.2.2.1 hat hty
        exact W.alen X.1 X.2.1 q1 q2 (by rw [q4]) rfl rfl hd (w H locs cells slots la hW hL hn)
      · cases hz
    · cases hs
  · cases hs
theorem js_iaload (X : jv_X p s m args meth c D dA M) (hd : decode (jt_code M) pc = .ok (.iaload, n)) (hs : jv_ins call M .iaload n pc ls st h = some o) : jv_Ok p l e R s m args below meth c D dA A z0 y0 M Q pc ls st h o := by
  unfold jv_ins at hs
  simp only at hs
  split at hs
  · split at hs
    · rename_i hv
      obtain ⟨hn, hs⟩ := jv_len_inv hs
      subst hn
      cases hs
      refine ⟨jv_G.rf, rfl, fun _ _ w H locs cells slots la hW hL hn => ?_⟩
      obtain ⟨k, z, f, hx, ht, hi, rfl⟩ := jv_al_inv hv
      obtain ⟨cell, q1, q2, q3, q4, q5⟩ := jv_arr X.2.2.2.2.2.1 (hW.1.2 _ _ hx) ht
      exact W.iald X.1 X.2.1 q1 q2 q3 (by rw [q4]; exact hi) (q5 _ (Nat.not_le.mp fun q => hi (Or.inr q))) rfl rfl hd (w H locs cells slots la hW hL hn)
    · cases hs
  · cases hs
theorem js_laload (X : jv_X p s m args meth c D dA M) (hd : decode (jt_code M) pc = .ok (.laload, n)) (hs : jv_ins call M .laload n pc ls st h = some o) : jv_Ok p l e R s m args below meth c D dA A z0 y0 M Q pc ls st h o := by
  unfold jv_ins at hs
  simp only at hs
  split at hs
  · split at hs
    · rename_i hv
      obtain ⟨hn, hs⟩ := jv_len_inv hs
      subst hn
      cases hs
      refine ⟨jv_G.rf, rfl, fun _ _ w H locs cells slots la hW hL hn => ?_⟩
      obtain ⟨k, z, f, hx, ht, hi, rfl⟩ := jv_al_inv hv
      obtain ⟨cell, q1, q2, q3, q4, q5⟩ := jv_arr X.2.2.2.2.2.1 (hW.1.2 _ _ hx) ht
      exact W.lald X.1 X.2.1 q1 q2 q3 (by rw [q4]; exact hi) (q5 _ (Nat.not_le.mp fun q => hi (Or.inr q))) rfl rfl hd (w H locs cells slots la hW hL hn)
    · cases hs
  · cases hs
theorem js_baload (X : jv_X p s m args meth c D dA M) (hd : decode (jt_code M) pc = .ok (.baload, n)) (hs : jv_ins call M .baload n pc ls st h = some o) : jv_Ok p l e R s m args below meth c D dA A z0 y0 M Q pc ls st h o := by
  unfold jv_ins at hs
  simp only at hs
  split at hs
  · split at hs
    · rename_i hv
      obtain ⟨hn, hs⟩ := jv_len_inv hs
      subst hn
      cases hs
      refine ⟨jv_G.rf, rfl, fun _ _ w H locs cells slots la hW hL hn => ?_⟩
      obtain ⟨k, z, f, hx, ht, hi, rfl⟩ := jv_al_inv hv
      obtain ⟨cell, q1, q2, q3, q4, q5⟩ := jv_arr X.2.2.2.2.2.1 (hW.1.2 _ _ hx) ht
      exact W.zald X.1 X.2.1 q1 q2 q3 (by rw [q4]; exact hi) (q5 _ (Nat.not_le.mp fun q => hi (Or.inr q))) rfl rfl hd (w H locs cells slots la hW hL hn)
    · cases hs
  · cases hs
theorem js_aaload (X : jv_X p s m args meth c D dA M) (hd : decode (jt_code M) pc = .ok (.aaload, n)) (hs : jv_ins call M .aaload n pc ls st h = some o) : jv_Ok p l e R s m args below meth c D dA A z0 y0 M Q pc ls st h o := by
  unfold jv_ins at hs
  simp only at hs
  split at hs
  · split at hs
    · split at hs
      · rename_i hv
        obtain ⟨hn, hs⟩ := jv_len_inv hs
        subst hn
        cases hs
        refine ⟨jv_G.rf, rfl, fun _ _ w H locs cells slots la hW hL hn => ?_⟩
        obtain ⟨k, z, f, hx, ht, hi, rfl⟩ := jv_al_inv hv
        obtain ⟨cell, q1, q2, q3, q4, q5⟩ := jv_arr X.2.2.2.2.2.1 (hW.1.2 _ _ hx) ht
        exact W.aald X.1 X.2.1 q1 q2 rfl q3 (by rw [q4]; exact hi) (q5 _ (Nat.not_le.mp fun q => hi (Or.inr q))) rfl rfl hd (w H locs cells slots la hW hL hn)
      · cases hs
    · cases hs
  · cases hs
theorem js_iastore (X : jv_X p s m args meth c D dA M) (hd : decode (jt_code M) pc = .ok (.iastore, n)) (hs : jv_ins call M .iastore n pc ls st h = some o) : jv_Ok p l e R s m args below meth c D dA A z0 y0 M Q pc ls st h o := by
  unfold jv_ins at hs
  simp only at hs
  split at hs
  · split at hs
    · rename_i hv
      obtain ⟨hn, hs⟩ := jv_len_inv hs
      subst hn
      obtain ⟨k, z, f, hx, hk, ht, hi, rfl⟩ := jv_as_inv hv
      cases hs
      refine ⟨jv_G.up hx (jv_scrF hk), rfl, fun _ _ w H locs cells slots la hW hL hn => ?_⟩
      have q1 := jv_arrW (hW.1.2 _ _ hx) hk
      refine W.iast X.1 X.2.1 q1 ((X.2.2.2.2.2.1.2.1 k _ hk ht).1 z f) (fun q => by cases q) (by rw [arrV_size]; exact hi) rfl rfl hd fun H1 e1 z1 o1 => ?_
      rw [arrV_store] at e1
      exact w H1 _ cells slots la (hW.put hx (jv_scrF hk) (jv_scrF hk) z1 o1 (jv_arrV hk ht e1)) hL hn
    · cases hs
  · cases hs
theorem js_lastore (X : jv_X p s m args meth c D dA M) (hd : decode (jt_code M) pc = .ok (.lastore, n)) (hs : jv_ins call M .lastore n pc ls st h = some o) : jv_Ok p l e R s m args below meth c D dA A z0 y0 M Q pc ls st h o := by
  unfold jv_ins at hs
  simp only at hs
  split at hs
  · split at hs
    · rename_i hv
      obtain ⟨hn, hs⟩ := jv_len_inv hs
      subst hn
      obtain ⟨k, z, f, hx, hk, ht, hi, rfl⟩ := jv_as_inv hv
      cases hs
      refine ⟨jv_G.up hx (jv_scrF hk), rfl, fun _ _ w H locs cells slots la hW hL hn => ?_⟩
      have q1 := jv_arrW (hW.1.2 _ _ hx) hk
      refine W.last X.1 X.2.1 q1 ((X.2.2.2.2.2.1.2.1 k _ hk ht).1 z f) (fun q => by cases q) (by rw [arrV_size]; exact hi) rfl rfl hd fun H1 e1 z1 o1 => ?_
      rw [arrV_store] at e1
      exact w H1 _ cells slots la (hW.put hx (jv_scrF hk) (jv_scrF hk) z1 o1 (jv_arrV hk ht e1)) hL hn
    · cases hs
  · cases hs
theorem js_bastore (X : jv_X p s m args meth c D dA M) (hd : decode (jt_code M) pc = .ok (.bastore, n)) (hs : jv_ins call M .bastore n pc ls st h = some o) : jv_Ok p l e R s m args below meth c D dA A z0 y0 M Q pc ls st h o := by
  unfold jv_ins at hs
  simp only at hs
  split at hs
  · split at hs
    · rename_i hv
      obtain ⟨hn, hs⟩ := jv_len_inv hs
      subst hn
      obtain ⟨k, z, f, hx, hk, ht, hi, rfl⟩ := jv_as_inv hv
      cases hs
      refine ⟨jv_G.up hx (jv_scrF hk), rfl, fun _ _ w H locs cells slots la hW hL hn => ?_⟩
      have q1 := jv_arrW (hW.1.2 _ _ hx) hk
      refine W.zast X.1 X.2.1 q1 ((X.2.2.2.2.2.1.2.1 k _ hk ht).1 z f) (fun q => by cases q) (by rw [arrV_size]; exact hi) rfl rfl hd fun H1 e1 z1 o1 => ?_
      rw [arrV_store] at e1
      exact w H1 _ cells slots la (hW.put hx (jv_scrF hk) (jv_scrF hk) z1 o1 (jv_arrV hk ht e1)) hL hn
    · cases hs
  · cases hs
theorem js_aastore (X : jv_X p s m args meth c D dA M) (hd : decode (jt_code M) pc = .ok (.aastore, n)) (hs : jv_ins call M .aastore n pc ls st h = some o) : jv_Ok p l e R s m args below meth c D dA A z0 y0 M Q pc ls st h o := by
  unfold jv_ins at hs
  simp only at hs
  split at hs
  · rename_i v j a rest
    split at hs
    · rename_i C hC
      split at hs
      · rename_i hA
        split at hs
        · rename_i h' hv
          obtain ⟨hn, hs⟩ := jv_len_inv hs
          subst hn
          obtain ⟨k, z, f, hx, hk, ht, hi, rfl⟩ := jv_as_inv hv
          cases hs
          refine ⟨jv_G.up hx (jv_scrF hk), rfl, fun _ _ w H locs cells slots la hW hL hn => ?_⟩
          have q1 := jv_arrW (hW.1.2 _ _ hx) hk
          have hKk := X.2.2.2.2.2.1.2.1 k _ hk ht
          have fin : ∀ H1 : Heap, H1[a]? = some ((arrV (dA k) z f).setSlot j.toNatClampNeg v) → H1.size = H.size → (∀ q, q ≠ a → H1[q]? = H[q]?) → W p l e R s m args below meth c H1 (locs ++ [⟨a, j.toNatClampNeg⟩]) cells slots Q (F0 m (pc + 1) la rest) := fun H1 e1 z1 o1 => by
            rw [arrV_store] at e1
            exact w H1 _ cells slots la (hW.put hx (jv_scrF hk) (jv_scrF hk) z1 o1 (jv_arrV hk ht e1)) hL hn
          cases v with
          | null => exact va_WaastN (C := C) X.1 X.2.1 q1 (hKk.1 z f) (fun q => by cases q) (by rw [arrV_size]; exact hi) rfl rfl hd fin
          | ref q =>
            simp only [jv_isA] at hA
            cases hq : jv_cl h q with
            | none => rw [hq] at hA; cases hA
            | some ci =>
              rw [hq] at hA
              simp only at hA
              cases hr : jt_cl[ci]? with
              | none => rw [hr] at hA; cases hA
              | some r =>
                rw [hr] at hA
                simp only [decide_eq_true_eq] at hA
                unfold jv_cl at hq
                split at hq
                · rename_i ci' fs hxq
                  cases hq
                  obtain ⟨r', hr', -, cellV, g1, g2, g3, -⟩ := hW.1.2 q _ hxq
                  have hcls := (X.2.2.2.2.2.1.1 _ r hr).2
                  obtain ⟨kA, comp, k1, k2, k3, -⟩ := hKk.2
                  rw [← hA] at k3
                  have hcomp : comp = D.1 _ := Option.some.inj (k3.symm.trans hcls.1)
                  subst hcomp
                  obtain ⟨kC, hkC, -⟩ := id hcls.2
                  exact W.aast X.1 X.2.1 q1 (fun q h => by cases h) (fun h => by cases h) k1 k2 rfl hkC ⟨fun q => hi (Or.inl q), by rw [arrV_size]; exact Nat.not_le.mp fun q => hi (Or.inr q)⟩ g1 (fun q h => by rw [g3] at h; cases h) (by rw [g2]; exact hkC) (by rw [g2]; exact va_assign hcls) rfl rfl hd fin
                · cases hq
          | _ => cases hA
        · cases hs
      · cases hs
    · cases hs
  · cases hs
end JZ
/-! calls -/
def jv_A (h : jv_H) : Nat → Prop := fun q => (∃ x, h.1 q = some x ∧ jv_scr x = false) ∨ h.2.1 ≤ q
def jv_Q (D : va_G) (dA : Nat → ClassId) (h : jv_H) (r : Option Value) (h' : jv_H) : Array Value → State → Outcome → State → Prop := fun _ st o t => o = .returned r ∧ jv_R D dA t h' t.heap ∧ va_F (jv_A h) st t
def jt_ws (y : Nat) : List Cond := .code (jt_m y).1 (jt_code y) (jt_maxL y) (jt_ret y) :: jt_gd
def jv_rm (d : Nat) (h h' : jv_H) : Room := { frames := d, cells := h'.2.1 - h.2.1, slots := h'.2.2 - h.2.2, locals := 32 * d }
def jv_Met (l : Launch) (D : va_G) (dA : Nat → ClassId) (d y : Nat) (as : List Value) (h : jv_H) (r : Option Value) (h' : jv_H) : Prop :=
  Met l (jt_m y).1 (jt_ws y) (jv_rm d h h') (va_Pc as (fun U => jv_R D dA U h U.heap ∧ jv_K D dA U)) (jv_Q D dA h r h') (h'.2.1 - h.2.1) (h'.2.2 - h.2.2) (jv_A h)
theorem jt_m_in {y : Nat} (hy : y < jt_mc.length) : jt_m y ∈ jt_mc := by
  have h1 : jt_ms[y]? = jt_mc[y]? := by unfold jt_ms; rw [List.getElem?_append_left hy]
  have h2 : jt_m y = jt_mc[y] := by unfold jt_m; rw [List.getD_eq_getElem?_getD, h1, List.getElem?_eq_getElem hy]; rfl
  rw [h2]
  exact List.getElem_mem hy
def jt_mok (q : jt_M) : Bool := decide (q.1.cls = jt_cn q.2.2.2.2.1) && plainFor q.1 && decide (q.1.cls ≠ "java/lang/invoke/MethodHandle") && decide (q.1.cls ≠ "java/lang/invoke/VarHandle") && decide ((parseMethodDescriptor q.1.desc).map (fun d => d.parameters.length) = some q.2.2.2.2.2.1) && decide (q.2.2.1 ≤ 13) && (decide (q.2.2.2.2.2.2 ≠ 2) || (decide (q.1.name = "<init>") && decide (q.2.2.2.1 = none)))
set_option maxRecDepth 100000 in
theorem jt_mc_ok : jt_mc.all jt_mok = true := by decide +kernel
set_option maxRecDepth 100000 in
theorem jt_ml_lt : ∀ q ∈ jt_ml, q.2.2 < jt_mc.length := by decide +kernel
set_option maxRecDepth 100000 in
theorem jt_mn_lt : ∀ q ∈ jt_mn, q.2.2.1 < jt_mc.length := by decide +kernel
theorem jt_mfacts {y : Nat} (hy : y < jt_mc.length) : (jt_m y).1.cls = jt_cn (jt_own y) ∧ plainFor (jt_m y).1 = true ∧ ((jt_m y).1.cls ≠ "java/lang/invoke/MethodHandle" ∧ (jt_m y).1.cls ≠ "java/lang/invoke/VarHandle" ∧ (parseMethodDescriptor (jt_m y).1.desc).map (fun d => d.parameters.length) = some (jt_np y)) ∧ jt_maxL y ≤ 13 ∧ (jt_kd y = 2 → (jt_m y).1.name = "<init>" ∧ jt_ret y = none) := by
  have h := List.all_eq_true.mp jt_mc_ok _ (jt_m_in hy)
  simp only [jt_mok, Bool.and_eq_true, Bool.or_eq_true, decide_eq_true_eq] at h
  obtain ⟨⟨⟨⟨⟨⟨h1, h2⟩, h3⟩, h4⟩, h5⟩, h6⟩, h7⟩ := h
  refine ⟨h1, h2, ⟨h3, h4, h5⟩, h6, fun hk => ?_⟩
  rcases h7 with h7 | h7
  · exact absurd hk h7
  · exact h7
theorem jt_mwords {y : Nat} (hy : y < jt_mc.length) : Cond.code (jt_m y).1 (jt_code y) (jt_maxL y) (jt_ret y) ∈ jt_gd ∧ Cond.initialized (jt_m y).1.cls ∈ jt_gd ∧ (jt_kd y = 1 → Cond.static (jt_m y).1 ∈ jt_gd) ∧ (jt_kd y = 2 → Cond.instanceMethod (jt_m y).1 ∈ jt_gd) ∧ (jt_kd y = 0 → Cond.instanceMethod (jt_m y).1 ∈ jt_gd ∧ Cond.selects (jt_m y).1.cls (jt_m y).1 (jt_m y).1 ∈ jt_gd) := by
  have h := jt_mc_in _ (jt_m_in hy)
  refine ⟨jt_gd_of (h _ List.mem_cons_self) rfl, jt_gd_of (h _ (List.mem_cons_of_mem _ List.mem_cons_self)) rfl, fun hk => jt_gd_of (h _ ?_) rfl, fun hk => jt_gd_of (h _ ?_) rfl, fun hk => ⟨jt_gd_of (h _ ?_) rfl, jt_gd_of (h _ ?_) rfl⟩⟩
  · have hk : (jt_m y).2.2.2.2.2.2 = 1 := hk
    unfold jt_wm; rw [if_pos hk]; simp
  · have hk : (jt_m y).2.2.2.2.2.2 = 2 := hk
    unfold jt_wm; rw [if_neg (by omega), if_pos hk]; simp
  · have hk : (jt_m y).2.2.2.2.2.2 = 0 := hk
    unfold jt_wm; rw [if_neg (by omega), if_neg (by omega)]; simp
  · have hk : (jt_m y).2.2.2.2.2.2 = 0 := hk
    unfold jt_wm; rw [if_neg (by omega), if_neg (by omega)]; simp
theorem jt_ws_good {y : Nat} (hy : y < jt_mc.length) : GoodIn jt_gd (jt_ws y) := by
  intro w hw
  rcases List.mem_cons.mp hw with rfl | hw
  · exact ⟨(jt_mwords hy).1, Or.inl rfl⟩
  · exact ⟨hw, good_of_word (List.mem_filter.mp hw).2⟩
theorem jt_inv_ok {o i y : Nat} (h : jt_inv o i = some y) : y < jt_mc.length ∧ (((o, i, y) ∈ jt_ml) ∨ ∃ z, (o, i, y, z) ∈ jt_mn) := by
  unfold jt_inv at h
  split at h
  · rename_i y' hy
    cases h
    have h1 := jt_f3_mem hy
    exact ⟨jt_ml_lt _ h1, Or.inl h1⟩
  · cases hf : jt_f4 jt_mn o i with
    | none => rw [hf] at h; cases h
    | some q =>
      rw [hf] at h
      cases h
      have h1 := jt_f4_mem hf
      exact ⟨jt_mn_lt _ h1, Or.inr ⟨q.2, h1⟩⟩
section JC
variable {p : Program} {l : Launch} {e : Env} {R : Room} {s : State} {m : MethodId} {args : Array Value} {below : List Frame} {meth : Method} {c : Code} {Q : State → Prop} {D : va_G} {dA : Nat → ClassId} {A : Nat → Prop} {z0 y0 M n pc d : Nat} {ls : jv_L} {st : List Value} {h : jv_H} {call : jv_F} {o : jv_S ⊕ jv_Z}
/-- behind a call -/
theorem jv_back {H : Heap} {locs : List Loc} {cells slots : Nat} {la : Array Slot} {h' : jv_H} {r : Option Value} {as rest : List Value} (hG : jv_G h h') (hW : jv_W s D dA A z0 y0 h H locs cells slots) (hL : jv_Lr ls la) (hn : ls.length = jt_maxL M)
    (hr : va_Run p l e R s m args below meth c H locs cells slots (h'.2.1 - h.2.1) (h'.2.2 - h.2.2) (F0 m pc la st) rest (jv_Q D dA h r h' as.toArray) (jv_A h)) (w : jv_Wp p l e R s m args below meth c D dA A z0 y0 M Q (pc + 3) ls (r.toList ++ rest) h') : W p l e R s m args below meth c H locs cells slots Q (F0 m pc la st) := by
  intro T hT X
  obtain ⟨v, st₀, t, T', L, h0, X', hL', e1, e2, ⟨hv, hR, hF⟩, stp⟩ := hr T hT X
  cases hv
  obtain ⟨w1, w2, w3, w4, w5, w6⟩ := hW
  have hA : ∀ q, jv_A h q → A q := fun q hq => by
    rcases hq with ⟨x, f1, f2⟩ | hq
    · exact w3 q x f1 f2
    · exact w6 q (by omega)
  unfold va_F at hF
  rw [h0] at hF
  have hal : t.vm.Alike s.vm := by rw [← e2]; exact X'.warmed.alike.symm
  obtain ⟨t2, a1, b1⟩ := w T'.heap (locs ++ L) (cells + (h'.2.1 - h.2.1)) (slots + (h'.2.2 - h.2.2)) la ⟨by rw [e1]; exact hR.moved hal, ⟨by have := w2.1; rw [e1]; omega, fun q q1 q2 => by rw [e1, hF.2 q (Nat.lt_of_lt_of_le q1 w2.1) (fun z => q2 (hA q z))]; exact w2.2.1 q q1 q2, fun q hq => by
      rcases List.mem_append.mp hq with h | h
      · exact w2.2.2 q h
      · exact hA _ (hL' q h)⟩, fun a x f1 f2 => by
      rcases hG.2.2 a x f1 f2 with ⟨y, g1, g2⟩ | g
      · exact w3 a y g1 g2
      · exact w6 a (by omega), by have := hG.1; omega, by have := hG.2.1; omega, w6⟩ hL hn T' rfl X'
  exact ⟨t2, stp t2 a1, b1⟩
theorem jv_blind {as : List Value} : FrameBlind (va_Pc as (fun U => jv_R D dA U h U.heap ∧ jv_K D dA U)) := by
  intro a U g mk q
  obtain ⟨q1, q2, q3⟩ := q
  exact ⟨q1, q2.moved (Vm.Alike.refl U.vm), q3.same rfl⟩
theorem jv_pre {H : Heap} {as : List Value} (hR : jv_R D dA s h H) (hK : jv_K D dA s) : ∀ U : State, U.heap = H → s.WarmedH U.vm → va_Pc as (fun U => jv_R D dA U h U.heap ∧ jv_K D dA U) as.toArray U := fun U hU hW => ⟨rfl, by rw [hU]; exact hR.moved hW.alike, hK.warm hW⟩
theorem jv_inv_inv {y : Nat} {as rest : List Value} (hs : jv_inv call y n pc ls as rest h = some o) : n = 3 ∧ (rest.map fun v => v.category).sum ≤ 8 ∧ ∃ r h', call y as h = some (r, h') ∧ o = .inl (pc + 3, ls, r.toList ++ rest, h') := by
  unfold jv_inv at hs
  split at hs
  · rename_i hc
    split at hs
    · rename_i r h' hq
      cases hs
      exact ⟨hc.1, of_decide_eq_true hc.2, r, h', hq, rfl⟩
    · cases hs
  · cases hs
theorem jv_stk {st : List Value} {k : Nat} (hk : k ≤ st.length) : ((st.take k).reverse).reverse ++ st.drop k = st := by rw [List.reverse_reverse, List.take_append_drop]
theorem jv_stl2 {st : List Value} {k : Nat} (hk : k ≤ st.length) : ((st.take k).reverse).length = k := by rw [List.length_reverse, List.length_take]; omega
theorem js_invokestatic {k : Nat} (X : jv_X p s m args meth c D dA M) (hcall : ∀ y as h r h', y < jt_mc.length → call y as h = some (r, h') → jv_G h h' ∧ jv_Met l D dA d y as h r h') (hf : d + 1 ≤ R.frames) (hlo : 32 * (d + 1) ≤ R.locals)
    (hd : decode (jt_code M) pc = .ok (.invokestatic k, n)) (hs : jv_ins call M (.invokestatic k) n pc ls st h = some o) : jv_Ok p l e R s m args below meth c D dA A z0 y0 M Q pc ls st h o := by
  unfold jv_ins at hs
  simp only at hs
  split at hs
  · rename_i y hy
    split at hs
    · rename_i hc
      obtain ⟨hkd, hnp⟩ := hc
      obtain ⟨hn, hwd, r, h', hq, rfl⟩ := jv_inv_inv hs
      subst hn
      obtain ⟨hlt, hlk⟩ := jt_inv_ok hy
      obtain ⟨hG, hM⟩ := hcall _ _ _ _ _ hlt hq
      refine ⟨hG, rfl, fun hr1 hr2 w H locs cells slots la hW hL hn => ?_⟩
      obtain ⟨hx, hb, hml, hown, hts, hK, hin⟩ := X
      obtain ⟨f1, f2, f3, f4, f5⟩ := jt_mfacts hlt
      obtain ⟨g1, g2, g3, g4, g5⟩ := jt_mwords hlt
      have hroom : cells + (h'.2.1 - h.2.1) ≤ R.cells ∧ slots + (h'.2.2 - h.2.2) ≤ R.slots := by
        obtain ⟨-, -, -, w4, w5, -⟩ := hW
        have q1 := hG.1
        have q2 := hG.2.1
        try simp only at hr1 hr2
        omega
      have hR : (jv_rm d h h').frames + 1 ≤ R.frames ∧ 8 + (jt_maxL y + 11) + (jv_rm d h h').locals ≤ R.locals := ⟨hf, by show 8 + (jt_maxL y + 11) + 32 * d ≤ R.locals; omega⟩
      rcases hlk with hlk | ⟨z, hlk⟩
      · have hlink := hts _ (jt_gd_of (jt_ml_in _ hlk) rfl)
        exact jv_back hG hW hL hn (va_runS (As := (st.take (jt_np y)).reverse) ⟨hx, hb, hml, hown, hts⟩ hM ⟨callB_of (jt_np y) hts (jt_ws_good hlt) rfl rfl rfl (hts _ g2) hlink f3 hR, hts _ (g3 hkd)⟩ ⟨jv_blind, jv_pre hW.1 hK⟩ rfl (jv_stl2 hnp) (hL.1.trans hn) (jv_stk hnp).symm (by show 2 * 0 + _ ≤ 8; omega) hd hroom) w
      · have hlink := hK.2.2.2 _ hlk
        exact jv_back hG hW hL hn (va_runSN (As := (st.take (jt_np y)).reverse) ⟨hx, hb, hml, hown, hts⟩ hM ⟨va_cnB (jt_np y) hts (jt_ws_good hlt) rfl rfl rfl hlink (hts _ g2) f3 hR, hts _ (g3 hkd), trivial⟩ ⟨jv_blind, jv_pre hW.1 hK⟩ rfl (jv_stl2 hnp) (hL.1.trans hn) (jv_stk hnp).symm (by show 2 * 0 + _ ≤ 8; omega) hd hroom) w
    · cases hs
  · cases hs
theorem js_invokevirtual {k : Nat} (X : jv_X p s m args meth c D dA M) (hcall : ∀ y as h r h', y < jt_mc.length → call y as h = some (r, h') → jv_G h h' ∧ jv_Met l D dA d y as h r h') (hf : d + 1 ≤ R.frames) (hlo : 32 * (d + 1) ≤ R.locals)
    (hd : decode (jt_code M) pc = .ok (.invokevirtual k, n)) (hs : jv_ins call M (.invokevirtual k) n pc ls st h = some o) : jv_Ok p l e R s m args below meth c D dA A z0 y0 M Q pc ls st h o := by
  unfold jv_ins at hs
  simp only at hs
  split at hs
  · rename_i y hy
    split at hs
    · rename_i b rest hst
      split at hs
      · rename_i hc
        obtain ⟨hkd, hcl, hnp⟩ := hc
        obtain ⟨hn, hwd, r, h', hq, rfl⟩ := jv_inv_inv hs
        subst hn
        obtain ⟨hlt, hlk⟩ := jt_inv_ok hy
        obtain ⟨hG, hM⟩ := hcall _ _ _ _ _ hlt hq
        refine ⟨hG, rfl, fun hr1 hr2 w H locs cells slots la hW hL hn => ?_⟩
        obtain ⟨hx, hb, hml, hown, hts, hK, hin⟩ := X
        obtain ⟨f1, f2, f3, f4, f5⟩ := jt_mfacts hlt
        obtain ⟨g1, g2, g3, g4, g5⟩ := jt_mwords hlt
        have hroom : cells + (h'.2.1 - h.2.1) ≤ R.cells ∧ slots + (h'.2.2 - h.2.2) ≤ R.slots := by
          obtain ⟨-, -, -, w4, w5, -⟩ := hW
          have q1 := hG.1
          have q2 := hG.2.1
          try simp only at hr1 hr2
          omega
        have hR : (jv_rm d h h').frames + 1 ≤ R.frames ∧ 8 + (jt_maxL y + 11) + (jv_rm d h h').locals ≤ R.locals := ⟨hf, by show 8 + (jt_maxL y + 11) + 32 * d ≤ R.locals; omega⟩
        have hrecv : ∃ cellB : Cell, H[b]? = some cellB ∧ cellB.vm.isStatics = false ∧ s.vm.findClass (jt_m y).1.cls = some cellB.cls := by
          unfold jv_cl at hcl
          split at hcl
          · rename_i ci fs hxb
            cases hcl
            obtain ⟨r', hr', -, cell, q1, q2, q3, -⟩ := hW.1.2 b _ hxb
            refine ⟨cell, q1, by rw [q3]; rfl, ?_⟩
            rw [f1, jt_cl_cn _ r' hr', q2]
            exact (hK.1 _ r' hr').2.1
          · cases hcl
        have hstk : st = ((st.take (jt_np y)).reverse).reverse ++ Value.ref b :: rest := by rw [← hst]; exact (jv_stk hnp).symm
        rcases hlk with hlk | ⟨z, hlk⟩
        · have hlink := hts _ (jt_gd_of (jt_ml_in _ hlk) rfl)
          exact jv_back hG hW hL hn (va_runV (C := (jt_m y).1.cls) (As := (st.take (jt_np y)).reverse) ⟨hx, hb, hml, hown, hts⟩ hM ⟨callB_of (jt_np y) hts (jt_ws_good hlt) rfl rfl rfl (hts _ g2) hlink f3 hR, hts _ (g5 hkd).1, hts _ (g5 hkd).2⟩ ⟨jv_blind, hrecv, jv_pre hW.1 hK⟩ rfl (jv_stl2 hnp) (hL.1.trans hn) hstk (by show 2 * 0 + _ ≤ 8; omega) hd hroom) w
        · have hlink := hK.2.2.2 _ hlk
          exact jv_back hG hW hL hn (va_runVN (C := (jt_m y).1.cls) (As := (st.take (jt_np y)).reverse) ⟨hx, hb, hml, hown, hts⟩ hM ⟨va_cnB (jt_np y) hts (jt_ws_good hlt) rfl rfl rfl hlink (hts _ g2) f3 hR, hts _ (g5 hkd).1, hts _ (g5 hkd).2⟩ ⟨jv_blind, hrecv, jv_pre hW.1 hK⟩ rfl (jv_stl2 hnp) (hL.1.trans hn) hstk (by show 2 * 0 + _ ≤ 8; omega) hd hroom) w
      · cases hs
    · cases hs
  · cases hs
theorem js_invokespecial {k : Nat} (X : jv_X p s m args meth c D dA M) (hcall : ∀ y as h r h', y < jt_mc.length → call y as h = some (r, h') → jv_G h h' ∧ jv_Met l D dA d y as h r h') (hf : d + 1 ≤ R.frames) (hlo : 32 * (d + 1) ≤ R.locals)
    (hd : decode (jt_code M) pc = .ok (.invokespecial k, n)) (hs : jv_ins call M (.invokespecial k) n pc ls st h = some o) : jv_Ok p l e R s m args below meth c D dA A z0 y0 M Q pc ls st h o := by
  unfold jv_ins at hs
  simp only at hs
  split at hs
  · rename_i hob
    split at hs
    · rename_i a rest
      split at hs
      · rename_i hwd
        obtain ⟨hn, hs⟩ := jv_len_inv hs
        subst hn
        cases hs
        refine ⟨jv_G.rf, rfl, fun hr1 hr2 w H locs cells slots la hW hL hn => ?_⟩
        obtain ⟨hx, hb, hml, hown, hts, hK, hin⟩ := X
        have hwd := of_decide_eq_true hwd
        have hmem : (jt_own M, k) ∈ jt_ob := by simpa using hob
        have hlink := hts _ (jt_gd_of (jt_ob_in _ hmem) rfl)
        exact W.objInit hx hb hown hlink (hts _ (jt_gd_of jt_obi rfl)) (hts _ (jt_gd_of jt_obc rfl)) rfl (by rw [hml]; exact hL.1.trans hn) rfl hd (by omega) (by show 2 * 0 + _ + 12 ≤ R.locals; omega) (w H locs cells slots la hW hL hn)
      · cases hs
    · cases hs
  · split at hs
    · rename_i y hy
      split at hs
      · rename_i b rest hst
        split at hs
        · rename_i hc
          obtain ⟨hkd, hnp⟩ := hc
          obtain ⟨hn, hwd, r, h', hq, rfl⟩ := jv_inv_inv hs
          subst hn
          obtain ⟨hlt, hlk⟩ := jt_inv_ok hy
          obtain ⟨hG, hM⟩ := hcall _ _ _ _ _ hlt hq
          refine ⟨hG, rfl, fun hr1 hr2 w H locs cells slots la hW hL hn => ?_⟩
          obtain ⟨hx, hb, hml, hown, hts, hK, hin⟩ := X
          obtain ⟨f1, f2, f3, f4, f5⟩ := jt_mfacts hlt
          obtain ⟨g1, g2, g3, g4, g5⟩ := jt_mwords hlt
          have hroom : cells + (h'.2.1 - h.2.1) ≤ R.cells ∧ slots + (h'.2.2 - h.2.2) ≤ R.slots := by
            obtain ⟨-, -, -, w4, w5, -⟩ := hW
            have q1 := hG.1
            have q2 := hG.2.1
            try simp only at hr1 hr2
            omega
          have hR : (jv_rm d h h').frames + 1 ≤ R.frames ∧ 8 + (jt_maxL y + 11) + (jv_rm d h h').locals ≤ R.locals := ⟨hf, by show 8 + (jt_maxL y + 11) + 32 * d ≤ R.locals; omega⟩
          have hstk : st = ((st.take (jt_np y)).reverse).reverse ++ Value.ref b :: rest := by rw [← hst]; exact (jv_stk hnp).symm
          have hwse : jt_ws y = Cond.code (jt_m y).1 (jt_code y) (jt_maxL y) none :: jt_gd := by unfold jt_ws; rw [(f5 hkd).2]
          rcases hlk with hlk | ⟨z, hlk⟩
          · have hlink := hts _ (jt_gd_of (jt_ml_in _ hlk) rfl)
            exact jv_back hG hW hL hn (va_runI (bytes := jt_code y) (maxL := jt_maxL y) (As := (st.take (jt_np y)).reverse) ⟨hx, hb, hml, hown, hts⟩ hM ⟨callB_of (jt_np y) hts (jt_ws_good hlt) hwse rfl rfl (hts _ g2) hlink f3 hR, (f5 hkd).1, hts _ (g4 hkd)⟩ ⟨jv_blind, jv_pre hW.1 hK⟩ rfl (jv_stl2 hnp) (hL.1.trans hn) hstk (by show 2 * 0 + _ ≤ 8; omega) hd hroom) w
          · have hlink := hK.2.2.2 _ hlk
            exact jv_back hG hW hL hn (va_runIN (bytes := jt_code y) (maxL := jt_maxL y) (As := (st.take (jt_np y)).reverse) ⟨hx, hb, hml, hown, hts⟩ hM ⟨va_cnB (jt_np y) hts (jt_ws_good hlt) hwse rfl rfl hlink (hts _ g2) f3 hR, (f5 hkd).1, hts _ (g4 hkd)⟩ ⟨jv_blind, jv_pre hW.1 hK⟩ rfl (jv_stl2 hnp) (hL.1.trans hn) hstk (by show 2 * 0 + _ ≤ 8; omega) hd hroom) w
        · cases hs
      · cases hs
    · cases hs
end JC
end
section
/-! every instruction; every method; the law -/
section JS
variable {p : Program} {l : Launch} {e : Env} {R : Room} {s : State} {m : MethodId} {args : Array Value} {below : List Frame} {meth : Method} {c : Code} {Q : State → Prop} {D : va_G} {dA : Nat → ClassId} {A : Nat → Prop} {z0 y0 M n pc d : Nat} {ls : jv_L} {st : List Value} {h : jv_H} {call : jv_F} {o : jv_S ⊕ jv_Z}
theorem js_icmp {cd : ClassFile.Cond} {off : Int} (X : jv_X p s m args meth c D dA M) (hd : decode (jt_code M) pc = .ok (.if_icmp cd off, n)) (hs : jv_ins call M (.if_icmp cd off) n pc ls st h = some o) : jv_Ok p l e R s m args below meth c D dA A z0 y0 M Q pc ls st h o := by
  unfold jv_ins at hs
  simp only at hs
  split at hs
  · rename_i y x rest
    obtain ⟨hn, hs⟩ := jv_len_inv hs
    subst hn
    refine js_go hs (fun t ht H locs cells slots la w => ?_)
    cases cd
    · refine lv_icmp_eq X.1 X.2.1 hd ht (fun q => ?_) (fun q => ?_) <;> simpa [jv_cmp, q] using w
    · refine lv_icmp_ne X.1 X.2.1 hd ht (fun q => ?_) (fun q => ?_) <;> simpa [jv_cmp, q] using w
    · refine lv_icmp_lt X.1 X.2.1 hd ht (fun q => ?_) (fun q => ?_) <;> simpa only [jv_cmp, q, decide_true, decide_false, if_true, if_false, Bool.false_eq_true] using w
    · refine lv_icmp_ge X.1 X.2.1 hd ht (fun q => ?_) (fun q => ?_) <;> simpa only [jv_cmp, q, decide_true, decide_false, if_true, if_false, Bool.false_eq_true] using w
    · refine lv_icmp_gt X.1 X.2.1 hd ht (fun q => ?_) (fun q => ?_) <;> simpa only [jv_cmp, q, decide_true, decide_false, if_true, if_false, Bool.false_eq_true] using w
    · refine lv_icmp_le X.1 X.2.1 hd ht (fun q => ?_) (fun q => ?_) <;> simpa only [jv_cmp, q, decide_true, decide_false, if_true, if_false, Bool.false_eq_true] using w
  · cases hs
theorem js_ifc {cd : ClassFile.Cond} {off : Int} (X : jv_X p s m args meth c D dA M) (hd : decode (jt_code M) pc = .ok (.ifCond cd off, n)) (hs : jv_ins call M (.ifCond cd off) n pc ls st h = some o) : jv_Ok p l e R s m args below meth c D dA A z0 y0 M Q pc ls st h o := by
  unfold jv_ins at hs
  simp only at hs
  split at hs
  · rename_i x rest
    obtain ⟨hn, hs⟩ := jv_len_inv hs
    subst hn
    refine js_go hs (fun t ht H locs cells slots la w => ?_)
    cases cd
    · refine lv_if_eq X.1 X.2.1 hd ht (fun q => ?_) (fun q => ?_) <;> simpa [jv_cmp, q] using w
    · refine lv_if_ne X.1 X.2.1 hd ht (fun q => ?_) (fun q => ?_) <;> simpa [jv_cmp, q] using w
    · refine lv_if_lt X.1 X.2.1 hd ht (fun q => ?_) (fun q => ?_) <;> simpa only [jv_cmp, q, decide_true, decide_false, if_true, if_false, Bool.false_eq_true] using w
    · refine lv_if_ge X.1 X.2.1 hd ht (fun q => ?_) (fun q => ?_) <;> simpa only [jv_cmp, q, decide_true, decide_false, if_true, if_false, Bool.false_eq_true] using w
    · refine lv_if_gt X.1 X.2.1 hd ht (fun q => ?_) (fun q => ?_) <;> simpa only [jv_cmp, q, decide_true, decide_false, if_true, if_false, Bool.false_eq_true] using w
    · refine lv_if_le X.1 X.2.1 hd ht (fun q => ?_) (fun q => ?_) <;> simpa only [jv_cmp, q, decide_true, decide_false, if_true, if_false, Bool.false_eq_true] using w
  · cases hs
theorem js_acmp {cd : ACond} {off : Int} (X : jv_X p s m args meth c D dA M) (hd : decode (jt_code M) pc = .ok (.if_acmp cd off, n)) (hs : jv_ins call M (.if_acmp cd off) n pc ls st h = some o) : jv_Ok p l e R s m args below meth c D dA A z0 y0 M Q pc ls st h o := by
  unfold jv_ins at hs
  simp only at hs
  split at hs
  · rename_i y x rest
    obtain ⟨hn, hs⟩ := jv_len_inv hs
    subst hn
    refine js_go hs (fun t ht H locs cells slots la w => ?_)
    cases cd
    · refine lv_acmp_eq (rx := some x) (ry := some y) X.1 X.2.1 hd ht (fun q => ?_) (fun q => ?_)
      · cases q; simpa using w
      · have q2 : ¬ x = y := fun z => q (by rw [z]); simpa [q2] using w
    · refine lv_acmp_ne (rx := some x) (ry := some y) X.1 X.2.1 hd ht (fun q => ?_) (fun q => ?_)
      · have q2 : ¬ x = y := fun z => q (by rw [z]); simpa [q2] using w
      · cases q; simpa using w
  · rename_i x rest
    obtain ⟨hn, hs⟩ := jv_len_inv hs
    subst hn
    refine js_go hs (fun t ht H locs cells slots la w => ?_)
    cases cd
    · exact lv_acmp_eq (rx := some x) (ry := none) X.1 X.2.1 hd ht (fun q => by cases q) (fun q => w)
    · exact lv_acmp_ne (rx := some x) (ry := none) X.1 X.2.1 hd ht (fun q => w) (fun q => by cases q)
  · rename_i y rest
    obtain ⟨hn, hs⟩ := jv_len_inv hs
    subst hn
    refine js_go hs (fun t ht H locs cells slots la w => ?_)
    cases cd
    · exact lv_acmp_eq (rx := none) (ry := some y) X.1 X.2.1 hd ht (fun q => by cases q) (fun q => w)
    · exact lv_acmp_ne (rx := none) (ry := some y) X.1 X.2.1 hd ht (fun q => w) (fun q => by cases q)
  · obtain ⟨hn, hs⟩ := jv_len_inv hs
    subst hn
    refine js_go hs (fun t ht H locs cells slots la w => ?_)
    cases cd
    · exact lv_acmp_eq (rx := none) (ry := none) X.1 X.2.1 hd ht (fun q => w) (fun q => absurd rfl q)
    · exact lv_acmp_ne (rx := none) (ry := none) X.1 X.2.1 hd ht (fun q => absurd rfl q) (fun q => w)
  · cases hs
theorem js_null {off : Int} (X : jv_X p s m args meth c D dA M) (hd : decode (jt_code M) pc = .ok (.ifnull off, n)) (hs : jv_ins call M (.ifnull off) n pc ls st h = some o) : jv_Ok p l e R s m args below meth c D dA A z0 y0 M Q pc ls st h o := by
  unfold jv_ins at hs
  simp only at hs
  split at hs
  · obtain ⟨hn, hs⟩ := jv_len_inv hs
    subst hn
    exact jv_pure hs (fun H locs cells slots la hL w => lv_ifnull X.1 X.2.1 hd w)
  · obtain ⟨hn, hs⟩ := jv_len_inv hs
    subst hn
    exact js_go hs (fun t ht H locs cells slots la w => lv_ifnullN X.1 X.2.1 hd ht w)
  · cases hs
theorem js_nonnull {off : Int} (X : jv_X p s m args meth c D dA M) (hd : decode (jt_code M) pc = .ok (.ifnonnull off, n)) (hs : jv_ins call M (.ifnonnull off) n pc ls st h = some o) : jv_Ok p l e R s m args below meth c D dA A z0 y0 M Q pc ls st h o := by
  unfold jv_ins at hs
  simp only at hs
  split at hs
  · obtain ⟨hn, hs⟩ := jv_len_inv hs
    subst hn
    exact js_go hs (fun t ht H locs cells slots la w => lv_ifnonnull X.1 X.2.1 hd ht w)
  · obtain ⟨hn, hs⟩ := jv_len_inv hs
    subst hn
    exact jv_pure hs (fun H locs cells slots la hL w => lv_ifnonnullN X.1 X.2.1 hd w)
  · cases hs
theorem js_table {dflt lo hi : Int} {offs : Array Int} (X : jv_X p s m args meth c D dA M) (hd : decode (jt_code M) pc = .ok (.tableswitch dflt lo hi offs, n)) (hs : jv_ins call M (.tableswitch dflt lo hi offs) n pc ls st h = some o) : jv_Ok p l e R s m args below meth c D dA A z0 y0 M Q pc ls st h o := by
  unfold jv_ins at hs
  simp only at hs
  split at hs
  · rename_i x rest
    split at hs
    · rename_i hx
      exact js_go hs (fun t ht H locs cells slots la w => lv_tableOut X.1 X.2.1 hd hx ht w)
    · rename_i hx
      split at hs
      · rename_i off ho
        exact js_go hs (fun t ht H locs cells slots la w => lv_tableIn X.1 X.2.1 hd (fun q => hx (Or.inl q)) (fun q => hx (Or.inr q)) ho ht w)
      · cases hs
  · cases hs
theorem js_lookup {dflt : Int} {ps : Array (Int × Int)} (X : jv_X p s m args meth c D dA M) (hd : decode (jt_code M) pc = .ok (.lookupswitch dflt ps, n)) (hs : jv_ins call M (.lookupswitch dflt ps) n pc ls st h = some o) : jv_Ok p l e R s m args below meth c D dA A z0 y0 M Q pc ls st h o := by
  unfold jv_ins at hs
  simp only at hs
  split at hs
  · rename_i x rest
    split at hs
    · rename_i hx
      exact js_go hs (fun t ht H locs cells slots la w => lv_lookup X.1 X.2.1 hd hx rfl ht w)
    · cases hs
  · cases hs
theorem js_ret {i : Instr} (hd : decode (jt_code M) pc = .ok (i, n)) (hi : i = .ireturn ∨ i = .lreturn ∨ i = .areturn ∨ i = .return_) (hs : jv_ins call M i n pc ls st h = some o) : jv_Ok p l e R s m args below meth c D dA A z0 y0 M Q pc ls st h o := by
  rcases hi with rfl | rfl | rfl | rfl <;> unfold jv_ins at hs <;> simp only at hs
  · split at hs
    · rename_i v ty hr
      split at hs
      · rename_i hc
        obtain ⟨rfl, h2, -⟩ := hc
        cases hs
        exact ⟨rfl, Or.inl ⟨v, ty, hd, rfl, hr, h2, rfl⟩⟩
      · cases hs
    · cases hs
  · split at hs
    · rename_i v hr
      split at hs
      · rename_i hc
        subst hc
        cases hs
        exact ⟨rfl, Or.inr (Or.inl ⟨v, hd, rfl, hr, rfl⟩)⟩
      · cases hs
    · cases hs
  · split at hs
    · rename_i v C hr
      split at hs
      · rename_i hc
        subst hc
        cases hs
        exact ⟨rfl, Or.inr (Or.inr (Or.inl ⟨_, C, hd, rfl, Or.inr ⟨_, rfl⟩, hr, rfl⟩))⟩
      · cases hs
    · rename_i C hr
      split at hs
      · rename_i hc
        subst hc
        cases hs
        exact ⟨rfl, Or.inr (Or.inr (Or.inl ⟨_, C, hd, rfl, Or.inl rfl, hr, rfl⟩))⟩
      · cases hs
    · cases hs
  · split at hs
    · rename_i hr
      split at hs
      · rename_i hc
        subst hc
        cases hs
        exact ⟨rfl, Or.inr (Or.inr (Or.inr ⟨hd, rfl, hr, rfl⟩))⟩
      · cases hs
    · cases hs
theorem jv_ins_ok {i : Instr} (X : jv_X p s m args meth c D dA M) (hcall : ∀ y as h r h', y < jt_mc.length → call y as h = some (r, h') → jv_G h h' ∧ jv_Met l D dA d y as h r h') (hf : d + 1 ≤ R.frames) (hlo : 32 * (d + 1) ≤ R.locals)
    (hd : decode (jt_code M) pc = .ok (i, n)) (hs : jv_ins call M i n pc ls st h = some o) : jv_Ok p l e R s m args below meth c D dA A z0 y0 M Q pc ls st h o := by
  cases i with
  | aconst_null => exact js_const (i := .aconst_null) hs (fun hn H locs cells slots la hL w => by subst hn; exact lv_null X.1 X.2.1 hd w)
  | iconst v => exact js_const (i := .iconst v) hs (fun hn H locs cells slots la hL w => by subst hn; exact lv_iconst X.1 X.2.1 hd rfl w)
  | bipush v => exact js_const (i := .bipush v) hs (fun hn H locs cells slots la hL w => by subst hn; exact lv_bipush X.1 X.2.1 hd rfl w)
  | sipush v => exact js_const (i := .sipush v) hs (fun hn H locs cells slots la hL w => by subst hn; exact lv_sipush X.1 X.2.1 hd rfl w)
  | lconst v => exact js_const (i := .lconst v) hs (fun hn H locs cells slots la hL w => by subst hn; exact lv_lconst X.1 X.2.1 hd rfl w)
  | ldc k =>
    unfold jv_ins at hs
    simp only at hs
    split at hs
    · rename_i v hv
      exact js_const (i := .ldc k) hs (fun hn H locs cells slots la hL w => by subst hn; exact lv_ldc X.1 X.2.1 X.2.2.2.1 (X.2.2.2.2.1 _ (jt_gd_of (jt_ki_in _ (jt_f3_mem hv)) rfl)) hd w)
    · cases hs
  | ldc2_w k =>
    unfold jv_ins at hs
    simp only at hs
    split at hs
    · rename_i v hv
      exact js_const (i := .ldc2_w k) hs (fun hn H locs cells slots la hL w => by subst hn; exact lv_ldc2 X.1 X.2.1 X.2.2.2.1 (X.2.2.2.2.1 _ (jt_gd_of (jt_kj_in _ (jt_f3_mem hv)) rfl)) hd w)
    · cases hs
  | iload k => exact js_ldi hs (fun hn x H locs cells slots la hl w => by subst hn; exact lv_iload X.1 X.2.1 hd hl w)
  | iload_n k => exact js_ldi hs (fun hn x H locs cells slots la hl w => by subst hn; exact lv_iload_n X.1 X.2.1 hd rfl hl w)
  | lload k => exact js_ldl hs (fun hn x H locs cells slots la hl w => by subst hn; exact lv_lload X.1 X.2.1 hd hl w)
  | lload_n k => exact js_ldl hs (fun hn x H locs cells slots la hl w => by subst hn; exact lv_lload_n X.1 X.2.1 hd rfl hl w)
  | aload k => exact js_lda hs (fun hn x H locs cells slots la hl w => by subst hn; exact lv_aload X.1 X.2.1 hd hl w) (fun hn H locs cells slots la hl w => by subst hn; exact lv_aloadN X.1 X.2.1 hd hl w)
  | aload_n k => exact js_lda hs (fun hn x H locs cells slots la hl w => by subst hn; exact lv_aload_n X.1 X.2.1 hd rfl hl w) (fun hn H locs cells slots la hl w => by subst hn; exact lv_aload_nN X.1 X.2.1 hd rfl hl w)
  | istore k => exact js_istore X hd hs
  | istore_n k => exact js_istore_n X hd hs
  | lstore k => exact js_lstore X hd hs
  | lstore_n k => exact js_lstore_n X hd hs
  | astore k => exact js_astore X hd hs
  | astore_n k => exact js_astore_n X hd hs
  | iinc k v => exact js_iinc X hd hs
  | iadd => exact js_b2 hs (fun hn x y rest H locs cells slots la w => by subst hn; exact lv_iadd X.1 X.2.1 hd w)
  | isub => exact js_b2 hs (fun hn x y rest H locs cells slots la w => by subst hn; exact lv_isub X.1 X.2.1 hd w)
  | imul => exact js_b2 hs (fun hn x y rest H locs cells slots la w => by subst hn; exact lv_imul X.1 X.2.1 hd w)
  | iand => exact js_b2 hs (fun hn x y rest H locs cells slots la w => by subst hn; exact lv_iand X.1 X.2.1 hd w)
  | ixor => exact js_b2 hs (fun hn x y rest H locs cells slots la w => by subst hn; exact lv_ixor X.1 X.2.1 hd w)
  | ishl => exact js_b2 hs (fun hn x y rest H locs cells slots la w => by subst hn; exact lv_ishl X.1 X.2.1 hd w)
  | ishr => exact js_b2 hs (fun hn x y rest H locs cells slots la w => by subst hn; exact lv_ishr X.1 X.2.1 hd w)
  | ladd => exact js_l2 hs (fun hn x y rest H locs cells slots la w => by subst hn; exact lv_ladd X.1 X.2.1 hd w)
  | lsub => exact js_l2 hs (fun hn x y rest H locs cells slots la w => by subst hn; exact lv_lsub X.1 X.2.1 hd w)
  | lmul => exact js_l2 hs (fun hn x y rest H locs cells slots la w => by subst hn; exact lv_lmul X.1 X.2.1 hd w)
  | land => exact js_l2 hs (fun hn x y rest H locs cells slots la w => by subst hn; exact lv_land X.1 X.2.1 hd w)
  | lor => exact js_l2 hs (fun hn x y rest H locs cells slots la w => by subst hn; exact lv_lor X.1 X.2.1 hd w)
  | idiv =>
    unfold jv_ins at hs
    simp only at hs
    split at hs
    · split at hs
      · cases hs
      · rename_i hz
        obtain ⟨hn, hs⟩ := jv_len_inv hs
        subst hn
        exact jv_pure hs (fun H locs cells slots la hL w => lv_idiv X.1 X.2.1 hd hz w)
    · cases hs
  | irem =>
    unfold jv_ins at hs
    simp only at hs
    split at hs
    · split at hs
      · cases hs
      · rename_i hz
        obtain ⟨hn, hs⟩ := jv_len_inv hs
        subst hn
        exact jv_pure hs (fun H locs cells slots la hL w => lv_irem X.1 X.2.1 hd hz w)
    · cases hs
  | ldiv =>
    unfold jv_ins at hs
    simp only at hs
    split at hs
    · split at hs
      · cases hs
      · rename_i hz
        obtain ⟨hn, hs⟩ := jv_len_inv hs
        subst hn
        exact jv_pure hs (fun H locs cells slots la hL w => lv_ldiv X.1 X.2.1 hd hz w)
    · cases hs
  | lrem =>
    unfold jv_ins at hs
    simp only at hs
    split at hs
    · split at hs
      · cases hs
      · rename_i hz
        obtain ⟨hn, hs⟩ := jv_len_inv hs
        subst hn
        exact jv_pure hs (fun H locs cells slots la hL w => lv_lrem X.1 X.2.1 hd hz w)
    · cases hs
  | lneg =>
    unfold jv_ins at hs
    simp only at hs
    split at hs
    · obtain ⟨hn, hs⟩ := jv_len_inv hs
      subst hn
      exact jv_pure hs (fun H locs cells slots la hL w => lv_lneg X.1 X.2.1 hd w)
    · cases hs
  | lshl =>
    unfold jv_ins at hs
    simp only at hs
    split at hs
    · obtain ⟨hn, hs⟩ := jv_len_inv hs
      subst hn
      exact jv_pure hs (fun H locs cells slots la hL w => lv_lshl X.1 X.2.1 hd rfl w)
    · cases hs
  | lshr =>
    unfold jv_ins at hs
    simp only at hs
    split at hs
    · obtain ⟨hn, hs⟩ := jv_len_inv hs
      subst hn
      exact jv_pure hs (fun H locs cells slots la hL w => lv_lshr X.1 X.2.1 hd rfl w)
    · cases hs
  | lcmp =>
    unfold jv_ins at hs
    simp only at hs
    split at hs
    · obtain ⟨hn, hs⟩ := jv_len_inv hs
      subst hn
      exact jv_pure hs (fun H locs cells slots la hL w => W.lcmp X.1 X.2.1 hd w)
    · cases hs
  | i2l =>
    unfold jv_ins at hs
    simp only at hs
    split at hs
    · obtain ⟨hn, hs⟩ := jv_len_inv hs
      subst hn
      exact jv_pure hs (fun H locs cells slots la hL w => lv_i2l X.1 X.2.1 hd rfl w)
    · cases hs
  | l2i =>
    unfold jv_ins at hs
    simp only at hs
    split at hs
    · obtain ⟨hn, hs⟩ := jv_len_inv hs
      subst hn
      exact jv_pure hs (fun H locs cells slots la hL w => lv_l2i X.1 X.2.1 hd rfl w)
    · cases hs
  | dup =>
    unfold jv_ins at hs
    simp only at hs
    split at hs
    · split at hs
      · rename_i hv
        obtain ⟨hn, hs⟩ := jv_len_inv hs
        subst hn
        exact jv_pure hs (fun H locs cells slots la hL w => lv_dup X.1 X.2.1 hd hv w)
      · cases hs
    · cases hs
  | dup2 =>
    unfold jv_ins at hs
    simp only at hs
    split at hs
    · split at hs
      · rename_i hv
        obtain ⟨hn, hs⟩ := jv_len_inv hs
        subst hn
        exact jv_pure hs (fun H locs cells slots la hL w => lv_dup2_11 X.1 X.2.1 hd hv.1 hv.2 w)
      · cases hs
    · cases hs
  | pop =>
    unfold jv_ins at hs
    simp only at hs
    split at hs
    · split at hs
      · rename_i hv
        obtain ⟨hn, hs⟩ := jv_len_inv hs
        subst hn
        exact jv_pure hs (fun H locs cells slots la hL w => lv_pop X.1 X.2.1 hd hv w)
      · cases hs
    · cases hs
  | goto off =>
    unfold jv_ins at hs
    simp only at hs
    obtain ⟨hn, hs⟩ := jv_len_inv hs
    subst hn
    exact js_go hs (fun t ht H locs cells slots la w => lv_goto X.1 X.2.1 hd ht w)
  | if_icmp cd off => exact js_icmp X hd hs
  | ifCond cd off => exact js_ifc X hd hs
  | if_acmp cd off => exact js_acmp X hd hs
  | ifnull off => exact js_null X hd hs
  | ifnonnull off => exact js_nonnull X hd hs
  | tableswitch dflt lo hi offs => exact js_table X hd hs
  | lookupswitch dflt ps => exact js_lookup X hd hs
  | getfield k => exact js_getfield X hd hs
  | putfield k => exact js_putfield X hd hs
  | new k => exact js_new X hd hs
  | newarray t => exact js_newarray X hd hs
  | anewarray k => exact js_anewarray X hd hs
  | arraylength => exact js_arraylength X hd hs
  | iaload => exact js_iaload X hd hs
  | laload => exact js_laload X hd hs
  | baload => exact js_baload X hd hs
  | aaload => exact js_aaload X hd hs
  | iastore => exact js_iastore X hd hs
  | lastore => exact js_lastore X hd hs
  | bastore => exact js_bastore X hd hs
  | aastore => exact js_aastore X hd hs
  | invokevirtual k => exact js_invokevirtual X hcall hf hlo hd hs
  | invokestatic k => exact js_invokestatic X hcall hf hlo hd hs
  | invokespecial k => exact js_invokespecial X hcall hf hlo hd hs
  | ireturn => exact js_ret hd (Or.inl rfl) hs
  | lreturn => exact js_ret hd (Or.inr (Or.inl rfl)) hs
  | areturn => exact js_ret hd (Or.inr (Or.inr (Or.inl rfl))) hs
  | return_ => exact js_ret hd (Or.inr (Or.inr (Or.inr rfl))) hs
  | _ => cases hs
/-- a run of the abstract machine is a run of the real one -/
theorem jv_body {z : jv_Z} (X : jv_X p s m args meth c D dA M) (hcall : ∀ y as h r h', y < jt_mc.length → call y as h = some (r, h') → jv_G h h' ∧ jv_Met l D dA d y as h r h') (hf : d + 1 ≤ R.frames) (hlo : 32 * (d + 1) ≤ R.locals) :
    ∀ (k pc : Nat) (ls : jv_L) (st : List Value) (h : jv_H), jv_loop call M k pc ls st h = some z → jv_G h z.2 ∧ (z.2.2.1 ≤ z0 + R.cells → z.2.2.2 ≤ y0 + R.slots → (∀ (pc : Nat) (ls : jv_L) (st : List Value), jv_Rt M pc st z.1 → jv_Wp p l e R s m args below meth c D dA A z0 y0 M Q pc ls st z.2) → jv_Wp p l e R s m args below meth c D dA A z0 y0 M Q pc ls st h) := by
  intro k
  induction k with
  | zero => intro pc ls st h hz; cases hz
  | succ k ih =>
    intro pc ls st h hz
    unfold jv_loop at hz
    cases hs : jv_step call M pc ls st h with
    | none => rw [hs] at hz; cases hz
    | some o =>
      rw [hs] at hz
      unfold jv_step at hs
      split at hs
      · rename_i i n hd
        have hok := jv_ins_ok (p := p) (l := l) (e := e) (R := R) (below := below) (Q := Q) (A := A) (z0 := z0) (y0 := y0) X hcall hf hlo hd hs
        cases o with
        | inr y =>
          cases hz
          obtain ⟨h1, h2⟩ := hok
          refine ⟨by rw [h1]; exact jv_G.rf, fun _ _ w => ?_⟩
          rw [← h1]
          exact w pc ls st h2
        | inl y =>
          obtain ⟨pc', ls', st', h'⟩ := y
          simp only at hz
          obtain ⟨hG, hlen, hw⟩ := hok
          obtain ⟨iG, iW⟩ := ih pc' ls' st' h' hz
          exact ⟨hG.tr iG, fun r1 r2 w => hw (Nat.le_trans iG.1 r1) (Nat.le_trans iG.2.1 r2) (iW r1 r2 w)⟩
      · cases hs
end JS
/-! growth -/
theorem jv_pfG {h h' : jv_H} {a ci k : Nat} {v : Value} (e : jv_pf h a ci k v = some h') : jv_G h h' := by
  obtain ⟨fs, e1, -, -, -, rfl⟩ := jv_pf_inv e
  exact jv_G.up e1 rfl
theorem jv_asG {h h' : jv_H} {a : Nat} {ty : FieldType} {i : Int32} {v : Value} (e : jv_as h a ty i v = some h') : jv_G h h' := by
  obtain ⟨k, n, f, e1, e2, -, -, rfl⟩ := jv_as_inv e
  exact jv_G.up e1 (jv_scrF e2)
set_option maxHeartbeats 4000000 in
theorem jv_insG {call : jv_F} {M n pc pc' : Nat} {i : Instr} {ls ls' : jv_L} {st st' : List Value} {h h' : jv_H} (hcall : ∀ y as h r h', y < jt_mc.length → call y as h = some (r, h') → jv_G h h') (hs : jv_ins call M i n pc ls st h = some (.inl (pc', ls', st', h'))) : jv_G h h' := by
  cases i <;> simp only [jv_ins, jv_ldi, jv_ldl, jv_lda, jv_sti, jv_stl, jv_sta, jv_b2, jv_l2, jv_go, jv_len, jv_n, jv_inv] at hs <;> (try (cases hs; done)) <;> (try (split at hs)) <;> (try (cases hs; done)) <;> (try (split at hs)) <;> (try (cases hs; done)) <;> (try (split at hs)) <;> (try (cases hs; done)) <;> (try (split at hs)) <;> (try (cases hs; done)) <;> (try (split at hs)) <;> (try (cases hs; done)) <;> (try (split at hs)) <;> (try (cases hs; done)) <;> (try (split at hs)) <;> (try (cases hs; done)) <;> cases hs <;>
    first
    | exact jv_G.rf
    | exact jv_G.push
    | exact jv_pfG (by assumption)
    | exact jv_asG (by assumption)
    | exact hcall _ _ _ _ _ (jt_inv_ok (by assumption)).1 (by assumption)
theorem jv_loopG {call : jv_F} {M : Nat} (hcall : ∀ y as h r h', y < jt_mc.length → call y as h = some (r, h') → jv_G h h') : ∀ (k pc : Nat) (ls : jv_L) (st : List Value) (h : jv_H) (z : jv_Z), jv_loop call M k pc ls st h = some z → jv_G h z.2 := by
  intro k
  induction k with
  | zero => intro pc ls st h z hz; cases hz
  | succ k ih =>
    intro pc ls st h z hz
    unfold jv_loop at hz
    cases hs : jv_step call M pc ls st h with
    | none => rw [hs] at hz; cases hz
    | some o =>
      rw [hs] at hz
      unfold jv_step at hs
      split at hs
      · rename_i i n hd
        cases o with
        | inr y =>
          cases hz
          cases i <;> simp only [jv_ins, jv_ldi, jv_ldl, jv_lda, jv_sti, jv_stl, jv_sta, jv_b2, jv_l2, jv_go, jv_len, jv_n, jv_inv] at hs <;> (try (cases hs; done)) <;> (try (split at hs)) <;> (try (cases hs; done)) <;> (try (split at hs)) <;> (try (cases hs; done)) <;> (try (split at hs)) <;> (try (cases hs; done)) <;> (try (split at hs)) <;> (try (cases hs; done)) <;> (try (split at hs)) <;> (try (cases hs; done)) <;> (try (split at hs)) <;> (try (cases hs; done)) <;> (try (split at hs)) <;> (try (cases hs; done)) <;> cases hs <;> exact jv_G.rf
        | inl y =>
          obtain ⟨pc', ls', st', h'⟩ := y
          simp only at hz
          exact (jv_insG hcall hs).tr (ih pc' ls' st' h' z hz)
      · cases hs
/-! entry -/
theorem jv_sl_len (as : List Value) : (lg_sl as).length = (jv_sl as).length := by
  induction as with
  | nil => rfl
  | cons v as ih =>
    unfold lg_sl jv_sl at ih ⊢
    simp only [List.flatMap_cons, List.length_append, ih]
    split <;> rfl
theorem jv_ent_get : ∀ (as : List Value) (n i k : Nat) (v : Value), (jv_sl as ++ List.replicate n none)[k]? = some (some v) → (k + i, v) ∈ lv_args i as
  | [], n, i, k, v, h => by
    simp only [jv_sl, List.flatMap_nil, List.nil_append] at h
    have := List.eq_of_mem_replicate (List.mem_of_getElem? h)
    cases this
  | w :: as, n, i, k, v, h => by
    unfold lv_args
    have hsl : jv_sl (w :: as) = (if w.category = 2 then [some w, none] else [some w]) ++ jv_sl as := by simp [jv_sl]
    rw [hsl] at h
    by_cases hc : w.category = 2
    · rw [if_pos hc] at h ⊢
      match k, h with
      | 0, h => cases h; rw [Nat.zero_add]; exact List.mem_cons_self
      | 1, h => cases h
      | k + 2, h =>
        have h2 : (jv_sl as ++ List.replicate n none)[k]? = some (some v) := h
        have := jv_ent_get as n (i + 2) k v h2
        rw [show k + 2 + i = k + (i + 2) by omega]
        exact List.mem_cons_of_mem _ this
    · rw [if_neg hc] at h ⊢
      match k, h with
      | 0, h => cases h; rw [Nat.zero_add]; exact List.mem_cons_self
      | k + 1, h =>
        have h2 : (jv_sl as ++ List.replicate n none)[k]? = some (some v) := h
        have := jv_ent_get as n (i + 1) k v h2
        rw [show k + 1 + i = k + (i + 1) by omega]
        exact List.mem_cons_of_mem _ this
theorem jv_ent_len {y : Nat} {as : List Value} (h : (jv_sl as).length ≤ jt_maxL y) : (jv_ent y as).length = jt_maxL y := by
  unfold jv_ent
  rw [List.length_append, List.length_replicate]
  omega
theorem jv_entry {y : Nat} {as : List Value} (h : (jv_sl as).length ≤ jt_maxL y) : jv_Lr (jv_ent y as) ((lg_sl as ++ List.replicate (jt_maxL y - (lg_sl as).length) Slot.unset).toArray) := by
  have h1 := lv_entry as (n := jt_maxL y) (by rw [jv_sl_len]; exact h)
  refine ⟨h1.1.trans (jv_ent_len h).symm, h1.2.1, ?_⟩
  rintro ⟨k, v⟩ hq
  have h2 := jv_ent_get as _ 0 k v (jv_lp_mem.mp hq)
  exact h1.2.2 (k, v) (by rw [Nat.add_zero] at h2; exact h2)
theorem jv_MetOfW {l : Launch} {y : MethodName} {ws ws' : List Cond} {rm : Room} {Pc : Array Value → State → Prop} {Qc : Array Value → State → Outcome → State → Prop} {mc ms : Nat} {free : Addr → Prop} {cc : ByteArray} {maxL : Nat} {ret : Option FieldType}
    (hy : plainFor y = true) (hw : ws = Cond.code y cc maxL ret :: ws')
    (body : ∀ p e s m args below meth c s₁, BodyLoose p l y (headSpec ws rm) cc maxL ret e s m args below meth c s₁ → c.maxLocals = maxL → Pc args s →
      W p l e (headSpec ws rm).room s m args below meth c s.heap [] 0 0 (MQ below Qc args s mc ms free) (entryFrame m args maxL)) : Met l y ws rm Pc Qc mc ms free := by
  refine MetFree.of_bodySF (code := cc) (maxLocals := maxL) (ret := ret) hy ?_ ?_
  · intro args s m h hn
    obtain ⟨meth, c, h1, h2, h3, h4, h5, h6, -, -⟩ := Cond.code_spec hn (atoms_spec (ws := ws) h _ (by rw [hw]; exact List.mem_cons_self))
    exact ⟨meth, c, h1, h2, h3, h4, h5, h6⟩
  · intro p e s m args below meth c s₁ B hml hP _
    have hh0 : s₁.heap = s.heap := by rw [B.state]; rfl
    obtain ⟨t, a1, o, b1, b2, b3⟩ := body p e s m args below meth c s₁ B hml hP s₁ hh0 (Stand.of_body B)
    exact ⟨t, o, a1, b1, b2, ⟨b3.1, b3.2⟩⟩
/-- every method of the tables, at every depth -/
theorem jv_sound (l : Launch) (D : va_G) (dA : Nat → ClassId) : ∀ (d y : Nat) (as : List Value) (h : jv_H) (r : Option Value) (h' : jv_H), y < jt_mc.length → jv_run d y as h = some (r, h') → jv_G h h' ∧ jv_Met l D dA d y as h r h' := by
  intro d
  induction d with
  | zero => intro y as h r h' hy hr; cases hr
  | succ d ih =>
    intro y as h r h' hy hr
    unfold jv_run at hr
    split at hr
    · rename_i hlen
      obtain ⟨k, hk⟩ := jv_ev_some.mp hr
      obtain ⟨f1, f2, f3, f4, f5⟩ := jt_mfacts hy
      have hG : jv_G h h' := jv_loopG (fun y as h r h' hy hr => (ih y as h r h' hy hr).1) k 0 (jv_ent y as) [] h _ hk
      refine ⟨hG, ?_⟩
      unfold jv_Met
      refine jv_MetOfW (cc := jt_code y) (maxL := jt_maxL y) (ret := jt_ret y) f2 rfl ?_
      intro p e s m args below meth c s₁ B hml hv
      obtain ⟨rfl, hR, hK⟩ := hv
      have hts := atoms_spec (ws := jt_ws y) B.pre
      have hown : s.vm.findClass (jt_cn (jt_own y)) = some m.cls := by rw [← f1]; exact findClass_of_methodNamed B.named
      have hlocks := B.notSynchronized
      have X : jv_X p s m as.toArray meth c D dA y := ⟨B.exec, B.bytes, hml, hown, fun w hw => hts w (List.mem_cons_of_mem _ hw), hK, fun hk2 => by rw [(name_of_methodNamed B.named B.method).1]; exact (f5 hk2).1⟩
      rw [lg_entry_eq]
      have hbody := (jv_body (p := p) (l := l) (e := e) (R := jv_rm (d + 1) h h') (s := s) (m := m) (args := as.toArray) (below := below) (meth := meth) (c := c) (A := jv_A h) (z0 := h.2.1) (y0 := h.2.2) (Q := MQ below (jv_Q D dA h r h') as.toArray s (h'.2.1 - h.2.1) (h'.2.2 - h.2.2) (jv_A h)) (d := d) X ih (Nat.le_refl _) (Nat.le_refl _) k 0 (jv_ent y as) [] h hk).2 (by have := hG.1; show h'.2.1 ≤ h.2.1 + (h'.2.1 - h.2.1); omega) (by have := hG.2.1; show h'.2.2 ≤ h.2.2 + (h'.2.2 - h.2.2); omega) ?_
      · exact hbody s.heap [] 0 0 _ ⟨hR, va_S.rf, fun a x e1 e2 => Or.inl ⟨x, e1, e2⟩, rfl, rfl, fun q hq => Or.inr hq⟩ (jv_entry hlen) (jv_ent_len hlen)
      · intro pc ls st hrt H locs cells slots la hW hL hn
        obtain ⟨w1, w2, w3, w4, w5, w6⟩ := hW
        have ec : cells = h'.2.1 - h.2.1 := by simp only at w4; omega
        have es : slots = h'.2.2 - h.2.2 := by simp only at w5; omega
        subst ec
        subst es
        have hq : ∀ v : Option Value, v = r → ∀ t : State, t.heap = H → s.WarmedH t.vm → jv_Q D dA h r h' as.toArray s (.returned v) t := fun v hv t ht hW2 => ⟨by rw [hv], by rw [ht]; exact w1.moved hW2.alike, w2.F ht⟩
        rcases hrt with ⟨v, ty, e1, e2, e3, e4, e5⟩ | ⟨v, e1, e2, e3, e4⟩ | ⟨v, C, e1, e2, e3, e4, e5⟩ | ⟨e1, e2, e3, e4⟩
        · subst e2
          exact W.zret X.1 X.2.1 (B.returns.trans e3) e4 (hq _ e5.symm) w2.2.2 e1
        · subst e2
          exact W.lret X.1 X.2.1 (B.returns.trans e3) (hq _ e4.symm) w2.2.2 e1
        · subst e2
          exact W.aret X.1 X.2.1 (B.returns.trans e4) (Or.inl ⟨C, rfl⟩) e3 (hq _ e5.symm) w2.2.2 e1
        · subst e2
          exact W.vret X.1 X.2.1 (B.returns.trans e3) (hq _ e4.symm) w2.2.2 e1
    · cases hr
end
section
-- ===== end of PART A; then your names; then what follows =====
/-! THE CLAIM OUT OF ONE WALK OF THE LAW'S BODY. Your part is whole_start (and what it stands on); all else here is the same for every law, but numbers. -/
def R_law : String := "DrumMachineLaw"
def lw_P (b : Addr) (xs : List Int32) (args : Array Value) (s : State) : Prop := args = #[.ref b] ∧ s.IntsAt b xs ∧ xs.length ≤ 5632 ∧ (Jvm.Cond.and given_1 narrow_1).before args s = true
def lw_Q (_ : Array Value) (s : State) (o : Outcome) (t : State) : Prop := o = .returned (some (.int 1)) ∧ Framed s o t [] 600000 7302250
def lw_Z (below : List Frame) (a : Array Value) (s : State) : State → Prop := fun t => ∃ o, t.status = .running ∧ Ended t below o ∧ lw_Q a s o t
/-- the law's own end, with 1 on the stack, nothing written that was there before, its room as the claim has it -/
theorem lw_ret {p : Program} {l : Launch} {e : Env} {s : State} {m : MethodId} {below : List Frame} {meth : Method} {c : Code} {b : Nat} (hx : p.tables.exec = Jvm.exec) (hb : c.code = code) (hr : meth.sig.returnType = ret) (hlocks : meth.locks = false) {pc : Nat} {H : Heap} {ls : Array Slot} (hdg : decode code pc = .ok (.ireturn, 1)) : W p l e room_1 s m #[Value.ref b] below meth c H [] 600000 7302250 (lw_Z below #[Value.ref b] s) (F0 m pc ls [.int 1]) := by
  intro T hT X
  obtain ⟨fs, hret, hrun, hended, hW, hframe⟩ := X.leave (v := some (.int 1)) (hlocks := hlocks) (fun h => by rw [hr] at h; cases h)
  have hmeth' : T.vm.method? m = some meth := X.method'
  refine ⟨T.setFrames fs, ?_, .returned (some (.int 1)), hrun, hended, rfl, ⟨_, rfl⟩, hW, hframe⟩
  jvm_step X.here [X.here.top, hx, hb, hdg, hmeth', hr, ret, narrow_b1]
  (try refine ⟨rfl, ?_⟩); (try refine ⟨rfl, ?_⟩)
  first | (intro acts; rw [hret _ acts rfl rfl rfl]) | rw [hret _ _ rfl rfl rfl]
  exact Steps.refl _
/-- what holds at the law's entry: the machine, the code, the tables' words (any of lw_tbl by 'hts w (by decide +kernel)'), the script of L ints xs at the cell b, what the Statement gives of the start (any of its parts by flat_of_before) -/
def lw_At (p : Program) (s : State) (m : MethodId) (meth : Method) (c : Code) (b L : Nat) (xs : Nat → Int32) : Prop :=
  p.tables.exec = Jvm.exec ∧ c.code = code ∧ meth.sig.returnType = ret ∧ c.maxLocals = 4 ∧ s.vm.findClass R_law = some m.cls ∧ (∀ w ∈ lw_tbl, w.before #[Value.ref b] s = true) ∧ va_X b L xs s s.heap ∧ b < s.heap.size ∧ meth.locks = false ∧ (Jvm.Cond.and given_1 narrow_1).before #[Value.ref b] s = true
/-- the heap at the law's entry: the script alone is known -/
def jv_h0 (b L : Nat) (xs : Nat → Int32) (sz : Nat) : jv_H := (fun q => if q = b then some (.inr (jt_scr, L, fun j => .int (xs j))) else none, sz, 0)
theorem jv_K_of {s : State} {args : Array Value} (hts : ∀ w ∈ lw_tbl, w.before args s = true) : ∃ (D : va_G) (dA : Nat → ClassId), jv_K D dA s := by
  have hk : ∀ c : Nat, ∃ q : ClassId × (Nat → Nat), ∀ r : vw_C, jt_cl[c]? = some r → u_Kn s r.1 r.2.1 r.2.2 q.1 q.2 := by
    intro c
    cases hr : jt_cl[c]? with
    | none => exact ⟨(0, fun _ => 0), fun r h => by cases h⟩
    | some r =>
      have hw := jt_cl_in r (List.mem_of_getElem? hr)
      obtain ⟨cC, iS, h⟩ := u_known (C := r.1) (T := r.2.1) (N := r.2.2) (n := r.2.2) hts (fun w h => hw w (List.mem_cons_of_mem _ (List.mem_cons_of_mem _ h))) (hts _ (hw _ List.mem_cons_self))
      exact ⟨(cC, iS), fun r' h' => by cases h'; exact h⟩
  have ha : ∀ k : Nat, ∃ cA : ClassId, ∀ ty : FieldType, ¬ k = jt_scr → jt_at[k]? = some ty → ArrOfT s cA ty ∧ va_RA s cA ty := by
    intro k
    cases hr : jt_at[k]? with
    | none => exact ⟨0, fun ty _ h => by cases h⟩
    | some ty =>
      by_cases hp : jt_prim ty = true
      · obtain ⟨cA, kA, comp, h1, h2, h3⟩ := Cond.arrayClass_spec (hts _ (jt_ac_in k ty hr hp))
        refine ⟨cA, fun ty' _ h => ?_⟩
        cases h
        refine ⟨fun n z => ⟨(fun k h => by cases h), kA, h2, comp, h3⟩, ?_⟩
        cases ty <;> first | exact h1 | cases hp
      · by_cases hs : k = jt_scr
        · exact ⟨0, fun ty _ h => absurd hs ‹_›⟩
        · obtain ⟨C, rfl⟩ : ∃ C, ty = .object C := jt_ob_of k ty hr (by simpa using hp)
          obtain ⟨comp, cA, kA, h1, h2, h3, h4, h5⟩ := Cond.arrayOver_spec (hts _ (jt_ao_in k C hr))
          refine ⟨cA, fun ty' _ h => ?_⟩
          cases h
          exact ⟨fun n z => ⟨(fun k h => by cases h), kA, h3, comp, h4⟩, kA, comp, h3, h4, h1, h5⟩
  refine ⟨(fun c => (Classical.choose (hk c)).1, fun c => (Classical.choose (hk c)).2), fun k => Classical.choose (ha k), fun c q h => Classical.choose_spec (hk c) q h, fun k ty h1 h2 => Classical.choose_spec (ha k) ty h1 h2, fun C h => ?_, fun q hq => va_Nw.of rfl (hts _ (jt_mn_in q hq))⟩
  obtain ⟨k, hk⟩ := List.getElem?_of_mem h
  exact va_AO.of (hts _ (jt_ao_in k C hk))
/-- the claim, said of the abstract machine -/
def jv_Claim (N : Nat) : Prop := ∀ (b L : Nat) (xs : Nat → Int32) (sz : Nat), L ≤ N → b < sz → ∃ h' : jv_H, jv_ev (jv_run 8) jt_law 0 (jv_ent jt_law [.ref b]) [] (jv_h0 b L xs sz) = some (some (.int 1), h') ∧ h'.2.1 ≤ sz + 600000 ∧ h'.2.2 ≤ 7302250
theorem jv_start (HF : jv_Claim 5632) {p : Program} {e : Env} {s : State} {m : MethodId} {below : List Frame} {meth : Method} {c : Code} (l : Launch) {b L : Nat} {xs : Nat → Int32} (hL : L ≤ 5632) (C0 : lw_At p s m meth c b L xs) : W p l e room_1 s m #[Value.ref b] below meth c s.heap [] 0 0 (lw_Z below #[Value.ref b] s) (entryFrame m ([Value.ref b] : List Value).toArray 4) := by
  obtain ⟨hx, hb, hr, hml, hown, hts, hX, hbl, hlocks, hgv⟩ := C0
  obtain ⟨D, dA, hK⟩ := jv_K_of hts
  obtain ⟨h', hev, hc1, hc2⟩ := HF b L xs s.heap.size hL hbl
  obtain ⟨k, hk⟩ := jv_ev_some.mp hev
  have X : jv_X p s m #[Value.ref b] meth c D dA jt_law := ⟨hx, hb, hml, hown, fun w hw => hts w (List.mem_filter.mp hw).1, hK, fun q => absurd q (by decide)⟩
  have hlen : (jv_sl [Value.ref b]).length ≤ jt_maxL jt_law := by show 1 ≤ _; decide
  rw [lg_entry_eq]
  refine (jv_body (p := p) (l := l) (e := e) (R := room_1) (s := s) (m := m) (args := #[Value.ref b]) (below := below) (meth := meth) (c := c) (A := fun q => s.heap.size ≤ q) (z0 := s.heap.size) (y0 := 0) (Q := lw_Z below #[Value.ref b] s) (d := 8) X (fun y as h r h' hy hr => jv_sound l D dA 8 y as h r h' hy hr) (by decide) (by decide) k 0 _ [] _ hk).2 hc1 (by rw [Nat.zero_add]; exact hc2) ?_ s.heap [] 0 0 _ ⟨?_, va_S.rf, ?_, rfl, rfl, fun q hq => hq⟩ (jv_entry hlen) (jv_ent_len hlen)
  · intro pc ls st hrt H locs cells slots la hW hL hn
    obtain ⟨w1, w2, w3, w4, w5, w6⟩ := hW
    rcases hrt with ⟨v, ty, e1, e2, e3, e4, e5⟩ | ⟨v, e1, e2, e3, e4⟩ | ⟨v, C, e1, e2, e3, e4, e5⟩ | ⟨e1, e2, e3, e4⟩
    · cases e5
      subst e2
      refine va_forget (fun q hq => w2.2.2 q hq) ?_
      simp only at w4 w5
      exact W.widen (k := 600000) (n := 7302250) (by omega) (by omega) (lw_ret hx hb hr hlocks e1)
    · cases e4
    · rcases e3 with rfl | ⟨a, rfl⟩ <;> cases e5
    · cases e4
  · refine ⟨rfl, fun a x e => ?_⟩
    unfold jv_h0 at e
    simp only at e
    split at e
    · rename_i ha
      subst ha
      cases e
      obtain ⟨scr, g1, g2, g3, g4, g5⟩ := hX
      unfold jv_at
      simp only [if_true]
      exact ⟨scr, g1, g2, g3, g4, g5⟩
    · cases e
  · intro a x e f
    unfold jv_h0 at e
    simp only at e
    split at e
    · cases e
      simp [jv_scr] at f
    · cases e
end
section
/-! one equation an instruction: how the abstract machine goes on -/
section JE
variable {call : jv_F} {M pc pc' : Nat} {ls : jv_L} {st : List Value} {h : jv_H}
theorem je_of {i : Instr} {n : Nat} (hd : decode (jt_code M) pc = .ok (i, n)) : jv_ev call M pc ls st h = match jv_ins call M i n pc ls st h with
    | none => none
    | some (.inr z) => some z
    | some (.inl (pc', ls', st', h')) => jv_ev call M pc' ls' st' h' := by
  rw [jv_ev_eq]
  unfold jv_step
  rw [hd]
  rfl
theorem je_next {i : Instr} {n : Nat} {ls' : jv_L} {st' : List Value} {h' : jv_H} (hd : decode (jt_code M) pc = .ok (i, n)) (hs : jv_ins call M i n pc ls st h = some (.inl (pc', ls', st', h'))) : jv_ev call M pc ls st h = jv_ev call M pc' ls' st' h' := by
  rw [je_of hd, hs]
theorem je_end {i : Instr} {n : Nat} {z : jv_Z} (hd : decode (jt_code M) pc = .ok (i, n)) (hs : jv_ins call M i n pc ls st h = some (.inr z)) : jv_ev call M pc ls st h = some z := by
  rw [je_of hd, hs]
theorem je_null (hd : decode (jt_code M) pc = .ok (.aconst_null, 1)) (hp : pc + 1 = pc') : jv_ev call M pc ls st h = jv_ev call M pc' ls (.null :: st) h := by subst hp; exact je_next hd rfl
theorem je_iconst {n : Int} {v : Int32} (hd : decode (jt_code M) pc = .ok (.iconst n, 1)) (hp : pc + 1 = pc') (hv : Int32.ofInt n = v) : jv_ev call M pc ls st h = jv_ev call M pc' ls (.int v :: st) h := by subst hp; subst hv; exact je_next hd rfl
theorem je_bipush {n : Int} {v : Int32} (hd : decode (jt_code M) pc = .ok (.bipush n, 2)) (hp : pc + 2 = pc') (hv : (Int8.ofInt n).toInt32 = v) : jv_ev call M pc ls st h = jv_ev call M pc' ls (.int v :: st) h := by subst hp; subst hv; exact je_next hd rfl
theorem je_sipush {n : Int} {v : Int32} (hd : decode (jt_code M) pc = .ok (.sipush n, 3)) (hp : pc + 3 = pc') (hv : (Int16.ofInt n).toInt32 = v) : jv_ev call M pc ls st h = jv_ev call M pc' ls (.int v :: st) h := by subst hp; subst hv; exact je_next hd rfl
theorem je_lconst {n : Fin 2} {v : Int64} (hd : decode (jt_code M) pc = .ok (.lconst n, 1)) (hp : pc + 1 = pc') (hv : Int64.ofNat (n : Nat) = v) : jv_ev call M pc ls st h = jv_ev call M pc' ls (.long v :: st) h := by subst hp; subst hv; exact je_next hd rfl
theorem je_ldc {k : Nat} {v : Int32} (hd : decode (jt_code M) pc = .ok (.ldc k, 2)) (hp : pc + 2 = pc') (hv : jt_f3 jt_ki (jt_own M) k = some v) : jv_ev call M pc ls st h = jv_ev call M pc' ls (.int v :: st) h := by subst hp; exact je_next hd (by simp only [jv_ins, hv]; rfl)
theorem je_ldc2 {k : Nat} {v : Int64} (hd : decode (jt_code M) pc = .ok (.ldc2_w k, 3)) (hp : pc + 3 = pc') (hv : jt_f3 jt_kj (jt_own M) k = some v) : jv_ev call M pc ls st h = jv_ev call M pc' ls (.long v :: st) h := by subst hp; exact je_next hd (by simp only [jv_ins, hv]; rfl)
theorem je_iload {k : Nat} {x : Int32} (hd : decode (jt_code M) pc = .ok (.iload k, 2)) (hp : pc + 2 = pc') (hl : ls[k]? = some (some (.int x))) : jv_ev call M pc ls st h = jv_ev call M pc' ls (.int x :: st) h := by subst hp; exact je_next hd (by simp only [jv_ins, jv_ldi, hl]; rfl)
theorem je_iload_n {k : Fin 4} {x : Int32} (hd : decode (jt_code M) pc = .ok (.iload_n k, 1)) (hp : pc + 1 = pc') (hl : ls[(k : Nat)]? = some (some (.int x))) : jv_ev call M pc ls st h = jv_ev call M pc' ls (.int x :: st) h := by subst hp; exact je_next hd (by simp only [jv_ins, jv_ldi, hl]; rfl)
theorem je_lload {k : Nat} {x : Int64} (hd : decode (jt_code M) pc = .ok (.lload k, 2)) (hp : pc + 2 = pc') (hl : ls[k]? = some (some (.long x))) : jv_ev call M pc ls st h = jv_ev call M pc' ls (.long x :: st) h := by subst hp; exact je_next hd (by simp only [jv_ins, jv_ldl, hl]; rfl)
theorem je_lload_n {k : Fin 4} {x : Int64} (hd : decode (jt_code M) pc = .ok (.lload_n k, 1)) (hp : pc + 1 = pc') (hl : ls[(k : Nat)]? = some (some (.long x))) : jv_ev call M pc ls st h = jv_ev call M pc' ls (.long x :: st) h := by subst hp; exact je_next hd (by simp only [jv_ins, jv_ldl, hl]; rfl)
theorem je_aload {k : Nat} {r : Option Nat} (hd : decode (jt_code M) pc = .ok (.aload k, 2)) (hp : pc + 2 = pc') (hl : ls[k]? = some (some (va_rf r))) : jv_ev call M pc ls st h = jv_ev call M pc' ls (va_rf r :: st) h := by
  subst hp
  cases r <;> exact je_next hd (by simp only [jv_ins, jv_lda, hl, va_rf]; rfl)
theorem je_aload_n {k : Fin 4} {r : Option Nat} (hd : decode (jt_code M) pc = .ok (.aload_n k, 1)) (hp : pc + 1 = pc') (hl : ls[(k : Nat)]? = some (some (va_rf r))) : jv_ev call M pc ls st h = jv_ev call M pc' ls (va_rf r :: st) h := by
  subst hp
  cases r <;> exact je_next hd (by simp only [jv_ins, jv_lda, hl, va_rf]; rfl)
theorem je_istore {k : Nat} {x : Int32} {ls' : jv_L} (hd : decode (jt_code M) pc = .ok (.istore k, 2)) (hp : pc + 2 = pc') (hk : k < ls.length) (hl : jv_st1 ls k (.int x) = ls') : jv_ev call M pc ls (.int x :: st) h = jv_ev call M pc' ls' st h := by subst hp; subst hl; exact je_next hd (by simp only [jv_ins, jv_sti, if_pos hk]; rfl)
theorem je_istore_n {k : Fin 4} {x : Int32} {ls' : jv_L} (hd : decode (jt_code M) pc = .ok (.istore_n k, 1)) (hp : pc + 1 = pc') (hk : (k : Nat) < ls.length) (hl : jv_st1 ls k (.int x) = ls') : jv_ev call M pc ls (.int x :: st) h = jv_ev call M pc' ls' st h := by subst hp; subst hl; exact je_next hd (by simp only [jv_ins, jv_sti, if_pos hk]; rfl)
theorem je_lstore {k : Nat} {x : Int64} {ls' : jv_L} (hd : decode (jt_code M) pc = .ok (.lstore k, 2)) (hp : pc + 2 = pc') (hk : k + 1 < ls.length) (hl : jv_st2 ls k (.long x) = ls') : jv_ev call M pc ls (.long x :: st) h = jv_ev call M pc' ls' st h := by subst hp; subst hl; exact je_next hd (by simp only [jv_ins, jv_stl, if_pos hk]; rfl)
theorem je_lstore_n {k : Fin 4} {x : Int64} {ls' : jv_L} (hd : decode (jt_code M) pc = .ok (.lstore_n k, 1)) (hp : pc + 1 = pc') (hk : (k : Nat) + 1 < ls.length) (hl : jv_st2 ls k (.long x) = ls') : jv_ev call M pc ls (.long x :: st) h = jv_ev call M pc' ls' st h := by subst hp; subst hl; exact je_next hd (by simp only [jv_ins, jv_stl, if_pos hk]; rfl)
theorem je_astore {k : Nat} {r : Option Nat} {ls' : jv_L} (hd : decode (jt_code M) pc = .ok (.astore k, 2)) (hp : pc + 2 = pc') (hk : k < ls.length) (hl : jv_st1 ls k (va_rf r) = ls') : jv_ev call M pc ls (va_rf r :: st) h = jv_ev call M pc' ls' st h := by
  subst hp; subst hl
  cases r <;> exact je_next hd (by simp only [jv_ins, jv_sta, if_pos hk, va_rf]; rfl)
theorem je_astore_n {k : Fin 4} {r : Option Nat} {ls' : jv_L} (hd : decode (jt_code M) pc = .ok (.astore_n k, 1)) (hp : pc + 1 = pc') (hk : (k : Nat) < ls.length) (hl : jv_st1 ls k (va_rf r) = ls') : jv_ev call M pc ls (va_rf r :: st) h = jv_ev call M pc' ls' st h := by
  subst hp; subst hl
  cases r <;> exact je_next hd (by simp only [jv_ins, jv_sta, if_pos hk, va_rf]; rfl)
theorem je_iinc {k : Nat} {n : Int} {x v : Int32} {ls' : jv_L} (hd : decode (jt_code M) pc = .ok (.iinc k n, 3)) (hp : pc + 3 = pc') (hx : ls[k]? = some (some (.int x))) (hv : x + Int32.ofInt n = v) (hl : jv_st1 ls k (.int v) = ls') : jv_ev call M pc ls st h = jv_ev call M pc' ls' st h := by
  subst hp; subst hv; subst hl
  have hk : k < ls.length := (List.getElem?_eq_some_iff.mp hx).1
  exact je_next hd (by simp only [jv_ins, hx, if_pos hk]; rfl)
theorem je_b2 {i : Instr} {f : Int32 → Int32 → Int32} {x y : Int32} (hd : decode (jt_code M) pc = .ok (i, 1)) (hp : pc + 1 = pc') (hi : ∀ st, jv_ins call M i 1 pc ls st h = jv_b2 f 1 pc ls st h) : jv_ev call M pc ls (.int y :: .int x :: st) h = jv_ev call M pc' ls (.int (f x y) :: st) h := by subst hp; exact je_next hd (by rw [hi]; rfl)
theorem je_l2 {i : Instr} {f : Int64 → Int64 → Int64} {x y : Int64} (hd : decode (jt_code M) pc = .ok (i, 1)) (hp : pc + 1 = pc') (hi : ∀ st, jv_ins call M i 1 pc ls st h = jv_l2 f 1 pc ls st h) : jv_ev call M pc ls (.long y :: .long x :: st) h = jv_ev call M pc' ls (.long (f x y) :: st) h := by subst hp; exact je_next hd (by rw [hi]; rfl)
theorem je_idiv {x y : Int32} (hd : decode (jt_code M) pc = .ok (.idiv, 1)) (hp : pc + 1 = pc') (hy : ¬ y = 0) : jv_ev call M pc ls (.int y :: .int x :: st) h = jv_ev call M pc' ls (.int (x / y) :: st) h := by subst hp; exact je_next hd (by simp only [jv_ins, if_neg hy]; rfl)
theorem je_irem {x y : Int32} (hd : decode (jt_code M) pc = .ok (.irem, 1)) (hp : pc + 1 = pc') (hy : ¬ y = 0) : jv_ev call M pc ls (.int y :: .int x :: st) h = jv_ev call M pc' ls (.int (x - x / y * y) :: st) h := by subst hp; exact je_next hd (by simp only [jv_ins, if_neg hy]; rfl)
theorem je_ldiv {x y : Int64} (hd : decode (jt_code M) pc = .ok (.ldiv, 1)) (hp : pc + 1 = pc') (hy : ¬ y = 0) : jv_ev call M pc ls (.long y :: .long x :: st) h = jv_ev call M pc' ls (.long (x / y) :: st) h := by subst hp; exact je_next hd (by simp only [jv_ins, if_neg hy]; rfl)
theorem je_lrem {x y : Int64} (hd : decode (jt_code M) pc = .ok (.lrem, 1)) (hp : pc + 1 = pc') (hy : ¬ y = 0) : jv_ev call M pc ls (.long y :: .long x :: st) h = jv_ev call M pc' ls (.long (x - x / y * y) :: st) h := by subst hp; exact je_next hd (by simp only [jv_ins, if_neg hy]; rfl)
theorem je_lneg {x : Int64} (hd : decode (jt_code M) pc = .ok (.lneg, 1)) (hp : pc + 1 = pc') : jv_ev call M pc ls (.long x :: st) h = jv_ev call M pc' ls (.long (-x) :: st) h := by subst hp; exact je_next hd rfl
theorem je_lshl {x : Int64} {y : Int32} (hd : decode (jt_code M) pc = .ok (.lshl, 1)) (hp : pc + 1 = pc') : jv_ev call M pc ls (.int y :: .long x :: st) h = jv_ev call M pc' ls (.long (x <<< (y.toInt64 &&& 63)) :: st) h := by subst hp; exact je_next hd rfl
theorem je_lshr {x : Int64} {y : Int32} (hd : decode (jt_code M) pc = .ok (.lshr, 1)) (hp : pc + 1 = pc') : jv_ev call M pc ls (.int y :: .long x :: st) h = jv_ev call M pc' ls (.long (x >>> (y.toInt64 &&& 63)) :: st) h := by subst hp; exact je_next hd rfl
theorem je_lcmp {x y : Int64} (hd : decode (jt_code M) pc = .ok (.lcmp, 1)) (hp : pc + 1 = pc') : jv_ev call M pc ls (.long y :: .long x :: st) h = jv_ev call M pc' ls (.int (lg_cmp x y) :: st) h := by subst hp; exact je_next hd rfl
theorem je_i2l {x : Int32} (hd : decode (jt_code M) pc = .ok (.i2l, 1)) (hp : pc + 1 = pc') : jv_ev call M pc ls (.int x :: st) h = jv_ev call M pc' ls (.long x.toInt64 :: st) h := by subst hp; exact je_next hd rfl
theorem je_l2i {x : Int64} (hd : decode (jt_code M) pc = .ok (.l2i, 1)) (hp : pc + 1 = pc') : jv_ev call M pc ls (.long x :: st) h = jv_ev call M pc' ls (.int x.toInt32 :: st) h := by subst hp; exact je_next hd rfl
theorem je_dup {v : Value} (hd : decode (jt_code M) pc = .ok (.dup, 1)) (hp : pc + 1 = pc') (hv : v.category = 1) : jv_ev call M pc ls (v :: st) h = jv_ev call M pc' ls (v :: v :: st) h := by subst hp; exact je_next hd (by simp only [jv_ins, if_pos hv]; rfl)
theorem je_dup2 {v w : Value} (hd : decode (jt_code M) pc = .ok (.dup2, 1)) (hp : pc + 1 = pc') (hv : v.category = 1) (hw : w.category = 1) : jv_ev call M pc ls (v :: w :: st) h = jv_ev call M pc' ls (v :: w :: v :: w :: st) h := by subst hp; exact je_next hd (by simp only [jv_ins, if_pos (And.intro hv hw)]; rfl)
theorem je_pop {v : Value} (hd : decode (jt_code M) pc = .ok (.pop, 1)) (hp : pc + 1 = pc') (hv : v.category = 1) : jv_ev call M pc ls (v :: st) h = jv_ev call M pc' ls st h := by subst hp; exact je_next hd (by simp only [jv_ins, if_pos hv]; rfl)
theorem jv_go_eq {off : Int} {b : Bool} {t : Nat} (ht : (pc : Int) + off = (t : Int)) : jv_go pc off b ls st h = some (.inl (if b then t else pc + 3, ls, st, h)) := by
  have h1 : jv_to pc off = some t := by
    unfold jv_to
    rw [ht, if_pos (by omega)]
    rfl
  unfold jv_go
  rw [h1]
  rfl
theorem je_goto {off : Int} (hd : decode (jt_code M) pc = .ok (.goto off, 3)) (ht : (pc : Int) + off = (pc' : Int)) : jv_ev call M pc ls st h = jv_ev call M pc' ls st h := je_next hd (by
  show jv_len 3 3 (jv_go pc off true ls st h) = _
  rw [jv_go_eq ht]
  rfl)
theorem je_if {c : Prop} [Decidable c] {b : Bool} {t : Nat} (hb : b = decide c) : jv_ev call M (if b then t else pc') ls st h = if c then jv_ev call M t ls st h else jv_ev call M pc' ls st h := by
  subst hb
  by_cases hc : c <;> simp [hc]
theorem je_icmp {cd : ClassFile.Cond} {off : Int} {t : Nat} {x y : Int32} {c : Prop} [Decidable c] (hd : decode (jt_code M) pc = .ok (.if_icmp cd off, 3)) (ht : (pc : Int) + off = (t : Int)) (hp : pc + 3 = pc') (hb : jv_cmp cd x y = decide c) : jv_ev call M pc ls (.int y :: .int x :: st) h = if c then jv_ev call M t ls st h else jv_ev call M pc' ls st h := by
  subst hp
  rw [← je_if hb]
  refine je_next hd ?_
  show jv_len 3 3 (jv_go pc off (jv_cmp cd x y) ls st h) = _
  rw [jv_go_eq ht]
  rfl
theorem je_ifc {cd : ClassFile.Cond} {off : Int} {t : Nat} {x : Int32} {c : Prop} [Decidable c] (hd : decode (jt_code M) pc = .ok (.ifCond cd off, 3)) (ht : (pc : Int) + off = (t : Int)) (hp : pc + 3 = pc') (hb : jv_cmp cd x 0 = decide c) : jv_ev call M pc ls (.int x :: st) h = if c then jv_ev call M t ls st h else jv_ev call M pc' ls st h := by
  subst hp
  rw [← je_if hb]
  refine je_next hd ?_
  show jv_len 3 3 (jv_go pc off (jv_cmp cd x 0) ls st h) = _
  rw [jv_go_eq ht]
  rfl
theorem je_acmp_eq {off : Int} {t : Nat} {x y : Option Nat} (hd : decode (jt_code M) pc = .ok (.if_acmp .eq off, 3)) (ht : (pc : Int) + off = (t : Int)) (hp : pc + 3 = pc') : jv_ev call M pc ls (va_rf y :: va_rf x :: st) h = if x = y then jv_ev call M t ls st h else jv_ev call M pc' ls st h := by
  subst hp
  cases x with
  | none =>
    cases y with
    | none => rw [if_pos rfl]; exact je_next hd (by show jv_len 3 3 (jv_go pc off true ls st h) = _; rw [jv_go_eq ht]; rfl)
    | some y => rw [if_neg (by simp)]; exact je_next hd (by show jv_len 3 3 (jv_go pc off false ls st h) = _; rw [jv_go_eq ht]; rfl)
  | some x =>
    cases y with
    | none => rw [if_neg (by simp)]; exact je_next hd (by show jv_len 3 3 (jv_go pc off false ls st h) = _; rw [jv_go_eq ht]; rfl)
    | some y =>
      have h1 : jv_ev call M (if decide (x = y) = true then t else pc + 3) ls st h = if some x = some y then jv_ev call M t ls st h else jv_ev call M (pc + 3) ls st h := by
        by_cases hc : x = y <;> simp [hc]
      rw [← h1]
      exact je_next hd (by show jv_len 3 3 (jv_go pc off (decide (x = y)) ls st h) = _; rw [jv_go_eq ht]; rfl)
theorem je_acmp_ne {off : Int} {t : Nat} {x y : Option Nat} (hd : decode (jt_code M) pc = .ok (.if_acmp .ne off, 3)) (ht : (pc : Int) + off = (t : Int)) (hp : pc + 3 = pc') : jv_ev call M pc ls (va_rf y :: va_rf x :: st) h = if x = y then jv_ev call M pc' ls st h else jv_ev call M t ls st h := by
  subst hp
  cases x with
  | none =>
    cases y with
    | none => rw [if_pos rfl]; exact je_next hd (by show jv_len 3 3 (jv_go pc off false ls st h) = _; rw [jv_go_eq ht]; rfl)
    | some y => rw [if_neg (by simp)]; exact je_next hd (by show jv_len 3 3 (jv_go pc off true ls st h) = _; rw [jv_go_eq ht]; rfl)
  | some x =>
    cases y with
    | none => rw [if_neg (by simp)]; exact je_next hd (by show jv_len 3 3 (jv_go pc off true ls st h) = _; rw [jv_go_eq ht]; rfl)
    | some y =>
      have h1 : jv_ev call M (if decide (¬ x = y) = true then t else pc + 3) ls st h = if some x = some y then jv_ev call M (pc + 3) ls st h else jv_ev call M t ls st h := by
        by_cases hc : x = y <;> simp [hc]
      rw [← h1]
      exact je_next hd (by show jv_len 3 3 (jv_go pc off (decide (¬ x = y)) ls st h) = _; rw [jv_go_eq ht]; rfl)
theorem je_ifnull {off : Int} {t : Nat} {x : Option Nat} (hd : decode (jt_code M) pc = .ok (.ifnull off, 3)) (ht : (pc : Int) + off = (t : Int)) (hp : pc + 3 = pc') : jv_ev call M pc ls (va_rf x :: st) h = if x = none then jv_ev call M t ls st h else jv_ev call M pc' ls st h := by
  subst hp
  cases x with
  | none => rw [if_pos rfl]; exact je_next hd (by show jv_len 3 3 (jv_go pc off true ls st h) = _; rw [jv_go_eq ht]; rfl)
  | some y => rw [if_neg (by simp)]; exact je_next hd rfl
theorem je_ifnonnull {off : Int} {t : Nat} {x : Option Nat} (hd : decode (jt_code M) pc = .ok (.ifnonnull off, 3)) (ht : (pc : Int) + off = (t : Int)) (hp : pc + 3 = pc') : jv_ev call M pc ls (va_rf x :: st) h = if x = none then jv_ev call M pc' ls st h else jv_ev call M t ls st h := by
  subst hp
  cases x with
  | none => rw [if_pos rfl]; exact je_next hd rfl
  | some y => rw [if_neg (by simp)]; exact je_next hd (by show jv_len 3 3 (jv_go pc off true ls st h) = _; rw [jv_go_eq ht]; rfl)
theorem je_get {k ci f a : Nat} {v : Value} (hd : decode (jt_code M) pc = .ok (.getfield k, 3)) (hp : pc + 3 = pc') (hf : jt_f4 jt_fl (jt_own M) k = some (ci, f)) (hv : jv_gf h a ci f = some v) : jv_ev call M pc ls (.ref a :: st) h = jv_ev call M pc' ls (v :: st) h := by
  subst hp
  exact je_next hd (by simp only [jv_ins, hf, hv]; rfl)
theorem je_put {k ci f a : Nat} {v : Value} {h' : jv_H} (hd : decode (jt_code M) pc = .ok (.putfield k, 3)) (hp : pc + 3 = pc') (hf : jt_f4 jt_fl (jt_own M) k = some (ci, f)) (hfin : jt_ffin ci f = false ∨ (jt_kd M = 2 ∧ jt_own M = ci)) (hv : jv_pf h a ci f v = some h') : jv_ev call M pc ls (v :: .ref a :: st) h = jv_ev call M pc' ls st h' := by
  subst hp
  exact je_next hd (by simp only [jv_ins, hf, if_pos hfin, hv]; rfl)
theorem je_new {k ci : Nat} (hd : decode (jt_code M) pc = .ok (.new k, 3)) (hp : pc + 3 = pc') (hf : jt_f3 jt_nl (jt_own M) k = some ci) (hc : ci < jt_cl.length) : jv_ev call M pc ls st h = jv_ev call M pc' ls (.ref h.2.1 :: st) (jv_new h ci) := by
  subst hp
  exact je_next hd (by simp only [jv_ins, hf, if_pos hc]; rfl)
theorem je_newarray {t : ArrayType} {k n : Nat} {x : Int32} {v : Value} (hd : decode (jt_code M) pc = .ok (.newarray t, 2)) (hp : pc + 2 = pc') (hf : jt_at.idxOf? (newarray.typeOf t) = some k) (hk : ¬ k = jt_scr) (hx : ¬ x < 0) (hn : x.toNatClampNeg = n) (hl : n ≤ 100000) (hv : defaultValue (newarray.typeOf t) = v) : jv_ev call M pc ls (.int x :: st) h = jv_ev call M pc' ls (.ref h.2.1 :: st) (jv_newa h k n v) := by
  subst hp; subst hn; subst hv
  exact je_next hd (by simp only [jv_ins, hf, if_pos (And.intro hk (And.intro hx hl))]; rfl)
theorem je_anewarray {i ci k n : Nat} {x : Int32} (hd : decode (jt_code M) pc = .ok (.anewarray i, 3)) (hp : pc + 3 = pc') (hi : jt_f3 jt_nl (jt_own M) i = some ci) (hf : jt_at.idxOf? (.object (jt_cn ci)) = some k) (hk : ¬ k = jt_scr) (hx : ¬ x < 0) (hn : x.toNatClampNeg = n) (hl : n ≤ 100000) : jv_ev call M pc ls (.int x :: st) h = jv_ev call M pc' ls (.ref h.2.1 :: st) (jv_newa h k n .null) := by
  subst hp; subst hn
  exact je_next hd (by simp only [jv_ins, hi, hf, if_pos (And.intro hk (And.intro hx hl))]; rfl)
theorem je_alen {a n : Nat} (hd : decode (jt_code M) pc = .ok (.arraylength, 1)) (hp : pc + 1 = pc') (hn : jv_ln h a = some n) : jv_ev call M pc ls (.ref a :: st) h = jv_ev call M pc' ls (.int (Int32.ofNat n) :: st) h := by
  subst hp
  exact je_next hd (by simp only [jv_ins, hn]; rfl)
theorem je_iald {a : Nat} {j : Int32} {v : Value} (hd : decode (jt_code M) pc = .ok (.iaload, 1)) (hp : pc + 1 = pc') (hv : jv_al h a .int j = some v) : jv_ev call M pc ls (.int j :: .ref a :: st) h = jv_ev call M pc' ls (v :: st) h := by
  subst hp
  exact je_next hd (by simp only [jv_ins, hv]; rfl)
theorem je_lald {a : Nat} {j : Int32} {v : Value} (hd : decode (jt_code M) pc = .ok (.laload, 1)) (hp : pc + 1 = pc') (hv : jv_al h a .long j = some v) : jv_ev call M pc ls (.int j :: .ref a :: st) h = jv_ev call M pc' ls (v :: st) h := by
  subst hp
  exact je_next hd (by simp only [jv_ins, hv]; rfl)
theorem je_bald {a : Nat} {j : Int32} {v : Value} (hd : decode (jt_code M) pc = .ok (.baload, 1)) (hp : pc + 1 = pc') (hv : jv_al h a .boolean j = some v) : jv_ev call M pc ls (.int j :: .ref a :: st) h = jv_ev call M pc' ls (v :: st) h := by
  subst hp
  exact je_next hd (by simp only [jv_ins, hv]; rfl)
theorem je_aald {a : Nat} {j : Int32} {C : String} {v : Value} (hd : decode (jt_code M) pc = .ok (.aaload, 1)) (hp : pc + 1 = pc') (hk : jv_kn h a = some C) (hv : jv_al h a (.object C) j = some v) : jv_ev call M pc ls (.int j :: .ref a :: st) h = jv_ev call M pc' ls (v :: st) h := by
  subst hp
  exact je_next hd (by simp only [jv_ins, hk, hv]; rfl)
theorem je_iast {a : Nat} {j x : Int32} {h' : jv_H} (hd : decode (jt_code M) pc = .ok (.iastore, 1)) (hp : pc + 1 = pc') (hv : jv_as h a .int j (.int x) = some h') : jv_ev call M pc ls (.int x :: .int j :: .ref a :: st) h = jv_ev call M pc' ls st h' := by
  subst hp
  exact je_next hd (by simp only [jv_ins, hv]; rfl)
theorem je_last {a : Nat} {j : Int32} {x : Int64} {h' : jv_H} (hd : decode (jt_code M) pc = .ok (.lastore, 1)) (hp : pc + 1 = pc') (hv : jv_as h a .long j (.long x) = some h') : jv_ev call M pc ls (.long x :: .int j :: .ref a :: st) h = jv_ev call M pc' ls st h' := by
  subst hp
  exact je_next hd (by simp only [jv_ins, hv]; rfl)
theorem je_bast {a : Nat} {j x : Int32} {h' : jv_H} (hd : decode (jt_code M) pc = .ok (.bastore, 1)) (hp : pc + 1 = pc') (hv : jv_as h a .boolean j (narrow .boolean (.int x)) = some h') : jv_ev call M pc ls (.int x :: .int j :: .ref a :: st) h = jv_ev call M pc' ls st h' := by
  subst hp
  exact je_next hd (by simp only [jv_ins, hv]; rfl)
theorem je_aast {a : Nat} {j : Int32} {v : Value} {C : String} {h' : jv_H} (hd : decode (jt_code M) pc = .ok (.aastore, 1)) (hp : pc + 1 = pc') (hk : jv_kn h a = some C) (hA : jv_isA h C v = true) (hv : jv_as h a (.object C) j v = some h') : jv_ev call M pc ls (v :: .int j :: .ref a :: st) h = jv_ev call M pc' ls st h' := by
  subst hp
  exact je_next hd (by simp only [jv_ins, hk, if_pos hA, hv]; rfl)
theorem je_inv {y : Nat} {as rest : List Value} {r : Option Value} {h' : jv_H} (hw : jv_wide rest = true) (hc : call y as h = some (r, h')) : jv_inv call y 3 pc ls as rest h = some (.inl (pc + 3, ls, r.toList ++ rest, h')) := by
  unfold jv_inv
  rw [if_pos ⟨rfl, hw⟩, hc]
  rfl
theorem je_virt {k y b : Nat} {as rest : List Value} {r : Option Value} {h' : jv_H} (hd : decode (jt_code M) pc = .ok (.invokevirtual k, 3)) (hp : pc + 3 = pc') (hy : jt_inv (jt_own M) k = some y) (hk : jt_kd y = 0) (hn : as.length = jt_np y) (hcl : jv_cl h b = some (jt_own y)) (hw : jv_wide rest = true) (hc : call y (.ref b :: as) h = some (r, h')) : jv_ev call M pc ls (as.reverse ++ .ref b :: rest) h = jv_ev call M pc' ls (r.toList ++ rest) h' := by
  subst hp
  refine je_next hd ?_
  have h1 : (as.reverse ++ Value.ref b :: rest).drop (jt_np y) = .ref b :: rest := by rw [← hn, ← List.length_reverse, List.drop_left]
  have h2 : (as.reverse ++ Value.ref b :: rest).take (jt_np y) = as.reverse := by rw [← hn, ← List.length_reverse, List.take_left]
  simp only [jv_ins, hy, h1, h2, List.reverse_reverse]
  rw [if_pos ⟨hk, hcl, by simp [← hn]⟩]
  exact je_inv hw hc
theorem je_stat {k y : Nat} {as rest : List Value} {r : Option Value} {h' : jv_H} (hd : decode (jt_code M) pc = .ok (.invokestatic k, 3)) (hp : pc + 3 = pc') (hy : jt_inv (jt_own M) k = some y) (hk : jt_kd y = 1) (hn : as.length = jt_np y) (hw : jv_wide rest = true) (hc : call y as h = some (r, h')) : jv_ev call M pc ls (as.reverse ++ rest) h = jv_ev call M pc' ls (r.toList ++ rest) h' := by
  subst hp
  refine je_next hd ?_
  have h1 : (as.reverse ++ rest).drop (jt_np y) = rest := by rw [← hn, ← List.length_reverse, List.drop_left]
  have h2 : (as.reverse ++ rest).take (jt_np y) = as.reverse := by rw [← hn, ← List.length_reverse, List.take_left]
  simp only [jv_ins, hy, h1, h2, List.reverse_reverse]
  rw [if_pos ⟨hk, by simp [← hn]⟩]
  exact je_inv hw hc
theorem je_spec {k y b : Nat} {as rest : List Value} {r : Option Value} {h' : jv_H} (hd : decode (jt_code M) pc = .ok (.invokespecial k, 3)) (hp : pc + 3 = pc') (ho : jt_ob.contains (jt_own M, k) = false) (hy : jt_inv (jt_own M) k = some y) (hk : jt_kd y = 2) (hn : as.length = jt_np y) (hw : jv_wide rest = true) (hc : call y (.ref b :: as) h = some (r, h')) : jv_ev call M pc ls (as.reverse ++ .ref b :: rest) h = jv_ev call M pc' ls (r.toList ++ rest) h' := by
  subst hp
  refine je_next hd ?_
  have h1 : (as.reverse ++ Value.ref b :: rest).drop (jt_np y) = .ref b :: rest := by rw [← hn, ← List.length_reverse, List.drop_left]
  have h2 : (as.reverse ++ Value.ref b :: rest).take (jt_np y) = as.reverse := by rw [← hn, ← List.length_reverse, List.take_left]
  simp only [jv_ins, ho, hy, h1, h2, List.reverse_reverse, Bool.false_eq_true, if_false]
  rw [if_pos ⟨hk, by simp [← hn]⟩]
  exact je_inv hw hc
theorem je_obj {k b : Nat} {rest : List Value} (hd : decode (jt_code M) pc = .ok (.invokespecial k, 3)) (hp : pc + 3 = pc') (ho : jt_ob.contains (jt_own M, k) = true) (hw : jv_wide rest = true) : jv_ev call M pc ls (.ref b :: rest) h = jv_ev call M pc' ls rest h := by
  subst hp
  refine je_next hd ?_
  simp only [jv_ins, ho, hw, if_true]
  rfl
theorem je_iret {v : Int32} {ty : FieldType} (hd : decode (jt_code M) pc = .ok (.ireturn, 1)) (hr : jt_ret M = some ty) (hn : narrow ty (.int v) = .int v) (hf : fits ty (.int v) = true) : jv_ev call M pc ls [.int v] h = some (some (.int v), h) := je_end hd (by simp only [jv_ins, hr]; rw [if_pos ⟨trivial, hn, hf⟩])
theorem je_lret {v : Int64} (hd : decode (jt_code M) pc = .ok (.lreturn, 1)) (hr : jt_ret M = some .long) : jv_ev call M pc ls [.long v] h = some (some (.long v), h) := je_end hd (by simp only [jv_ins, hr]; rfl)
theorem je_aret {r : Option Nat} {C : String} (hd : decode (jt_code M) pc = .ok (.areturn, 1)) (hr : jt_ret M = some (.object C)) : jv_ev call M pc ls [va_rf r] h = some (some (va_rf r), h) := by
  cases r <;> exact je_end hd (by simp only [jv_ins, hr, va_rf]; rfl)
theorem je_ret (hd : decode (jt_code M) pc = .ok (.return_, 1)) (hr : jt_ret M = none) : jv_ev call M pc ls [] h = some (none, h) := je_end hd (by simp only [jv_ins, hr]; rfl)
end JE
theorem jv_run_eq {d y : Nat} {as : List Value} {h : jv_H} {ls : jv_L} (hl : (jv_sl as).length ≤ jt_maxL y) (he : jv_ent y as = ls) : jv_run (d + 1) y as h = jv_ev (jv_run d) y 0 ls [] h := by
  subst he
  exact if_pos hl
theorem jv_is2_i {x : Int32} : jv_is2 (some (some (.int x))) = false := rfl
theorem jv_is2_r {a : Nat} : jv_is2 (some (some (.ref a))) = false := rfl
theorem jv_is2_n : jv_is2 (some none) = false := rfl
theorem jv_tab {x : Int32} {lo hi : Nat} (h : ∀ k : Nat, lo ≤ k → k ≤ hi → ¬ x = nI k) (hh : hi < 2 ^ 31) : x.toInt < (lo : Int) ∨ (hi : Int) < x.toInt := by
  rcases Int.lt_or_le x.toInt lo with q | q
  · exact Or.inl q
  · rcases Int.lt_or_le hi x.toInt with r | r
    · exact Or.inr r
    · obtain ⟨j, hj, rfl⟩ := nI_of (x := x) (fun hx => by
        have h1 : x.toInt < (0 : Int32).toInt := Int32.lt_iff_toInt_lt.mp hx
        have h2 : (0 : Int32).toInt = 0 := by decide
        omega)
      rw [nI_toInt hj] at q r
      exact absurd rfl (h j (by omega) (by omega))
theorem jd_i {x : Int32} : ¬ jv_is2 (some (some (Value.int x))) = true := Bool.false_ne_true
theorem jd_r {x : Nat} : ¬ jv_is2 (some (some (Value.ref x))) = true := Bool.false_ne_true
theorem jd_f {r : Option Nat} : ¬ jv_is2 (some (some (va_rf r))) = true := by cases r <;> exact Bool.false_ne_true
theorem jd_n : ¬ jv_is2 (some none) = true := Bool.false_ne_true
end
section
/-! the reference's object and rows: I k is its int field k, A k its row of ints (or booleans) in field k, L k its row of longs -/
def jm_fs (m : Nat) (I : Nat → Int32) : List Value := [.int (I 0), .ref (m + 1), .int (I 2), .ref (m + 2), .int (I 4), .int (I 5), .ref (m + 3), .ref (m + 4), .ref (m + 5), .ref (m + 6), .ref (m + 7), .ref (m + 8), .ref (m + 9), .ref (m + 10), .ref (m + 11), .ref (m + 12), .ref (m + 13), .ref (m + 14), .ref (m + 15), .ref (m + 16), .ref (m + 17), .ref (m + 18), .int (I 22), .ref (m + 19), .ref (m + 20), .ref (m + 21), .ref (m + 22), .ref (m + 23), .ref (m + 24), .ref (m + 25), .ref (m + 26), .int (I 31), .int (I 32), .int (I 33), .int (I 34), .int (I 35), .int (I 36), .int (I 37), .int (I 38), .int (I 39), .int (I 40), .int (I 41), .int (I 42), .int (I 43)]
def jm_at (m : Nat) (I : Nat → Int32) (A : Nat → Nat → Int32) (L : Nat → Nat → Int64) (j : Nat) : Option jv_C := match j with
  | 0 => some (.inl (0, jm_fs m I))
  | 1 => some (.inr (1, 1000, fun i => .long (L 1 i)))
  | 2 => some (.inr (0, 2000, fun i => .int (A 3 i)))
  | 3 => some (.inr (0, 12, fun i => .int (A 6 i)))
  | 4 => some (.inr (0, 12, fun i => .int (A 7 i)))
  | 5 => some (.inr (0, 12, fun i => .int (A 8 i)))
  | 6 => some (.inr (0, 12, fun i => .int (A 9 i)))
  | 7 => some (.inr (1, 12, fun i => .long (L 10 i)))
  | 8 => some (.inr (0, 1536, fun i => .int (A 11 i)))
  | 9 => some (.inr (1, 12288, fun i => .long (L 12 i)))
  | 10 => some (.inr (0, 24000, fun i => .int (A 13 i)))
  | 11 => some (.inr (0, 12, fun i => .int (A 14 i)))
  | 12 => some (.inr (0, 12, fun i => .int (A 15 i)))
  | 13 => some (.inr (0, 4800, fun i => .int (A 16 i)))
  | 14 => some (.inr (0, 12, fun i => .int (A 17 i)))
  | 15 => some (.inr (0, 12, fun i => .int (A 18 i)))
  | 16 => some (.inr (0, 12, fun i => .int (A 19 i)))
  | 17 => some (.inr (2, 768, fun i => .int (A 20 i)))
  | 18 => some (.inr (0, 768, fun i => .int (A 21 i)))
  | 19 => some (.inr (0, 17, fun i => .int (A 23 i)))
  | 20 => some (.inr (0, 17, fun i => .int (A 24 i)))
  | 21 => some (.inr (0, 17, fun i => .int (A 25 i)))
  | 22 => some (.inr (2, 17, fun i => .int (A 26 i)))
  | 23 => some (.inr (2, 17, fun i => .int (A 27 i)))
  | 24 => some (.inr (0, 64, fun i => .int (A 28 i)))
  | 25 => some (.inr (0, 18, fun i => .int (A 29 i)))
  | 26 => some (.inr (0, 18, fun i => .int (A 30 i)))
  | _ => none
def jm_in (m : Nat) (I : Nat → Int32) (A : Nat → Nat → Int32) (L : Nat → Nat → Int64) (q : Nat) : Option jv_C := if q < m then none else jm_at m I A L (q - m)
def jm_map (m : Nat) (I : Nat → Int32) (A : Nat → Nat → Int32) (L : Nat → Nat → Int64) (rest : Nat → Option jv_C) (q : Nat) : Option jv_C := match jm_in m I A L q with
  | some c => some c
  | none => rest q
def jm_H (m : Nat) (I : Nat → Int32) (A : Nat → Nat → Int32) (L : Nat → Nat → Int64) (rest : Nat → Option jv_C) (z : Nat × Nat) : jv_H := (jm_map m I A L rest, z)
section JMH
variable {m : Nat} {I : Nat → Int32} {A : Nat → Nat → Int32} {L : Nat → Nat → Int64} {rest : Nat → Option jv_C} {z : Nat × Nat}
theorem jm_cell {j : Nat} {c : jv_C} (h : jm_at m I A L j = some c) : (jm_H m I A L rest z).1 (m + j) = some c := by
  show jm_map m I A L rest (m + j) = some c
  unfold jm_map jm_in
  rw [if_neg (by omega), Nat.add_sub_cancel_left, h]
theorem jm_cell0 {c : jv_C} (h : jm_at m I A L 0 = some c) : (jm_H m I A L rest z).1 m = some c := jm_cell (j := 0) h
theorem jm_upd {I' : Nat → Int32} {A' : Nat → Nat → Int32} {L' : Nat → Nat → Int64} {j : Nat} {c c' : jv_C} (h0 : jm_at m I A L j = some c) (h1 : jm_at m I' A' L' j = some c') (h2 : ∀ k, ¬ k = j → jm_at m I' A' L' k = jm_at m I A L k) : (jv_up (jm_H m I A L rest z).1 (m + j) c', (jm_H m I A L rest z).2) = jm_H m I' A' L' rest z := by
  show (_, z) = (_, z)
  congr 1
  funext q
  unfold jv_up
  by_cases hq : q = m + j
  · subst hq
    rw [if_pos rfl]
    exact (jm_cell (rest := rest) (z := z) h1).symm
  · rw [if_neg hq]
    show jm_map m I A L rest q = jm_map m I' A' L' rest q
    unfold jm_map jm_in
    by_cases hl : q < m
    · rw [if_pos hl, if_pos hl]
    · rw [if_neg hl, if_neg hl, h2 (q - m) (by omega)]
theorem jm_atI {I' : Nat → Int32} (k : Nat) (hk : ¬ k = 0) : jm_at m I' A L k = jm_at m I A L k := by
  match k, hk with
  | 0, hk => exact absurd rfl hk
  | 1, _ => rfl
  | 2, _ => rfl
  | 3, _ => rfl
  | 4, _ => rfl
  | 5, _ => rfl
  | 6, _ => rfl
  | 7, _ => rfl
  | 8, _ => rfl
  | 9, _ => rfl
  | 10, _ => rfl
  | 11, _ => rfl
  | 12, _ => rfl
  | 13, _ => rfl
  | 14, _ => rfl
  | 15, _ => rfl
  | 16, _ => rfl
  | 17, _ => rfl
  | 18, _ => rfl
  | 19, _ => rfl
  | 20, _ => rfl
  | 21, _ => rfl
  | 22, _ => rfl
  | 23, _ => rfl
  | 24, _ => rfl
  | 25, _ => rfl
  | 26, _ => rfl
  | k + 27, _ => rfl
theorem jv_gf_of {h : jv_H} {a ci k : Nat} {fs : List Value} {v : Value} (hc : h.1 a = some (.inl (ci, fs))) (hk : fs[k]? = some v) : jv_gf h a ci k = some v := by
  unfold jv_gf
  rw [hc]
  exact (if_pos rfl).trans hk
theorem jv_pf_of {h : jv_H} {a ci k : Nat} {fs : List Value} {v : Value} (hc : h.1 a = some (.inl (ci, fs))) (hk : k < fs.length) (hn : narrow (jt_fty ci k) v = v) (hf : fits (jt_fty ci k) v = true) : jv_pf h a ci k v = some (jv_up h.1 a (.inl (ci, fs.set k v)), h.2) := by
  unfold jv_pf
  rw [hc]
  exact if_pos ⟨rfl, hk, hn, hf⟩
theorem jv_al_of {h : jv_H} {a k n i : Nat} {f : Nat → Value} {ty : FieldType} (hc : h.1 a = some (.inr (k, n, f))) (ht : jt_at[k]? = some ty) (hi : i < n) (hn : n < 2 ^ 31) : jv_al h a ty (nI i) = some (f i) := by
  unfold jv_al
  rw [hc]
  refine (if_pos ⟨ht, nI_in hi hn⟩).trans ?_
  rw [nI_clamp (by omega)]
theorem jv_as_of {h : jv_H} {a k n i : Nat} {f : Nat → Value} {ty : FieldType} {v : Value} (hc : h.1 a = some (.inr (k, n, f))) (hk : ¬ k = jt_scr) (ht : jt_at[k]? = some ty) (hi : i < n) (hn : n < 2 ^ 31) : jv_as h a ty (nI i) v = some (jv_up h.1 a (.inr (k, n, updV f i v)), h.2) := by
  unfold jv_as
  rw [hc]
  refine (if_pos ⟨hk, ht, nI_in hi hn⟩).trans ?_
  rw [nI_clamp (by omega)]
theorem jm_g0 : jv_gf (jm_H m I A L rest z) m 0 0 = some (.int (I 0)) := jv_gf_of (jm_cell0 rfl) rfl
theorem jm_p0 {v : Int32} : jv_pf (jm_H m I A L rest z) m 0 0 (.int v) = some (jm_H m (upd I 0 v) A L rest z) := (jv_pf_of (jm_cell0 rfl) (Nat.le_of_ble_eq_true rfl) rfl rfl).trans (congrArg some (jm_upd (j := 0) rfl rfl jm_atI))
theorem jm_g1 : jv_gf (jm_H m I A L rest z) m 0 1 = some (.ref (m + 1)) := jv_gf_of (jm_cell0 rfl) rfl
theorem jm_g2 : jv_gf (jm_H m I A L rest z) m 0 2 = some (.int (I 2)) := jv_gf_of (jm_cell0 rfl) rfl
theorem jm_p2 {v : Int32} : jv_pf (jm_H m I A L rest z) m 0 2 (.int v) = some (jm_H m (upd I 2 v) A L rest z) := (jv_pf_of (jm_cell0 rfl) (Nat.le_of_ble_eq_true rfl) rfl rfl).trans (congrArg some (jm_upd (j := 0) rfl rfl jm_atI))
theorem jm_g3 : jv_gf (jm_H m I A L rest z) m 0 3 = some (.ref (m + 2)) := jv_gf_of (jm_cell0 rfl) rfl
theorem jm_g4 : jv_gf (jm_H m I A L rest z) m 0 4 = some (.int (I 4)) := jv_gf_of (jm_cell0 rfl) rfl
theorem jm_p4 {v : Int32} : jv_pf (jm_H m I A L rest z) m 0 4 (.int v) = some (jm_H m (upd I 4 v) A L rest z) := (jv_pf_of (jm_cell0 rfl) (Nat.le_of_ble_eq_true rfl) rfl rfl).trans (congrArg some (jm_upd (j := 0) rfl rfl jm_atI))
theorem jm_g5 : jv_gf (jm_H m I A L rest z) m 0 5 = some (.int (I 5)) := jv_gf_of (jm_cell0 rfl) rfl
theorem jm_p5 {v : Int32} : jv_pf (jm_H m I A L rest z) m 0 5 (.int v) = some (jm_H m (upd I 5 v) A L rest z) := (jv_pf_of (jm_cell0 rfl) (Nat.le_of_ble_eq_true rfl) rfl rfl).trans (congrArg some (jm_upd (j := 0) rfl rfl jm_atI))
theorem jm_g6 : jv_gf (jm_H m I A L rest z) m 0 6 = some (.ref (m + 3)) := jv_gf_of (jm_cell0 rfl) rfl
theorem jm_g7 : jv_gf (jm_H m I A L rest z) m 0 7 = some (.ref (m + 4)) := jv_gf_of (jm_cell0 rfl) rfl
theorem jm_g8 : jv_gf (jm_H m I A L rest z) m 0 8 = some (.ref (m + 5)) := jv_gf_of (jm_cell0 rfl) rfl
theorem jm_g9 : jv_gf (jm_H m I A L rest z) m 0 9 = some (.ref (m + 6)) := jv_gf_of (jm_cell0 rfl) rfl
theorem jm_g10 : jv_gf (jm_H m I A L rest z) m 0 10 = some (.ref (m + 7)) := jv_gf_of (jm_cell0 rfl) rfl
theorem jm_g11 : jv_gf (jm_H m I A L rest z) m 0 11 = some (.ref (m + 8)) := jv_gf_of (jm_cell0 rfl) rfl
theorem jm_g12 : jv_gf (jm_H m I A L rest z) m 0 12 = some (.ref (m + 9)) := jv_gf_of (jm_cell0 rfl) rfl
theorem jm_g13 : jv_gf (jm_H m I A L rest z) m 0 13 = some (.ref (m + 10)) := jv_gf_of (jm_cell0 rfl) rfl
theorem jm_g14 : jv_gf (jm_H m I A L rest z) m 0 14 = some (.ref (m + 11)) := jv_gf_of (jm_cell0 rfl) rfl
theorem jm_g15 : jv_gf (jm_H m I A L rest z) m 0 15 = some (.ref (m + 12)) := jv_gf_of (jm_cell0 rfl) rfl
theorem jm_g16 : jv_gf (jm_H m I A L rest z) m 0 16 = some (.ref (m + 13)) := jv_gf_of (jm_cell0 rfl) rfl
theorem jm_g17 : jv_gf (jm_H m I A L rest z) m 0 17 = some (.ref (m + 14)) := jv_gf_of (jm_cell0 rfl) rfl
theorem jm_g18 : jv_gf (jm_H m I A L rest z) m 0 18 = some (.ref (m + 15)) := jv_gf_of (jm_cell0 rfl) rfl
theorem jm_g19 : jv_gf (jm_H m I A L rest z) m 0 19 = some (.ref (m + 16)) := jv_gf_of (jm_cell0 rfl) rfl
theorem jm_g20 : jv_gf (jm_H m I A L rest z) m 0 20 = some (.ref (m + 17)) := jv_gf_of (jm_cell0 rfl) rfl
theorem jm_g21 : jv_gf (jm_H m I A L rest z) m 0 21 = some (.ref (m + 18)) := jv_gf_of (jm_cell0 rfl) rfl
theorem jm_g22 : jv_gf (jm_H m I A L rest z) m 0 22 = some (.int (I 22)) := jv_gf_of (jm_cell0 rfl) rfl
theorem jm_p22 {v : Int32} : jv_pf (jm_H m I A L rest z) m 0 22 (.int v) = some (jm_H m (upd I 22 v) A L rest z) := (jv_pf_of (jm_cell0 rfl) (Nat.le_of_ble_eq_true rfl) rfl rfl).trans (congrArg some (jm_upd (j := 0) rfl rfl jm_atI))
theorem jm_g23 : jv_gf (jm_H m I A L rest z) m 0 23 = some (.ref (m + 19)) := jv_gf_of (jm_cell0 rfl) rfl
theorem jm_g24 : jv_gf (jm_H m I A L rest z) m 0 24 = some (.ref (m + 20)) := jv_gf_of (jm_cell0 rfl) rfl
theorem jm_g25 : jv_gf (jm_H m I A L rest z) m 0 25 = some (.ref (m + 21)) := jv_gf_of (jm_cell0 rfl) rfl
theorem jm_g26 : jv_gf (jm_H m I A L rest z) m 0 26 = some (.ref (m + 22)) := jv_gf_of (jm_cell0 rfl) rfl
theorem jm_g27 : jv_gf (jm_H m I A L rest z) m 0 27 = some (.ref (m + 23)) := jv_gf_of (jm_cell0 rfl) rfl
theorem jm_g28 : jv_gf (jm_H m I A L rest z) m 0 28 = some (.ref (m + 24)) := jv_gf_of (jm_cell0 rfl) rfl
theorem jm_g29 : jv_gf (jm_H m I A L rest z) m 0 29 = some (.ref (m + 25)) := jv_gf_of (jm_cell0 rfl) rfl
theorem jm_g30 : jv_gf (jm_H m I A L rest z) m 0 30 = some (.ref (m + 26)) := jv_gf_of (jm_cell0 rfl) rfl
theorem jm_g31 : jv_gf (jm_H m I A L rest z) m 0 31 = some (.int (I 31)) := jv_gf_of (jm_cell0 rfl) rfl
theorem jm_p31 {v : Int32} : jv_pf (jm_H m I A L rest z) m 0 31 (.int v) = some (jm_H m (upd I 31 v) A L rest z) := (jv_pf_of (jm_cell0 rfl) (Nat.le_of_ble_eq_true rfl) rfl rfl).trans (congrArg some (jm_upd (j := 0) rfl rfl jm_atI))
theorem jm_g32 : jv_gf (jm_H m I A L rest z) m 0 32 = some (.int (I 32)) := jv_gf_of (jm_cell0 rfl) rfl
theorem jm_p32 {v : Int32} : jv_pf (jm_H m I A L rest z) m 0 32 (.int v) = some (jm_H m (upd I 32 v) A L rest z) := (jv_pf_of (jm_cell0 rfl) (Nat.le_of_ble_eq_true rfl) rfl rfl).trans (congrArg some (jm_upd (j := 0) rfl rfl jm_atI))
theorem jm_g33 : jv_gf (jm_H m I A L rest z) m 0 33 = some (.int (I 33)) := jv_gf_of (jm_cell0 rfl) rfl
theorem jm_p33 {v : Int32} : jv_pf (jm_H m I A L rest z) m 0 33 (.int v) = some (jm_H m (upd I 33 v) A L rest z) := (jv_pf_of (jm_cell0 rfl) (Nat.le_of_ble_eq_true rfl) rfl rfl).trans (congrArg some (jm_upd (j := 0) rfl rfl jm_atI))
theorem jm_g34 : jv_gf (jm_H m I A L rest z) m 0 34 = some (.int (I 34)) := jv_gf_of (jm_cell0 rfl) rfl
theorem jm_p34 {v : Int32} : jv_pf (jm_H m I A L rest z) m 0 34 (.int v) = some (jm_H m (upd I 34 v) A L rest z) := (jv_pf_of (jm_cell0 rfl) (Nat.le_of_ble_eq_true rfl) rfl rfl).trans (congrArg some (jm_upd (j := 0) rfl rfl jm_atI))
theorem jm_g35 : jv_gf (jm_H m I A L rest z) m 0 35 = some (.int (I 35)) := jv_gf_of (jm_cell0 rfl) rfl
theorem jm_p35 {v : Int32} : jv_pf (jm_H m I A L rest z) m 0 35 (.int v) = some (jm_H m (upd I 35 v) A L rest z) := (jv_pf_of (jm_cell0 rfl) (Nat.le_of_ble_eq_true rfl) rfl rfl).trans (congrArg some (jm_upd (j := 0) rfl rfl jm_atI))
theorem jm_g36 : jv_gf (jm_H m I A L rest z) m 0 36 = some (.int (I 36)) := jv_gf_of (jm_cell0 rfl) rfl
theorem jm_p36 {v : Int32} : jv_pf (jm_H m I A L rest z) m 0 36 (.int v) = some (jm_H m (upd I 36 v) A L rest z) := (jv_pf_of (jm_cell0 rfl) (Nat.le_of_ble_eq_true rfl) rfl rfl).trans (congrArg some (jm_upd (j := 0) rfl rfl jm_atI))
theorem jm_g37 : jv_gf (jm_H m I A L rest z) m 0 37 = some (.int (I 37)) := jv_gf_of (jm_cell0 rfl) rfl
theorem jm_p37 {v : Int32} : jv_pf (jm_H m I A L rest z) m 0 37 (.int v) = some (jm_H m (upd I 37 v) A L rest z) := (jv_pf_of (jm_cell0 rfl) (Nat.le_of_ble_eq_true rfl) rfl rfl).trans (congrArg some (jm_upd (j := 0) rfl rfl jm_atI))
theorem jm_g38 : jv_gf (jm_H m I A L rest z) m 0 38 = some (.int (I 38)) := jv_gf_of (jm_cell0 rfl) rfl
theorem jm_p38 {v : Int32} : jv_pf (jm_H m I A L rest z) m 0 38 (.int v) = some (jm_H m (upd I 38 v) A L rest z) := (jv_pf_of (jm_cell0 rfl) (Nat.le_of_ble_eq_true rfl) rfl rfl).trans (congrArg some (jm_upd (j := 0) rfl rfl jm_atI))
theorem jm_g39 : jv_gf (jm_H m I A L rest z) m 0 39 = some (.int (I 39)) := jv_gf_of (jm_cell0 rfl) rfl
theorem jm_p39 {v : Int32} : jv_pf (jm_H m I A L rest z) m 0 39 (.int v) = some (jm_H m (upd I 39 v) A L rest z) := (jv_pf_of (jm_cell0 rfl) (Nat.le_of_ble_eq_true rfl) rfl rfl).trans (congrArg some (jm_upd (j := 0) rfl rfl jm_atI))
theorem jm_g40 : jv_gf (jm_H m I A L rest z) m 0 40 = some (.int (I 40)) := jv_gf_of (jm_cell0 rfl) rfl
theorem jm_p40 {v : Int32} : jv_pf (jm_H m I A L rest z) m 0 40 (.int v) = some (jm_H m (upd I 40 v) A L rest z) := (jv_pf_of (jm_cell0 rfl) (Nat.le_of_ble_eq_true rfl) rfl rfl).trans (congrArg some (jm_upd (j := 0) rfl rfl jm_atI))
theorem jm_g41 : jv_gf (jm_H m I A L rest z) m 0 41 = some (.int (I 41)) := jv_gf_of (jm_cell0 rfl) rfl
theorem jm_p41 {v : Int32} : jv_pf (jm_H m I A L rest z) m 0 41 (.int v) = some (jm_H m (upd I 41 v) A L rest z) := (jv_pf_of (jm_cell0 rfl) (Nat.le_of_ble_eq_true rfl) rfl rfl).trans (congrArg some (jm_upd (j := 0) rfl rfl jm_atI))
theorem jm_g42 : jv_gf (jm_H m I A L rest z) m 0 42 = some (.int (I 42)) := jv_gf_of (jm_cell0 rfl) rfl
theorem jm_p42 {v : Int32} : jv_pf (jm_H m I A L rest z) m 0 42 (.int v) = some (jm_H m (upd I 42 v) A L rest z) := (jv_pf_of (jm_cell0 rfl) (Nat.le_of_ble_eq_true rfl) rfl rfl).trans (congrArg some (jm_upd (j := 0) rfl rfl jm_atI))
theorem jm_g43 : jv_gf (jm_H m I A L rest z) m 0 43 = some (.int (I 43)) := jv_gf_of (jm_cell0 rfl) rfl
theorem jm_p43 {v : Int32} : jv_pf (jm_H m I A L rest z) m 0 43 (.int v) = some (jm_H m (upd I 43 v) A L rest z) := (jv_pf_of (jm_cell0 rfl) (Nat.le_of_ble_eq_true rfl) rfl rfl).trans (congrArg some (jm_upd (j := 0) rfl rfl jm_atI))
theorem jm_l1 {i : Nat} (hi : i < 1000) : jv_al (jm_H m I A L rest z) (m + 1) .long (nI i) = some (.long (L 1 i)) := jv_al_of (jm_cell (j := 1) rfl) rfl hi (by decide)
theorem jm_s1 {i : Nat} {v : Int64} (hi : i < 1000) : jv_as (jm_H m I A L rest z) (m + 1) .long (nI i) (.long v) = some (jm_H m I A (va_up L 1 (vp_updL (L 1) i v)) rest z) := by
  refine (jv_as_of (jm_cell (j := 1) rfl) (by decide) rfl hi (by decide)).trans (congrArg some (jm_upd (j := 1) rfl ?_ (fun k hk => ?_)))
  · refine congrArg (fun f => some (Sum.inr (1, 1000, f))) ?_
    funext q
    by_cases hq : q = i <;> simp [updV, va_up, vp_updL, hq]
  · match k, hk with
    | 0, _ => rfl
    | 1, hk => exact absurd rfl hk
    | 2, _ => rfl
    | 3, _ => rfl
    | 4, _ => rfl
    | 5, _ => rfl
    | 6, _ => rfl
    | 7, _ => rfl
    | 8, _ => rfl
    | 9, _ => rfl
    | 10, _ => rfl
    | 11, _ => rfl
    | 12, _ => rfl
    | 13, _ => rfl
    | 14, _ => rfl
    | 15, _ => rfl
    | 16, _ => rfl
    | 17, _ => rfl
    | 18, _ => rfl
    | 19, _ => rfl
    | 20, _ => rfl
    | 21, _ => rfl
    | 22, _ => rfl
    | 23, _ => rfl
    | 24, _ => rfl
    | 25, _ => rfl
    | 26, _ => rfl
    | k + 27, _ => rfl
theorem jm_l3 {i : Nat} (hi : i < 2000) : jv_al (jm_H m I A L rest z) (m + 2) .int (nI i) = some (.int (A 3 i)) := jv_al_of (jm_cell (j := 2) rfl) rfl hi (by decide)
theorem jm_s3 {i : Nat} {v : Int32} (hi : i < 2000) : jv_as (jm_H m I A L rest z) (m + 2) .int (nI i) (.int v) = some (jm_H m I (va_up A 3 (upd (A 3) i v)) L rest z) := by
  refine (jv_as_of (jm_cell (j := 2) rfl) (by decide) rfl hi (by decide)).trans (congrArg some (jm_upd (j := 2) rfl ?_ (fun k hk => ?_)))
  · refine congrArg (fun f => some (Sum.inr (0, 2000, f))) ?_
    funext q
    by_cases hq : q = i <;> simp [updV, va_up, upd, hq]
  · match k, hk with
    | 0, _ => rfl
    | 1, _ => rfl
    | 2, hk => exact absurd rfl hk
    | 3, _ => rfl
    | 4, _ => rfl
    | 5, _ => rfl
    | 6, _ => rfl
    | 7, _ => rfl
    | 8, _ => rfl
    | 9, _ => rfl
    | 10, _ => rfl
    | 11, _ => rfl
    | 12, _ => rfl
    | 13, _ => rfl
    | 14, _ => rfl
    | 15, _ => rfl
    | 16, _ => rfl
    | 17, _ => rfl
    | 18, _ => rfl
    | 19, _ => rfl
    | 20, _ => rfl
    | 21, _ => rfl
    | 22, _ => rfl
    | 23, _ => rfl
    | 24, _ => rfl
    | 25, _ => rfl
    | 26, _ => rfl
    | k + 27, _ => rfl
theorem jm_l6 {i : Nat} (hi : i < 12) : jv_al (jm_H m I A L rest z) (m + 3) .int (nI i) = some (.int (A 6 i)) := jv_al_of (jm_cell (j := 3) rfl) rfl hi (by decide)
theorem jm_s6 {i : Nat} {v : Int32} (hi : i < 12) : jv_as (jm_H m I A L rest z) (m + 3) .int (nI i) (.int v) = some (jm_H m I (va_up A 6 (upd (A 6) i v)) L rest z) := by
  refine (jv_as_of (jm_cell (j := 3) rfl) (by decide) rfl hi (by decide)).trans (congrArg some (jm_upd (j := 3) rfl ?_ (fun k hk => ?_)))
  · refine congrArg (fun f => some (Sum.inr (0, 12, f))) ?_
    funext q
    by_cases hq : q = i <;> simp [updV, va_up, upd, hq]
  · match k, hk with
    | 0, _ => rfl
    | 1, _ => rfl
    | 2, _ => rfl
    | 3, hk => exact absurd rfl hk
    | 4, _ => rfl
    | 5, _ => rfl
    | 6, _ => rfl
    | 7, _ => rfl
    | 8, _ => rfl
    | 9, _ => rfl
    | 10, _ => rfl
    | 11, _ => rfl
    | 12, _ => rfl
    | 13, _ => rfl
    | 14, _ => rfl
    | 15, _ => rfl
    | 16, _ => rfl
    | 17, _ => rfl
    | 18, _ => rfl
    | 19, _ => rfl
    | 20, _ => rfl
    | 21, _ => rfl
    | 22, _ => rfl
    | 23, _ => rfl
    | 24, _ => rfl
    | 25, _ => rfl
    | 26, _ => rfl
    | k + 27, _ => rfl
theorem jm_l7 {i : Nat} (hi : i < 12) : jv_al (jm_H m I A L rest z) (m + 4) .int (nI i) = some (.int (A 7 i)) := jv_al_of (jm_cell (j := 4) rfl) rfl hi (by decide)
theorem jm_s7 {i : Nat} {v : Int32} (hi : i < 12) : jv_as (jm_H m I A L rest z) (m + 4) .int (nI i) (.int v) = some (jm_H m I (va_up A 7 (upd (A 7) i v)) L rest z) := by
  refine (jv_as_of (jm_cell (j := 4) rfl) (by decide) rfl hi (by decide)).trans (congrArg some (jm_upd (j := 4) rfl ?_ (fun k hk => ?_)))
  · refine congrArg (fun f => some (Sum.inr (0, 12, f))) ?_
    funext q
    by_cases hq : q = i <;> simp [updV, va_up, upd, hq]
  · match k, hk with
    | 0, _ => rfl
    | 1, _ => rfl
    | 2, _ => rfl
    | 3, _ => rfl
    | 4, hk => exact absurd rfl hk
    | 5, _ => rfl
    | 6, _ => rfl
    | 7, _ => rfl
    | 8, _ => rfl
    | 9, _ => rfl
    | 10, _ => rfl
    | 11, _ => rfl
    | 12, _ => rfl
    | 13, _ => rfl
    | 14, _ => rfl
    | 15, _ => rfl
    | 16, _ => rfl
    | 17, _ => rfl
    | 18, _ => rfl
    | 19, _ => rfl
    | 20, _ => rfl
    | 21, _ => rfl
    | 22, _ => rfl
    | 23, _ => rfl
    | 24, _ => rfl
    | 25, _ => rfl
    | 26, _ => rfl
    | k + 27, _ => rfl
theorem jm_l8 {i : Nat} (hi : i < 12) : jv_al (jm_H m I A L rest z) (m + 5) .int (nI i) = some (.int (A 8 i)) := jv_al_of (jm_cell (j := 5) rfl) rfl hi (by decide)
theorem jm_s8 {i : Nat} {v : Int32} (hi : i < 12) : jv_as (jm_H m I A L rest z) (m + 5) .int (nI i) (.int v) = some (jm_H m I (va_up A 8 (upd (A 8) i v)) L rest z) := by
  refine (jv_as_of (jm_cell (j := 5) rfl) (by decide) rfl hi (by decide)).trans (congrArg some (jm_upd (j := 5) rfl ?_ (fun k hk => ?_)))
  · refine congrArg (fun f => some (Sum.inr (0, 12, f))) ?_
    funext q
    by_cases hq : q = i <;> simp [updV, va_up, upd, hq]
  · match k, hk with
    | 0, _ => rfl
    | 1, _ => rfl
    | 2, _ => rfl
    | 3, _ => rfl
    | 4, _ => rfl
    | 5, hk => exact absurd rfl hk
    | 6, _ => rfl
    | 7, _ => rfl
    | 8, _ => rfl
    | 9, _ => rfl
    | 10, _ => rfl
    | 11, _ => rfl
    | 12, _ => rfl
    | 13, _ => rfl
    | 14, _ => rfl
    | 15, _ => rfl
    | 16, _ => rfl
    | 17, _ => rfl
    | 18, _ => rfl
    | 19, _ => rfl
    | 20, _ => rfl
    | 21, _ => rfl
    | 22, _ => rfl
    | 23, _ => rfl
    | 24, _ => rfl
    | 25, _ => rfl
    | 26, _ => rfl
    | k + 27, _ => rfl
theorem jm_l9 {i : Nat} (hi : i < 12) : jv_al (jm_H m I A L rest z) (m + 6) .int (nI i) = some (.int (A 9 i)) := jv_al_of (jm_cell (j := 6) rfl) rfl hi (by decide)
theorem jm_s9 {i : Nat} {v : Int32} (hi : i < 12) : jv_as (jm_H m I A L rest z) (m + 6) .int (nI i) (.int v) = some (jm_H m I (va_up A 9 (upd (A 9) i v)) L rest z) := by
  refine (jv_as_of (jm_cell (j := 6) rfl) (by decide) rfl hi (by decide)).trans (congrArg some (jm_upd (j := 6) rfl ?_ (fun k hk => ?_)))
  · refine congrArg (fun f => some (Sum.inr (0, 12, f))) ?_
    funext q
    by_cases hq : q = i <;> simp [updV, va_up, upd, hq]
  · match k, hk with
    | 0, _ => rfl
    | 1, _ => rfl
    | 2, _ => rfl
    | 3, _ => rfl
    | 4, _ => rfl
    | 5, _ => rfl
    | 6, hk => exact absurd rfl hk
    | 7, _ => rfl
    | 8, _ => rfl
    | 9, _ => rfl
    | 10, _ => rfl
    | 11, _ => rfl
    | 12, _ => rfl
    | 13, _ => rfl
    | 14, _ => rfl
    | 15, _ => rfl
    | 16, _ => rfl
    | 17, _ => rfl
    | 18, _ => rfl
    | 19, _ => rfl
    | 20, _ => rfl
    | 21, _ => rfl
    | 22, _ => rfl
    | 23, _ => rfl
    | 24, _ => rfl
    | 25, _ => rfl
    | 26, _ => rfl
    | k + 27, _ => rfl
theorem jm_l10 {i : Nat} (hi : i < 12) : jv_al (jm_H m I A L rest z) (m + 7) .long (nI i) = some (.long (L 10 i)) := jv_al_of (jm_cell (j := 7) rfl) rfl hi (by decide)
theorem jm_s10 {i : Nat} {v : Int64} (hi : i < 12) : jv_as (jm_H m I A L rest z) (m + 7) .long (nI i) (.long v) = some (jm_H m I A (va_up L 10 (vp_updL (L 10) i v)) rest z) := by
  refine (jv_as_of (jm_cell (j := 7) rfl) (by decide) rfl hi (by decide)).trans (congrArg some (jm_upd (j := 7) rfl ?_ (fun k hk => ?_)))
  · refine congrArg (fun f => some (Sum.inr (1, 12, f))) ?_
    funext q
    by_cases hq : q = i <;> simp [updV, va_up, vp_updL, hq]
  · match k, hk with
    | 0, _ => rfl
    | 1, _ => rfl
    | 2, _ => rfl
    | 3, _ => rfl
    | 4, _ => rfl
    | 5, _ => rfl
    | 6, _ => rfl
    | 7, hk => exact absurd rfl hk
    | 8, _ => rfl
    | 9, _ => rfl
    | 10, _ => rfl
    | 11, _ => rfl
    | 12, _ => rfl
    | 13, _ => rfl
    | 14, _ => rfl
    | 15, _ => rfl
    | 16, _ => rfl
    | 17, _ => rfl
    | 18, _ => rfl
    | 19, _ => rfl
    | 20, _ => rfl
    | 21, _ => rfl
    | 22, _ => rfl
    | 23, _ => rfl
    | 24, _ => rfl
    | 25, _ => rfl
    | 26, _ => rfl
    | k + 27, _ => rfl
theorem jm_l11 {i : Nat} (hi : i < 1536) : jv_al (jm_H m I A L rest z) (m + 8) .int (nI i) = some (.int (A 11 i)) := jv_al_of (jm_cell (j := 8) rfl) rfl hi (by decide)
theorem jm_s11 {i : Nat} {v : Int32} (hi : i < 1536) : jv_as (jm_H m I A L rest z) (m + 8) .int (nI i) (.int v) = some (jm_H m I (va_up A 11 (upd (A 11) i v)) L rest z) := by
  refine (jv_as_of (jm_cell (j := 8) rfl) (by decide) rfl hi (by decide)).trans (congrArg some (jm_upd (j := 8) rfl ?_ (fun k hk => ?_)))
  · refine congrArg (fun f => some (Sum.inr (0, 1536, f))) ?_
    funext q
    by_cases hq : q = i <;> simp [updV, va_up, upd, hq]
  · match k, hk with
    | 0, _ => rfl
    | 1, _ => rfl
    | 2, _ => rfl
    | 3, _ => rfl
    | 4, _ => rfl
    | 5, _ => rfl
    | 6, _ => rfl
    | 7, _ => rfl
    | 8, hk => exact absurd rfl hk
    | 9, _ => rfl
    | 10, _ => rfl
    | 11, _ => rfl
    | 12, _ => rfl
    | 13, _ => rfl
    | 14, _ => rfl
    | 15, _ => rfl
    | 16, _ => rfl
    | 17, _ => rfl
    | 18, _ => rfl
    | 19, _ => rfl
    | 20, _ => rfl
    | 21, _ => rfl
    | 22, _ => rfl
    | 23, _ => rfl
    | 24, _ => rfl
    | 25, _ => rfl
    | 26, _ => rfl
    | k + 27, _ => rfl
theorem jm_l12 {i : Nat} (hi : i < 12288) : jv_al (jm_H m I A L rest z) (m + 9) .long (nI i) = some (.long (L 12 i)) := jv_al_of (jm_cell (j := 9) rfl) rfl hi (by decide)
theorem jm_s12 {i : Nat} {v : Int64} (hi : i < 12288) : jv_as (jm_H m I A L rest z) (m + 9) .long (nI i) (.long v) = some (jm_H m I A (va_up L 12 (vp_updL (L 12) i v)) rest z) := by
  refine (jv_as_of (jm_cell (j := 9) rfl) (by decide) rfl hi (by decide)).trans (congrArg some (jm_upd (j := 9) rfl ?_ (fun k hk => ?_)))
  · refine congrArg (fun f => some (Sum.inr (1, 12288, f))) ?_
    funext q
    by_cases hq : q = i <;> simp [updV, va_up, vp_updL, hq]
  · match k, hk with
    | 0, _ => rfl
    | 1, _ => rfl
    | 2, _ => rfl
    | 3, _ => rfl
    | 4, _ => rfl
    | 5, _ => rfl
    | 6, _ => rfl
    | 7, _ => rfl
    | 8, _ => rfl
    | 9, hk => exact absurd rfl hk
    | 10, _ => rfl
    | 11, _ => rfl
    | 12, _ => rfl
    | 13, _ => rfl
    | 14, _ => rfl
    | 15, _ => rfl
    | 16, _ => rfl
    | 17, _ => rfl
    | 18, _ => rfl
    | 19, _ => rfl
    | 20, _ => rfl
    | 21, _ => rfl
    | 22, _ => rfl
    | 23, _ => rfl
    | 24, _ => rfl
    | 25, _ => rfl
    | 26, _ => rfl
    | k + 27, _ => rfl
theorem jm_l13 {i : Nat} (hi : i < 24000) : jv_al (jm_H m I A L rest z) (m + 10) .int (nI i) = some (.int (A 13 i)) := jv_al_of (jm_cell (j := 10) rfl) rfl hi (by decide)
theorem jm_s13 {i : Nat} {v : Int32} (hi : i < 24000) : jv_as (jm_H m I A L rest z) (m + 10) .int (nI i) (.int v) = some (jm_H m I (va_up A 13 (upd (A 13) i v)) L rest z) := by
  refine (jv_as_of (jm_cell (j := 10) rfl) (by decide) rfl hi (by decide)).trans (congrArg some (jm_upd (j := 10) rfl ?_ (fun k hk => ?_)))
  · refine congrArg (fun f => some (Sum.inr (0, 24000, f))) ?_
    funext q
    by_cases hq : q = i <;> simp [updV, va_up, upd, hq]
  · match k, hk with
    | 0, _ => rfl
    | 1, _ => rfl
    | 2, _ => rfl
    | 3, _ => rfl
    | 4, _ => rfl
    | 5, _ => rfl
    | 6, _ => rfl
    | 7, _ => rfl
    | 8, _ => rfl
    | 9, _ => rfl
    | 10, hk => exact absurd rfl hk
    | 11, _ => rfl
    | 12, _ => rfl
    | 13, _ => rfl
    | 14, _ => rfl
    | 15, _ => rfl
    | 16, _ => rfl
    | 17, _ => rfl
    | 18, _ => rfl
    | 19, _ => rfl
    | 20, _ => rfl
    | 21, _ => rfl
    | 22, _ => rfl
    | 23, _ => rfl
    | 24, _ => rfl
    | 25, _ => rfl
    | 26, _ => rfl
    | k + 27, _ => rfl
theorem jm_l14 {i : Nat} (hi : i < 12) : jv_al (jm_H m I A L rest z) (m + 11) .int (nI i) = some (.int (A 14 i)) := jv_al_of (jm_cell (j := 11) rfl) rfl hi (by decide)
theorem jm_s14 {i : Nat} {v : Int32} (hi : i < 12) : jv_as (jm_H m I A L rest z) (m + 11) .int (nI i) (.int v) = some (jm_H m I (va_up A 14 (upd (A 14) i v)) L rest z) := by
  refine (jv_as_of (jm_cell (j := 11) rfl) (by decide) rfl hi (by decide)).trans (congrArg some (jm_upd (j := 11) rfl ?_ (fun k hk => ?_)))
  · refine congrArg (fun f => some (Sum.inr (0, 12, f))) ?_
    funext q
    by_cases hq : q = i <;> simp [updV, va_up, upd, hq]
  · match k, hk with
    | 0, _ => rfl
    | 1, _ => rfl
    | 2, _ => rfl
    | 3, _ => rfl
    | 4, _ => rfl
    | 5, _ => rfl
    | 6, _ => rfl
    | 7, _ => rfl
    | 8, _ => rfl
    | 9, _ => rfl
    | 10, _ => rfl
    | 11, hk => exact absurd rfl hk
    | 12, _ => rfl
    | 13, _ => rfl
    | 14, _ => rfl
    | 15, _ => rfl
    | 16, _ => rfl
    | 17, _ => rfl
    | 18, _ => rfl
    | 19, _ => rfl
    | 20, _ => rfl
    | 21, _ => rfl
    | 22, _ => rfl
    | 23, _ => rfl
    | 24, _ => rfl
    | 25, _ => rfl
    | 26, _ => rfl
    | k + 27, _ => rfl
theorem jm_l15 {i : Nat} (hi : i < 12) : jv_al (jm_H m I A L rest z) (m + 12) .int (nI i) = some (.int (A 15 i)) := jv_al_of (jm_cell (j := 12) rfl) rfl hi (by decide)
theorem jm_s15 {i : Nat} {v : Int32} (hi : i < 12) : jv_as (jm_H m I A L rest z) (m + 12) .int (nI i) (.int v) = some (jm_H m I (va_up A 15 (upd (A 15) i v)) L rest z) := by
  refine (jv_as_of (jm_cell (j := 12) rfl) (by decide) rfl hi (by decide)).trans (congrArg some (jm_upd (j := 12) rfl ?_ (fun k hk => ?_)))
  · refine congrArg (fun f => some (Sum.inr (0, 12, f))) ?_
    funext q
    by_cases hq : q = i <;> simp [updV, va_up, upd, hq]
  · match k, hk with
    | 0, _ => rfl
    | 1, _ => rfl
    | 2, _ => rfl
    | 3, _ => rfl
    | 4, _ => rfl
    | 5, _ => rfl
    | 6, _ => rfl
    | 7, _ => rfl
    | 8, _ => rfl
    | 9, _ => rfl
    | 10, _ => rfl
    | 11, _ => rfl
    | 12, hk => exact absurd rfl hk
    | 13, _ => rfl
    | 14, _ => rfl
    | 15, _ => rfl
    | 16, _ => rfl
    | 17, _ => rfl
    | 18, _ => rfl
    | 19, _ => rfl
    | 20, _ => rfl
    | 21, _ => rfl
    | 22, _ => rfl
    | 23, _ => rfl
    | 24, _ => rfl
    | 25, _ => rfl
    | 26, _ => rfl
    | k + 27, _ => rfl
theorem jm_l16 {i : Nat} (hi : i < 4800) : jv_al (jm_H m I A L rest z) (m + 13) .int (nI i) = some (.int (A 16 i)) := jv_al_of (jm_cell (j := 13) rfl) rfl hi (by decide)
theorem jm_s16 {i : Nat} {v : Int32} (hi : i < 4800) : jv_as (jm_H m I A L rest z) (m + 13) .int (nI i) (.int v) = some (jm_H m I (va_up A 16 (upd (A 16) i v)) L rest z) := by
  refine (jv_as_of (jm_cell (j := 13) rfl) (by decide) rfl hi (by decide)).trans (congrArg some (jm_upd (j := 13) rfl ?_ (fun k hk => ?_)))
  · refine congrArg (fun f => some (Sum.inr (0, 4800, f))) ?_
    funext q
    by_cases hq : q = i <;> simp [updV, va_up, upd, hq]
  · match k, hk with
    | 0, _ => rfl
    | 1, _ => rfl
    | 2, _ => rfl
    | 3, _ => rfl
    | 4, _ => rfl
    | 5, _ => rfl
    | 6, _ => rfl
    | 7, _ => rfl
    | 8, _ => rfl
    | 9, _ => rfl
    | 10, _ => rfl
    | 11, _ => rfl
    | 12, _ => rfl
    | 13, hk => exact absurd rfl hk
    | 14, _ => rfl
    | 15, _ => rfl
    | 16, _ => rfl
    | 17, _ => rfl
    | 18, _ => rfl
    | 19, _ => rfl
    | 20, _ => rfl
    | 21, _ => rfl
    | 22, _ => rfl
    | 23, _ => rfl
    | 24, _ => rfl
    | 25, _ => rfl
    | 26, _ => rfl
    | k + 27, _ => rfl
theorem jm_l17 {i : Nat} (hi : i < 12) : jv_al (jm_H m I A L rest z) (m + 14) .int (nI i) = some (.int (A 17 i)) := jv_al_of (jm_cell (j := 14) rfl) rfl hi (by decide)
theorem jm_s17 {i : Nat} {v : Int32} (hi : i < 12) : jv_as (jm_H m I A L rest z) (m + 14) .int (nI i) (.int v) = some (jm_H m I (va_up A 17 (upd (A 17) i v)) L rest z) := by
  refine (jv_as_of (jm_cell (j := 14) rfl) (by decide) rfl hi (by decide)).trans (congrArg some (jm_upd (j := 14) rfl ?_ (fun k hk => ?_)))
  · refine congrArg (fun f => some (Sum.inr (0, 12, f))) ?_
    funext q
    by_cases hq : q = i <;> simp [updV, va_up, upd, hq]
  · match k, hk with
    | 0, _ => rfl
    | 1, _ => rfl
    | 2, _ => rfl
    | 3, _ => rfl
    | 4, _ => rfl
    | 5, _ => rfl
    | 6, _ => rfl
    | 7, _ => rfl
    | 8, _ => rfl
    | 9, _ => rfl
    | 10, _ => rfl
    | 11, _ => rfl
    | 12, _ => rfl
    | 13, _ => rfl
    | 14, hk => exact absurd rfl hk
    | 15, _ => rfl
    | 16, _ => rfl
    | 17, _ => rfl
    | 18, _ => rfl
    | 19, _ => rfl
    | 20, _ => rfl
    | 21, _ => rfl
    | 22, _ => rfl
    | 23, _ => rfl
    | 24, _ => rfl
    | 25, _ => rfl
    | 26, _ => rfl
    | k + 27, _ => rfl
theorem jm_l18 {i : Nat} (hi : i < 12) : jv_al (jm_H m I A L rest z) (m + 15) .int (nI i) = some (.int (A 18 i)) := jv_al_of (jm_cell (j := 15) rfl) rfl hi (by decide)
theorem jm_s18 {i : Nat} {v : Int32} (hi : i < 12) : jv_as (jm_H m I A L rest z) (m + 15) .int (nI i) (.int v) = some (jm_H m I (va_up A 18 (upd (A 18) i v)) L rest z) := by
  refine (jv_as_of (jm_cell (j := 15) rfl) (by decide) rfl hi (by decide)).trans (congrArg some (jm_upd (j := 15) rfl ?_ (fun k hk => ?_)))
  · refine congrArg (fun f => some (Sum.inr (0, 12, f))) ?_
    funext q
    by_cases hq : q = i <;> simp [updV, va_up, upd, hq]
  · match k, hk with
    | 0, _ => rfl
    | 1, _ => rfl
    | 2, _ => rfl
    | 3, _ => rfl
    | 4, _ => rfl
    | 5, _ => rfl
    | 6, _ => rfl
    | 7, _ => rfl
    | 8, _ => rfl
    | 9, _ => rfl
    | 10, _ => rfl
    | 11, _ => rfl
    | 12, _ => rfl
    | 13, _ => rfl
    | 14, _ => rfl
    | 15, hk => exact absurd rfl hk
    | 16, _ => rfl
    | 17, _ => rfl
    | 18, _ => rfl
    | 19, _ => rfl
    | 20, _ => rfl
    | 21, _ => rfl
    | 22, _ => rfl
    | 23, _ => rfl
    | 24, _ => rfl
    | 25, _ => rfl
    | 26, _ => rfl
    | k + 27, _ => rfl
theorem jm_l19 {i : Nat} (hi : i < 12) : jv_al (jm_H m I A L rest z) (m + 16) .int (nI i) = some (.int (A 19 i)) := jv_al_of (jm_cell (j := 16) rfl) rfl hi (by decide)
theorem jm_s19 {i : Nat} {v : Int32} (hi : i < 12) : jv_as (jm_H m I A L rest z) (m + 16) .int (nI i) (.int v) = some (jm_H m I (va_up A 19 (upd (A 19) i v)) L rest z) := by
  refine (jv_as_of (jm_cell (j := 16) rfl) (by decide) rfl hi (by decide)).trans (congrArg some (jm_upd (j := 16) rfl ?_ (fun k hk => ?_)))
  · refine congrArg (fun f => some (Sum.inr (0, 12, f))) ?_
    funext q
    by_cases hq : q = i <;> simp [updV, va_up, upd, hq]
  · match k, hk with
    | 0, _ => rfl
    | 1, _ => rfl
    | 2, _ => rfl
    | 3, _ => rfl
    | 4, _ => rfl
    | 5, _ => rfl
    | 6, _ => rfl
    | 7, _ => rfl
    | 8, _ => rfl
    | 9, _ => rfl
    | 10, _ => rfl
    | 11, _ => rfl
    | 12, _ => rfl
    | 13, _ => rfl
    | 14, _ => rfl
    | 15, _ => rfl
    | 16, hk => exact absurd rfl hk
    | 17, _ => rfl
    | 18, _ => rfl
    | 19, _ => rfl
    | 20, _ => rfl
    | 21, _ => rfl
    | 22, _ => rfl
    | 23, _ => rfl
    | 24, _ => rfl
    | 25, _ => rfl
    | 26, _ => rfl
    | k + 27, _ => rfl
theorem jm_l20 {i : Nat} (hi : i < 768) : jv_al (jm_H m I A L rest z) (m + 17) .boolean (nI i) = some (.int (A 20 i)) := jv_al_of (jm_cell (j := 17) rfl) rfl hi (by decide)
theorem jm_s20 {i : Nat} {v : Int32} (hi : i < 768) : jv_as (jm_H m I A L rest z) (m + 17) .boolean (nI i) (.int v) = some (jm_H m I (va_up A 20 (upd (A 20) i v)) L rest z) := by
  refine (jv_as_of (jm_cell (j := 17) rfl) (by decide) rfl hi (by decide)).trans (congrArg some (jm_upd (j := 17) rfl ?_ (fun k hk => ?_)))
  · refine congrArg (fun f => some (Sum.inr (2, 768, f))) ?_
    funext q
    by_cases hq : q = i <;> simp [updV, va_up, upd, hq]
  · match k, hk with
    | 0, _ => rfl
    | 1, _ => rfl
    | 2, _ => rfl
    | 3, _ => rfl
    | 4, _ => rfl
    | 5, _ => rfl
    | 6, _ => rfl
    | 7, _ => rfl
    | 8, _ => rfl
    | 9, _ => rfl
    | 10, _ => rfl
    | 11, _ => rfl
    | 12, _ => rfl
    | 13, _ => rfl
    | 14, _ => rfl
    | 15, _ => rfl
    | 16, _ => rfl
    | 17, hk => exact absurd rfl hk
    | 18, _ => rfl
    | 19, _ => rfl
    | 20, _ => rfl
    | 21, _ => rfl
    | 22, _ => rfl
    | 23, _ => rfl
    | 24, _ => rfl
    | 25, _ => rfl
    | 26, _ => rfl
    | k + 27, _ => rfl
theorem jm_l21 {i : Nat} (hi : i < 768) : jv_al (jm_H m I A L rest z) (m + 18) .int (nI i) = some (.int (A 21 i)) := jv_al_of (jm_cell (j := 18) rfl) rfl hi (by decide)
theorem jm_s21 {i : Nat} {v : Int32} (hi : i < 768) : jv_as (jm_H m I A L rest z) (m + 18) .int (nI i) (.int v) = some (jm_H m I (va_up A 21 (upd (A 21) i v)) L rest z) := by
  refine (jv_as_of (jm_cell (j := 18) rfl) (by decide) rfl hi (by decide)).trans (congrArg some (jm_upd (j := 18) rfl ?_ (fun k hk => ?_)))
  · refine congrArg (fun f => some (Sum.inr (0, 768, f))) ?_
    funext q
    by_cases hq : q = i <;> simp [updV, va_up, upd, hq]
  · match k, hk with
    | 0, _ => rfl
    | 1, _ => rfl
    | 2, _ => rfl
    | 3, _ => rfl
    | 4, _ => rfl
    | 5, _ => rfl
    | 6, _ => rfl
    | 7, _ => rfl
    | 8, _ => rfl
    | 9, _ => rfl
    | 10, _ => rfl
    | 11, _ => rfl
    | 12, _ => rfl
    | 13, _ => rfl
    | 14, _ => rfl
    | 15, _ => rfl
    | 16, _ => rfl
    | 17, _ => rfl
    | 18, hk => exact absurd rfl hk
    | 19, _ => rfl
    | 20, _ => rfl
    | 21, _ => rfl
    | 22, _ => rfl
    | 23, _ => rfl
    | 24, _ => rfl
    | 25, _ => rfl
    | 26, _ => rfl
    | k + 27, _ => rfl
theorem jm_l23 {i : Nat} (hi : i < 17) : jv_al (jm_H m I A L rest z) (m + 19) .int (nI i) = some (.int (A 23 i)) := jv_al_of (jm_cell (j := 19) rfl) rfl hi (by decide)
theorem jm_s23 {i : Nat} {v : Int32} (hi : i < 17) : jv_as (jm_H m I A L rest z) (m + 19) .int (nI i) (.int v) = some (jm_H m I (va_up A 23 (upd (A 23) i v)) L rest z) := by
  refine (jv_as_of (jm_cell (j := 19) rfl) (by decide) rfl hi (by decide)).trans (congrArg some (jm_upd (j := 19) rfl ?_ (fun k hk => ?_)))
  · refine congrArg (fun f => some (Sum.inr (0, 17, f))) ?_
    funext q
    by_cases hq : q = i <;> simp [updV, va_up, upd, hq]
  · match k, hk with
    | 0, _ => rfl
    | 1, _ => rfl
    | 2, _ => rfl
    | 3, _ => rfl
    | 4, _ => rfl
    | 5, _ => rfl
    | 6, _ => rfl
    | 7, _ => rfl
    | 8, _ => rfl
    | 9, _ => rfl
    | 10, _ => rfl
    | 11, _ => rfl
    | 12, _ => rfl
    | 13, _ => rfl
    | 14, _ => rfl
    | 15, _ => rfl
    | 16, _ => rfl
    | 17, _ => rfl
    | 18, _ => rfl
    | 19, hk => exact absurd rfl hk
    | 20, _ => rfl
    | 21, _ => rfl
    | 22, _ => rfl
    | 23, _ => rfl
    | 24, _ => rfl
    | 25, _ => rfl
    | 26, _ => rfl
    | k + 27, _ => rfl
theorem jm_l24 {i : Nat} (hi : i < 17) : jv_al (jm_H m I A L rest z) (m + 20) .int (nI i) = some (.int (A 24 i)) := jv_al_of (jm_cell (j := 20) rfl) rfl hi (by decide)
theorem jm_s24 {i : Nat} {v : Int32} (hi : i < 17) : jv_as (jm_H m I A L rest z) (m + 20) .int (nI i) (.int v) = some (jm_H m I (va_up A 24 (upd (A 24) i v)) L rest z) := by
  refine (jv_as_of (jm_cell (j := 20) rfl) (by decide) rfl hi (by decide)).trans (congrArg some (jm_upd (j := 20) rfl ?_ (fun k hk => ?_)))
  · refine congrArg (fun f => some (Sum.inr (0, 17, f))) ?_
    funext q
    by_cases hq : q = i <;> simp [updV, va_up, upd, hq]
  · match k, hk with
    | 0, _ => rfl
    | 1, _ => rfl
    | 2, _ => rfl
    | 3, _ => rfl
    | 4, _ => rfl
    | 5, _ => rfl
    | 6, _ => rfl
    | 7, _ => rfl
    | 8, _ => rfl
    | 9, _ => rfl
    | 10, _ => rfl
    | 11, _ => rfl
    | 12, _ => rfl
    | 13, _ => rfl
    | 14, _ => rfl
    | 15, _ => rfl
    | 16, _ => rfl
    | 17, _ => rfl
    | 18, _ => rfl
    | 19, _ => rfl
    | 20, hk => exact absurd rfl hk
    | 21, _ => rfl
    | 22, _ => rfl
    | 23, _ => rfl
    | 24, _ => rfl
    | 25, _ => rfl
    | 26, _ => rfl
    | k + 27, _ => rfl
theorem jm_l25 {i : Nat} (hi : i < 17) : jv_al (jm_H m I A L rest z) (m + 21) .int (nI i) = some (.int (A 25 i)) := jv_al_of (jm_cell (j := 21) rfl) rfl hi (by decide)
theorem jm_s25 {i : Nat} {v : Int32} (hi : i < 17) : jv_as (jm_H m I A L rest z) (m + 21) .int (nI i) (.int v) = some (jm_H m I (va_up A 25 (upd (A 25) i v)) L rest z) := by
  refine (jv_as_of (jm_cell (j := 21) rfl) (by decide) rfl hi (by decide)).trans (congrArg some (jm_upd (j := 21) rfl ?_ (fun k hk => ?_)))
  · refine congrArg (fun f => some (Sum.inr (0, 17, f))) ?_
    funext q
    by_cases hq : q = i <;> simp [updV, va_up, upd, hq]
  · match k, hk with
    | 0, _ => rfl
    | 1, _ => rfl
    | 2, _ => rfl
    | 3, _ => rfl
    | 4, _ => rfl
    | 5, _ => rfl
    | 6, _ => rfl
    | 7, _ => rfl
    | 8, _ => rfl
    | 9, _ => rfl
    | 10, _ => rfl
    | 11, _ => rfl
    | 12, _ => rfl
    | 13, _ => rfl
    | 14, _ => rfl
    | 15, _ => rfl
    | 16, _ => rfl
    | 17, _ => rfl
    | 18, _ => rfl
    | 19, _ => rfl
    | 20, _ => rfl
    | 21, hk => exact absurd rfl hk
    | 22, _ => rfl
    | 23, _ => rfl
    | 24, _ => rfl
    | 25, _ => rfl
    | 26, _ => rfl
    | k + 27, _ => rfl
theorem jm_l26 {i : Nat} (hi : i < 17) : jv_al (jm_H m I A L rest z) (m + 22) .boolean (nI i) = some (.int (A 26 i)) := jv_al_of (jm_cell (j := 22) rfl) rfl hi (by decide)
theorem jm_s26 {i : Nat} {v : Int32} (hi : i < 17) : jv_as (jm_H m I A L rest z) (m + 22) .boolean (nI i) (.int v) = some (jm_H m I (va_up A 26 (upd (A 26) i v)) L rest z) := by
  refine (jv_as_of (jm_cell (j := 22) rfl) (by decide) rfl hi (by decide)).trans (congrArg some (jm_upd (j := 22) rfl ?_ (fun k hk => ?_)))
  · refine congrArg (fun f => some (Sum.inr (2, 17, f))) ?_
    funext q
    by_cases hq : q = i <;> simp [updV, va_up, upd, hq]
  · match k, hk with
    | 0, _ => rfl
    | 1, _ => rfl
    | 2, _ => rfl
    | 3, _ => rfl
    | 4, _ => rfl
    | 5, _ => rfl
    | 6, _ => rfl
    | 7, _ => rfl
    | 8, _ => rfl
    | 9, _ => rfl
    | 10, _ => rfl
    | 11, _ => rfl
    | 12, _ => rfl
    | 13, _ => rfl
    | 14, _ => rfl
    | 15, _ => rfl
    | 16, _ => rfl
    | 17, _ => rfl
    | 18, _ => rfl
    | 19, _ => rfl
    | 20, _ => rfl
    | 21, _ => rfl
    | 22, hk => exact absurd rfl hk
    | 23, _ => rfl
    | 24, _ => rfl
    | 25, _ => rfl
    | 26, _ => rfl
    | k + 27, _ => rfl
theorem jm_l27 {i : Nat} (hi : i < 17) : jv_al (jm_H m I A L rest z) (m + 23) .boolean (nI i) = some (.int (A 27 i)) := jv_al_of (jm_cell (j := 23) rfl) rfl hi (by decide)
theorem jm_s27 {i : Nat} {v : Int32} (hi : i < 17) : jv_as (jm_H m I A L rest z) (m + 23) .boolean (nI i) (.int v) = some (jm_H m I (va_up A 27 (upd (A 27) i v)) L rest z) := by
  refine (jv_as_of (jm_cell (j := 23) rfl) (by decide) rfl hi (by decide)).trans (congrArg some (jm_upd (j := 23) rfl ?_ (fun k hk => ?_)))
  · refine congrArg (fun f => some (Sum.inr (2, 17, f))) ?_
    funext q
    by_cases hq : q = i <;> simp [updV, va_up, upd, hq]
  · match k, hk with
    | 0, _ => rfl
    | 1, _ => rfl
    | 2, _ => rfl
    | 3, _ => rfl
    | 4, _ => rfl
    | 5, _ => rfl
    | 6, _ => rfl
    | 7, _ => rfl
    | 8, _ => rfl
    | 9, _ => rfl
    | 10, _ => rfl
    | 11, _ => rfl
    | 12, _ => rfl
    | 13, _ => rfl
    | 14, _ => rfl
    | 15, _ => rfl
    | 16, _ => rfl
    | 17, _ => rfl
    | 18, _ => rfl
    | 19, _ => rfl
    | 20, _ => rfl
    | 21, _ => rfl
    | 22, _ => rfl
    | 23, hk => exact absurd rfl hk
    | 24, _ => rfl
    | 25, _ => rfl
    | 26, _ => rfl
    | k + 27, _ => rfl
theorem jm_l28 {i : Nat} (hi : i < 64) : jv_al (jm_H m I A L rest z) (m + 24) .int (nI i) = some (.int (A 28 i)) := jv_al_of (jm_cell (j := 24) rfl) rfl hi (by decide)
theorem jm_s28 {i : Nat} {v : Int32} (hi : i < 64) : jv_as (jm_H m I A L rest z) (m + 24) .int (nI i) (.int v) = some (jm_H m I (va_up A 28 (upd (A 28) i v)) L rest z) := by
  refine (jv_as_of (jm_cell (j := 24) rfl) (by decide) rfl hi (by decide)).trans (congrArg some (jm_upd (j := 24) rfl ?_ (fun k hk => ?_)))
  · refine congrArg (fun f => some (Sum.inr (0, 64, f))) ?_
    funext q
    by_cases hq : q = i <;> simp [updV, va_up, upd, hq]
  · match k, hk with
    | 0, _ => rfl
    | 1, _ => rfl
    | 2, _ => rfl
    | 3, _ => rfl
    | 4, _ => rfl
    | 5, _ => rfl
    | 6, _ => rfl
    | 7, _ => rfl
    | 8, _ => rfl
    | 9, _ => rfl
    | 10, _ => rfl
    | 11, _ => rfl
    | 12, _ => rfl
    | 13, _ => rfl
    | 14, _ => rfl
    | 15, _ => rfl
    | 16, _ => rfl
    | 17, _ => rfl
    | 18, _ => rfl
    | 19, _ => rfl
    | 20, _ => rfl
    | 21, _ => rfl
    | 22, _ => rfl
    | 23, _ => rfl
    | 24, hk => exact absurd rfl hk
    | 25, _ => rfl
    | 26, _ => rfl
    | k + 27, _ => rfl
theorem jm_l29 {i : Nat} (hi : i < 18) : jv_al (jm_H m I A L rest z) (m + 25) .int (nI i) = some (.int (A 29 i)) := jv_al_of (jm_cell (j := 25) rfl) rfl hi (by decide)
theorem jm_s29 {i : Nat} {v : Int32} (hi : i < 18) : jv_as (jm_H m I A L rest z) (m + 25) .int (nI i) (.int v) = some (jm_H m I (va_up A 29 (upd (A 29) i v)) L rest z) := by
  refine (jv_as_of (jm_cell (j := 25) rfl) (by decide) rfl hi (by decide)).trans (congrArg some (jm_upd (j := 25) rfl ?_ (fun k hk => ?_)))
  · refine congrArg (fun f => some (Sum.inr (0, 18, f))) ?_
    funext q
    by_cases hq : q = i <;> simp [updV, va_up, upd, hq]
  · match k, hk with
    | 0, _ => rfl
    | 1, _ => rfl
    | 2, _ => rfl
    | 3, _ => rfl
    | 4, _ => rfl
    | 5, _ => rfl
    | 6, _ => rfl
    | 7, _ => rfl
    | 8, _ => rfl
    | 9, _ => rfl
    | 10, _ => rfl
    | 11, _ => rfl
    | 12, _ => rfl
    | 13, _ => rfl
    | 14, _ => rfl
    | 15, _ => rfl
    | 16, _ => rfl
    | 17, _ => rfl
    | 18, _ => rfl
    | 19, _ => rfl
    | 20, _ => rfl
    | 21, _ => rfl
    | 22, _ => rfl
    | 23, _ => rfl
    | 24, _ => rfl
    | 25, hk => exact absurd rfl hk
    | 26, _ => rfl
    | k + 27, _ => rfl
theorem jm_l30 {i : Nat} (hi : i < 18) : jv_al (jm_H m I A L rest z) (m + 26) .int (nI i) = some (.int (A 30 i)) := jv_al_of (jm_cell (j := 26) rfl) rfl hi (by decide)
theorem jm_s30 {i : Nat} {v : Int32} (hi : i < 18) : jv_as (jm_H m I A L rest z) (m + 26) .int (nI i) (.int v) = some (jm_H m I (va_up A 30 (upd (A 30) i v)) L rest z) := by
  refine (jv_as_of (jm_cell (j := 26) rfl) (by decide) rfl hi (by decide)).trans (congrArg some (jm_upd (j := 26) rfl ?_ (fun k hk => ?_)))
  · refine congrArg (fun f => some (Sum.inr (0, 18, f))) ?_
    funext q
    by_cases hq : q = i <;> simp [updV, va_up, upd, hq]
  · match k, hk with
    | 0, _ => rfl
    | 1, _ => rfl
    | 2, _ => rfl
    | 3, _ => rfl
    | 4, _ => rfl
    | 5, _ => rfl
    | 6, _ => rfl
    | 7, _ => rfl
    | 8, _ => rfl
    | 9, _ => rfl
    | 10, _ => rfl
    | 11, _ => rfl
    | 12, _ => rfl
    | 13, _ => rfl
    | 14, _ => rfl
    | 15, _ => rfl
    | 16, _ => rfl
    | 17, _ => rfl
    | 18, _ => rfl
    | 19, _ => rfl
    | 20, _ => rfl
    | 21, _ => rfl
    | 22, _ => rfl
    | 23, _ => rfl
    | 24, _ => rfl
    | 25, _ => rfl
    | 26, hk => exact absurd rfl hk
    | k + 27, _ => rfl
theorem jm_cl : jv_cl (jm_H m I A L rest z) m = some 0 := by unfold jv_cl; rw [jm_cell0 rfl]
end JMH
end
section
/-! method 66: DrumMachine$Core.<init> -/
theorem N66 {d : Nat} {b : Nat} {h : jv_H} : jv_run (d + 1) 66 [.ref b] h = jv_ev (jv_run d) 66 0 [some (.ref b)] [] h := jv_run_eq (Nat.le_of_ble_eq_true rfl) rfl
theorem D66_0 : decode (jt_code 66) 0 = .ok (.aload_n 0, 1) := by decide +kernel
theorem E66_0 {call : jv_F} {a : Nat} {st : List Value} {h : jv_H} : jv_ev call 66 0 [some (.ref a)] st h = jv_ev call 66 1 [some (.ref a)] (.ref a :: st) h := je_aload_n (r := some a) D66_0 rfl rfl
theorem D66_1 : decode (jt_code 66) 1 = .ok (.invokespecial 3, 3) := by decide +kernel
theorem E66_1 {call : jv_F} {l0 : Option Value} {b : Nat} {st : List Value} {h : jv_H} (hw : jv_wide st = true) : jv_ev call 66 1 [l0] (.ref b :: st) h = jv_ev call 66 4 [l0] st h := je_obj D66_1 rfl (by decide) hw
theorem D66_4 : decode (jt_code 66) 4 = .ok (.aload_n 0, 1) := by decide +kernel
theorem E66_4 {call : jv_F} {a : Nat} {st : List Value} {h : jv_H} : jv_ev call 66 4 [some (.ref a)] st h = jv_ev call 66 5 [some (.ref a)] (.ref a :: st) h := je_aload_n (r := some a) D66_4 rfl rfl
theorem D66_5 : decode (jt_code 66) 5 = .ok (.bipush 17, 2) := by decide +kernel
theorem E66_5 {call : jv_F} {l0 : Option Value}  {st : List Value} {h : jv_H} : jv_ev call 66 5 [l0] st h = jv_ev call 66 7 [l0] (.int (nI 17) :: st) h := je_bipush D66_5 rfl (by decide)
theorem D66_7 : decode (jt_code 66) 7 = .ok (.anewarray 9, 3) := by decide +kernel
theorem E66_7 {call : jv_F} {l0 : Option Value} {k : Nat} {st : List Value} {h : jv_H} (hk : k ≤ 100000) : jv_ev call 66 7 [l0] (.int (nI k) :: st) h = jv_ev call 66 10 [l0] (.ref h.2.1 :: st) (jv_newa h 3 k .null) := je_anewarray (ci := 1) D66_7 rfl (by decide) (by decide) (by decide) (nI_pos (by omega)) (nI_clamp (by omega)) hk
theorem D66_10 : decode (jt_code 66) 10 = .ok (.putfield 11, 3) := by decide +kernel
theorem E66_10 {call : jv_F} {l0 : Option Value} {a : Nat} {v : Value} {st : List Value} {h : jv_H} (hs : (jv_pf h a 2 0 v).isSome = true) : jv_ev call 66 10 [l0] (v :: .ref a :: st) h = jv_ev call 66 13 [l0] st ((jv_pf h a 2 0 v).getD h) := by
  obtain ⟨h', hv⟩ := Option.isSome_iff_exists.mp hs
  rw [hv]
  exact je_put D66_10 rfl (by decide) (by decide) hv
theorem D66_13 : decode (jt_code 66) 13 = .ok (.aload_n 0, 1) := by decide +kernel
theorem E66_13 {call : jv_F} {a : Nat} {st : List Value} {h : jv_H} : jv_ev call 66 13 [some (.ref a)] st h = jv_ev call 66 14 [some (.ref a)] (.ref a :: st) h := je_aload_n (r := some a) D66_13 rfl rfl
theorem D66_14 : decode (jt_code 66) 14 = .ok (.bipush 7, 2) := by decide +kernel
theorem E66_14 {call : jv_F} {l0 : Option Value}  {st : List Value} {h : jv_H} : jv_ev call 66 14 [l0] st h = jv_ev call 66 16 [l0] (.int (nI 7) :: st) h := je_bipush D66_14 rfl (by decide)
theorem D66_16 : decode (jt_code 66) 16 = .ok (.putfield 17, 3) := by decide +kernel
theorem E66_16 {call : jv_F} {l0 : Option Value} {a : Nat} {v : Value} {st : List Value} {h : jv_H} (hs : (jv_pf h a 2 1 v).isSome = true) : jv_ev call 66 16 [l0] (v :: .ref a :: st) h = jv_ev call 66 19 [l0] st ((jv_pf h a 2 1 v).getD h) := by
  obtain ⟨h', hv⟩ := Option.isSome_iff_exists.mp hs
  rw [hv]
  exact je_put D66_16 rfl (by decide) (by decide) hv
theorem D66_19 : decode (jt_code 66) 19 = .ok (.aload_n 0, 1) := by decide +kernel
theorem E66_19 {call : jv_F} {a : Nat} {st : List Value} {h : jv_H} : jv_ev call 66 19 [some (.ref a)] st h = jv_ev call 66 20 [some (.ref a)] (.ref a :: st) h := je_aload_n (r := some a) D66_19 rfl rfl
theorem D66_20 : decode (jt_code 66) 20 = .ok (.bipush 7, 2) := by decide +kernel
theorem E66_20 {call : jv_F} {l0 : Option Value}  {st : List Value} {h : jv_H} : jv_ev call 66 20 [l0] st h = jv_ev call 66 22 [l0] (.int (nI 7) :: st) h := je_bipush D66_20 rfl (by decide)
theorem D66_22 : decode (jt_code 66) 22 = .ok (.putfield 21, 3) := by decide +kernel
theorem E66_22 {call : jv_F} {l0 : Option Value} {a : Nat} {v : Value} {st : List Value} {h : jv_H} (hs : (jv_pf h a 2 2 v).isSome = true) : jv_ev call 66 22 [l0] (v :: .ref a :: st) h = jv_ev call 66 25 [l0] st ((jv_pf h a 2 2 v).getD h) := by
  obtain ⟨h', hv⟩ := Option.isSome_iff_exists.mp hs
  rw [hv]
  exact je_put D66_22 rfl (by decide) (by decide) hv
theorem D66_25 : decode (jt_code 66) 25 = .ok (.aload_n 0, 1) := by decide +kernel
theorem E66_25 {call : jv_F} {a : Nat} {st : List Value} {h : jv_H} : jv_ev call 66 25 [some (.ref a)] st h = jv_ev call 66 26 [some (.ref a)] (.ref a :: st) h := je_aload_n (r := some a) D66_25 rfl rfl
theorem D66_26 : decode (jt_code 66) 26 = .ok (.iconst 0, 1) := by decide +kernel
theorem E66_26 {call : jv_F} {l0 : Option Value}  {st : List Value} {h : jv_H} : jv_ev call 66 26 [l0] st h = jv_ev call 66 27 [l0] (.int (nI 0) :: st) h := je_iconst D66_26 rfl (by decide)
theorem D66_27 : decode (jt_code 66) 27 = .ok (.putfield 24, 3) := by decide +kernel
theorem E66_27 {call : jv_F} {l0 : Option Value} {a : Nat} {v : Value} {st : List Value} {h : jv_H} (hs : (jv_pf h a 2 3 v).isSome = true) : jv_ev call 66 27 [l0] (v :: .ref a :: st) h = jv_ev call 66 30 [l0] st ((jv_pf h a 2 3 v).getD h) := by
  obtain ⟨h', hv⟩ := Option.isSome_iff_exists.mp hs
  rw [hv]
  exact je_put D66_27 rfl (by decide) (by decide) hv
theorem D66_30 : decode (jt_code 66) 30 = .ok (.return_, 1) := by decide +kernel
theorem E66_30 {call : jv_F} {l0 : Option Value}  {h : jv_H} : jv_ev call 66 30 [l0] [] h = some (none, h) := je_ret D66_30 rfl
/-! method 76: DrumMachine$Drum.<init> -/
theorem N76 {d : Nat} {b : Nat} {h : jv_H} : jv_run (d + 1) 76 [.ref b] h = jv_ev (jv_run d) 76 0 [some (.ref b)] [] h := jv_run_eq (Nat.le_of_ble_eq_true rfl) rfl
theorem D76_0 : decode (jt_code 76) 0 = .ok (.aload_n 0, 1) := by decide +kernel
theorem E76_0 {call : jv_F} {a : Nat} {st : List Value} {h : jv_H} : jv_ev call 76 0 [some (.ref a)] st h = jv_ev call 76 1 [some (.ref a)] (.ref a :: st) h := je_aload_n (r := some a) D76_0 rfl rfl
theorem D76_1 : decode (jt_code 76) 1 = .ok (.invokespecial 3, 3) := by decide +kernel
theorem E76_1 {call : jv_F} {l0 : Option Value} {b : Nat} {st : List Value} {h : jv_H} (hw : jv_wide st = true) : jv_ev call 76 1 [l0] (.ref b :: st) h = jv_ev call 76 4 [l0] st h := je_obj D76_1 rfl (by decide) hw
theorem D76_4 : decode (jt_code 76) 4 = .ok (.aload_n 0, 1) := by decide +kernel
theorem E76_4 {call : jv_F} {a : Nat} {st : List Value} {h : jv_H} : jv_ev call 76 4 [some (.ref a)] st h = jv_ev call 76 5 [some (.ref a)] (.ref a :: st) h := je_aload_n (r := some a) D76_4 rfl rfl
theorem D76_5 : decode (jt_code 76) 5 = .ok (.bipush 64, 2) := by decide +kernel
theorem E76_5 {call : jv_F} {l0 : Option Value}  {st : List Value} {h : jv_H} : jv_ev call 76 5 [l0] st h = jv_ev call 76 7 [l0] (.int (nI 64) :: st) h := je_bipush D76_5 rfl (by decide)
theorem D76_7 : decode (jt_code 76) 7 = .ok (.anewarray 9, 3) := by decide +kernel
theorem E76_7 {call : jv_F} {l0 : Option Value} {k : Nat} {st : List Value} {h : jv_H} (hk : k ≤ 100000) : jv_ev call 76 7 [l0] (.int (nI k) :: st) h = jv_ev call 76 10 [l0] (.ref h.2.1 :: st) (jv_newa h 3 k .null) := je_anewarray (ci := 1) D76_7 rfl (by decide) (by decide) (by decide) (nI_pos (by omega)) (nI_clamp (by omega)) hk
theorem D76_10 : decode (jt_code 76) 10 = .ok (.putfield 11, 3) := by decide +kernel
theorem E76_10 {call : jv_F} {l0 : Option Value} {a : Nat} {v : Value} {st : List Value} {h : jv_H} (hs : (jv_pf h a 3 0 v).isSome = true) : jv_ev call 76 10 [l0] (v :: .ref a :: st) h = jv_ev call 76 13 [l0] st ((jv_pf h a 3 0 v).getD h) := by
  obtain ⟨h', hv⟩ := Option.isSome_iff_exists.mp hs
  rw [hv]
  exact je_put D76_10 rfl (by decide) (by decide) hv
theorem D76_13 : decode (jt_code 76) 13 = .ok (.aload_n 0, 1) := by decide +kernel
theorem E76_13 {call : jv_F} {a : Nat} {st : List Value} {h : jv_H} : jv_ev call 76 13 [some (.ref a)] st h = jv_ev call 76 14 [some (.ref a)] (.ref a :: st) h := je_aload_n (r := some a) D76_13 rfl rfl
theorem D76_14 : decode (jt_code 76) 14 = .ok (.bipush 17, 2) := by decide +kernel
theorem E76_14 {call : jv_F} {l0 : Option Value}  {st : List Value} {h : jv_H} : jv_ev call 76 14 [l0] st h = jv_ev call 76 16 [l0] (.int (nI 17) :: st) h := je_bipush D76_14 rfl (by decide)
theorem D76_16 : decode (jt_code 76) 16 = .ok (.anewarray 9, 3) := by decide +kernel
theorem E76_16 {call : jv_F} {l0 : Option Value} {k : Nat} {st : List Value} {h : jv_H} (hk : k ≤ 100000) : jv_ev call 76 16 [l0] (.int (nI k) :: st) h = jv_ev call 76 19 [l0] (.ref h.2.1 :: st) (jv_newa h 3 k .null) := je_anewarray (ci := 1) D76_16 rfl (by decide) (by decide) (by decide) (nI_pos (by omega)) (nI_clamp (by omega)) hk
theorem D76_19 : decode (jt_code 76) 19 = .ok (.putfield 17, 3) := by decide +kernel
theorem E76_19 {call : jv_F} {l0 : Option Value} {a : Nat} {v : Value} {st : List Value} {h : jv_H} (hs : (jv_pf h a 3 1 v).isSome = true) : jv_ev call 76 19 [l0] (v :: .ref a :: st) h = jv_ev call 76 22 [l0] st ((jv_pf h a 3 1 v).getD h) := by
  obtain ⟨h', hv⟩ := Option.isSome_iff_exists.mp hs
  rw [hv]
  exact je_put D76_19 rfl (by decide) (by decide) hv
theorem D76_22 : decode (jt_code 76) 22 = .ok (.aload_n 0, 1) := by decide +kernel
theorem E76_22 {call : jv_F} {a : Nat} {st : List Value} {h : jv_H} : jv_ev call 76 22 [some (.ref a)] st h = jv_ev call 76 23 [some (.ref a)] (.ref a :: st) h := je_aload_n (r := some a) D76_22 rfl rfl
theorem D76_23 : decode (jt_code 76) 23 = .ok (.iconst 0, 1) := by decide +kernel
theorem E76_23 {call : jv_F} {l0 : Option Value}  {st : List Value} {h : jv_H} : jv_ev call 76 23 [l0] st h = jv_ev call 76 24 [l0] (.int (nI 0) :: st) h := je_iconst D76_23 rfl (by decide)
theorem D76_24 : decode (jt_code 76) 24 = .ok (.putfield 20, 3) := by decide +kernel
theorem E76_24 {call : jv_F} {l0 : Option Value} {a : Nat} {v : Value} {st : List Value} {h : jv_H} (hs : (jv_pf h a 3 2 v).isSome = true) : jv_ev call 76 24 [l0] (v :: .ref a :: st) h = jv_ev call 76 27 [l0] st ((jv_pf h a 3 2 v).getD h) := by
  obtain ⟨h', hv⟩ := Option.isSome_iff_exists.mp hs
  rw [hv]
  exact je_put D76_24 rfl (by decide) (by decide) hv
theorem D76_27 : decode (jt_code 76) 27 = .ok (.aload_n 0, 1) := by decide +kernel
theorem E76_27 {call : jv_F} {a : Nat} {st : List Value} {h : jv_H} : jv_ev call 76 27 [some (.ref a)] st h = jv_ev call 76 28 [some (.ref a)] (.ref a :: st) h := je_aload_n (r := some a) D76_27 rfl rfl
theorem D76_28 : decode (jt_code 76) 28 = .ok (.aconst_null, 1) := by decide +kernel
theorem E76_28 {call : jv_F} {l0 : Option Value}  {st : List Value} {h : jv_H} : jv_ev call 76 28 [l0] st h = jv_ev call 76 29 [l0] (.null :: st) h := je_null D76_28 rfl
theorem D76_29 : decode (jt_code 76) 29 = .ok (.putfield 24, 3) := by decide +kernel
theorem E76_29 {call : jv_F} {l0 : Option Value} {a : Nat} {v : Value} {st : List Value} {h : jv_H} (hs : (jv_pf h a 3 3 v).isSome = true) : jv_ev call 76 29 [l0] (v :: .ref a :: st) h = jv_ev call 76 32 [l0] st ((jv_pf h a 3 3 v).getD h) := by
  obtain ⟨h', hv⟩ := Option.isSome_iff_exists.mp hs
  rw [hv]
  exact je_put D76_29 rfl (by decide) (by decide) hv
theorem D76_32 : decode (jt_code 76) 32 = .ok (.aload_n 0, 1) := by decide +kernel
theorem E76_32 {call : jv_F} {a : Nat} {st : List Value} {h : jv_H} : jv_ev call 76 32 [some (.ref a)] st h = jv_ev call 76 33 [some (.ref a)] (.ref a :: st) h := je_aload_n (r := some a) D76_32 rfl rfl
theorem D76_33 : decode (jt_code 76) 33 = .ok (.iconst 0, 1) := by decide +kernel
theorem E76_33 {call : jv_F} {l0 : Option Value}  {st : List Value} {h : jv_H} : jv_ev call 76 33 [l0] st h = jv_ev call 76 34 [l0] (.int (nI 0) :: st) h := je_iconst D76_33 rfl (by decide)
theorem D76_34 : decode (jt_code 76) 34 = .ok (.putfield 28, 3) := by decide +kernel
theorem E76_34 {call : jv_F} {l0 : Option Value} {a : Nat} {v : Value} {st : List Value} {h : jv_H} (hs : (jv_pf h a 3 4 v).isSome = true) : jv_ev call 76 34 [l0] (v :: .ref a :: st) h = jv_ev call 76 37 [l0] st ((jv_pf h a 3 4 v).getD h) := by
  obtain ⟨h', hv⟩ := Option.isSome_iff_exists.mp hs
  rw [hv]
  exact je_put D76_34 rfl (by decide) (by decide) hv
theorem D76_37 : decode (jt_code 76) 37 = .ok (.aload_n 0, 1) := by decide +kernel
theorem E76_37 {call : jv_F} {a : Nat} {st : List Value} {h : jv_H} : jv_ev call 76 37 [some (.ref a)] st h = jv_ev call 76 38 [some (.ref a)] (.ref a :: st) h := je_aload_n (r := some a) D76_37 rfl rfl
theorem D76_38 : decode (jt_code 76) 38 = .ok (.iconst 0, 1) := by decide +kernel
theorem E76_38 {call : jv_F} {l0 : Option Value}  {st : List Value} {h : jv_H} : jv_ev call 76 38 [l0] st h = jv_ev call 76 39 [l0] (.int (nI 0) :: st) h := je_iconst D76_38 rfl (by decide)
theorem D76_39 : decode (jt_code 76) 39 = .ok (.putfield 31, 3) := by decide +kernel
theorem E76_39 {call : jv_F} {l0 : Option Value} {a : Nat} {v : Value} {st : List Value} {h : jv_H} (hs : (jv_pf h a 3 5 v).isSome = true) : jv_ev call 76 39 [l0] (v :: .ref a :: st) h = jv_ev call 76 42 [l0] st ((jv_pf h a 3 5 v).getD h) := by
  obtain ⟨h', hv⟩ := Option.isSome_iff_exists.mp hs
  rw [hv]
  exact je_put D76_39 rfl (by decide) (by decide) hv
theorem D76_42 : decode (jt_code 76) 42 = .ok (.aload_n 0, 1) := by decide +kernel
theorem E76_42 {call : jv_F} {a : Nat} {st : List Value} {h : jv_H} : jv_ev call 76 42 [some (.ref a)] st h = jv_ev call 76 43 [some (.ref a)] (.ref a :: st) h := je_aload_n (r := some a) D76_42 rfl rfl
theorem D76_43 : decode (jt_code 76) 43 = .ok (.iconst 0, 1) := by decide +kernel
theorem E76_43 {call : jv_F} {l0 : Option Value}  {st : List Value} {h : jv_H} : jv_ev call 76 43 [l0] st h = jv_ev call 76 44 [l0] (.int (nI 0) :: st) h := je_iconst D76_43 rfl (by decide)
theorem D76_44 : decode (jt_code 76) 44 = .ok (.putfield 35, 3) := by decide +kernel
theorem E76_44 {call : jv_F} {l0 : Option Value} {a : Nat} {v : Value} {st : List Value} {h : jv_H} (hs : (jv_pf h a 3 6 v).isSome = true) : jv_ev call 76 44 [l0] (v :: .ref a :: st) h = jv_ev call 76 47 [l0] st ((jv_pf h a 3 6 v).getD h) := by
  obtain ⟨h', hv⟩ := Option.isSome_iff_exists.mp hs
  rw [hv]
  exact je_put D76_44 rfl (by decide) (by decide) hv
theorem D76_47 : decode (jt_code 76) 47 = .ok (.aload_n 0, 1) := by decide +kernel
theorem E76_47 {call : jv_F} {a : Nat} {st : List Value} {h : jv_H} : jv_ev call 76 47 [some (.ref a)] st h = jv_ev call 76 48 [some (.ref a)] (.ref a :: st) h := je_aload_n (r := some a) D76_47 rfl rfl
theorem D76_48 : decode (jt_code 76) 48 = .ok (.iconst 0, 1) := by decide +kernel
theorem E76_48 {call : jv_F} {l0 : Option Value}  {st : List Value} {h : jv_H} : jv_ev call 76 48 [l0] st h = jv_ev call 76 49 [l0] (.int (nI 0) :: st) h := je_iconst D76_48 rfl (by decide)
theorem D76_49 : decode (jt_code 76) 49 = .ok (.putfield 38, 3) := by decide +kernel
theorem E76_49 {call : jv_F} {l0 : Option Value} {a : Nat} {v : Value} {st : List Value} {h : jv_H} (hs : (jv_pf h a 3 7 v).isSome = true) : jv_ev call 76 49 [l0] (v :: .ref a :: st) h = jv_ev call 76 52 [l0] st ((jv_pf h a 3 7 v).getD h) := by
  obtain ⟨h', hv⟩ := Option.isSome_iff_exists.mp hs
  rw [hv]
  exact je_put D76_49 rfl (by decide) (by decide) hv
theorem D76_52 : decode (jt_code 76) 52 = .ok (.return_, 1) := by decide +kernel
theorem E76_52 {call : jv_F} {l0 : Option Value}  {h : jv_H} : jv_ev call 76 52 [l0] [] h = some (none, h) := je_ret D76_52 rfl
/-! method 116: DrumMachine$Tray.<init> -/
theorem N116 {d : Nat} {b : Nat} {h : jv_H} : jv_run (d + 1) 116 [.ref b] h = jv_ev (jv_run d) 116 0 [some (.ref b)] [] h := jv_run_eq (Nat.le_of_ble_eq_true rfl) rfl
theorem D116_0 : decode (jt_code 116) 0 = .ok (.aload_n 0, 1) := by decide +kernel
theorem E116_0 {call : jv_F} {a : Nat} {st : List Value} {h : jv_H} : jv_ev call 116 0 [some (.ref a)] st h = jv_ev call 116 1 [some (.ref a)] (.ref a :: st) h := je_aload_n (r := some a) D116_0 rfl rfl
theorem D116_1 : decode (jt_code 116) 1 = .ok (.invokespecial 3, 3) := by decide +kernel
theorem E116_1 {call : jv_F} {l0 : Option Value} {b : Nat} {st : List Value} {h : jv_H} (hw : jv_wide st = true) : jv_ev call 116 1 [l0] (.ref b :: st) h = jv_ev call 116 4 [l0] st h := je_obj D116_1 rfl (by decide) hw
theorem D116_4 : decode (jt_code 116) 4 = .ok (.aload_n 0, 1) := by decide +kernel
theorem E116_4 {call : jv_F} {a : Nat} {st : List Value} {h : jv_H} : jv_ev call 116 4 [some (.ref a)] st h = jv_ev call 116 5 [some (.ref a)] (.ref a :: st) h := je_aload_n (r := some a) D116_4 rfl rfl
theorem D116_5 : decode (jt_code 116) 5 = .ok (.sipush 1000, 3) := by decide +kernel
theorem E116_5 {call : jv_F} {l0 : Option Value}  {st : List Value} {h : jv_H} : jv_ev call 116 5 [l0] st h = jv_ev call 116 8 [l0] (.int (nI 1000) :: st) h := je_sipush D116_5 rfl (by decide)
theorem D116_8 : decode (jt_code 116) 8 = .ok (.newarray .long, 2) := by decide +kernel
theorem E116_8 {call : jv_F} {l0 : Option Value} {k : Nat} {st : List Value} {h : jv_H} (hk : k ≤ 100000) : jv_ev call 116 8 [l0] (.int (nI k) :: st) h = jv_ev call 116 10 [l0] (.ref h.2.1 :: st) (jv_newa h 1 k (.long 0)) := je_newarray D116_8 rfl (by decide) (by decide) (nI_pos (by omega)) (nI_clamp (by omega)) hk rfl
theorem D116_10 : decode (jt_code 116) 10 = .ok (.putfield 9, 3) := by decide +kernel
theorem E116_10 {call : jv_F} {l0 : Option Value} {a : Nat} {v : Value} {st : List Value} {h : jv_H} (hs : (jv_pf h a 5 0 v).isSome = true) : jv_ev call 116 10 [l0] (v :: .ref a :: st) h = jv_ev call 116 13 [l0] st ((jv_pf h a 5 0 v).getD h) := by
  obtain ⟨h', hv⟩ := Option.isSome_iff_exists.mp hs
  rw [hv]
  exact je_put D116_10 rfl (by decide) (by decide) hv
theorem D116_13 : decode (jt_code 116) 13 = .ok (.aload_n 0, 1) := by decide +kernel
theorem E116_13 {call : jv_F} {a : Nat} {st : List Value} {h : jv_H} : jv_ev call 116 13 [some (.ref a)] st h = jv_ev call 116 14 [some (.ref a)] (.ref a :: st) h := je_aload_n (r := some a) D116_13 rfl rfl
theorem D116_14 : decode (jt_code 116) 14 = .ok (.sipush 2000, 3) := by decide +kernel
theorem E116_14 {call : jv_F} {l0 : Option Value}  {st : List Value} {h : jv_H} : jv_ev call 116 14 [l0] st h = jv_ev call 116 17 [l0] (.int (nI 2000) :: st) h := je_sipush D116_14 rfl (by decide)
theorem D116_17 : decode (jt_code 116) 17 = .ok (.newarray .int, 2) := by decide +kernel
theorem E116_17 {call : jv_F} {l0 : Option Value} {k : Nat} {st : List Value} {h : jv_H} (hk : k ≤ 100000) : jv_ev call 116 17 [l0] (.int (nI k) :: st) h = jv_ev call 116 19 [l0] (.ref h.2.1 :: st) (jv_newa h 0 k (.int 0)) := je_newarray D116_17 rfl (by decide) (by decide) (nI_pos (by omega)) (nI_clamp (by omega)) hk rfl
theorem D116_19 : decode (jt_code 116) 19 = .ok (.putfield 15, 3) := by decide +kernel
theorem E116_19 {call : jv_F} {l0 : Option Value} {a : Nat} {v : Value} {st : List Value} {h : jv_H} (hs : (jv_pf h a 5 1 v).isSome = true) : jv_ev call 116 19 [l0] (v :: .ref a :: st) h = jv_ev call 116 22 [l0] st ((jv_pf h a 5 1 v).getD h) := by
  obtain ⟨h', hv⟩ := Option.isSome_iff_exists.mp hs
  rw [hv]
  exact je_put D116_19 rfl (by decide) (by decide) hv
theorem D116_22 : decode (jt_code 116) 22 = .ok (.aload_n 0, 1) := by decide +kernel
theorem E116_22 {call : jv_F} {a : Nat} {st : List Value} {h : jv_H} : jv_ev call 116 22 [some (.ref a)] st h = jv_ev call 116 23 [some (.ref a)] (.ref a :: st) h := je_aload_n (r := some a) D116_22 rfl rfl
theorem D116_23 : decode (jt_code 116) 23 = .ok (.iconst 0, 1) := by decide +kernel
theorem E116_23 {call : jv_F} {l0 : Option Value}  {st : List Value} {h : jv_H} : jv_ev call 116 23 [l0] st h = jv_ev call 116 24 [l0] (.int (nI 0) :: st) h := je_iconst D116_23 rfl (by decide)
theorem D116_24 : decode (jt_code 116) 24 = .ok (.putfield 19, 3) := by decide +kernel
theorem E116_24 {call : jv_F} {l0 : Option Value} {a : Nat} {v : Value} {st : List Value} {h : jv_H} (hs : (jv_pf h a 5 2 v).isSome = true) : jv_ev call 116 24 [l0] (v :: .ref a :: st) h = jv_ev call 116 27 [l0] st ((jv_pf h a 5 2 v).getD h) := by
  obtain ⟨h', hv⟩ := Option.isSome_iff_exists.mp hs
  rw [hv]
  exact je_put D116_24 rfl (by decide) (by decide) hv
theorem D116_27 : decode (jt_code 116) 27 = .ok (.aload_n 0, 1) := by decide +kernel
theorem E116_27 {call : jv_F} {a : Nat} {st : List Value} {h : jv_H} : jv_ev call 116 27 [some (.ref a)] st h = jv_ev call 116 28 [some (.ref a)] (.ref a :: st) h := je_aload_n (r := some a) D116_27 rfl rfl
theorem D116_28 : decode (jt_code 116) 28 = .ok (.iconst 0, 1) := by decide +kernel
theorem E116_28 {call : jv_F} {l0 : Option Value}  {st : List Value} {h : jv_H} : jv_ev call 116 28 [l0] st h = jv_ev call 116 29 [l0] (.int (nI 0) :: st) h := je_iconst D116_28 rfl (by decide)
theorem D116_29 : decode (jt_code 116) 29 = .ok (.putfield 23, 3) := by decide +kernel
theorem E116_29 {call : jv_F} {l0 : Option Value} {a : Nat} {v : Value} {st : List Value} {h : jv_H} (hs : (jv_pf h a 5 3 v).isSome = true) : jv_ev call 116 29 [l0] (v :: .ref a :: st) h = jv_ev call 116 32 [l0] st ((jv_pf h a 5 3 v).getD h) := by
  obtain ⟨h', hv⟩ := Option.isSome_iff_exists.mp hs
  rw [hv]
  exact je_put D116_29 rfl (by decide) (by decide) hv
theorem D116_32 : decode (jt_code 116) 32 = .ok (.return_, 1) := by decide +kernel
theorem E116_32 {call : jv_F} {l0 : Option Value}  {h : jv_H} : jv_ev call 116 32 [l0] [] h = some (none, h) := je_ret D116_32 rfl
/-! method 122: DrumMachine.<init> -/
theorem N122 {d : Nat} {b : Nat} {h : jv_H} : jv_run (d + 1) 122 [.ref b] h = jv_ev (jv_run d) 122 0 [some (.ref b)] [] h := jv_run_eq (Nat.le_of_ble_eq_true rfl) rfl
theorem D122_0 : decode (jt_code 122) 0 = .ok (.aload_n 0, 1) := by decide +kernel
theorem E122_0 {call : jv_F} {a : Nat} {st : List Value} {h : jv_H} : jv_ev call 122 0 [some (.ref a)] st h = jv_ev call 122 1 [some (.ref a)] (.ref a :: st) h := je_aload_n (r := some a) D122_0 rfl rfl
theorem D122_1 : decode (jt_code 122) 1 = .ok (.invokespecial 3, 3) := by decide +kernel
theorem E122_1 {call : jv_F} {l0 : Option Value} {b : Nat} {st : List Value} {h : jv_H} (hw : jv_wide st = true) : jv_ev call 122 1 [l0] (.ref b :: st) h = jv_ev call 122 4 [l0] st h := je_obj D122_1 rfl (by decide) hw
theorem D122_4 : decode (jt_code 122) 4 = .ok (.aload_n 0, 1) := by decide +kernel
theorem E122_4 {call : jv_F} {a : Nat} {st : List Value} {h : jv_H} : jv_ev call 122 4 [some (.ref a)] st h = jv_ev call 122 5 [some (.ref a)] (.ref a :: st) h := je_aload_n (r := some a) D122_4 rfl rfl
theorem D122_5 : decode (jt_code 122) 5 = .ok (.new 9, 3) := by decide +kernel
theorem E122_5 {call : jv_F} {l0 : Option Value}  {st : List Value} {h : jv_H} : jv_ev call 122 5 [l0] st h = jv_ev call 122 8 [l0] (.ref h.2.1 :: st) (jv_new h 5) := je_new D122_5 rfl (by decide) (by decide)
theorem D122_8 : decode (jt_code 122) 8 = .ok (.dup, 1) := by decide +kernel
theorem E122_8 {call : jv_F} {l0 : Option Value} {a : Nat} {st : List Value} {h : jv_H} : jv_ev call 122 8 [l0] (.ref a :: st) h = jv_ev call 122 9 [l0] (.ref a :: .ref a :: st) h := je_dup D122_8 rfl rfl
theorem E122_8i {call : jv_F} {l0 : Option Value} {x : Int32} {st : List Value} {h : jv_H} : jv_ev call 122 8 [l0] (.int x :: st) h = jv_ev call 122 9 [l0] (.int x :: .int x :: st) h := je_dup D122_8 rfl rfl
theorem D122_9 : decode (jt_code 122) 9 = .ok (.invokespecial 11, 3) := by decide +kernel
theorem E122_9 {call : jv_F} {l0 : Option Value} {b : Nat}  {st : List Value} {h : jv_H} (hw : jv_wide st = true) (hc : (call 116 [.ref b] h).isSome = true) : jv_ev call 122 9 [l0] (.ref b :: st) h = jv_ev call 122 12 [l0] ((((call 116 [.ref b] h).getD (none, h)).1).toList ++ st) ((call 116 [.ref b] h).getD (none, h)).2 := by
  obtain ⟨⟨r, h'⟩, hv⟩ := Option.isSome_iff_exists.mp hc
  rw [hv]
  exact je_spec (y := 116) (as := []) D122_9 rfl (by decide) (by decide) (by decide) rfl hw hv
theorem D122_12 : decode (jt_code 122) 12 = .ok (.putfield 12, 3) := by decide +kernel
theorem E122_12 {call : jv_F} {l0 : Option Value} {a : Nat} {v : Value} {st : List Value} {h : jv_H} (hs : (jv_pf h a 6 0 v).isSome = true) : jv_ev call 122 12 [l0] (v :: .ref a :: st) h = jv_ev call 122 15 [l0] st ((jv_pf h a 6 0 v).getD h) := by
  obtain ⟨h', hv⟩ := Option.isSome_iff_exists.mp hs
  rw [hv]
  exact je_put D122_12 rfl (by decide) (by decide) hv
theorem D122_15 : decode (jt_code 122) 15 = .ok (.aload_n 0, 1) := by decide +kernel
theorem E122_15 {call : jv_F} {a : Nat} {st : List Value} {h : jv_H} : jv_ev call 122 15 [some (.ref a)] st h = jv_ev call 122 16 [some (.ref a)] (.ref a :: st) h := je_aload_n (r := some a) D122_15 rfl rfl
theorem D122_16 : decode (jt_code 122) 16 = .ok (.new 16, 3) := by decide +kernel
theorem E122_16 {call : jv_F} {l0 : Option Value}  {st : List Value} {h : jv_H} : jv_ev call 122 16 [l0] st h = jv_ev call 122 19 [l0] (.ref h.2.1 :: st) (jv_new h 2) := je_new D122_16 rfl (by decide) (by decide)
theorem D122_19 : decode (jt_code 122) 19 = .ok (.dup, 1) := by decide +kernel
theorem E122_19 {call : jv_F} {l0 : Option Value} {a : Nat} {st : List Value} {h : jv_H} : jv_ev call 122 19 [l0] (.ref a :: st) h = jv_ev call 122 20 [l0] (.ref a :: .ref a :: st) h := je_dup D122_19 rfl rfl
theorem E122_19i {call : jv_F} {l0 : Option Value} {x : Int32} {st : List Value} {h : jv_H} : jv_ev call 122 19 [l0] (.int x :: st) h = jv_ev call 122 20 [l0] (.int x :: .int x :: st) h := je_dup D122_19 rfl rfl
theorem D122_20 : decode (jt_code 122) 20 = .ok (.invokespecial 18, 3) := by decide +kernel
theorem E122_20 {call : jv_F} {l0 : Option Value} {b : Nat}  {st : List Value} {h : jv_H} (hw : jv_wide st = true) (hc : (call 66 [.ref b] h).isSome = true) : jv_ev call 122 20 [l0] (.ref b :: st) h = jv_ev call 122 23 [l0] ((((call 66 [.ref b] h).getD (none, h)).1).toList ++ st) ((call 66 [.ref b] h).getD (none, h)).2 := by
  obtain ⟨⟨r, h'⟩, hv⟩ := Option.isSome_iff_exists.mp hc
  rw [hv]
  exact je_spec (y := 66) (as := []) D122_20 rfl (by decide) (by decide) (by decide) rfl hw hv
theorem D122_23 : decode (jt_code 122) 23 = .ok (.putfield 19, 3) := by decide +kernel
theorem E122_23 {call : jv_F} {l0 : Option Value} {a : Nat} {v : Value} {st : List Value} {h : jv_H} (hs : (jv_pf h a 6 1 v).isSome = true) : jv_ev call 122 23 [l0] (v :: .ref a :: st) h = jv_ev call 122 26 [l0] st ((jv_pf h a 6 1 v).getD h) := by
  obtain ⟨h', hv⟩ := Option.isSome_iff_exists.mp hs
  rw [hv]
  exact je_put D122_23 rfl (by decide) (by decide) hv
theorem D122_26 : decode (jt_code 122) 26 = .ok (.aload_n 0, 1) := by decide +kernel
theorem E122_26 {call : jv_F} {a : Nat} {st : List Value} {h : jv_H} : jv_ev call 122 26 [some (.ref a)] st h = jv_ev call 122 27 [some (.ref a)] (.ref a :: st) h := je_aload_n (r := some a) D122_26 rfl rfl
theorem D122_27 : decode (jt_code 122) 27 = .ok (.new 23, 3) := by decide +kernel
theorem E122_27 {call : jv_F} {l0 : Option Value}  {st : List Value} {h : jv_H} : jv_ev call 122 27 [l0] st h = jv_ev call 122 30 [l0] (.ref h.2.1 :: st) (jv_new h 3) := je_new D122_27 rfl (by decide) (by decide)
theorem D122_30 : decode (jt_code 122) 30 = .ok (.dup, 1) := by decide +kernel
theorem E122_30 {call : jv_F} {l0 : Option Value} {a : Nat} {st : List Value} {h : jv_H} : jv_ev call 122 30 [l0] (.ref a :: st) h = jv_ev call 122 31 [l0] (.ref a :: .ref a :: st) h := je_dup D122_30 rfl rfl
theorem E122_30i {call : jv_F} {l0 : Option Value} {x : Int32} {st : List Value} {h : jv_H} : jv_ev call 122 30 [l0] (.int x :: st) h = jv_ev call 122 31 [l0] (.int x :: .int x :: st) h := je_dup D122_30 rfl rfl
theorem D122_31 : decode (jt_code 122) 31 = .ok (.invokespecial 25, 3) := by decide +kernel
theorem E122_31 {call : jv_F} {l0 : Option Value} {b : Nat}  {st : List Value} {h : jv_H} (hw : jv_wide st = true) (hc : (call 76 [.ref b] h).isSome = true) : jv_ev call 122 31 [l0] (.ref b :: st) h = jv_ev call 122 34 [l0] ((((call 76 [.ref b] h).getD (none, h)).1).toList ++ st) ((call 76 [.ref b] h).getD (none, h)).2 := by
  obtain ⟨⟨r, h'⟩, hv⟩ := Option.isSome_iff_exists.mp hc
  rw [hv]
  exact je_spec (y := 76) (as := []) D122_31 rfl (by decide) (by decide) (by decide) rfl hw hv
theorem D122_34 : decode (jt_code 122) 34 = .ok (.putfield 26, 3) := by decide +kernel
theorem E122_34 {call : jv_F} {l0 : Option Value} {a : Nat} {v : Value} {st : List Value} {h : jv_H} (hs : (jv_pf h a 6 2 v).isSome = true) : jv_ev call 122 34 [l0] (v :: .ref a :: st) h = jv_ev call 122 37 [l0] st ((jv_pf h a 6 2 v).getD h) := by
  obtain ⟨h', hv⟩ := Option.isSome_iff_exists.mp hs
  rw [hv]
  exact je_put D122_34 rfl (by decide) (by decide) hv
theorem D122_37 : decode (jt_code 122) 37 = .ok (.aload_n 0, 1) := by decide +kernel
theorem E122_37 {call : jv_F} {a : Nat} {st : List Value} {h : jv_H} : jv_ev call 122 37 [some (.ref a)] st h = jv_ev call 122 38 [some (.ref a)] (.ref a :: st) h := je_aload_n (r := some a) D122_37 rfl rfl
theorem D122_38 : decode (jt_code 122) 38 = .ok (.bipush 12, 2) := by decide +kernel
theorem E122_38 {call : jv_F} {l0 : Option Value}  {st : List Value} {h : jv_H} : jv_ev call 122 38 [l0] st h = jv_ev call 122 40 [l0] (.int (nI 12) :: st) h := je_bipush D122_38 rfl (by decide)
theorem D122_40 : decode (jt_code 122) 40 = .ok (.anewarray 30, 3) := by decide +kernel
theorem E122_40 {call : jv_F} {l0 : Option Value} {k : Nat} {st : List Value} {h : jv_H} (hk : k ≤ 100000) : jv_ev call 122 40 [l0] (.int (nI k) :: st) h = jv_ev call 122 43 [l0] (.ref h.2.1 :: st) (jv_newa h 4 k .null) := je_anewarray (ci := 4) D122_40 rfl (by decide) (by decide) (by decide) (nI_pos (by omega)) (nI_clamp (by omega)) hk
theorem D122_43 : decode (jt_code 122) 43 = .ok (.putfield 32, 3) := by decide +kernel
theorem E122_43 {call : jv_F} {l0 : Option Value} {a : Nat} {v : Value} {st : List Value} {h : jv_H} (hs : (jv_pf h a 6 3 v).isSome = true) : jv_ev call 122 43 [l0] (v :: .ref a :: st) h = jv_ev call 122 46 [l0] st ((jv_pf h a 6 3 v).getD h) := by
  obtain ⟨h', hv⟩ := Option.isSome_iff_exists.mp hs
  rw [hv]
  exact je_put D122_43 rfl (by decide) (by decide) hv
theorem D122_46 : decode (jt_code 122) 46 = .ok (.aload_n 0, 1) := by decide +kernel
theorem E122_46 {call : jv_F} {a : Nat} {st : List Value} {h : jv_H} : jv_ev call 122 46 [some (.ref a)] st h = jv_ev call 122 47 [some (.ref a)] (.ref a :: st) h := je_aload_n (r := some a) D122_46 rfl rfl
theorem D122_47 : decode (jt_code 122) 47 = .ok (.iconst 0, 1) := by decide +kernel
theorem E122_47 {call : jv_F} {l0 : Option Value}  {st : List Value} {h : jv_H} : jv_ev call 122 47 [l0] st h = jv_ev call 122 48 [l0] (.int (nI 0) :: st) h := je_iconst D122_47 rfl (by decide)
theorem D122_48 : decode (jt_code 122) 48 = .ok (.putfield 36, 3) := by decide +kernel
theorem E122_48 {call : jv_F} {l0 : Option Value} {a : Nat} {v : Value} {st : List Value} {h : jv_H} (hs : (jv_pf h a 6 4 v).isSome = true) : jv_ev call 122 48 [l0] (v :: .ref a :: st) h = jv_ev call 122 51 [l0] st ((jv_pf h a 6 4 v).getD h) := by
  obtain ⟨h', hv⟩ := Option.isSome_iff_exists.mp hs
  rw [hv]
  exact je_put D122_48 rfl (by decide) (by decide) hv
theorem D122_51 : decode (jt_code 122) 51 = .ok (.aload_n 0, 1) := by decide +kernel
theorem E122_51 {call : jv_F} {a : Nat} {st : List Value} {h : jv_H} : jv_ev call 122 51 [some (.ref a)] st h = jv_ev call 122 52 [some (.ref a)] (.ref a :: st) h := je_aload_n (r := some a) D122_51 rfl rfl
theorem D122_52 : decode (jt_code 122) 52 = .ok (.iconst 0, 1) := by decide +kernel
theorem E122_52 {call : jv_F} {l0 : Option Value}  {st : List Value} {h : jv_H} : jv_ev call 122 52 [l0] st h = jv_ev call 122 53 [l0] (.int (nI 0) :: st) h := je_iconst D122_52 rfl (by decide)
theorem D122_53 : decode (jt_code 122) 53 = .ok (.putfield 40, 3) := by decide +kernel
theorem E122_53 {call : jv_F} {l0 : Option Value} {a : Nat} {v : Value} {st : List Value} {h : jv_H} (hs : (jv_pf h a 6 5 v).isSome = true) : jv_ev call 122 53 [l0] (v :: .ref a :: st) h = jv_ev call 122 56 [l0] st ((jv_pf h a 6 5 v).getD h) := by
  obtain ⟨h', hv⟩ := Option.isSome_iff_exists.mp hs
  rw [hv]
  exact je_put D122_53 rfl (by decide) (by decide) hv
theorem D122_56 : decode (jt_code 122) 56 = .ok (.aload_n 0, 1) := by decide +kernel
theorem E122_56 {call : jv_F} {a : Nat} {st : List Value} {h : jv_H} : jv_ev call 122 56 [some (.ref a)] st h = jv_ev call 122 57 [some (.ref a)] (.ref a :: st) h := je_aload_n (r := some a) D122_56 rfl rfl
theorem D122_57 : decode (jt_code 122) 57 = .ok (.iconst 0, 1) := by decide +kernel
theorem E122_57 {call : jv_F} {l0 : Option Value}  {st : List Value} {h : jv_H} : jv_ev call 122 57 [l0] st h = jv_ev call 122 58 [l0] (.int (nI 0) :: st) h := je_iconst D122_57 rfl (by decide)
theorem D122_58 : decode (jt_code 122) 58 = .ok (.putfield 43, 3) := by decide +kernel
theorem E122_58 {call : jv_F} {l0 : Option Value} {a : Nat} {v : Value} {st : List Value} {h : jv_H} (hs : (jv_pf h a 6 6 v).isSome = true) : jv_ev call 122 58 [l0] (v :: .ref a :: st) h = jv_ev call 122 61 [l0] st ((jv_pf h a 6 6 v).getD h) := by
  obtain ⟨h', hv⟩ := Option.isSome_iff_exists.mp hs
  rw [hv]
  exact je_put D122_58 rfl (by decide) (by decide) hv
theorem D122_61 : decode (jt_code 122) 61 = .ok (.aload_n 0, 1) := by decide +kernel
theorem E122_61 {call : jv_F} {a : Nat} {st : List Value} {h : jv_H} : jv_ev call 122 61 [some (.ref a)] st h = jv_ev call 122 62 [some (.ref a)] (.ref a :: st) h := je_aload_n (r := some a) D122_61 rfl rfl
theorem D122_62 : decode (jt_code 122) 62 = .ok (.iconst (-1), 1) := by decide +kernel
theorem E122_62 {call : jv_F} {l0 : Option Value}  {st : List Value} {h : jv_H} : jv_ev call 122 62 [l0] st h = jv_ev call 122 63 [l0] (.int (-1) :: st) h := je_iconst D122_62 rfl (by decide)
theorem D122_63 : decode (jt_code 122) 63 = .ok (.putfield 46, 3) := by decide +kernel
theorem E122_63 {call : jv_F} {l0 : Option Value} {a : Nat} {v : Value} {st : List Value} {h : jv_H} (hs : (jv_pf h a 6 7 v).isSome = true) : jv_ev call 122 63 [l0] (v :: .ref a :: st) h = jv_ev call 122 66 [l0] st ((jv_pf h a 6 7 v).getD h) := by
  obtain ⟨h', hv⟩ := Option.isSome_iff_exists.mp hs
  rw [hv]
  exact je_put D122_63 rfl (by decide) (by decide) hv
theorem D122_66 : decode (jt_code 122) 66 = .ok (.aload_n 0, 1) := by decide +kernel
theorem E122_66 {call : jv_F} {a : Nat} {st : List Value} {h : jv_H} : jv_ev call 122 66 [some (.ref a)] st h = jv_ev call 122 67 [some (.ref a)] (.ref a :: st) h := je_aload_n (r := some a) D122_66 rfl rfl
theorem D122_67 : decode (jt_code 122) 67 = .ok (.iconst 0, 1) := by decide +kernel
theorem E122_67 {call : jv_F} {l0 : Option Value}  {st : List Value} {h : jv_H} : jv_ev call 122 67 [l0] st h = jv_ev call 122 68 [l0] (.int (nI 0) :: st) h := je_iconst D122_67 rfl (by decide)
theorem D122_68 : decode (jt_code 122) 68 = .ok (.putfield 49, 3) := by decide +kernel
theorem E122_68 {call : jv_F} {l0 : Option Value} {a : Nat} {v : Value} {st : List Value} {h : jv_H} (hs : (jv_pf h a 6 8 v).isSome = true) : jv_ev call 122 68 [l0] (v :: .ref a :: st) h = jv_ev call 122 71 [l0] st ((jv_pf h a 6 8 v).getD h) := by
  obtain ⟨h', hv⟩ := Option.isSome_iff_exists.mp hs
  rw [hv]
  exact je_put D122_68 rfl (by decide) (by decide) hv
theorem D122_71 : decode (jt_code 122) 71 = .ok (.aload_n 0, 1) := by decide +kernel
theorem E122_71 {call : jv_F} {a : Nat} {st : List Value} {h : jv_H} : jv_ev call 122 71 [some (.ref a)] st h = jv_ev call 122 72 [some (.ref a)] (.ref a :: st) h := je_aload_n (r := some a) D122_71 rfl rfl
theorem D122_72 : decode (jt_code 122) 72 = .ok (.iconst 0, 1) := by decide +kernel
theorem E122_72 {call : jv_F} {l0 : Option Value}  {st : List Value} {h : jv_H} : jv_ev call 122 72 [l0] st h = jv_ev call 122 73 [l0] (.int (nI 0) :: st) h := je_iconst D122_72 rfl (by decide)
theorem D122_73 : decode (jt_code 122) 73 = .ok (.putfield 52, 3) := by decide +kernel
theorem E122_73 {call : jv_F} {l0 : Option Value} {a : Nat} {v : Value} {st : List Value} {h : jv_H} (hs : (jv_pf h a 6 9 v).isSome = true) : jv_ev call 122 73 [l0] (v :: .ref a :: st) h = jv_ev call 122 76 [l0] st ((jv_pf h a 6 9 v).getD h) := by
  obtain ⟨h', hv⟩ := Option.isSome_iff_exists.mp hs
  rw [hv]
  exact je_put D122_73 rfl (by decide) (by decide) hv
theorem D122_76 : decode (jt_code 122) 76 = .ok (.aload_n 0, 1) := by decide +kernel
theorem E122_76 {call : jv_F} {a : Nat} {st : List Value} {h : jv_H} : jv_ev call 122 76 [some (.ref a)] st h = jv_ev call 122 77 [some (.ref a)] (.ref a :: st) h := je_aload_n (r := some a) D122_76 rfl rfl
theorem D122_77 : decode (jt_code 122) 77 = .ok (.iconst 0, 1) := by decide +kernel
theorem E122_77 {call : jv_F} {l0 : Option Value}  {st : List Value} {h : jv_H} : jv_ev call 122 77 [l0] st h = jv_ev call 122 78 [l0] (.int (nI 0) :: st) h := je_iconst D122_77 rfl (by decide)
theorem D122_78 : decode (jt_code 122) 78 = .ok (.putfield 55, 3) := by decide +kernel
theorem E122_78 {call : jv_F} {l0 : Option Value} {a : Nat} {v : Value} {st : List Value} {h : jv_H} (hs : (jv_pf h a 6 10 v).isSome = true) : jv_ev call 122 78 [l0] (v :: .ref a :: st) h = jv_ev call 122 81 [l0] st ((jv_pf h a 6 10 v).getD h) := by
  obtain ⟨h', hv⟩ := Option.isSome_iff_exists.mp hs
  rw [hv]
  exact je_put D122_78 rfl (by decide) (by decide) hv
theorem D122_81 : decode (jt_code 122) 81 = .ok (.aload_n 0, 1) := by decide +kernel
theorem E122_81 {call : jv_F} {a : Nat} {st : List Value} {h : jv_H} : jv_ev call 122 81 [some (.ref a)] st h = jv_ev call 122 82 [some (.ref a)] (.ref a :: st) h := je_aload_n (r := some a) D122_81 rfl rfl
theorem D122_82 : decode (jt_code 122) 82 = .ok (.iconst 0, 1) := by decide +kernel
theorem E122_82 {call : jv_F} {l0 : Option Value}  {st : List Value} {h : jv_H} : jv_ev call 122 82 [l0] st h = jv_ev call 122 83 [l0] (.int (nI 0) :: st) h := je_iconst D122_82 rfl (by decide)
theorem D122_83 : decode (jt_code 122) 83 = .ok (.putfield 58, 3) := by decide +kernel
theorem E122_83 {call : jv_F} {l0 : Option Value} {a : Nat} {v : Value} {st : List Value} {h : jv_H} (hs : (jv_pf h a 6 11 v).isSome = true) : jv_ev call 122 83 [l0] (v :: .ref a :: st) h = jv_ev call 122 86 [l0] st ((jv_pf h a 6 11 v).getD h) := by
  obtain ⟨h', hv⟩ := Option.isSome_iff_exists.mp hs
  rw [hv]
  exact je_put D122_83 rfl (by decide) (by decide) hv
theorem D122_86 : decode (jt_code 122) 86 = .ok (.return_, 1) := by decide +kernel
theorem E122_86 {call : jv_F} {l0 : Option Value}  {h : jv_H} : jv_ev call 122 86 [l0] [] h = some (none, h) := je_ret D122_86 rfl
end
section
/-! method 1: DrumMachineModel.word48 -/
theorem N1 {d : Nat} {a0 : Int64} {h : jv_H} : jv_run (d + 1) 1 [.long a0] h = jv_ev (jv_run d) 1 0 [some (.long a0), none] [] h := jv_run_eq (Nat.le_of_ble_eq_true rfl) rfl
theorem D1_0 : decode (jt_code 1) 0 = .ok (.lload_n 0, 1) := by decide +kernel
theorem E1_0 {call : jv_F} {l1 : Option Value} {x : Int64} {st : List Value} {h : jv_H} : jv_ev call 1 0 [some (.long x), l1] st h = jv_ev call 1 1 [some (.long x), l1] (.long x :: st) h := je_lload_n D1_0 rfl rfl
theorem D1_1 : decode (jt_code 1) 1 = .ok (.bipush 16, 2) := by decide +kernel
theorem E1_1 {call : jv_F} {l0 l1 : Option Value}  {st : List Value} {h : jv_H} : jv_ev call 1 1 [l0, l1] st h = jv_ev call 1 3 [l0, l1] (.int (nI 16) :: st) h := je_bipush D1_1 rfl (by decide)
theorem D1_3 : decode (jt_code 1) 3 = .ok (.lshl, 1) := by decide +kernel
theorem E1_3 {call : jv_F} {l0 l1 : Option Value} {x : Int64} {y : Int32} {st : List Value} {h : jv_H} : jv_ev call 1 3 [l0, l1] (.int y :: .long x :: st) h = jv_ev call 1 4 [l0, l1] (.long (x <<< (y.toInt64 &&& 63)) :: st) h := je_lshl D1_3 rfl
theorem D1_4 : decode (jt_code 1) 4 = .ok (.bipush 16, 2) := by decide +kernel
theorem E1_4 {call : jv_F} {l0 l1 : Option Value}  {st : List Value} {h : jv_H} : jv_ev call 1 4 [l0, l1] st h = jv_ev call 1 6 [l0, l1] (.int (nI 16) :: st) h := je_bipush D1_4 rfl (by decide)
theorem D1_6 : decode (jt_code 1) 6 = .ok (.lshr, 1) := by decide +kernel
theorem E1_6 {call : jv_F} {l0 l1 : Option Value} {x : Int64} {y : Int32} {st : List Value} {h : jv_H} : jv_ev call 1 6 [l0, l1] (.int y :: .long x :: st) h = jv_ev call 1 7 [l0, l1] (.long (x >>> (y.toInt64 &&& 63)) :: st) h := je_lshr D1_6 rfl
theorem D1_7 : decode (jt_code 1) 7 = .ok (.lreturn, 1) := by decide +kernel
theorem E1_7 {call : jv_F} {l0 l1 : Option Value} {v : Int64} {h : jv_H} : jv_ev call 1 7 [l0, l1] [.long v] h = some (some (.long v), h) := je_lret D1_7 rfl
/-! method 2: DrumMachineModel.word24 -/
theorem N2 {d : Nat} {a0 : Int64} {h : jv_H} : jv_run (d + 1) 2 [.long a0] h = jv_ev (jv_run d) 2 0 [some (.long a0), none] [] h := jv_run_eq (Nat.le_of_ble_eq_true rfl) rfl
theorem D2_0 : decode (jt_code 2) 0 = .ok (.lload_n 0, 1) := by decide +kernel
theorem E2_0 {call : jv_F} {l1 : Option Value} {x : Int64} {st : List Value} {h : jv_H} : jv_ev call 2 0 [some (.long x), l1] st h = jv_ev call 2 1 [some (.long x), l1] (.long x :: st) h := je_lload_n D2_0 rfl rfl
theorem D2_1 : decode (jt_code 2) 1 = .ok (.l2i, 1) := by decide +kernel
theorem E2_1 {call : jv_F} {l0 l1 : Option Value} {x : Int64} {st : List Value} {h : jv_H} : jv_ev call 2 1 [l0, l1] (.long x :: st) h = jv_ev call 2 2 [l0, l1] (.int x.toInt32 :: st) h := je_l2i D2_1 rfl
theorem D2_2 : decode (jt_code 2) 2 = .ok (.bipush 8, 2) := by decide +kernel
theorem E2_2 {call : jv_F} {l0 l1 : Option Value}  {st : List Value} {h : jv_H} : jv_ev call 2 2 [l0, l1] st h = jv_ev call 2 4 [l0, l1] (.int (nI 8) :: st) h := je_bipush D2_2 rfl (by decide)
theorem D2_4 : decode (jt_code 2) 4 = .ok (.ishl, 1) := by decide +kernel
theorem E2_4 {call : jv_F} {l0 l1 : Option Value} {x y : Int32} {st : List Value} {h : jv_H} : jv_ev call 2 4 [l0, l1] (.int y :: .int x :: st) h = jv_ev call 2 5 [l0, l1] (.int (x <<< (y &&& 31)) :: st) h := je_b2 (f := fun x y => x <<< (y &&& 31)) D2_4 rfl (fun _ => rfl)
theorem D2_5 : decode (jt_code 2) 5 = .ok (.bipush 8, 2) := by decide +kernel
theorem E2_5 {call : jv_F} {l0 l1 : Option Value}  {st : List Value} {h : jv_H} : jv_ev call 2 5 [l0, l1] st h = jv_ev call 2 7 [l0, l1] (.int (nI 8) :: st) h := je_bipush D2_5 rfl (by decide)
theorem D2_7 : decode (jt_code 2) 7 = .ok (.ishr, 1) := by decide +kernel
theorem E2_7 {call : jv_F} {l0 l1 : Option Value} {x y : Int32} {st : List Value} {h : jv_H} : jv_ev call 2 7 [l0, l1] (.int y :: .int x :: st) h = jv_ev call 2 8 [l0, l1] (.int (x >>> (y &&& 31)) :: st) h := je_b2 (f := fun x y => x >>> (y &&& 31)) D2_7 rfl (fun _ => rfl)
theorem D2_8 : decode (jt_code 2) 8 = .ok (.ireturn, 1) := by decide +kernel
theorem E2_8 {call : jv_F} {l0 l1 : Option Value} {v : Int32} {h : jv_H} : jv_ev call 2 8 [l0, l1] [.int v] h = some (some (.int v), h) := je_iret (ty := .int) D2_8 rfl rfl rfl
/-! method 3: DrumMachineModel.frames -/
theorem N3 {d : Nat} {b : Nat} {a0 : Int32} {h : jv_H} : jv_run (d + 1) 3 [.ref b, .int a0] h = jv_ev (jv_run d) 3 0 [some (.ref b), some (.int a0)] [] h := jv_run_eq (Nat.le_of_ble_eq_true rfl) rfl
theorem D3_0 : decode (jt_code 3) 0 = .ok (.iload_n 1, 1) := by decide +kernel
theorem E3_0 {call : jv_F} {l0 : Option Value} {x : Int32} {st : List Value} {h : jv_H} : jv_ev call 3 0 [l0, some (.int x)] st h = jv_ev call 3 1 [l0, some (.int x)] (.int x :: st) h := je_iload_n D3_0 rfl rfl
theorem D3_1 : decode (jt_code 3) 1 = .ok (.iconst 3, 1) := by decide +kernel
theorem E3_1 {call : jv_F} {l0 l1 : Option Value}  {st : List Value} {h : jv_H} : jv_ev call 3 1 [l0, l1] st h = jv_ev call 3 2 [l0, l1] (.int (nI 3) :: st) h := je_iconst D3_1 rfl (by decide)
theorem D3_2 : decode (jt_code 3) 2 = .ok (.if_icmp .lt 16, 3) := by decide +kernel
theorem E3_2 {call : jv_F} {l0 l1 : Option Value} {x y : Int32} {st : List Value} {h : jv_H} : jv_ev call 3 2 [l0, l1] (.int y :: .int x :: st) h = if x < y then jv_ev call 3 18 [l0, l1] st h else jv_ev call 3 5 [l0, l1] st h := je_icmp D3_2 (by decide) rfl rfl
theorem D3_5 : decode (jt_code 3) 5 = .ok (.iload_n 1, 1) := by decide +kernel
theorem E3_5 {call : jv_F} {l0 : Option Value} {x : Int32} {st : List Value} {h : jv_H} : jv_ev call 3 5 [l0, some (.int x)] st h = jv_ev call 3 6 [l0, some (.int x)] (.int x :: st) h := je_iload_n D3_5 rfl rfl
theorem D3_6 : decode (jt_code 3) 6 = .ok (.bipush 17, 2) := by decide +kernel
theorem E3_6 {call : jv_F} {l0 l1 : Option Value}  {st : List Value} {h : jv_H} : jv_ev call 3 6 [l0, l1] st h = jv_ev call 3 8 [l0, l1] (.int (nI 17) :: st) h := je_bipush D3_6 rfl (by decide)
theorem D3_8 : decode (jt_code 3) 8 = .ok (.if_icmp .gt 10, 3) := by decide +kernel
theorem E3_8 {call : jv_F} {l0 l1 : Option Value} {x y : Int32} {st : List Value} {h : jv_H} : jv_ev call 3 8 [l0, l1] (.int y :: .int x :: st) h = if y < x then jv_ev call 3 18 [l0, l1] st h else jv_ev call 3 11 [l0, l1] st h := je_icmp D3_8 (by decide) rfl rfl
theorem D3_11 : decode (jt_code 3) 11 = .ok (.aload_n 0, 1) := by decide +kernel
theorem E3_11 {call : jv_F} {l1 : Option Value} {a : Nat} {st : List Value} {h : jv_H} : jv_ev call 3 11 [some (.ref a), l1] st h = jv_ev call 3 12 [some (.ref a), l1] (.ref a :: st) h := je_aload_n (r := some a) D3_11 rfl rfl
theorem D3_12 : decode (jt_code 3) 12 = .ok (.getfield 97, 3) := by decide +kernel
theorem E3_12 {call : jv_F} {l0 l1 : Option Value}  {st : List Value} {m : Nat} {I : Nat → Int32} {A : Nat → Nat → Int32} {L : Nat → Nat → Int64} {rest : Nat → Option jv_C} {z : Nat × Nat} : jv_ev call 3 12 [l0, l1] (.ref m :: st) (jm_H m I A L rest z) = jv_ev call 3 15 [l0, l1] (.int (I 5) :: st) (jm_H m I A L rest z) := je_get D3_12 rfl (by decide) jm_g5
theorem D3_15 : decode (jt_code 3) 15 = .ok (.ifCond .le 5, 3) := by decide +kernel
theorem E3_15 {call : jv_F} {l0 l1 : Option Value} {x : Int32} {st : List Value} {h : jv_H} : jv_ev call 3 15 [l0, l1] (.int x :: st) h = if x ≤ 0 then jv_ev call 3 20 [l0, l1] st h else jv_ev call 3 18 [l0, l1] st h := je_ifc D3_15 (by decide) rfl rfl
theorem D3_18 : decode (jt_code 3) 18 = .ok (.iconst (-1), 1) := by decide +kernel
theorem E3_18 {call : jv_F} {l0 l1 : Option Value}  {st : List Value} {h : jv_H} : jv_ev call 3 18 [l0, l1] st h = jv_ev call 3 19 [l0, l1] (.int (-1) :: st) h := je_iconst D3_18 rfl (by decide)
theorem D3_19 : decode (jt_code 3) 19 = .ok (.ireturn, 1) := by decide +kernel
theorem E3_19 {call : jv_F} {l0 l1 : Option Value} {v : Int32} {h : jv_H} : jv_ev call 3 19 [l0, l1] [.int v] h = some (some (.int v), h) := je_iret (ty := .int) D3_19 rfl rfl rfl
theorem D3_20 : decode (jt_code 3) 20 = .ok (.aload_n 0, 1) := by decide +kernel
theorem E3_20 {call : jv_F} {l1 : Option Value} {a : Nat} {st : List Value} {h : jv_H} : jv_ev call 3 20 [some (.ref a), l1] st h = jv_ev call 3 21 [some (.ref a), l1] (.ref a :: st) h := je_aload_n (r := some a) D3_20 rfl rfl
theorem D3_21 : decode (jt_code 3) 21 = .ok (.iload_n 1, 1) := by decide +kernel
theorem E3_21 {call : jv_F} {l0 : Option Value} {x : Int32} {st : List Value} {h : jv_H} : jv_ev call 3 21 [l0, some (.int x)] st h = jv_ev call 3 22 [l0, some (.int x)] (.int x :: st) h := je_iload_n D3_21 rfl rfl
theorem D3_22 : decode (jt_code 3) 22 = .ok (.putfield 7, 3) := by decide +kernel
theorem E3_22 {call : jv_F} {l0 l1 : Option Value} {v : Int32} {st : List Value} {m : Nat} {I : Nat → Int32} {A : Nat → Nat → Int32} {L : Nat → Nat → Int64} {rest : Nat → Option jv_C} {z : Nat × Nat} : jv_ev call 3 22 [l0, l1] (.int v :: .ref m :: st) (jm_H m I A L rest z) = jv_ev call 3 25 [l0, l1] st (jm_H m (upd I 0 v) A L rest z) := je_put D3_22 rfl (by decide) (by decide) jm_p0
theorem D3_25 : decode (jt_code 3) 25 = .ok (.iload_n 1, 1) := by decide +kernel
theorem E3_25 {call : jv_F} {l0 : Option Value} {x : Int32} {st : List Value} {h : jv_H} : jv_ev call 3 25 [l0, some (.int x)] st h = jv_ev call 3 26 [l0, some (.int x)] (.int x :: st) h := je_iload_n D3_25 rfl rfl
theorem D3_26 : decode (jt_code 3) 26 = .ok (.ireturn, 1) := by decide +kernel
theorem E3_26 {call : jv_F} {l0 l1 : Option Value} {v : Int32} {h : jv_H} : jv_ev call 3 26 [l0, l1] [.int v] h = some (some (.int v), h) := je_iret (ty := .int) D3_26 rfl rfl rfl
/-! method 7: DrumMachineModel.exist -/
theorem N7 {d : Nat} {b : Nat} {a0 : Int32} {h : jv_H} : jv_run (d + 1) 7 [.ref b, .int a0] h = jv_ev (jv_run d) 7 0 [some (.ref b), some (.int a0)] [] h := jv_run_eq (Nat.le_of_ble_eq_true rfl) rfl
theorem D7_0 : decode (jt_code 7) 0 = .ok (.aload_n 0, 1) := by decide +kernel
theorem E7_0 {call : jv_F} {l1 : Option Value} {a : Nat} {st : List Value} {h : jv_H} : jv_ev call 7 0 [some (.ref a), l1] st h = jv_ev call 7 1 [some (.ref a), l1] (.ref a :: st) h := je_aload_n (r := some a) D7_0 rfl rfl
theorem D7_1 : decode (jt_code 7) 1 = .ok (.getfield 63, 3) := by decide +kernel
theorem E7_1 {call : jv_F} {l0 l1 : Option Value}  {st : List Value} {m : Nat} {I : Nat → Int32} {A : Nat → Nat → Int32} {L : Nat → Nat → Int64} {rest : Nat → Option jv_C} {z : Nat × Nat} : jv_ev call 7 1 [l0, l1] (.ref m :: st) (jm_H m I A L rest z) = jv_ev call 7 4 [l0, l1] (.ref (m + 17) :: st) (jm_H m I A L rest z) := je_get D7_1 rfl (by decide) jm_g20
theorem D7_4 : decode (jt_code 7) 4 = .ok (.iload_n 1, 1) := by decide +kernel
theorem E7_4 {call : jv_F} {l0 : Option Value} {x : Int32} {st : List Value} {h : jv_H} : jv_ev call 7 4 [l0, some (.int x)] st h = jv_ev call 7 5 [l0, some (.int x)] (.int x :: st) h := je_iload_n D7_4 rfl rfl
theorem D7_5 : decode (jt_code 7) 5 = .ok (.iconst 1, 1) := by decide +kernel
theorem E7_5 {call : jv_F} {l0 l1 : Option Value}  {st : List Value} {h : jv_H} : jv_ev call 7 5 [l0, l1] st h = jv_ev call 7 6 [l0, l1] (.int (nI 1) :: st) h := je_iconst D7_5 rfl (by decide)
theorem D7_6 : decode (jt_code 7) 6 = .ok (.bastore, 1) := by decide +kernel
theorem E7_6 {call : jv_F} {l0 l1 : Option Value} {i : Nat} {v : Int32} {st : List Value} {m : Nat} {I : Nat → Int32} {A : Nat → Nat → Int32} {L : Nat → Nat → Int64} {rest : Nat → Option jv_C} {z : Nat × Nat} (hi : i < 768) (hv : narrow .boolean (.int v) = .int v) : jv_ev call 7 6 [l0, l1] (.int v :: .int (nI i) :: .ref (m + 17) :: st) (jm_H m I A L rest z) = jv_ev call 7 7 [l0, l1] st (jm_H m I (va_up A 20 (upd (A 20) i v)) L rest z) := je_bast D7_6 rfl (by rw [hv]; exact jm_s20 hi)
theorem D7_7 : decode (jt_code 7) 7 = .ok (.aload_n 0, 1) := by decide +kernel
theorem E7_7 {call : jv_F} {l1 : Option Value} {a : Nat} {st : List Value} {h : jv_H} : jv_ev call 7 7 [some (.ref a), l1] st h = jv_ev call 7 8 [some (.ref a), l1] (.ref a :: st) h := je_aload_n (r := some a) D7_7 rfl rfl
theorem D7_8 : decode (jt_code 7) 8 = .ok (.dup, 1) := by decide +kernel
theorem E7_8 {call : jv_F} {l0 l1 : Option Value} {a : Nat} {st : List Value} {h : jv_H} : jv_ev call 7 8 [l0, l1] (.ref a :: st) h = jv_ev call 7 9 [l0, l1] (.ref a :: .ref a :: st) h := je_dup D7_8 rfl rfl
theorem E7_8i {call : jv_F} {l0 l1 : Option Value} {x : Int32} {st : List Value} {h : jv_H} : jv_ev call 7 8 [l0, l1] (.int x :: st) h = jv_ev call 7 9 [l0, l1] (.int x :: .int x :: st) h := je_dup D7_8 rfl rfl
theorem D7_9 : decode (jt_code 7) 9 = .ok (.getfield 110, 3) := by decide +kernel
theorem E7_9 {call : jv_F} {l0 l1 : Option Value}  {st : List Value} {m : Nat} {I : Nat → Int32} {A : Nat → Nat → Int32} {L : Nat → Nat → Int64} {rest : Nat → Option jv_C} {z : Nat × Nat} : jv_ev call 7 9 [l0, l1] (.ref m :: st) (jm_H m I A L rest z) = jv_ev call 7 12 [l0, l1] (.int (I 22) :: st) (jm_H m I A L rest z) := je_get D7_9 rfl (by decide) jm_g22
theorem D7_12 : decode (jt_code 7) 12 = .ok (.iconst 1, 1) := by decide +kernel
theorem E7_12 {call : jv_F} {l0 l1 : Option Value}  {st : List Value} {h : jv_H} : jv_ev call 7 12 [l0, l1] st h = jv_ev call 7 13 [l0, l1] (.int (nI 1) :: st) h := je_iconst D7_12 rfl (by decide)
theorem D7_13 : decode (jt_code 7) 13 = .ok (.iadd, 1) := by decide +kernel
theorem E7_13 {call : jv_F} {l0 l1 : Option Value} {x y : Int32} {st : List Value} {h : jv_H} : jv_ev call 7 13 [l0, l1] (.int y :: .int x :: st) h = jv_ev call 7 14 [l0, l1] (.int (x + y) :: st) h := je_b2 (f := fun x y => x + y) D7_13 rfl (fun _ => rfl)
theorem D7_14 : decode (jt_code 7) 14 = .ok (.putfield 110, 3) := by decide +kernel
theorem E7_14 {call : jv_F} {l0 l1 : Option Value} {v : Int32} {st : List Value} {m : Nat} {I : Nat → Int32} {A : Nat → Nat → Int32} {L : Nat → Nat → Int64} {rest : Nat → Option jv_C} {z : Nat × Nat} : jv_ev call 7 14 [l0, l1] (.int v :: .ref m :: st) (jm_H m I A L rest z) = jv_ev call 7 17 [l0, l1] st (jm_H m (upd I 22 v) A L rest z) := je_put D7_14 rfl (by decide) (by decide) jm_p22
theorem D7_17 : decode (jt_code 7) 17 = .ok (.return_, 1) := by decide +kernel
theorem E7_17 {call : jv_F} {l0 l1 : Option Value}  {h : jv_H} : jv_ev call 7 17 [l0, l1] [] h = some (none, h) := je_ret D7_17 rfl
/-! method 8: DrumMachineModel.frameOf -/
theorem N8 {d : Nat} {b : Nat} {a0 : Int32} {h : jv_H} : jv_run (d + 1) 8 [.ref b, .int a0] h = jv_ev (jv_run d) 8 0 [some (.ref b), some (.int a0), none] [] h := jv_run_eq (Nat.le_of_ble_eq_true rfl) rfl
theorem D8_0 : decode (jt_code 8) 0 = .ok (.iconst 0, 1) := by decide +kernel
theorem E8_0 {call : jv_F} {l0 l1 l2 : Option Value}  {st : List Value} {h : jv_H} : jv_ev call 8 0 [l0, l1, l2] st h = jv_ev call 8 1 [l0, l1, l2] (.int (nI 0) :: st) h := je_iconst D8_0 rfl (by decide)
theorem D8_1 : decode (jt_code 8) 1 = .ok (.istore_n 2, 1) := by decide +kernel
theorem E8_1 {call : jv_F} {l0 l1 l2 : Option Value} {x : Int32} {st : List Value} {h : jv_H} (hk : ¬ jv_is2 (some l1) = true) : jv_ev call 8 1 [l0, l1, l2] (.int x :: st) h = jv_ev call 8 2 [l0, l1, some (.int x)] st h := je_istore_n D8_1 rfl (Nat.le_of_ble_eq_true rfl) (by show jv_st1 _ 2 _ = _; simp only [jv_st1, jv_kill, List.getElem?_cons_succ, List.getElem?_cons_zero, hk, if_false]; rfl)
theorem D8_2 : decode (jt_code 8) 2 = .ok (.iload_n 2, 1) := by decide +kernel
theorem E8_2 {call : jv_F} {l0 l1 : Option Value} {x : Int32} {st : List Value} {h : jv_H} : jv_ev call 8 2 [l0, l1, some (.int x)] st h = jv_ev call 8 3 [l0, l1, some (.int x)] (.int x :: st) h := je_iload_n D8_2 rfl rfl
theorem D8_3 : decode (jt_code 8) 3 = .ok (.aload_n 0, 1) := by decide +kernel
theorem E8_3 {call : jv_F} {l1 l2 : Option Value} {a : Nat} {st : List Value} {h : jv_H} : jv_ev call 8 3 [some (.ref a), l1, l2] st h = jv_ev call 8 4 [some (.ref a), l1, l2] (.ref a :: st) h := je_aload_n (r := some a) D8_3 rfl rfl
theorem D8_4 : decode (jt_code 8) 4 = .ok (.getfield 7, 3) := by decide +kernel
theorem E8_4 {call : jv_F} {l0 l1 l2 : Option Value}  {st : List Value} {m : Nat} {I : Nat → Int32} {A : Nat → Nat → Int32} {L : Nat → Nat → Int64} {rest : Nat → Option jv_C} {z : Nat × Nat} : jv_ev call 8 4 [l0, l1, l2] (.ref m :: st) (jm_H m I A L rest z) = jv_ev call 8 7 [l0, l1, l2] (.int (I 0) :: st) (jm_H m I A L rest z) := je_get D8_4 rfl (by decide) jm_g0
theorem D8_7 : decode (jt_code 8) 7 = .ok (.if_icmp .ge 21, 3) := by decide +kernel
theorem E8_7 {call : jv_F} {l0 l1 l2 : Option Value} {x y : Int32} {st : List Value} {h : jv_H} : jv_ev call 8 7 [l0, l1, l2] (.int y :: .int x :: st) h = if y ≤ x then jv_ev call 8 28 [l0, l1, l2] st h else jv_ev call 8 10 [l0, l1, l2] st h := je_icmp D8_7 (by decide) rfl rfl
theorem D8_10 : decode (jt_code 8) 10 = .ok (.aload_n 0, 1) := by decide +kernel
theorem E8_10 {call : jv_F} {l1 l2 : Option Value} {a : Nat} {st : List Value} {h : jv_H} : jv_ev call 8 10 [some (.ref a), l1, l2] st h = jv_ev call 8 11 [some (.ref a), l1, l2] (.ref a :: st) h := je_aload_n (r := some a) D8_10 rfl rfl
theorem D8_11 : decode (jt_code 8) 11 = .ok (.getfield 70, 3) := by decide +kernel
theorem E8_11 {call : jv_F} {l0 l1 l2 : Option Value}  {st : List Value} {m : Nat} {I : Nat → Int32} {A : Nat → Nat → Int32} {L : Nat → Nat → Int64} {rest : Nat → Option jv_C} {z : Nat × Nat} : jv_ev call 8 11 [l0, l1, l2] (.ref m :: st) (jm_H m I A L rest z) = jv_ev call 8 14 [l0, l1, l2] (.ref (m + 19) :: st) (jm_H m I A L rest z) := je_get D8_11 rfl (by decide) jm_g23
theorem D8_14 : decode (jt_code 8) 14 = .ok (.iload_n 2, 1) := by decide +kernel
theorem E8_14 {call : jv_F} {l0 l1 : Option Value} {x : Int32} {st : List Value} {h : jv_H} : jv_ev call 8 14 [l0, l1, some (.int x)] st h = jv_ev call 8 15 [l0, l1, some (.int x)] (.int x :: st) h := je_iload_n D8_14 rfl rfl
theorem D8_15 : decode (jt_code 8) 15 = .ok (.iaload, 1) := by decide +kernel
theorem E8_15 {call : jv_F} {l0 l1 l2 : Option Value} {i : Nat} {st : List Value} {m : Nat} {I : Nat → Int32} {A : Nat → Nat → Int32} {L : Nat → Nat → Int64} {rest : Nat → Option jv_C} {z : Nat × Nat} (hi : i < 17) : jv_ev call 8 15 [l0, l1, l2] (.int (nI i) :: .ref (m + 19) :: st) (jm_H m I A L rest z) = jv_ev call 8 16 [l0, l1, l2] (.int (A 23 i) :: st) (jm_H m I A L rest z) := je_iald D8_15 rfl (jm_l23 hi)
theorem D8_16 : decode (jt_code 8) 16 = .ok (.iload_n 1, 1) := by decide +kernel
theorem E8_16 {call : jv_F} {l0 l2 : Option Value} {x : Int32} {st : List Value} {h : jv_H} : jv_ev call 8 16 [l0, some (.int x), l2] st h = jv_ev call 8 17 [l0, some (.int x), l2] (.int x :: st) h := je_iload_n D8_16 rfl rfl
theorem D8_17 : decode (jt_code 8) 17 = .ok (.if_icmp .ne 5, 3) := by decide +kernel
theorem E8_17 {call : jv_F} {l0 l1 l2 : Option Value} {x y : Int32} {st : List Value} {h : jv_H} : jv_ev call 8 17 [l0, l1, l2] (.int y :: .int x :: st) h = if ¬ x = y then jv_ev call 8 22 [l0, l1, l2] st h else jv_ev call 8 20 [l0, l1, l2] st h := je_icmp D8_17 (by decide) rfl rfl
theorem D8_20 : decode (jt_code 8) 20 = .ok (.iload_n 2, 1) := by decide +kernel
theorem E8_20 {call : jv_F} {l0 l1 : Option Value} {x : Int32} {st : List Value} {h : jv_H} : jv_ev call 8 20 [l0, l1, some (.int x)] st h = jv_ev call 8 21 [l0, l1, some (.int x)] (.int x :: st) h := je_iload_n D8_20 rfl rfl
theorem D8_21 : decode (jt_code 8) 21 = .ok (.ireturn, 1) := by decide +kernel
theorem E8_21 {call : jv_F} {l0 l1 l2 : Option Value} {v : Int32} {h : jv_H} : jv_ev call 8 21 [l0, l1, l2] [.int v] h = some (some (.int v), h) := je_iret (ty := .int) D8_21 rfl rfl rfl
theorem D8_22 : decode (jt_code 8) 22 = .ok (.iinc 2 1, 3) := by decide +kernel
theorem E8_22 {call : jv_F} {l0 l1 : Option Value} {x : Int32} {st : List Value} {h : jv_H} (hk : ¬ jv_is2 (some l1) = true) : jv_ev call 8 22 [l0, l1, some (.int x)] st h = jv_ev call 8 25 [l0, l1, some (.int (x + (nI 1)))] st h := je_iinc D8_22 rfl rfl (v := x + (nI 1)) (by rfl) (by show jv_st1 _ 2 _ = _; simp only [jv_st1, jv_kill, List.getElem?_cons_succ, List.getElem?_cons_zero, hk, if_false]; rfl)
theorem D8_25 : decode (jt_code 8) 25 = .ok (.goto (-23), 3) := by decide +kernel
theorem E8_25 {call : jv_F} {l0 l1 l2 : Option Value}  {st : List Value} {h : jv_H} : jv_ev call 8 25 [l0, l1, l2] st h = jv_ev call 8 2 [l0, l1, l2] st h := je_goto D8_25 (by decide)
theorem D8_28 : decode (jt_code 8) 28 = .ok (.iconst (-1), 1) := by decide +kernel
theorem E8_28 {call : jv_F} {l0 l1 l2 : Option Value}  {st : List Value} {h : jv_H} : jv_ev call 8 28 [l0, l1, l2] st h = jv_ev call 8 29 [l0, l1, l2] (.int (-1) :: st) h := je_iconst D8_28 rfl (by decide)
theorem D8_29 : decode (jt_code 8) 29 = .ok (.ireturn, 1) := by decide +kernel
theorem E8_29 {call : jv_F} {l0 l1 l2 : Option Value} {v : Int32} {h : jv_H} : jv_ev call 8 29 [l0, l1, l2] [.int v] h = some (some (.int v), h) := je_iret (ty := .int) D8_29 rfl rfl rfl
/-! method 9: DrumMachineModel.sectorOf -/
theorem N9 {d : Nat} {b : Nat} {a0 : Int32} {h : jv_H} : jv_run (d + 1) 9 [.ref b, .int a0] h = jv_ev (jv_run d) 9 0 [some (.ref b), some (.int a0), none] [] h := jv_run_eq (Nat.le_of_ble_eq_true rfl) rfl
theorem D9_0 : decode (jt_code 9) 0 = .ok (.iconst 0, 1) := by decide +kernel
theorem E9_0 {call : jv_F} {l0 l1 l2 : Option Value}  {st : List Value} {h : jv_H} : jv_ev call 9 0 [l0, l1, l2] st h = jv_ev call 9 1 [l0, l1, l2] (.int (nI 0) :: st) h := je_iconst D9_0 rfl (by decide)
theorem D9_1 : decode (jt_code 9) 1 = .ok (.istore_n 2, 1) := by decide +kernel
theorem E9_1 {call : jv_F} {l0 l1 l2 : Option Value} {x : Int32} {st : List Value} {h : jv_H} (hk : ¬ jv_is2 (some l1) = true) : jv_ev call 9 1 [l0, l1, l2] (.int x :: st) h = jv_ev call 9 2 [l0, l1, some (.int x)] st h := je_istore_n D9_1 rfl (Nat.le_of_ble_eq_true rfl) (by show jv_st1 _ 2 _ = _; simp only [jv_st1, jv_kill, List.getElem?_cons_succ, List.getElem?_cons_zero, hk, if_false]; rfl)
theorem D9_2 : decode (jt_code 9) 2 = .ok (.iload_n 2, 1) := by decide +kernel
theorem E9_2 {call : jv_F} {l0 l1 : Option Value} {x : Int32} {st : List Value} {h : jv_H} : jv_ev call 9 2 [l0, l1, some (.int x)] st h = jv_ev call 9 3 [l0, l1, some (.int x)] (.int x :: st) h := je_iload_n D9_2 rfl rfl
theorem D9_3 : decode (jt_code 9) 3 = .ok (.bipush 64, 2) := by decide +kernel
theorem E9_3 {call : jv_F} {l0 l1 l2 : Option Value}  {st : List Value} {h : jv_H} : jv_ev call 9 3 [l0, l1, l2] st h = jv_ev call 9 5 [l0, l1, l2] (.int (nI 64) :: st) h := je_bipush D9_3 rfl (by decide)
theorem D9_5 : decode (jt_code 9) 5 = .ok (.if_icmp .ge 21, 3) := by decide +kernel
theorem E9_5 {call : jv_F} {l0 l1 l2 : Option Value} {x y : Int32} {st : List Value} {h : jv_H} : jv_ev call 9 5 [l0, l1, l2] (.int y :: .int x :: st) h = if y ≤ x then jv_ev call 9 26 [l0, l1, l2] st h else jv_ev call 9 8 [l0, l1, l2] st h := je_icmp D9_5 (by decide) rfl rfl
theorem D9_8 : decode (jt_code 9) 8 = .ok (.aload_n 0, 1) := by decide +kernel
theorem E9_8 {call : jv_F} {l1 l2 : Option Value} {a : Nat} {st : List Value} {h : jv_H} : jv_ev call 9 8 [some (.ref a), l1, l2] st h = jv_ev call 9 9 [some (.ref a), l1, l2] (.ref a :: st) h := je_aload_n (r := some a) D9_8 rfl rfl
theorem D9_9 : decode (jt_code 9) 9 = .ok (.getfield 85, 3) := by decide +kernel
theorem E9_9 {call : jv_F} {l0 l1 l2 : Option Value}  {st : List Value} {m : Nat} {I : Nat → Int32} {A : Nat → Nat → Int32} {L : Nat → Nat → Int64} {rest : Nat → Option jv_C} {z : Nat × Nat} : jv_ev call 9 9 [l0, l1, l2] (.ref m :: st) (jm_H m I A L rest z) = jv_ev call 9 12 [l0, l1, l2] (.ref (m + 24) :: st) (jm_H m I A L rest z) := je_get D9_9 rfl (by decide) jm_g28
theorem D9_12 : decode (jt_code 9) 12 = .ok (.iload_n 2, 1) := by decide +kernel
theorem E9_12 {call : jv_F} {l0 l1 : Option Value} {x : Int32} {st : List Value} {h : jv_H} : jv_ev call 9 12 [l0, l1, some (.int x)] st h = jv_ev call 9 13 [l0, l1, some (.int x)] (.int x :: st) h := je_iload_n D9_12 rfl rfl
theorem D9_13 : decode (jt_code 9) 13 = .ok (.iaload, 1) := by decide +kernel
theorem E9_13 {call : jv_F} {l0 l1 l2 : Option Value} {i : Nat} {st : List Value} {m : Nat} {I : Nat → Int32} {A : Nat → Nat → Int32} {L : Nat → Nat → Int64} {rest : Nat → Option jv_C} {z : Nat × Nat} (hi : i < 64) : jv_ev call 9 13 [l0, l1, l2] (.int (nI i) :: .ref (m + 24) :: st) (jm_H m I A L rest z) = jv_ev call 9 14 [l0, l1, l2] (.int (A 28 i) :: st) (jm_H m I A L rest z) := je_iald D9_13 rfl (jm_l28 hi)
theorem D9_14 : decode (jt_code 9) 14 = .ok (.iload_n 1, 1) := by decide +kernel
theorem E9_14 {call : jv_F} {l0 l2 : Option Value} {x : Int32} {st : List Value} {h : jv_H} : jv_ev call 9 14 [l0, some (.int x), l2] st h = jv_ev call 9 15 [l0, some (.int x), l2] (.int x :: st) h := je_iload_n D9_14 rfl rfl
theorem D9_15 : decode (jt_code 9) 15 = .ok (.if_icmp .ne 5, 3) := by decide +kernel
theorem E9_15 {call : jv_F} {l0 l1 l2 : Option Value} {x y : Int32} {st : List Value} {h : jv_H} : jv_ev call 9 15 [l0, l1, l2] (.int y :: .int x :: st) h = if ¬ x = y then jv_ev call 9 20 [l0, l1, l2] st h else jv_ev call 9 18 [l0, l1, l2] st h := je_icmp D9_15 (by decide) rfl rfl
theorem D9_18 : decode (jt_code 9) 18 = .ok (.iload_n 2, 1) := by decide +kernel
theorem E9_18 {call : jv_F} {l0 l1 : Option Value} {x : Int32} {st : List Value} {h : jv_H} : jv_ev call 9 18 [l0, l1, some (.int x)] st h = jv_ev call 9 19 [l0, l1, some (.int x)] (.int x :: st) h := je_iload_n D9_18 rfl rfl
theorem D9_19 : decode (jt_code 9) 19 = .ok (.ireturn, 1) := by decide +kernel
theorem E9_19 {call : jv_F} {l0 l1 l2 : Option Value} {v : Int32} {h : jv_H} : jv_ev call 9 19 [l0, l1, l2] [.int v] h = some (some (.int v), h) := je_iret (ty := .int) D9_19 rfl rfl rfl
theorem D9_20 : decode (jt_code 9) 20 = .ok (.iinc 2 1, 3) := by decide +kernel
theorem E9_20 {call : jv_F} {l0 l1 : Option Value} {x : Int32} {st : List Value} {h : jv_H} (hk : ¬ jv_is2 (some l1) = true) : jv_ev call 9 20 [l0, l1, some (.int x)] st h = jv_ev call 9 23 [l0, l1, some (.int (x + (nI 1)))] st h := je_iinc D9_20 rfl rfl (v := x + (nI 1)) (by rfl) (by show jv_st1 _ 2 _ = _; simp only [jv_st1, jv_kill, List.getElem?_cons_succ, List.getElem?_cons_zero, hk, if_false]; rfl)
theorem D9_23 : decode (jt_code 9) 23 = .ok (.goto (-21), 3) := by decide +kernel
theorem E9_23 {call : jv_F} {l0 l1 l2 : Option Value}  {st : List Value} {h : jv_H} : jv_ev call 9 23 [l0, l1, l2] st h = jv_ev call 9 2 [l0, l1, l2] st h := je_goto D9_23 (by decide)
theorem D9_26 : decode (jt_code 9) 26 = .ok (.iconst (-1), 1) := by decide +kernel
theorem E9_26 {call : jv_F} {l0 l1 l2 : Option Value}  {st : List Value} {h : jv_H} : jv_ev call 9 26 [l0, l1, l2] st h = jv_ev call 9 27 [l0, l1, l2] (.int (-1) :: st) h := je_iconst D9_26 rfl (by decide)
theorem D9_27 : decode (jt_code 9) 27 = .ok (.ireturn, 1) := by decide +kernel
theorem E9_27 {call : jv_F} {l0 l1 l2 : Option Value} {v : Int32} {h : jv_H} : jv_ev call 9 27 [l0, l1, l2] [.int v] h = some (some (.int v), h) := je_iret (ty := .int) D9_27 rfl rfl rfl
/-! method 10: DrumMachineModel.freeFrame -/
theorem N10 {d : Nat} {b : Nat} {h : jv_H} : jv_run (d + 1) 10 [.ref b] h = jv_ev (jv_run d) 10 0 [some (.ref b)] [] h := jv_run_eq (Nat.le_of_ble_eq_true rfl) rfl
theorem D10_0 : decode (jt_code 10) 0 = .ok (.aload_n 0, 1) := by decide +kernel
theorem E10_0 {call : jv_F} {a : Nat} {st : List Value} {h : jv_H} : jv_ev call 10 0 [some (.ref a)] st h = jv_ev call 10 1 [some (.ref a)] (.ref a :: st) h := je_aload_n (r := some a) D10_0 rfl rfl
theorem D10_1 : decode (jt_code 10) 1 = .ok (.iconst (-1), 1) := by decide +kernel
theorem E10_1 {call : jv_F} {l0 : Option Value}  {st : List Value} {h : jv_H} : jv_ev call 10 1 [l0] st h = jv_ev call 10 2 [l0] (.int (-1) :: st) h := je_iconst D10_1 rfl (by decide)
theorem D10_2 : decode (jt_code 10) 2 = .ok (.invokevirtual 117, 3) := by decide +kernel
theorem E10_2 {call : jv_F} {l0 : Option Value} {v0 : Value}  {st : List Value} {m : Nat} {I : Nat → Int32} {A : Nat → Nat → Int32} {L : Nat → Nat → Int64} {rest : Nat → Option jv_C} {z : Nat × Nat} (hw : jv_wide st = true) (hc : (call 8 [.ref m, v0] (jm_H m I A L rest z)).isSome = true) : jv_ev call 10 2 [l0] (v0 :: .ref m :: st) (jm_H m I A L rest z) = jv_ev call 10 5 [l0] ((((call 8 [.ref m, v0] (jm_H m I A L rest z)).getD (none, (jm_H m I A L rest z))).1).toList ++ st) ((call 8 [.ref m, v0] (jm_H m I A L rest z)).getD (none, (jm_H m I A L rest z))).2 := by
  obtain ⟨⟨r, h'⟩, hv⟩ := Option.isSome_iff_exists.mp hc
  rw [hv]
  exact je_virt (y := 8) (as := [v0]) D10_2 rfl (by decide) (by decide) rfl jm_cl hw hv
theorem D10_5 : decode (jt_code 10) 5 = .ok (.ireturn, 1) := by decide +kernel
theorem E10_5 {call : jv_F} {l0 : Option Value} {v : Int32} {h : jv_H} : jv_ev call 10 5 [l0] [.int v] h = some (some (.int v), h) := je_iret (ty := .int) D10_5 rfl rfl rfl
/-! method 11: DrumMachineModel.notEnded -/
theorem N11 {d : Nat} {b : Nat} {h : jv_H} : jv_run (d + 1) 11 [.ref b] h = jv_ev (jv_run d) 11 0 [some (.ref b), none, none] [] h := jv_run_eq (Nat.le_of_ble_eq_true rfl) rfl
theorem D11_0 : decode (jt_code 11) 0 = .ok (.iconst 0, 1) := by decide +kernel
theorem E11_0 {call : jv_F} {l0 l1 l2 : Option Value}  {st : List Value} {h : jv_H} : jv_ev call 11 0 [l0, l1, l2] st h = jv_ev call 11 1 [l0, l1, l2] (.int (nI 0) :: st) h := je_iconst D11_0 rfl (by decide)
theorem D11_1 : decode (jt_code 11) 1 = .ok (.istore_n 1, 1) := by decide +kernel
theorem E11_1 {call : jv_F} {l0 l1 l2 : Option Value} {x : Int32} {st : List Value} {h : jv_H} (hk : ¬ jv_is2 (some l0) = true) : jv_ev call 11 1 [l0, l1, l2] (.int x :: st) h = jv_ev call 11 2 [l0, some (.int x), l2] st h := je_istore_n D11_1 rfl (Nat.le_of_ble_eq_true rfl) (by show jv_st1 _ 1 _ = _; simp only [jv_st1, jv_kill, List.getElem?_cons_succ, List.getElem?_cons_zero, hk, if_false]; rfl)
theorem D11_2 : decode (jt_code 11) 2 = .ok (.iconst 0, 1) := by decide +kernel
theorem E11_2 {call : jv_F} {l0 l1 l2 : Option Value}  {st : List Value} {h : jv_H} : jv_ev call 11 2 [l0, l1, l2] st h = jv_ev call 11 3 [l0, l1, l2] (.int (nI 0) :: st) h := je_iconst D11_2 rfl (by decide)
theorem D11_3 : decode (jt_code 11) 3 = .ok (.istore_n 2, 1) := by decide +kernel
theorem E11_3 {call : jv_F} {l0 l1 l2 : Option Value} {x : Int32} {st : List Value} {h : jv_H} (hk : ¬ jv_is2 (some l1) = true) : jv_ev call 11 3 [l0, l1, l2] (.int x :: st) h = jv_ev call 11 4 [l0, l1, some (.int x)] st h := je_istore_n D11_3 rfl (Nat.le_of_ble_eq_true rfl) (by show jv_st1 _ 2 _ = _; simp only [jv_st1, jv_kill, List.getElem?_cons_succ, List.getElem?_cons_zero, hk, if_false]; rfl)
theorem D11_4 : decode (jt_code 11) 4 = .ok (.iload_n 2, 1) := by decide +kernel
theorem E11_4 {call : jv_F} {l0 l1 : Option Value} {x : Int32} {st : List Value} {h : jv_H} : jv_ev call 11 4 [l0, l1, some (.int x)] st h = jv_ev call 11 5 [l0, l1, some (.int x)] (.int x :: st) h := je_iload_n D11_4 rfl rfl
theorem D11_5 : decode (jt_code 11) 5 = .ok (.aload_n 0, 1) := by decide +kernel
theorem E11_5 {call : jv_F} {l1 l2 : Option Value} {a : Nat} {st : List Value} {h : jv_H} : jv_ev call 11 5 [some (.ref a), l1, l2] st h = jv_ev call 11 6 [some (.ref a), l1, l2] (.ref a :: st) h := je_aload_n (r := some a) D11_5 rfl rfl
theorem D11_6 : decode (jt_code 11) 6 = .ok (.getfield 97, 3) := by decide +kernel
theorem E11_6 {call : jv_F} {l0 l1 l2 : Option Value}  {st : List Value} {m : Nat} {I : Nat → Int32} {A : Nat → Nat → Int32} {L : Nat → Nat → Int64} {rest : Nat → Option jv_C} {z : Nat × Nat} : jv_ev call 11 6 [l0, l1, l2] (.ref m :: st) (jm_H m I A L rest z) = jv_ev call 11 9 [l0, l1, l2] (.int (I 5) :: st) (jm_H m I A L rest z) := je_get D11_6 rfl (by decide) jm_g5
theorem D11_9 : decode (jt_code 11) 9 = .ok (.if_icmp .ge 26, 3) := by decide +kernel
theorem E11_9 {call : jv_F} {l0 l1 l2 : Option Value} {x y : Int32} {st : List Value} {h : jv_H} : jv_ev call 11 9 [l0, l1, l2] (.int y :: .int x :: st) h = if y ≤ x then jv_ev call 11 35 [l0, l1, l2] st h else jv_ev call 11 12 [l0, l1, l2] st h := je_icmp D11_9 (by decide) rfl rfl
theorem D11_12 : decode (jt_code 11) 12 = .ok (.iload_n 1, 1) := by decide +kernel
theorem E11_12 {call : jv_F} {l0 l2 : Option Value} {x : Int32} {st : List Value} {h : jv_H} : jv_ev call 11 12 [l0, some (.int x), l2] st h = jv_ev call 11 13 [l0, some (.int x), l2] (.int x :: st) h := je_iload_n D11_12 rfl rfl
theorem D11_13 : decode (jt_code 11) 13 = .ok (.aload_n 0, 1) := by decide +kernel
theorem E11_13 {call : jv_F} {l1 l2 : Option Value} {a : Nat} {st : List Value} {h : jv_H} : jv_ev call 11 13 [some (.ref a), l1, l2] st h = jv_ev call 11 14 [some (.ref a), l1, l2] (.ref a :: st) h := je_aload_n (r := some a) D11_13 rfl rfl
theorem D11_14 : decode (jt_code 11) 14 = .ok (.getfield 27, 3) := by decide +kernel
theorem E11_14 {call : jv_F} {l0 l1 l2 : Option Value}  {st : List Value} {m : Nat} {I : Nat → Int32} {A : Nat → Nat → Int32} {L : Nat → Nat → Int64} {rest : Nat → Option jv_C} {z : Nat × Nat} : jv_ev call 11 14 [l0, l1, l2] (.ref m :: st) (jm_H m I A L rest z) = jv_ev call 11 17 [l0, l1, l2] (.ref (m + 5) :: st) (jm_H m I A L rest z) := je_get D11_14 rfl (by decide) jm_g8
theorem D11_17 : decode (jt_code 11) 17 = .ok (.iload_n 2, 1) := by decide +kernel
theorem E11_17 {call : jv_F} {l0 l1 : Option Value} {x : Int32} {st : List Value} {h : jv_H} : jv_ev call 11 17 [l0, l1, some (.int x)] st h = jv_ev call 11 18 [l0, l1, some (.int x)] (.int x :: st) h := je_iload_n D11_17 rfl rfl
theorem D11_18 : decode (jt_code 11) 18 = .ok (.iaload, 1) := by decide +kernel
theorem E11_18 {call : jv_F} {l0 l1 l2 : Option Value} {i : Nat} {st : List Value} {m : Nat} {I : Nat → Int32} {A : Nat → Nat → Int32} {L : Nat → Nat → Int64} {rest : Nat → Option jv_C} {z : Nat × Nat} (hi : i < 12) : jv_ev call 11 18 [l0, l1, l2] (.int (nI i) :: .ref (m + 5) :: st) (jm_H m I A L rest z) = jv_ev call 11 19 [l0, l1, l2] (.int (A 8 i) :: st) (jm_H m I A L rest z) := je_iald D11_18 rfl (jm_l8 hi)
theorem D11_19 : decode (jt_code 11) 19 = .ok (.ifCond .ne 7, 3) := by decide +kernel
theorem E11_19 {call : jv_F} {l0 l1 l2 : Option Value} {x : Int32} {st : List Value} {h : jv_H} : jv_ev call 11 19 [l0, l1, l2] (.int x :: st) h = if ¬ x = 0 then jv_ev call 11 26 [l0, l1, l2] st h else jv_ev call 11 22 [l0, l1, l2] st h := je_ifc D11_19 (by decide) rfl rfl
theorem D11_22 : decode (jt_code 11) 22 = .ok (.iconst 1, 1) := by decide +kernel
theorem E11_22 {call : jv_F} {l0 l1 l2 : Option Value}  {st : List Value} {h : jv_H} : jv_ev call 11 22 [l0, l1, l2] st h = jv_ev call 11 23 [l0, l1, l2] (.int (nI 1) :: st) h := je_iconst D11_22 rfl (by decide)
theorem D11_23 : decode (jt_code 11) 23 = .ok (.goto 4, 3) := by decide +kernel
theorem E11_23 {call : jv_F} {l0 l1 l2 : Option Value}  {st : List Value} {h : jv_H} : jv_ev call 11 23 [l0, l1, l2] st h = jv_ev call 11 27 [l0, l1, l2] st h := je_goto D11_23 (by decide)
theorem D11_26 : decode (jt_code 11) 26 = .ok (.iconst 0, 1) := by decide +kernel
theorem E11_26 {call : jv_F} {l0 l1 l2 : Option Value}  {st : List Value} {h : jv_H} : jv_ev call 11 26 [l0, l1, l2] st h = jv_ev call 11 27 [l0, l1, l2] (.int (nI 0) :: st) h := je_iconst D11_26 rfl (by decide)
theorem D11_27 : decode (jt_code 11) 27 = .ok (.iadd, 1) := by decide +kernel
theorem E11_27 {call : jv_F} {l0 l1 l2 : Option Value} {x y : Int32} {st : List Value} {h : jv_H} : jv_ev call 11 27 [l0, l1, l2] (.int y :: .int x :: st) h = jv_ev call 11 28 [l0, l1, l2] (.int (x + y) :: st) h := je_b2 (f := fun x y => x + y) D11_27 rfl (fun _ => rfl)
theorem D11_28 : decode (jt_code 11) 28 = .ok (.istore_n 1, 1) := by decide +kernel
theorem E11_28 {call : jv_F} {l0 l1 l2 : Option Value} {x : Int32} {st : List Value} {h : jv_H} (hk : ¬ jv_is2 (some l0) = true) : jv_ev call 11 28 [l0, l1, l2] (.int x :: st) h = jv_ev call 11 29 [l0, some (.int x), l2] st h := je_istore_n D11_28 rfl (Nat.le_of_ble_eq_true rfl) (by show jv_st1 _ 1 _ = _; simp only [jv_st1, jv_kill, List.getElem?_cons_succ, List.getElem?_cons_zero, hk, if_false]; rfl)
theorem D11_29 : decode (jt_code 11) 29 = .ok (.iinc 2 1, 3) := by decide +kernel
theorem E11_29 {call : jv_F} {l0 l1 : Option Value} {x : Int32} {st : List Value} {h : jv_H} (hk : ¬ jv_is2 (some l1) = true) : jv_ev call 11 29 [l0, l1, some (.int x)] st h = jv_ev call 11 32 [l0, l1, some (.int (x + (nI 1)))] st h := je_iinc D11_29 rfl rfl (v := x + (nI 1)) (by rfl) (by show jv_st1 _ 2 _ = _; simp only [jv_st1, jv_kill, List.getElem?_cons_succ, List.getElem?_cons_zero, hk, if_false]; rfl)
theorem D11_32 : decode (jt_code 11) 32 = .ok (.goto (-28), 3) := by decide +kernel
theorem E11_32 {call : jv_F} {l0 l1 l2 : Option Value}  {st : List Value} {h : jv_H} : jv_ev call 11 32 [l0, l1, l2] st h = jv_ev call 11 4 [l0, l1, l2] st h := je_goto D11_32 (by decide)
theorem D11_35 : decode (jt_code 11) 35 = .ok (.iload_n 1, 1) := by decide +kernel
theorem E11_35 {call : jv_F} {l0 l2 : Option Value} {x : Int32} {st : List Value} {h : jv_H} : jv_ev call 11 35 [l0, some (.int x), l2] st h = jv_ev call 11 36 [l0, some (.int x), l2] (.int x :: st) h := je_iload_n D11_35 rfl rfl
theorem D11_36 : decode (jt_code 11) 36 = .ok (.ireturn, 1) := by decide +kernel
theorem E11_36 {call : jv_F} {l0 l1 l2 : Option Value} {v : Int32} {h : jv_H} : jv_ev call 11 36 [l0, l1, l2] [.int v] h = some (some (.int v), h) := je_iret (ty := .int) D11_36 rfl rfl rfl
/-! method 12: DrumMachineModel.isActive -/
theorem N12 {d : Nat} {b : Nat} {a0 : Int32} {h : jv_H} : jv_run (d + 1) 12 [.ref b, .int a0] h = jv_ev (jv_run d) 12 0 [some (.ref b), some (.int a0), none, none] [] h := jv_run_eq (Nat.le_of_ble_eq_true rfl) rfl
theorem D12_0 : decode (jt_code 12) 0 = .ok (.aload_n 0, 1) := by decide +kernel
theorem E12_0 {call : jv_F} {l1 l2 l3 : Option Value} {a : Nat} {st : List Value} {h : jv_H} : jv_ev call 12 0 [some (.ref a), l1, l2, l3] st h = jv_ev call 12 1 [some (.ref a), l1, l2, l3] (.ref a :: st) h := je_aload_n (r := some a) D12_0 rfl rfl
theorem D12_1 : decode (jt_code 12) 1 = .ok (.getfield 27, 3) := by decide +kernel
theorem E12_1 {call : jv_F} {l0 l1 l2 l3 : Option Value}  {st : List Value} {m : Nat} {I : Nat → Int32} {A : Nat → Nat → Int32} {L : Nat → Nat → Int64} {rest : Nat → Option jv_C} {z : Nat × Nat} : jv_ev call 12 1 [l0, l1, l2, l3] (.ref m :: st) (jm_H m I A L rest z) = jv_ev call 12 4 [l0, l1, l2, l3] (.ref (m + 5) :: st) (jm_H m I A L rest z) := je_get D12_1 rfl (by decide) jm_g8
theorem D12_4 : decode (jt_code 12) 4 = .ok (.iload_n 1, 1) := by decide +kernel
theorem E12_4 {call : jv_F} {l0 l2 l3 : Option Value} {x : Int32} {st : List Value} {h : jv_H} : jv_ev call 12 4 [l0, some (.int x), l2, l3] st h = jv_ev call 12 5 [l0, some (.int x), l2, l3] (.int x :: st) h := je_iload_n D12_4 rfl rfl
theorem D12_5 : decode (jt_code 12) 5 = .ok (.iaload, 1) := by decide +kernel
theorem E12_5 {call : jv_F} {l0 l1 l2 l3 : Option Value} {i : Nat} {st : List Value} {m : Nat} {I : Nat → Int32} {A : Nat → Nat → Int32} {L : Nat → Nat → Int64} {rest : Nat → Option jv_C} {z : Nat × Nat} (hi : i < 12) : jv_ev call 12 5 [l0, l1, l2, l3] (.int (nI i) :: .ref (m + 5) :: st) (jm_H m I A L rest z) = jv_ev call 12 6 [l0, l1, l2, l3] (.int (A 8 i) :: st) (jm_H m I A L rest z) := je_iald D12_5 rfl (jm_l8 hi)
theorem D12_6 : decode (jt_code 12) 6 = .ok (.ifCond .eq 5, 3) := by decide +kernel
theorem E12_6 {call : jv_F} {l0 l1 l2 l3 : Option Value} {x : Int32} {st : List Value} {h : jv_H} : jv_ev call 12 6 [l0, l1, l2, l3] (.int x :: st) h = if x = 0 then jv_ev call 12 11 [l0, l1, l2, l3] st h else jv_ev call 12 9 [l0, l1, l2, l3] st h := je_ifc D12_6 (by decide) rfl rfl
theorem D12_9 : decode (jt_code 12) 9 = .ok (.iconst 0, 1) := by decide +kernel
theorem E12_9 {call : jv_F} {l0 l1 l2 l3 : Option Value}  {st : List Value} {h : jv_H} : jv_ev call 12 9 [l0, l1, l2, l3] st h = jv_ev call 12 10 [l0, l1, l2, l3] (.int (nI 0) :: st) h := je_iconst D12_9 rfl (by decide)
theorem D12_10 : decode (jt_code 12) 10 = .ok (.ireturn, 1) := by decide +kernel
theorem E12_10 {call : jv_F} {l0 l1 l2 l3 : Option Value} {v : Int32} {h : jv_H} (hn : narrow .boolean (.int v) = .int v) (hf : fits .boolean (.int v) = true) : jv_ev call 12 10 [l0, l1, l2, l3] [.int v] h = some (some (.int v), h) := je_iret (ty := .boolean) D12_10 rfl hn hf
theorem D12_11 : decode (jt_code 12) 11 = .ok (.iconst 0, 1) := by decide +kernel
theorem E12_11 {call : jv_F} {l0 l1 l2 l3 : Option Value}  {st : List Value} {h : jv_H} : jv_ev call 12 11 [l0, l1, l2, l3] st h = jv_ev call 12 12 [l0, l1, l2, l3] (.int (nI 0) :: st) h := je_iconst D12_11 rfl (by decide)
theorem D12_12 : decode (jt_code 12) 12 = .ok (.istore_n 2, 1) := by decide +kernel
theorem E12_12 {call : jv_F} {l0 l1 l2 l3 : Option Value} {x : Int32} {st : List Value} {h : jv_H} (hk : ¬ jv_is2 (some l1) = true) : jv_ev call 12 12 [l0, l1, l2, l3] (.int x :: st) h = jv_ev call 12 13 [l0, l1, some (.int x), l3] st h := je_istore_n D12_12 rfl (Nat.le_of_ble_eq_true rfl) (by show jv_st1 _ 2 _ = _; simp only [jv_st1, jv_kill, List.getElem?_cons_succ, List.getElem?_cons_zero, hk, if_false]; rfl)
theorem D12_13 : decode (jt_code 12) 13 = .ok (.iconst 0, 1) := by decide +kernel
theorem E12_13 {call : jv_F} {l0 l1 l2 l3 : Option Value}  {st : List Value} {h : jv_H} : jv_ev call 12 13 [l0, l1, l2, l3] st h = jv_ev call 12 14 [l0, l1, l2, l3] (.int (nI 0) :: st) h := je_iconst D12_13 rfl (by decide)
theorem D12_14 : decode (jt_code 12) 14 = .ok (.istore_n 3, 1) := by decide +kernel
theorem E12_14 {call : jv_F} {l0 l1 l2 l3 : Option Value} {x : Int32} {st : List Value} {h : jv_H} (hk : ¬ jv_is2 (some l2) = true) : jv_ev call 12 14 [l0, l1, l2, l3] (.int x :: st) h = jv_ev call 12 15 [l0, l1, l2, some (.int x)] st h := je_istore_n D12_14 rfl (Nat.le_of_ble_eq_true rfl) (by show jv_st1 _ 3 _ = _; simp only [jv_st1, jv_kill, List.getElem?_cons_succ, List.getElem?_cons_zero, hk, if_false]; rfl)
theorem D12_15 : decode (jt_code 12) 15 = .ok (.iload_n 3, 1) := by decide +kernel
theorem E12_15 {call : jv_F} {l0 l1 l2 : Option Value} {x : Int32} {st : List Value} {h : jv_H} : jv_ev call 12 15 [l0, l1, l2, some (.int x)] st h = jv_ev call 12 16 [l0, l1, l2, some (.int x)] (.int x :: st) h := je_iload_n D12_15 rfl rfl
theorem D12_16 : decode (jt_code 12) 16 = .ok (.iload_n 1, 1) := by decide +kernel
theorem E12_16 {call : jv_F} {l0 l2 l3 : Option Value} {x : Int32} {st : List Value} {h : jv_H} : jv_ev call 12 16 [l0, some (.int x), l2, l3] st h = jv_ev call 12 17 [l0, some (.int x), l2, l3] (.int x :: st) h := je_iload_n D12_16 rfl rfl
theorem D12_17 : decode (jt_code 12) 17 = .ok (.if_icmp .ge 26, 3) := by decide +kernel
theorem E12_17 {call : jv_F} {l0 l1 l2 l3 : Option Value} {x y : Int32} {st : List Value} {h : jv_H} : jv_ev call 12 17 [l0, l1, l2, l3] (.int y :: .int x :: st) h = if y ≤ x then jv_ev call 12 43 [l0, l1, l2, l3] st h else jv_ev call 12 20 [l0, l1, l2, l3] st h := je_icmp D12_17 (by decide) rfl rfl
theorem D12_20 : decode (jt_code 12) 20 = .ok (.iload_n 2, 1) := by decide +kernel
theorem E12_20 {call : jv_F} {l0 l1 l3 : Option Value} {x : Int32} {st : List Value} {h : jv_H} : jv_ev call 12 20 [l0, l1, some (.int x), l3] st h = jv_ev call 12 21 [l0, l1, some (.int x), l3] (.int x :: st) h := je_iload_n D12_20 rfl rfl
theorem D12_21 : decode (jt_code 12) 21 = .ok (.aload_n 0, 1) := by decide +kernel
theorem E12_21 {call : jv_F} {l1 l2 l3 : Option Value} {a : Nat} {st : List Value} {h : jv_H} : jv_ev call 12 21 [some (.ref a), l1, l2, l3] st h = jv_ev call 12 22 [some (.ref a), l1, l2, l3] (.ref a :: st) h := je_aload_n (r := some a) D12_21 rfl rfl
theorem D12_22 : decode (jt_code 12) 22 = .ok (.getfield 27, 3) := by decide +kernel
theorem E12_22 {call : jv_F} {l0 l1 l2 l3 : Option Value}  {st : List Value} {m : Nat} {I : Nat → Int32} {A : Nat → Nat → Int32} {L : Nat → Nat → Int64} {rest : Nat → Option jv_C} {z : Nat × Nat} : jv_ev call 12 22 [l0, l1, l2, l3] (.ref m :: st) (jm_H m I A L rest z) = jv_ev call 12 25 [l0, l1, l2, l3] (.ref (m + 5) :: st) (jm_H m I A L rest z) := je_get D12_22 rfl (by decide) jm_g8
theorem D12_25 : decode (jt_code 12) 25 = .ok (.iload_n 3, 1) := by decide +kernel
theorem E12_25 {call : jv_F} {l0 l1 l2 : Option Value} {x : Int32} {st : List Value} {h : jv_H} : jv_ev call 12 25 [l0, l1, l2, some (.int x)] st h = jv_ev call 12 26 [l0, l1, l2, some (.int x)] (.int x :: st) h := je_iload_n D12_25 rfl rfl
theorem D12_26 : decode (jt_code 12) 26 = .ok (.iaload, 1) := by decide +kernel
theorem E12_26 {call : jv_F} {l0 l1 l2 l3 : Option Value} {i : Nat} {st : List Value} {m : Nat} {I : Nat → Int32} {A : Nat → Nat → Int32} {L : Nat → Nat → Int64} {rest : Nat → Option jv_C} {z : Nat × Nat} (hi : i < 12) : jv_ev call 12 26 [l0, l1, l2, l3] (.int (nI i) :: .ref (m + 5) :: st) (jm_H m I A L rest z) = jv_ev call 12 27 [l0, l1, l2, l3] (.int (A 8 i) :: st) (jm_H m I A L rest z) := je_iald D12_26 rfl (jm_l8 hi)
theorem D12_27 : decode (jt_code 12) 27 = .ok (.ifCond .ne 7, 3) := by decide +kernel
theorem E12_27 {call : jv_F} {l0 l1 l2 l3 : Option Value} {x : Int32} {st : List Value} {h : jv_H} : jv_ev call 12 27 [l0, l1, l2, l3] (.int x :: st) h = if ¬ x = 0 then jv_ev call 12 34 [l0, l1, l2, l3] st h else jv_ev call 12 30 [l0, l1, l2, l3] st h := je_ifc D12_27 (by decide) rfl rfl
theorem D12_30 : decode (jt_code 12) 30 = .ok (.iconst 1, 1) := by decide +kernel
theorem E12_30 {call : jv_F} {l0 l1 l2 l3 : Option Value}  {st : List Value} {h : jv_H} : jv_ev call 12 30 [l0, l1, l2, l3] st h = jv_ev call 12 31 [l0, l1, l2, l3] (.int (nI 1) :: st) h := je_iconst D12_30 rfl (by decide)
theorem D12_31 : decode (jt_code 12) 31 = .ok (.goto 4, 3) := by decide +kernel
theorem E12_31 {call : jv_F} {l0 l1 l2 l3 : Option Value}  {st : List Value} {h : jv_H} : jv_ev call 12 31 [l0, l1, l2, l3] st h = jv_ev call 12 35 [l0, l1, l2, l3] st h := je_goto D12_31 (by decide)
theorem D12_34 : decode (jt_code 12) 34 = .ok (.iconst 0, 1) := by decide +kernel
theorem E12_34 {call : jv_F} {l0 l1 l2 l3 : Option Value}  {st : List Value} {h : jv_H} : jv_ev call 12 34 [l0, l1, l2, l3] st h = jv_ev call 12 35 [l0, l1, l2, l3] (.int (nI 0) :: st) h := je_iconst D12_34 rfl (by decide)
theorem D12_35 : decode (jt_code 12) 35 = .ok (.iadd, 1) := by decide +kernel
theorem E12_35 {call : jv_F} {l0 l1 l2 l3 : Option Value} {x y : Int32} {st : List Value} {h : jv_H} : jv_ev call 12 35 [l0, l1, l2, l3] (.int y :: .int x :: st) h = jv_ev call 12 36 [l0, l1, l2, l3] (.int (x + y) :: st) h := je_b2 (f := fun x y => x + y) D12_35 rfl (fun _ => rfl)
theorem D12_36 : decode (jt_code 12) 36 = .ok (.istore_n 2, 1) := by decide +kernel
theorem E12_36 {call : jv_F} {l0 l1 l2 l3 : Option Value} {x : Int32} {st : List Value} {h : jv_H} (hk : ¬ jv_is2 (some l1) = true) : jv_ev call 12 36 [l0, l1, l2, l3] (.int x :: st) h = jv_ev call 12 37 [l0, l1, some (.int x), l3] st h := je_istore_n D12_36 rfl (Nat.le_of_ble_eq_true rfl) (by show jv_st1 _ 2 _ = _; simp only [jv_st1, jv_kill, List.getElem?_cons_succ, List.getElem?_cons_zero, hk, if_false]; rfl)
theorem D12_37 : decode (jt_code 12) 37 = .ok (.iinc 3 1, 3) := by decide +kernel
theorem E12_37 {call : jv_F} {l0 l1 l2 : Option Value} {x : Int32} {st : List Value} {h : jv_H} (hk : ¬ jv_is2 (some l2) = true) : jv_ev call 12 37 [l0, l1, l2, some (.int x)] st h = jv_ev call 12 40 [l0, l1, l2, some (.int (x + (nI 1)))] st h := je_iinc D12_37 rfl rfl (v := x + (nI 1)) (by rfl) (by show jv_st1 _ 3 _ = _; simp only [jv_st1, jv_kill, List.getElem?_cons_succ, List.getElem?_cons_zero, hk, if_false]; rfl)
theorem D12_40 : decode (jt_code 12) 40 = .ok (.goto (-25), 3) := by decide +kernel
theorem E12_40 {call : jv_F} {l0 l1 l2 l3 : Option Value}  {st : List Value} {h : jv_H} : jv_ev call 12 40 [l0, l1, l2, l3] st h = jv_ev call 12 15 [l0, l1, l2, l3] st h := je_goto D12_40 (by decide)
theorem D12_43 : decode (jt_code 12) 43 = .ok (.iload_n 2, 1) := by decide +kernel
theorem E12_43 {call : jv_F} {l0 l1 l3 : Option Value} {x : Int32} {st : List Value} {h : jv_H} : jv_ev call 12 43 [l0, l1, some (.int x), l3] st h = jv_ev call 12 44 [l0, l1, some (.int x), l3] (.int x :: st) h := je_iload_n D12_43 rfl rfl
theorem D12_44 : decode (jt_code 12) 44 = .ok (.aload_n 0, 1) := by decide +kernel
theorem E12_44 {call : jv_F} {l1 l2 l3 : Option Value} {a : Nat} {st : List Value} {h : jv_H} : jv_ev call 12 44 [some (.ref a), l1, l2, l3] st h = jv_ev call 12 45 [some (.ref a), l1, l2, l3] (.ref a :: st) h := je_aload_n (r := some a) D12_44 rfl rfl
theorem D12_45 : decode (jt_code 12) 45 = .ok (.getfield 7, 3) := by decide +kernel
theorem E12_45 {call : jv_F} {l0 l1 l2 l3 : Option Value}  {st : List Value} {m : Nat} {I : Nat → Int32} {A : Nat → Nat → Int32} {L : Nat → Nat → Int64} {rest : Nat → Option jv_C} {z : Nat × Nat} : jv_ev call 12 45 [l0, l1, l2, l3] (.ref m :: st) (jm_H m I A L rest z) = jv_ev call 12 48 [l0, l1, l2, l3] (.int (I 0) :: st) (jm_H m I A L rest z) := je_get D12_45 rfl (by decide) jm_g0
theorem D12_48 : decode (jt_code 12) 48 = .ok (.iconst 1, 1) := by decide +kernel
theorem E12_48 {call : jv_F} {l0 l1 l2 l3 : Option Value}  {st : List Value} {h : jv_H} : jv_ev call 12 48 [l0, l1, l2, l3] st h = jv_ev call 12 49 [l0, l1, l2, l3] (.int (nI 1) :: st) h := je_iconst D12_48 rfl (by decide)
theorem D12_49 : decode (jt_code 12) 49 = .ok (.isub, 1) := by decide +kernel
theorem E12_49 {call : jv_F} {l0 l1 l2 l3 : Option Value} {x y : Int32} {st : List Value} {h : jv_H} : jv_ev call 12 49 [l0, l1, l2, l3] (.int y :: .int x :: st) h = jv_ev call 12 50 [l0, l1, l2, l3] (.int (x - y) :: st) h := je_b2 (f := fun x y => x - y) D12_49 rfl (fun _ => rfl)
theorem D12_50 : decode (jt_code 12) 50 = .ok (.iconst 2, 1) := by decide +kernel
theorem E12_50 {call : jv_F} {l0 l1 l2 l3 : Option Value}  {st : List Value} {h : jv_H} : jv_ev call 12 50 [l0, l1, l2, l3] st h = jv_ev call 12 51 [l0, l1, l2, l3] (.int (nI 2) :: st) h := je_iconst D12_50 rfl (by decide)
theorem D12_51 : decode (jt_code 12) 51 = .ok (.idiv, 1) := by decide +kernel
theorem E12_51 {call : jv_F} {l0 l1 l2 l3 : Option Value} {x y : Int32} {st : List Value} {h : jv_H} (hy : ¬ y = 0) : jv_ev call 12 51 [l0, l1, l2, l3] (.int y :: .int x :: st) h = jv_ev call 12 52 [l0, l1, l2, l3] (.int (x / y) :: st) h := je_idiv D12_51 rfl hy
theorem D12_52 : decode (jt_code 12) 52 = .ok (.if_icmp .ge 7, 3) := by decide +kernel
theorem E12_52 {call : jv_F} {l0 l1 l2 l3 : Option Value} {x y : Int32} {st : List Value} {h : jv_H} : jv_ev call 12 52 [l0, l1, l2, l3] (.int y :: .int x :: st) h = if y ≤ x then jv_ev call 12 59 [l0, l1, l2, l3] st h else jv_ev call 12 55 [l0, l1, l2, l3] st h := je_icmp D12_52 (by decide) rfl rfl
theorem D12_55 : decode (jt_code 12) 55 = .ok (.iconst 1, 1) := by decide +kernel
theorem E12_55 {call : jv_F} {l0 l1 l2 l3 : Option Value}  {st : List Value} {h : jv_H} : jv_ev call 12 55 [l0, l1, l2, l3] st h = jv_ev call 12 56 [l0, l1, l2, l3] (.int (nI 1) :: st) h := je_iconst D12_55 rfl (by decide)
theorem D12_56 : decode (jt_code 12) 56 = .ok (.goto 4, 3) := by decide +kernel
theorem E12_56 {call : jv_F} {l0 l1 l2 l3 : Option Value}  {st : List Value} {h : jv_H} : jv_ev call 12 56 [l0, l1, l2, l3] st h = jv_ev call 12 60 [l0, l1, l2, l3] st h := je_goto D12_56 (by decide)
theorem D12_59 : decode (jt_code 12) 59 = .ok (.iconst 0, 1) := by decide +kernel
theorem E12_59 {call : jv_F} {l0 l1 l2 l3 : Option Value}  {st : List Value} {h : jv_H} : jv_ev call 12 59 [l0, l1, l2, l3] st h = jv_ev call 12 60 [l0, l1, l2, l3] (.int (nI 0) :: st) h := je_iconst D12_59 rfl (by decide)
theorem D12_60 : decode (jt_code 12) 60 = .ok (.ireturn, 1) := by decide +kernel
theorem E12_60 {call : jv_F} {l0 l1 l2 l3 : Option Value} {v : Int32} {h : jv_H} (hn : narrow .boolean (.int v) = .int v) (hf : fits .boolean (.int v) = true) : jv_ev call 12 60 [l0, l1, l2, l3] [.int v] h = some (some (.int v), h) := je_iret (ty := .boolean) D12_60 rfl hn hf
/-! method 13: DrumMachineModel.isReady -/
theorem N13 {d : Nat} {b : Nat} {a0 : Int32} {h : jv_H} : jv_run (d + 1) 13 [.ref b, .int a0] h = jv_ev (jv_run d) 13 0 [some (.ref b), some (.int a0), none] [] h := jv_run_eq (Nat.le_of_ble_eq_true rfl) rfl
theorem D13_0 : decode (jt_code 13) 0 = .ok (.aload_n 0, 1) := by decide +kernel
theorem E13_0 {call : jv_F} {l1 l2 : Option Value} {a : Nat} {st : List Value} {h : jv_H} : jv_ev call 13 0 [some (.ref a), l1, l2] st h = jv_ev call 13 1 [some (.ref a), l1, l2] (.ref a :: st) h := je_aload_n (r := some a) D13_0 rfl rfl
theorem D13_1 : decode (jt_code 13) 1 = .ok (.getfield 57, 3) := by decide +kernel
theorem E13_1 {call : jv_F} {l0 l1 l2 : Option Value}  {st : List Value} {m : Nat} {I : Nat → Int32} {A : Nat → Nat → Int32} {L : Nat → Nat → Int64} {rest : Nat → Option jv_C} {z : Nat × Nat} : jv_ev call 13 1 [l0, l1, l2] (.ref m :: st) (jm_H m I A L rest z) = jv_ev call 13 4 [l0, l1, l2] (.ref (m + 15) :: st) (jm_H m I A L rest z) := je_get D13_1 rfl (by decide) jm_g18
theorem D13_4 : decode (jt_code 13) 4 = .ok (.iload_n 1, 1) := by decide +kernel
theorem E13_4 {call : jv_F} {l0 l2 : Option Value} {x : Int32} {st : List Value} {h : jv_H} : jv_ev call 13 4 [l0, some (.int x), l2] st h = jv_ev call 13 5 [l0, some (.int x), l2] (.int x :: st) h := je_iload_n D13_4 rfl rfl
theorem D13_5 : decode (jt_code 13) 5 = .ok (.iaload, 1) := by decide +kernel
theorem E13_5 {call : jv_F} {l0 l1 l2 : Option Value} {i : Nat} {st : List Value} {m : Nat} {I : Nat → Int32} {A : Nat → Nat → Int32} {L : Nat → Nat → Int64} {rest : Nat → Option jv_C} {z : Nat × Nat} (hi : i < 12) : jv_ev call 13 5 [l0, l1, l2] (.int (nI i) :: .ref (m + 15) :: st) (jm_H m I A L rest z) = jv_ev call 13 6 [l0, l1, l2] (.int (A 18 i) :: st) (jm_H m I A L rest z) := je_iald D13_5 rfl (jm_l18 hi)
theorem D13_6 : decode (jt_code 13) 6 = .ok (.ifCond .ne 5, 3) := by decide +kernel
theorem E13_6 {call : jv_F} {l0 l1 l2 : Option Value} {x : Int32} {st : List Value} {h : jv_H} : jv_ev call 13 6 [l0, l1, l2] (.int x :: st) h = if ¬ x = 0 then jv_ev call 13 11 [l0, l1, l2] st h else jv_ev call 13 9 [l0, l1, l2] st h := je_ifc D13_6 (by decide) rfl rfl
theorem D13_9 : decode (jt_code 13) 9 = .ok (.iconst 1, 1) := by decide +kernel
theorem E13_9 {call : jv_F} {l0 l1 l2 : Option Value}  {st : List Value} {h : jv_H} : jv_ev call 13 9 [l0, l1, l2] st h = jv_ev call 13 10 [l0, l1, l2] (.int (nI 1) :: st) h := je_iconst D13_9 rfl (by decide)
theorem D13_10 : decode (jt_code 13) 10 = .ok (.ireturn, 1) := by decide +kernel
theorem E13_10 {call : jv_F} {l0 l1 l2 : Option Value} {v : Int32} {h : jv_H} (hn : narrow .boolean (.int v) = .int v) (hf : fits .boolean (.int v) = true) : jv_ev call 13 10 [l0, l1, l2] [.int v] h = some (some (.int v), h) := je_iret (ty := .boolean) D13_10 rfl hn hf
theorem D13_11 : decode (jt_code 13) 11 = .ok (.aload_n 0, 1) := by decide +kernel
theorem E13_11 {call : jv_F} {l1 l2 : Option Value} {a : Nat} {st : List Value} {h : jv_H} : jv_ev call 13 11 [some (.ref a), l1, l2] st h = jv_ev call 13 12 [some (.ref a), l1, l2] (.ref a :: st) h := je_aload_n (r := some a) D13_11 rfl rfl
theorem D13_12 : decode (jt_code 13) 12 = .ok (.getfield 57, 3) := by decide +kernel
theorem E13_12 {call : jv_F} {l0 l1 l2 : Option Value}  {st : List Value} {m : Nat} {I : Nat → Int32} {A : Nat → Nat → Int32} {L : Nat → Nat → Int64} {rest : Nat → Option jv_C} {z : Nat × Nat} : jv_ev call 13 12 [l0, l1, l2] (.ref m :: st) (jm_H m I A L rest z) = jv_ev call 13 15 [l0, l1, l2] (.ref (m + 15) :: st) (jm_H m I A L rest z) := je_get D13_12 rfl (by decide) jm_g18
theorem D13_15 : decode (jt_code 13) 15 = .ok (.iload_n 1, 1) := by decide +kernel
theorem E13_15 {call : jv_F} {l0 l2 : Option Value} {x : Int32} {st : List Value} {h : jv_H} : jv_ev call 13 15 [l0, some (.int x), l2] st h = jv_ev call 13 16 [l0, some (.int x), l2] (.int x :: st) h := je_iload_n D13_15 rfl rfl
theorem D13_16 : decode (jt_code 13) 16 = .ok (.iaload, 1) := by decide +kernel
theorem E13_16 {call : jv_F} {l0 l1 l2 : Option Value} {i : Nat} {st : List Value} {m : Nat} {I : Nat → Int32} {A : Nat → Nat → Int32} {L : Nat → Nat → Int64} {rest : Nat → Option jv_C} {z : Nat × Nat} (hi : i < 12) : jv_ev call 13 16 [l0, l1, l2] (.int (nI i) :: .ref (m + 15) :: st) (jm_H m I A L rest z) = jv_ev call 13 17 [l0, l1, l2] (.int (A 18 i) :: st) (jm_H m I A L rest z) := je_iald D13_16 rfl (jm_l18 hi)
theorem D13_17 : decode (jt_code 13) 17 = .ok (.iconst 2, 1) := by decide +kernel
theorem E13_17 {call : jv_F} {l0 l1 l2 : Option Value}  {st : List Value} {h : jv_H} : jv_ev call 13 17 [l0, l1, l2] st h = jv_ev call 13 18 [l0, l1, l2] (.int (nI 2) :: st) h := je_iconst D13_17 rfl (by decide)
theorem D13_18 : decode (jt_code 13) 18 = .ok (.if_icmp .ne 16, 3) := by decide +kernel
theorem E13_18 {call : jv_F} {l0 l1 l2 : Option Value} {x y : Int32} {st : List Value} {h : jv_H} : jv_ev call 13 18 [l0, l1, l2] (.int y :: .int x :: st) h = if ¬ x = y then jv_ev call 13 34 [l0, l1, l2] st h else jv_ev call 13 21 [l0, l1, l2] st h := je_icmp D13_18 (by decide) rfl rfl
theorem D13_21 : decode (jt_code 13) 21 = .ok (.aload_n 0, 1) := by decide +kernel
theorem E13_21 {call : jv_F} {l1 l2 : Option Value} {a : Nat} {st : List Value} {h : jv_H} : jv_ev call 13 21 [some (.ref a), l1, l2] st h = jv_ev call 13 22 [some (.ref a), l1, l2] (.ref a :: st) h := je_aload_n (r := some a) D13_21 rfl rfl
theorem D13_22 : decode (jt_code 13) 22 = .ok (.invokevirtual 121, 3) := by decide +kernel
theorem E13_22 {call : jv_F} {l0 l1 l2 : Option Value}  {st : List Value} {m : Nat} {I : Nat → Int32} {A : Nat → Nat → Int32} {L : Nat → Nat → Int64} {rest : Nat → Option jv_C} {z : Nat × Nat} (hw : jv_wide st = true) (hc : (call 10 [.ref m] (jm_H m I A L rest z)).isSome = true) : jv_ev call 13 22 [l0, l1, l2] (.ref m :: st) (jm_H m I A L rest z) = jv_ev call 13 25 [l0, l1, l2] ((((call 10 [.ref m] (jm_H m I A L rest z)).getD (none, (jm_H m I A L rest z))).1).toList ++ st) ((call 10 [.ref m] (jm_H m I A L rest z)).getD (none, (jm_H m I A L rest z))).2 := by
  obtain ⟨⟨r, h'⟩, hv⟩ := Option.isSome_iff_exists.mp hc
  rw [hv]
  exact je_virt (y := 10) (as := []) D13_22 rfl (by decide) (by decide) rfl jm_cl hw hv
theorem D13_25 : decode (jt_code 13) 25 = .ok (.ifCond .lt 7, 3) := by decide +kernel
theorem E13_25 {call : jv_F} {l0 l1 l2 : Option Value} {x : Int32} {st : List Value} {h : jv_H} : jv_ev call 13 25 [l0, l1, l2] (.int x :: st) h = if x < 0 then jv_ev call 13 32 [l0, l1, l2] st h else jv_ev call 13 28 [l0, l1, l2] st h := je_ifc D13_25 (by decide) rfl rfl
theorem D13_28 : decode (jt_code 13) 28 = .ok (.iconst 1, 1) := by decide +kernel
theorem E13_28 {call : jv_F} {l0 l1 l2 : Option Value}  {st : List Value} {h : jv_H} : jv_ev call 13 28 [l0, l1, l2] st h = jv_ev call 13 29 [l0, l1, l2] (.int (nI 1) :: st) h := je_iconst D13_28 rfl (by decide)
theorem D13_29 : decode (jt_code 13) 29 = .ok (.goto 4, 3) := by decide +kernel
theorem E13_29 {call : jv_F} {l0 l1 l2 : Option Value}  {st : List Value} {h : jv_H} : jv_ev call 13 29 [l0, l1, l2] st h = jv_ev call 13 33 [l0, l1, l2] st h := je_goto D13_29 (by decide)
theorem D13_32 : decode (jt_code 13) 32 = .ok (.iconst 0, 1) := by decide +kernel
theorem E13_32 {call : jv_F} {l0 l1 l2 : Option Value}  {st : List Value} {h : jv_H} : jv_ev call 13 32 [l0, l1, l2] st h = jv_ev call 13 33 [l0, l1, l2] (.int (nI 0) :: st) h := je_iconst D13_32 rfl (by decide)
theorem D13_33 : decode (jt_code 13) 33 = .ok (.ireturn, 1) := by decide +kernel
theorem E13_33 {call : jv_F} {l0 l1 l2 : Option Value} {v : Int32} {h : jv_H} (hn : narrow .boolean (.int v) = .int v) (hf : fits .boolean (.int v) = true) : jv_ev call 13 33 [l0, l1, l2] [.int v] h = some (some (.int v), h) := je_iret (ty := .boolean) D13_33 rfl hn hf
theorem D13_34 : decode (jt_code 13) 34 = .ok (.aload_n 0, 1) := by decide +kernel
theorem E13_34 {call : jv_F} {l1 l2 : Option Value} {a : Nat} {st : List Value} {h : jv_H} : jv_ev call 13 34 [some (.ref a), l1, l2] st h = jv_ev call 13 35 [some (.ref a), l1, l2] (.ref a :: st) h := je_aload_n (r := some a) D13_34 rfl rfl
theorem D13_35 : decode (jt_code 13) 35 = .ok (.aload_n 0, 1) := by decide +kernel
theorem E13_35 {call : jv_F} {l1 l2 : Option Value} {a : Nat} {st : List Value} {h : jv_H} : jv_ev call 13 35 [some (.ref a), l1, l2] st h = jv_ev call 13 36 [some (.ref a), l1, l2] (.ref a :: st) h := je_aload_n (r := some a) D13_35 rfl rfl
theorem D13_36 : decode (jt_code 13) 36 = .ok (.getfield 60, 3) := by decide +kernel
theorem E13_36 {call : jv_F} {l0 l1 l2 : Option Value}  {st : List Value} {m : Nat} {I : Nat → Int32} {A : Nat → Nat → Int32} {L : Nat → Nat → Int64} {rest : Nat → Option jv_C} {z : Nat × Nat} : jv_ev call 13 36 [l0, l1, l2] (.ref m :: st) (jm_H m I A L rest z) = jv_ev call 13 39 [l0, l1, l2] (.ref (m + 16) :: st) (jm_H m I A L rest z) := je_get D13_36 rfl (by decide) jm_g19
theorem D13_39 : decode (jt_code 13) 39 = .ok (.iload_n 1, 1) := by decide +kernel
theorem E13_39 {call : jv_F} {l0 l2 : Option Value} {x : Int32} {st : List Value} {h : jv_H} : jv_ev call 13 39 [l0, some (.int x), l2] st h = jv_ev call 13 40 [l0, some (.int x), l2] (.int x :: st) h := je_iload_n D13_39 rfl rfl
theorem D13_40 : decode (jt_code 13) 40 = .ok (.iaload, 1) := by decide +kernel
theorem E13_40 {call : jv_F} {l0 l1 l2 : Option Value} {i : Nat} {st : List Value} {m : Nat} {I : Nat → Int32} {A : Nat → Nat → Int32} {L : Nat → Nat → Int64} {rest : Nat → Option jv_C} {z : Nat × Nat} (hi : i < 12) : jv_ev call 13 40 [l0, l1, l2] (.int (nI i) :: .ref (m + 16) :: st) (jm_H m I A L rest z) = jv_ev call 13 41 [l0, l1, l2] (.int (A 19 i) :: st) (jm_H m I A L rest z) := je_iald D13_40 rfl (jm_l19 hi)
theorem D13_41 : decode (jt_code 13) 41 = .ok (.invokevirtual 117, 3) := by decide +kernel
theorem E13_41 {call : jv_F} {l0 l1 l2 : Option Value} {v0 : Value}  {st : List Value} {m : Nat} {I : Nat → Int32} {A : Nat → Nat → Int32} {L : Nat → Nat → Int64} {rest : Nat → Option jv_C} {z : Nat × Nat} (hw : jv_wide st = true) (hc : (call 8 [.ref m, v0] (jm_H m I A L rest z)).isSome = true) : jv_ev call 13 41 [l0, l1, l2] (v0 :: .ref m :: st) (jm_H m I A L rest z) = jv_ev call 13 44 [l0, l1, l2] ((((call 8 [.ref m, v0] (jm_H m I A L rest z)).getD (none, (jm_H m I A L rest z))).1).toList ++ st) ((call 8 [.ref m, v0] (jm_H m I A L rest z)).getD (none, (jm_H m I A L rest z))).2 := by
  obtain ⟨⟨r, h'⟩, hv⟩ := Option.isSome_iff_exists.mp hc
  rw [hv]
  exact je_virt (y := 8) (as := [v0]) D13_41 rfl (by decide) (by decide) rfl jm_cl hw hv
theorem D13_44 : decode (jt_code 13) 44 = .ok (.istore_n 2, 1) := by decide +kernel
theorem E13_44 {call : jv_F} {l0 l1 l2 : Option Value} {x : Int32} {st : List Value} {h : jv_H} (hk : ¬ jv_is2 (some l1) = true) : jv_ev call 13 44 [l0, l1, l2] (.int x :: st) h = jv_ev call 13 45 [l0, l1, some (.int x)] st h := je_istore_n D13_44 rfl (Nat.le_of_ble_eq_true rfl) (by show jv_st1 _ 2 _ = _; simp only [jv_st1, jv_kill, List.getElem?_cons_succ, List.getElem?_cons_zero, hk, if_false]; rfl)
theorem D13_45 : decode (jt_code 13) 45 = .ok (.iload_n 2, 1) := by decide +kernel
theorem E13_45 {call : jv_F} {l0 l1 : Option Value} {x : Int32} {st : List Value} {h : jv_H} : jv_ev call 13 45 [l0, l1, some (.int x)] st h = jv_ev call 13 46 [l0, l1, some (.int x)] (.int x :: st) h := je_iload_n D13_45 rfl rfl
theorem D13_46 : decode (jt_code 13) 46 = .ok (.ifCond .lt 12, 3) := by decide +kernel
theorem E13_46 {call : jv_F} {l0 l1 l2 : Option Value} {x : Int32} {st : List Value} {h : jv_H} : jv_ev call 13 46 [l0, l1, l2] (.int x :: st) h = if x < 0 then jv_ev call 13 58 [l0, l1, l2] st h else jv_ev call 13 49 [l0, l1, l2] st h := je_ifc D13_46 (by decide) rfl rfl
theorem D13_49 : decode (jt_code 13) 49 = .ok (.aload_n 0, 1) := by decide +kernel
theorem E13_49 {call : jv_F} {l1 l2 : Option Value} {a : Nat} {st : List Value} {h : jv_H} : jv_ev call 13 49 [some (.ref a), l1, l2] st h = jv_ev call 13 50 [some (.ref a), l1, l2] (.ref a :: st) h := je_aload_n (r := some a) D13_49 rfl rfl
theorem D13_50 : decode (jt_code 13) 50 = .ok (.getfield 79, 3) := by decide +kernel
theorem E13_50 {call : jv_F} {l0 l1 l2 : Option Value}  {st : List Value} {m : Nat} {I : Nat → Int32} {A : Nat → Nat → Int32} {L : Nat → Nat → Int64} {rest : Nat → Option jv_C} {z : Nat × Nat} : jv_ev call 13 50 [l0, l1, l2] (.ref m :: st) (jm_H m I A L rest z) = jv_ev call 13 53 [l0, l1, l2] (.ref (m + 22) :: st) (jm_H m I A L rest z) := je_get D13_50 rfl (by decide) jm_g26
theorem D13_53 : decode (jt_code 13) 53 = .ok (.iload_n 2, 1) := by decide +kernel
theorem E13_53 {call : jv_F} {l0 l1 : Option Value} {x : Int32} {st : List Value} {h : jv_H} : jv_ev call 13 53 [l0, l1, some (.int x)] st h = jv_ev call 13 54 [l0, l1, some (.int x)] (.int x :: st) h := je_iload_n D13_53 rfl rfl
theorem D13_54 : decode (jt_code 13) 54 = .ok (.baload, 1) := by decide +kernel
theorem E13_54 {call : jv_F} {l0 l1 l2 : Option Value} {i : Nat} {st : List Value} {m : Nat} {I : Nat → Int32} {A : Nat → Nat → Int32} {L : Nat → Nat → Int64} {rest : Nat → Option jv_C} {z : Nat × Nat} (hi : i < 17) : jv_ev call 13 54 [l0, l1, l2] (.int (nI i) :: .ref (m + 22) :: st) (jm_H m I A L rest z) = jv_ev call 13 55 [l0, l1, l2] (.int (A 26 i) :: st) (jm_H m I A L rest z) := je_bald D13_54 rfl (jm_l26 hi)
theorem D13_55 : decode (jt_code 13) 55 = .ok (.ifCond .ne 7, 3) := by decide +kernel
theorem E13_55 {call : jv_F} {l0 l1 l2 : Option Value} {x : Int32} {st : List Value} {h : jv_H} : jv_ev call 13 55 [l0, l1, l2] (.int x :: st) h = if ¬ x = 0 then jv_ev call 13 62 [l0, l1, l2] st h else jv_ev call 13 58 [l0, l1, l2] st h := je_ifc D13_55 (by decide) rfl rfl
theorem D13_58 : decode (jt_code 13) 58 = .ok (.iconst 1, 1) := by decide +kernel
theorem E13_58 {call : jv_F} {l0 l1 l2 : Option Value}  {st : List Value} {h : jv_H} : jv_ev call 13 58 [l0, l1, l2] st h = jv_ev call 13 59 [l0, l1, l2] (.int (nI 1) :: st) h := je_iconst D13_58 rfl (by decide)
theorem D13_59 : decode (jt_code 13) 59 = .ok (.goto 4, 3) := by decide +kernel
theorem E13_59 {call : jv_F} {l0 l1 l2 : Option Value}  {st : List Value} {h : jv_H} : jv_ev call 13 59 [l0, l1, l2] st h = jv_ev call 13 63 [l0, l1, l2] st h := je_goto D13_59 (by decide)
theorem D13_62 : decode (jt_code 13) 62 = .ok (.iconst 0, 1) := by decide +kernel
theorem E13_62 {call : jv_F} {l0 l1 l2 : Option Value}  {st : List Value} {h : jv_H} : jv_ev call 13 62 [l0, l1, l2] st h = jv_ev call 13 63 [l0, l1, l2] (.int (nI 0) :: st) h := je_iconst D13_62 rfl (by decide)
theorem D13_63 : decode (jt_code 13) 63 = .ok (.ireturn, 1) := by decide +kernel
theorem E13_63 {call : jv_F} {l0 l1 l2 : Option Value} {v : Int32} {h : jv_H} (hn : narrow .boolean (.int v) = .int v) (hf : fits .boolean (.int v) = true) : jv_ev call 13 63 [l0, l1, l2] [.int v] h = some (some (.int v), h) := je_iret (ty := .boolean) D13_63 rfl hn hf
/-! method 14: DrumMachineModel.isAddress -/
theorem N14 {d : Nat} {a0 : Int32} {h : jv_H} : jv_run (d + 1) 14 [.int a0] h = jv_ev (jv_run d) 14 0 [some (.int a0)] [] h := jv_run_eq (Nat.le_of_ble_eq_true rfl) rfl
theorem D14_0 : decode (jt_code 14) 0 = .ok (.iload_n 0, 1) := by decide +kernel
theorem E14_0 {call : jv_F} {x : Int32} {st : List Value} {h : jv_H} : jv_ev call 14 0 [some (.int x)] st h = jv_ev call 14 1 [some (.int x)] (.int x :: st) h := je_iload_n D14_0 rfl rfl
theorem D14_1 : decode (jt_code 14) 1 = .ok (.ifCond .lt 14, 3) := by decide +kernel
theorem E14_1 {call : jv_F} {l0 : Option Value} {x : Int32} {st : List Value} {h : jv_H} : jv_ev call 14 1 [l0] (.int x :: st) h = if x < 0 then jv_ev call 14 15 [l0] st h else jv_ev call 14 4 [l0] st h := je_ifc D14_1 (by decide) rfl rfl
theorem D14_4 : decode (jt_code 14) 4 = .ok (.iload_n 0, 1) := by decide +kernel
theorem E14_4 {call : jv_F} {x : Int32} {st : List Value} {h : jv_H} : jv_ev call 14 4 [some (.int x)] st h = jv_ev call 14 5 [some (.int x)] (.int x :: st) h := je_iload_n D14_4 rfl rfl
theorem D14_5 : decode (jt_code 14) 5 = .ok (.sipush 1024, 3) := by decide +kernel
theorem E14_5 {call : jv_F} {l0 : Option Value}  {st : List Value} {h : jv_H} : jv_ev call 14 5 [l0] st h = jv_ev call 14 8 [l0] (.int (nI 1024) :: st) h := je_sipush D14_5 rfl (by decide)
theorem D14_8 : decode (jt_code 14) 8 = .ok (.if_icmp .ge 7, 3) := by decide +kernel
theorem E14_8 {call : jv_F} {l0 : Option Value} {x y : Int32} {st : List Value} {h : jv_H} : jv_ev call 14 8 [l0] (.int y :: .int x :: st) h = if y ≤ x then jv_ev call 14 15 [l0] st h else jv_ev call 14 11 [l0] st h := je_icmp D14_8 (by decide) rfl rfl
theorem D14_11 : decode (jt_code 14) 11 = .ok (.iconst 1, 1) := by decide +kernel
theorem E14_11 {call : jv_F} {l0 : Option Value}  {st : List Value} {h : jv_H} : jv_ev call 14 11 [l0] st h = jv_ev call 14 12 [l0] (.int (nI 1) :: st) h := je_iconst D14_11 rfl (by decide)
theorem D14_12 : decode (jt_code 14) 12 = .ok (.goto 4, 3) := by decide +kernel
theorem E14_12 {call : jv_F} {l0 : Option Value}  {st : List Value} {h : jv_H} : jv_ev call 14 12 [l0] st h = jv_ev call 14 16 [l0] st h := je_goto D14_12 (by decide)
theorem D14_15 : decode (jt_code 14) 15 = .ok (.iconst 0, 1) := by decide +kernel
theorem E14_15 {call : jv_F} {l0 : Option Value}  {st : List Value} {h : jv_H} : jv_ev call 14 15 [l0] st h = jv_ev call 14 16 [l0] (.int (nI 0) :: st) h := je_iconst D14_15 rfl (by decide)
theorem D14_16 : decode (jt_code 14) 16 = .ok (.ireturn, 1) := by decide +kernel
theorem E14_16 {call : jv_F} {l0 : Option Value} {v : Int32} {h : jv_H} (hn : narrow .boolean (.int v) = .int v) (hf : fits .boolean (.int v) = true) : jv_ev call 14 16 [l0] [.int v] h = some (some (.int v), h) := je_iret (ty := .boolean) D14_16 rfl hn hf
/-! method 15: DrumMachineModel.blockOf -/
theorem N15 {d : Nat} {a0 : Int32} {a1 : Int32} {h : jv_H} : jv_run (d + 1) 15 [.int a0, .int a1] h = jv_ev (jv_run d) 15 0 [some (.int a0), some (.int a1)] [] h := jv_run_eq (Nat.le_of_ble_eq_true rfl) rfl
theorem D15_0 : decode (jt_code 15) 0 = .ok (.bipush 64, 2) := by decide +kernel
theorem E15_0 {call : jv_F} {l0 l1 : Option Value}  {st : List Value} {h : jv_H} : jv_ev call 15 0 [l0, l1] st h = jv_ev call 15 2 [l0, l1] (.int (nI 64) :: st) h := je_bipush D15_0 rfl (by decide)
theorem D15_2 : decode (jt_code 15) 2 = .ok (.iload_n 0, 1) := by decide +kernel
theorem E15_2 {call : jv_F} {l1 : Option Value} {x : Int32} {st : List Value} {h : jv_H} : jv_ev call 15 2 [some (.int x), l1] st h = jv_ev call 15 3 [some (.int x), l1] (.int x :: st) h := je_iload_n D15_2 rfl rfl
theorem D15_3 : decode (jt_code 15) 3 = .ok (.imul, 1) := by decide +kernel
theorem E15_3 {call : jv_F} {l0 l1 : Option Value} {x y : Int32} {st : List Value} {h : jv_H} : jv_ev call 15 3 [l0, l1] (.int y :: .int x :: st) h = jv_ev call 15 4 [l0, l1] (.int (x * y) :: st) h := je_b2 (f := fun x y => x * y) D15_3 rfl (fun _ => rfl)
theorem D15_4 : decode (jt_code 15) 4 = .ok (.iload_n 1, 1) := by decide +kernel
theorem E15_4 {call : jv_F} {l0 : Option Value} {x : Int32} {st : List Value} {h : jv_H} : jv_ev call 15 4 [l0, some (.int x)] st h = jv_ev call 15 5 [l0, some (.int x)] (.int x :: st) h := je_iload_n D15_4 rfl rfl
theorem D15_5 : decode (jt_code 15) 5 = .ok (.bipush 16, 2) := by decide +kernel
theorem E15_5 {call : jv_F} {l0 l1 : Option Value}  {st : List Value} {h : jv_H} : jv_ev call 15 5 [l0, l1] st h = jv_ev call 15 7 [l0, l1] (.int (nI 16) :: st) h := je_bipush D15_5 rfl (by decide)
theorem D15_7 : decode (jt_code 15) 7 = .ok (.idiv, 1) := by decide +kernel
theorem E15_7 {call : jv_F} {l0 l1 : Option Value} {x y : Int32} {st : List Value} {h : jv_H} (hy : ¬ y = 0) : jv_ev call 15 7 [l0, l1] (.int y :: .int x :: st) h = jv_ev call 15 8 [l0, l1] (.int (x / y) :: st) h := je_idiv D15_7 rfl hy
theorem D15_8 : decode (jt_code 15) 8 = .ok (.iadd, 1) := by decide +kernel
theorem E15_8 {call : jv_F} {l0 l1 : Option Value} {x y : Int32} {st : List Value} {h : jv_H} : jv_ev call 15 8 [l0, l1] (.int y :: .int x :: st) h = jv_ev call 15 9 [l0, l1] (.int (x + y) :: st) h := je_b2 (f := fun x y => x + y) D15_8 rfl (fun _ => rfl)
theorem D15_9 : decode (jt_code 15) 9 = .ok (.ireturn, 1) := by decide +kernel
theorem E15_9 {call : jv_F} {l0 l1 : Option Value} {v : Int32} {h : jv_H} : jv_ev call 15 9 [l0, l1] [.int v] h = some (some (.int v), h) := je_iret (ty := .int) D15_9 rfl rfl rfl
/-! method 16: DrumMachineModel.isWanted -/
theorem N16 {d : Nat} {b : Nat} {a0 : Int32} {h : jv_H} : jv_run (d + 1) 16 [.ref b, .int a0] h = jv_ev (jv_run d) 16 0 [some (.ref b), some (.int a0), none] [] h := jv_run_eq (Nat.le_of_ble_eq_true rfl) rfl
theorem D16_0 : decode (jt_code 16) 0 = .ok (.iload_n 1, 1) := by decide +kernel
theorem E16_0 {call : jv_F} {l0 l2 : Option Value} {x : Int32} {st : List Value} {h : jv_H} : jv_ev call 16 0 [l0, some (.int x), l2] st h = jv_ev call 16 1 [l0, some (.int x), l2] (.int x :: st) h := je_iload_n D16_0 rfl rfl
theorem D16_1 : decode (jt_code 16) 1 = .ok (.bipush 64, 2) := by decide +kernel
theorem E16_1 {call : jv_F} {l0 l1 l2 : Option Value}  {st : List Value} {h : jv_H} : jv_ev call 16 1 [l0, l1, l2] st h = jv_ev call 16 3 [l0, l1, l2] (.int (nI 64) :: st) h := je_bipush D16_1 rfl (by decide)
theorem D16_3 : decode (jt_code 16) 3 = .ok (.idiv, 1) := by decide +kernel
theorem E16_3 {call : jv_F} {l0 l1 l2 : Option Value} {x y : Int32} {st : List Value} {h : jv_H} (hy : ¬ y = 0) : jv_ev call 16 3 [l0, l1, l2] (.int y :: .int x :: st) h = jv_ev call 16 4 [l0, l1, l2] (.int (x / y) :: st) h := je_idiv D16_3 rfl hy
theorem D16_4 : decode (jt_code 16) 4 = .ok (.istore_n 2, 1) := by decide +kernel
theorem E16_4 {call : jv_F} {l0 l1 l2 : Option Value} {x : Int32} {st : List Value} {h : jv_H} (hk : ¬ jv_is2 (some l1) = true) : jv_ev call 16 4 [l0, l1, l2] (.int x :: st) h = jv_ev call 16 5 [l0, l1, some (.int x)] st h := je_istore_n D16_4 rfl (Nat.le_of_ble_eq_true rfl) (by show jv_st1 _ 2 _ = _; simp only [jv_st1, jv_kill, List.getElem?_cons_succ, List.getElem?_cons_zero, hk, if_false]; rfl)
theorem D16_5 : decode (jt_code 16) 5 = .ok (.aload_n 0, 1) := by decide +kernel
theorem E16_5 {call : jv_F} {l1 l2 : Option Value} {a : Nat} {st : List Value} {h : jv_H} : jv_ev call 16 5 [some (.ref a), l1, l2] st h = jv_ev call 16 6 [some (.ref a), l1, l2] (.ref a :: st) h := je_aload_n (r := some a) D16_5 rfl rfl
theorem D16_6 : decode (jt_code 16) 6 = .ok (.iload_n 2, 1) := by decide +kernel
theorem E16_6 {call : jv_F} {l0 l1 : Option Value} {x : Int32} {st : List Value} {h : jv_H} : jv_ev call 16 6 [l0, l1, some (.int x)] st h = jv_ev call 16 7 [l0, l1, some (.int x)] (.int x :: st) h := je_iload_n D16_6 rfl rfl
theorem D16_7 : decode (jt_code 16) 7 = .ok (.invokevirtual 125, 3) := by decide +kernel
theorem E16_7 {call : jv_F} {l0 l1 l2 : Option Value} {v0 : Value}  {st : List Value} {m : Nat} {I : Nat → Int32} {A : Nat → Nat → Int32} {L : Nat → Nat → Int64} {rest : Nat → Option jv_C} {z : Nat × Nat} (hw : jv_wide st = true) (hc : (call 12 [.ref m, v0] (jm_H m I A L rest z)).isSome = true) : jv_ev call 16 7 [l0, l1, l2] (v0 :: .ref m :: st) (jm_H m I A L rest z) = jv_ev call 16 10 [l0, l1, l2] ((((call 12 [.ref m, v0] (jm_H m I A L rest z)).getD (none, (jm_H m I A L rest z))).1).toList ++ st) ((call 12 [.ref m, v0] (jm_H m I A L rest z)).getD (none, (jm_H m I A L rest z))).2 := by
  obtain ⟨⟨r, h'⟩, hv⟩ := Option.isSome_iff_exists.mp hc
  rw [hv]
  exact je_virt (y := 12) (as := [v0]) D16_7 rfl (by decide) (by decide) rfl jm_cl hw hv
theorem D16_10 : decode (jt_code 16) 10 = .ok (.ifCond .ne 5, 3) := by decide +kernel
theorem E16_10 {call : jv_F} {l0 l1 l2 : Option Value} {x : Int32} {st : List Value} {h : jv_H} : jv_ev call 16 10 [l0, l1, l2] (.int x :: st) h = if ¬ x = 0 then jv_ev call 16 15 [l0, l1, l2] st h else jv_ev call 16 13 [l0, l1, l2] st h := je_ifc D16_10 (by decide) rfl rfl
theorem D16_13 : decode (jt_code 16) 13 = .ok (.iconst 0, 1) := by decide +kernel
theorem E16_13 {call : jv_F} {l0 l1 l2 : Option Value}  {st : List Value} {h : jv_H} : jv_ev call 16 13 [l0, l1, l2] st h = jv_ev call 16 14 [l0, l1, l2] (.int (nI 0) :: st) h := je_iconst D16_13 rfl (by decide)
theorem D16_14 : decode (jt_code 16) 14 = .ok (.ireturn, 1) := by decide +kernel
theorem E16_14 {call : jv_F} {l0 l1 l2 : Option Value} {v : Int32} {h : jv_H} (hn : narrow .boolean (.int v) = .int v) (hf : fits .boolean (.int v) = true) : jv_ev call 16 14 [l0, l1, l2] [.int v] h = some (some (.int v), h) := je_iret (ty := .boolean) D16_14 rfl hn hf
theorem D16_15 : decode (jt_code 16) 15 = .ok (.aload_n 0, 1) := by decide +kernel
theorem E16_15 {call : jv_F} {l1 l2 : Option Value} {a : Nat} {st : List Value} {h : jv_H} : jv_ev call 16 15 [some (.ref a), l1, l2] st h = jv_ev call 16 16 [some (.ref a), l1, l2] (.ref a :: st) h := je_aload_n (r := some a) D16_15 rfl rfl
theorem D16_16 : decode (jt_code 16) 16 = .ok (.getfield 30, 3) := by decide +kernel
theorem E16_16 {call : jv_F} {l0 l1 l2 : Option Value}  {st : List Value} {m : Nat} {I : Nat → Int32} {A : Nat → Nat → Int32} {L : Nat → Nat → Int64} {rest : Nat → Option jv_C} {z : Nat × Nat} : jv_ev call 16 16 [l0, l1, l2] (.ref m :: st) (jm_H m I A L rest z) = jv_ev call 16 19 [l0, l1, l2] (.ref (m + 6) :: st) (jm_H m I A L rest z) := je_get D16_16 rfl (by decide) jm_g9
theorem D16_19 : decode (jt_code 16) 19 = .ok (.iload_n 2, 1) := by decide +kernel
theorem E16_19 {call : jv_F} {l0 l1 : Option Value} {x : Int32} {st : List Value} {h : jv_H} : jv_ev call 16 19 [l0, l1, some (.int x)] st h = jv_ev call 16 20 [l0, l1, some (.int x)] (.int x :: st) h := je_iload_n D16_19 rfl rfl
theorem D16_20 : decode (jt_code 16) 20 = .ok (.iaload, 1) := by decide +kernel
theorem E16_20 {call : jv_F} {l0 l1 l2 : Option Value} {i : Nat} {st : List Value} {m : Nat} {I : Nat → Int32} {A : Nat → Nat → Int32} {L : Nat → Nat → Int64} {rest : Nat → Option jv_C} {z : Nat × Nat} (hi : i < 12) : jv_ev call 16 20 [l0, l1, l2] (.int (nI i) :: .ref (m + 6) :: st) (jm_H m I A L rest z) = jv_ev call 16 21 [l0, l1, l2] (.int (A 9 i) :: st) (jm_H m I A L rest z) := je_iald D16_20 rfl (jm_l9 hi)
theorem D16_21 : decode (jt_code 16) 21 = .ok (.invokestatic 129, 3) := by decide +kernel
theorem E16_21 {call : jv_F} {l0 l1 l2 : Option Value} {v0 : Value}  {st : List Value} {h : jv_H} (hw : jv_wide st = true) (hc : (call 14 [v0] h).isSome = true) : jv_ev call 16 21 [l0, l1, l2] (v0 :: st) h = jv_ev call 16 24 [l0, l1, l2] ((((call 14 [v0] h).getD (none, h)).1).toList ++ st) ((call 14 [v0] h).getD (none, h)).2 := by
  obtain ⟨⟨r, h'⟩, hv⟩ := Option.isSome_iff_exists.mp hc
  rw [hv]
  exact je_stat (y := 14) (as := [v0]) D16_21 rfl (by decide) (by decide) rfl hw hv
theorem D16_24 : decode (jt_code 16) 24 = .ok (.ifCond .eq 17, 3) := by decide +kernel
theorem E16_24 {call : jv_F} {l0 l1 l2 : Option Value} {x : Int32} {st : List Value} {h : jv_H} : jv_ev call 16 24 [l0, l1, l2] (.int x :: st) h = if x = 0 then jv_ev call 16 41 [l0, l1, l2] st h else jv_ev call 16 27 [l0, l1, l2] st h := je_ifc D16_24 (by decide) rfl rfl
theorem D16_27 : decode (jt_code 16) 27 = .ok (.iload_n 2, 1) := by decide +kernel
theorem E16_27 {call : jv_F} {l0 l1 : Option Value} {x : Int32} {st : List Value} {h : jv_H} : jv_ev call 16 27 [l0, l1, some (.int x)] st h = jv_ev call 16 28 [l0, l1, some (.int x)] (.int x :: st) h := je_iload_n D16_27 rfl rfl
theorem D16_28 : decode (jt_code 16) 28 = .ok (.aload_n 0, 1) := by decide +kernel
theorem E16_28 {call : jv_F} {l1 l2 : Option Value} {a : Nat} {st : List Value} {h : jv_H} : jv_ev call 16 28 [some (.ref a), l1, l2] st h = jv_ev call 16 29 [some (.ref a), l1, l2] (.ref a :: st) h := je_aload_n (r := some a) D16_28 rfl rfl
theorem D16_29 : decode (jt_code 16) 29 = .ok (.getfield 30, 3) := by decide +kernel
theorem E16_29 {call : jv_F} {l0 l1 l2 : Option Value}  {st : List Value} {m : Nat} {I : Nat → Int32} {A : Nat → Nat → Int32} {L : Nat → Nat → Int64} {rest : Nat → Option jv_C} {z : Nat × Nat} : jv_ev call 16 29 [l0, l1, l2] (.ref m :: st) (jm_H m I A L rest z) = jv_ev call 16 32 [l0, l1, l2] (.ref (m + 6) :: st) (jm_H m I A L rest z) := je_get D16_29 rfl (by decide) jm_g9
theorem D16_32 : decode (jt_code 16) 32 = .ok (.iload_n 2, 1) := by decide +kernel
theorem E16_32 {call : jv_F} {l0 l1 : Option Value} {x : Int32} {st : List Value} {h : jv_H} : jv_ev call 16 32 [l0, l1, some (.int x)] st h = jv_ev call 16 33 [l0, l1, some (.int x)] (.int x :: st) h := je_iload_n D16_32 rfl rfl
theorem D16_33 : decode (jt_code 16) 33 = .ok (.iaload, 1) := by decide +kernel
theorem E16_33 {call : jv_F} {l0 l1 l2 : Option Value} {i : Nat} {st : List Value} {m : Nat} {I : Nat → Int32} {A : Nat → Nat → Int32} {L : Nat → Nat → Int64} {rest : Nat → Option jv_C} {z : Nat × Nat} (hi : i < 12) : jv_ev call 16 33 [l0, l1, l2] (.int (nI i) :: .ref (m + 6) :: st) (jm_H m I A L rest z) = jv_ev call 16 34 [l0, l1, l2] (.int (A 9 i) :: st) (jm_H m I A L rest z) := je_iald D16_33 rfl (jm_l9 hi)
theorem D16_34 : decode (jt_code 16) 34 = .ok (.invokestatic 132, 3) := by decide +kernel
theorem E16_34 {call : jv_F} {l0 l1 l2 : Option Value} {v0 v1 : Value}  {st : List Value} {h : jv_H} (hw : jv_wide st = true) (hc : (call 15 [v0, v1] h).isSome = true) : jv_ev call 16 34 [l0, l1, l2] (v1 :: v0 :: st) h = jv_ev call 16 37 [l0, l1, l2] ((((call 15 [v0, v1] h).getD (none, h)).1).toList ++ st) ((call 15 [v0, v1] h).getD (none, h)).2 := by
  obtain ⟨⟨r, h'⟩, hv⟩ := Option.isSome_iff_exists.mp hc
  rw [hv]
  exact je_stat (y := 15) (as := [v0, v1]) D16_34 rfl (by decide) (by decide) rfl hw hv
theorem D16_37 : decode (jt_code 16) 37 = .ok (.iload_n 1, 1) := by decide +kernel
theorem E16_37 {call : jv_F} {l0 l2 : Option Value} {x : Int32} {st : List Value} {h : jv_H} : jv_ev call 16 37 [l0, some (.int x), l2] st h = jv_ev call 16 38 [l0, some (.int x), l2] (.int x :: st) h := je_iload_n D16_37 rfl rfl
theorem D16_38 : decode (jt_code 16) 38 = .ok (.if_icmp .eq 22, 3) := by decide +kernel
theorem E16_38 {call : jv_F} {l0 l1 l2 : Option Value} {x y : Int32} {st : List Value} {h : jv_H} : jv_ev call 16 38 [l0, l1, l2] (.int y :: .int x :: st) h = if x = y then jv_ev call 16 60 [l0, l1, l2] st h else jv_ev call 16 41 [l0, l1, l2] st h := je_icmp D16_38 (by decide) rfl rfl
theorem D16_41 : decode (jt_code 16) 41 = .ok (.aload_n 0, 1) := by decide +kernel
theorem E16_41 {call : jv_F} {l1 l2 : Option Value} {a : Nat} {st : List Value} {h : jv_H} : jv_ev call 16 41 [some (.ref a), l1, l2] st h = jv_ev call 16 42 [some (.ref a), l1, l2] (.ref a :: st) h := je_aload_n (r := some a) D16_41 rfl rfl
theorem D16_42 : decode (jt_code 16) 42 = .ok (.getfield 57, 3) := by decide +kernel
theorem E16_42 {call : jv_F} {l0 l1 l2 : Option Value}  {st : List Value} {m : Nat} {I : Nat → Int32} {A : Nat → Nat → Int32} {L : Nat → Nat → Int64} {rest : Nat → Option jv_C} {z : Nat × Nat} : jv_ev call 16 42 [l0, l1, l2] (.ref m :: st) (jm_H m I A L rest z) = jv_ev call 16 45 [l0, l1, l2] (.ref (m + 15) :: st) (jm_H m I A L rest z) := je_get D16_42 rfl (by decide) jm_g18
theorem D16_45 : decode (jt_code 16) 45 = .ok (.iload_n 2, 1) := by decide +kernel
theorem E16_45 {call : jv_F} {l0 l1 : Option Value} {x : Int32} {st : List Value} {h : jv_H} : jv_ev call 16 45 [l0, l1, some (.int x)] st h = jv_ev call 16 46 [l0, l1, some (.int x)] (.int x :: st) h := je_iload_n D16_45 rfl rfl
theorem D16_46 : decode (jt_code 16) 46 = .ok (.iaload, 1) := by decide +kernel
theorem E16_46 {call : jv_F} {l0 l1 l2 : Option Value} {i : Nat} {st : List Value} {m : Nat} {I : Nat → Int32} {A : Nat → Nat → Int32} {L : Nat → Nat → Int64} {rest : Nat → Option jv_C} {z : Nat × Nat} (hi : i < 12) : jv_ev call 16 46 [l0, l1, l2] (.int (nI i) :: .ref (m + 15) :: st) (jm_H m I A L rest z) = jv_ev call 16 47 [l0, l1, l2] (.int (A 18 i) :: st) (jm_H m I A L rest z) := je_iald D16_46 rfl (jm_l18 hi)
theorem D16_47 : decode (jt_code 16) 47 = .ok (.ifCond .eq 17, 3) := by decide +kernel
theorem E16_47 {call : jv_F} {l0 l1 l2 : Option Value} {x : Int32} {st : List Value} {h : jv_H} : jv_ev call 16 47 [l0, l1, l2] (.int x :: st) h = if x = 0 then jv_ev call 16 64 [l0, l1, l2] st h else jv_ev call 16 50 [l0, l1, l2] st h := je_ifc D16_47 (by decide) rfl rfl
theorem D16_50 : decode (jt_code 16) 50 = .ok (.aload_n 0, 1) := by decide +kernel
theorem E16_50 {call : jv_F} {l1 l2 : Option Value} {a : Nat} {st : List Value} {h : jv_H} : jv_ev call 16 50 [some (.ref a), l1, l2] st h = jv_ev call 16 51 [some (.ref a), l1, l2] (.ref a :: st) h := je_aload_n (r := some a) D16_50 rfl rfl
theorem D16_51 : decode (jt_code 16) 51 = .ok (.getfield 60, 3) := by decide +kernel
theorem E16_51 {call : jv_F} {l0 l1 l2 : Option Value}  {st : List Value} {m : Nat} {I : Nat → Int32} {A : Nat → Nat → Int32} {L : Nat → Nat → Int64} {rest : Nat → Option jv_C} {z : Nat × Nat} : jv_ev call 16 51 [l0, l1, l2] (.ref m :: st) (jm_H m I A L rest z) = jv_ev call 16 54 [l0, l1, l2] (.ref (m + 16) :: st) (jm_H m I A L rest z) := je_get D16_51 rfl (by decide) jm_g19
theorem D16_54 : decode (jt_code 16) 54 = .ok (.iload_n 2, 1) := by decide +kernel
theorem E16_54 {call : jv_F} {l0 l1 : Option Value} {x : Int32} {st : List Value} {h : jv_H} : jv_ev call 16 54 [l0, l1, some (.int x)] st h = jv_ev call 16 55 [l0, l1, some (.int x)] (.int x :: st) h := je_iload_n D16_54 rfl rfl
theorem D16_55 : decode (jt_code 16) 55 = .ok (.iaload, 1) := by decide +kernel
theorem E16_55 {call : jv_F} {l0 l1 l2 : Option Value} {i : Nat} {st : List Value} {m : Nat} {I : Nat → Int32} {A : Nat → Nat → Int32} {L : Nat → Nat → Int64} {rest : Nat → Option jv_C} {z : Nat × Nat} (hi : i < 12) : jv_ev call 16 55 [l0, l1, l2] (.int (nI i) :: .ref (m + 16) :: st) (jm_H m I A L rest z) = jv_ev call 16 56 [l0, l1, l2] (.int (A 19 i) :: st) (jm_H m I A L rest z) := je_iald D16_55 rfl (jm_l19 hi)
theorem D16_56 : decode (jt_code 16) 56 = .ok (.iload_n 1, 1) := by decide +kernel
theorem E16_56 {call : jv_F} {l0 l2 : Option Value} {x : Int32} {st : List Value} {h : jv_H} : jv_ev call 16 56 [l0, some (.int x), l2] st h = jv_ev call 16 57 [l0, some (.int x), l2] (.int x :: st) h := je_iload_n D16_56 rfl rfl
theorem D16_57 : decode (jt_code 16) 57 = .ok (.if_icmp .ne 7, 3) := by decide +kernel
theorem E16_57 {call : jv_F} {l0 l1 l2 : Option Value} {x y : Int32} {st : List Value} {h : jv_H} : jv_ev call 16 57 [l0, l1, l2] (.int y :: .int x :: st) h = if ¬ x = y then jv_ev call 16 64 [l0, l1, l2] st h else jv_ev call 16 60 [l0, l1, l2] st h := je_icmp D16_57 (by decide) rfl rfl
theorem D16_60 : decode (jt_code 16) 60 = .ok (.iconst 1, 1) := by decide +kernel
theorem E16_60 {call : jv_F} {l0 l1 l2 : Option Value}  {st : List Value} {h : jv_H} : jv_ev call 16 60 [l0, l1, l2] st h = jv_ev call 16 61 [l0, l1, l2] (.int (nI 1) :: st) h := je_iconst D16_60 rfl (by decide)
theorem D16_61 : decode (jt_code 16) 61 = .ok (.goto 4, 3) := by decide +kernel
theorem E16_61 {call : jv_F} {l0 l1 l2 : Option Value}  {st : List Value} {h : jv_H} : jv_ev call 16 61 [l0, l1, l2] st h = jv_ev call 16 65 [l0, l1, l2] st h := je_goto D16_61 (by decide)
theorem D16_64 : decode (jt_code 16) 64 = .ok (.iconst 0, 1) := by decide +kernel
theorem E16_64 {call : jv_F} {l0 l1 l2 : Option Value}  {st : List Value} {h : jv_H} : jv_ev call 16 64 [l0, l1, l2] st h = jv_ev call 16 65 [l0, l1, l2] (.int (nI 0) :: st) h := je_iconst D16_64 rfl (by decide)
theorem D16_65 : decode (jt_code 16) 65 = .ok (.ireturn, 1) := by decide +kernel
theorem E16_65 {call : jv_F} {l0 l1 l2 : Option Value} {v : Int32} {h : jv_H} (hn : narrow .boolean (.int v) = .int v) (hf : fits .boolean (.int v) = true) : jv_ev call 16 65 [l0, l1, l2] [.int v] h = some (some (.int v), h) := je_iret (ty := .boolean) D16_65 rfl hn hf
/-! method 17: DrumMachineModel.run -/
theorem N17 {d : Nat} {b : Nat} {a0 : Int32} {h : jv_H} : jv_run (d + 1) 17 [.ref b, .int a0] h = jv_ev (jv_run d) 17 0 [some (.ref b), some (.int a0), none] [] h := jv_run_eq (Nat.le_of_ble_eq_true rfl) rfl
theorem D17_0 : decode (jt_code 17) 0 = .ok (.iload_n 1, 1) := by decide +kernel
theorem E17_0 {call : jv_F} {l0 l2 : Option Value} {x : Int32} {st : List Value} {h : jv_H} : jv_ev call 17 0 [l0, some (.int x), l2] st h = jv_ev call 17 1 [l0, some (.int x), l2] (.int x :: st) h := je_iload_n D17_0 rfl rfl
theorem D17_1 : decode (jt_code 17) 1 = .ok (.ifCond .lt 10, 3) := by decide +kernel
theorem E17_1 {call : jv_F} {l0 l1 l2 : Option Value} {x : Int32} {st : List Value} {h : jv_H} : jv_ev call 17 1 [l0, l1, l2] (.int x :: st) h = if x < 0 then jv_ev call 17 11 [l0, l1, l2] st h else jv_ev call 17 4 [l0, l1, l2] st h := je_ifc D17_1 (by decide) rfl rfl
theorem D17_4 : decode (jt_code 17) 4 = .ok (.iload_n 1, 1) := by decide +kernel
theorem E17_4 {call : jv_F} {l0 l2 : Option Value} {x : Int32} {st : List Value} {h : jv_H} : jv_ev call 17 4 [l0, some (.int x), l2] st h = jv_ev call 17 5 [l0, some (.int x), l2] (.int x :: st) h := je_iload_n D17_4 rfl rfl
theorem D17_5 : decode (jt_code 17) 5 = .ok (.sipush 20000, 3) := by decide +kernel
theorem E17_5 {call : jv_F} {l0 l1 l2 : Option Value}  {st : List Value} {h : jv_H} : jv_ev call 17 5 [l0, l1, l2] st h = jv_ev call 17 8 [l0, l1, l2] (.int (nI 20000) :: st) h := je_sipush D17_5 rfl (by decide)
theorem D17_8 : decode (jt_code 17) 8 = .ok (.if_icmp .le 5, 3) := by decide +kernel
theorem E17_8 {call : jv_F} {l0 l1 l2 : Option Value} {x y : Int32} {st : List Value} {h : jv_H} : jv_ev call 17 8 [l0, l1, l2] (.int y :: .int x :: st) h = if x ≤ y then jv_ev call 17 13 [l0, l1, l2] st h else jv_ev call 17 11 [l0, l1, l2] st h := je_icmp D17_8 (by decide) rfl rfl
theorem D17_11 : decode (jt_code 17) 11 = .ok (.iconst (-1), 1) := by decide +kernel
theorem E17_11 {call : jv_F} {l0 l1 l2 : Option Value}  {st : List Value} {h : jv_H} : jv_ev call 17 11 [l0, l1, l2] st h = jv_ev call 17 12 [l0, l1, l2] (.int (-1) :: st) h := je_iconst D17_11 rfl (by decide)
theorem D17_12 : decode (jt_code 17) 12 = .ok (.ireturn, 1) := by decide +kernel
theorem E17_12 {call : jv_F} {l0 l1 l2 : Option Value} {v : Int32} {h : jv_H} : jv_ev call 17 12 [l0, l1, l2] [.int v] h = some (some (.int v), h) := je_iret (ty := .int) D17_12 rfl rfl rfl
theorem D17_13 : decode (jt_code 17) 13 = .ok (.iconst 0, 1) := by decide +kernel
theorem E17_13 {call : jv_F} {l0 l1 l2 : Option Value}  {st : List Value} {h : jv_H} : jv_ev call 17 13 [l0, l1, l2] st h = jv_ev call 17 14 [l0, l1, l2] (.int (nI 0) :: st) h := je_iconst D17_13 rfl (by decide)
theorem D17_14 : decode (jt_code 17) 14 = .ok (.istore_n 2, 1) := by decide +kernel
theorem E17_14 {call : jv_F} {l0 l1 l2 : Option Value} {x : Int32} {st : List Value} {h : jv_H} (hk : ¬ jv_is2 (some l1) = true) : jv_ev call 17 14 [l0, l1, l2] (.int x :: st) h = jv_ev call 17 15 [l0, l1, some (.int x)] st h := je_istore_n D17_14 rfl (Nat.le_of_ble_eq_true rfl) (by show jv_st1 _ 2 _ = _; simp only [jv_st1, jv_kill, List.getElem?_cons_succ, List.getElem?_cons_zero, hk, if_false]; rfl)
theorem D17_15 : decode (jt_code 17) 15 = .ok (.iload_n 2, 1) := by decide +kernel
theorem E17_15 {call : jv_F} {l0 l1 : Option Value} {x : Int32} {st : List Value} {h : jv_H} : jv_ev call 17 15 [l0, l1, some (.int x)] st h = jv_ev call 17 16 [l0, l1, some (.int x)] (.int x :: st) h := je_iload_n D17_15 rfl rfl
theorem D17_16 : decode (jt_code 17) 16 = .ok (.iload_n 1, 1) := by decide +kernel
theorem E17_16 {call : jv_F} {l0 l2 : Option Value} {x : Int32} {st : List Value} {h : jv_H} : jv_ev call 17 16 [l0, some (.int x), l2] st h = jv_ev call 17 17 [l0, some (.int x), l2] (.int x :: st) h := je_iload_n D17_16 rfl rfl
theorem D17_17 : decode (jt_code 17) 17 = .ok (.if_icmp .ge 20, 3) := by decide +kernel
theorem E17_17 {call : jv_F} {l0 l1 l2 : Option Value} {x y : Int32} {st : List Value} {h : jv_H} : jv_ev call 17 17 [l0, l1, l2] (.int y :: .int x :: st) h = if y ≤ x then jv_ev call 17 37 [l0, l1, l2] st h else jv_ev call 17 20 [l0, l1, l2] st h := je_icmp D17_17 (by decide) rfl rfl
theorem D17_20 : decode (jt_code 17) 20 = .ok (.aload_n 0, 1) := by decide +kernel
theorem E17_20 {call : jv_F} {l1 l2 : Option Value} {a : Nat} {st : List Value} {h : jv_H} : jv_ev call 17 20 [some (.ref a), l1, l2] st h = jv_ev call 17 21 [some (.ref a), l1, l2] (.ref a :: st) h := je_aload_n (r := some a) D17_20 rfl rfl
theorem D17_21 : decode (jt_code 17) 21 = .ok (.invokevirtual 136, 3) := by decide +kernel
theorem E17_21 {call : jv_F} {l0 l1 l2 : Option Value}  {st : List Value} {m : Nat} {I : Nat → Int32} {A : Nat → Nat → Int32} {L : Nat → Nat → Int64} {rest : Nat → Option jv_C} {z : Nat × Nat} (hw : jv_wide st = true) (hc : (call 11 [.ref m] (jm_H m I A L rest z)).isSome = true) : jv_ev call 17 21 [l0, l1, l2] (.ref m :: st) (jm_H m I A L rest z) = jv_ev call 17 24 [l0, l1, l2] ((((call 11 [.ref m] (jm_H m I A L rest z)).getD (none, (jm_H m I A L rest z))).1).toList ++ st) ((call 11 [.ref m] (jm_H m I A L rest z)).getD (none, (jm_H m I A L rest z))).2 := by
  obtain ⟨⟨r, h'⟩, hv⟩ := Option.isSome_iff_exists.mp hc
  rw [hv]
  exact je_virt (y := 11) (as := []) D17_21 rfl (by decide) (by decide) rfl jm_cl hw hv
theorem D17_24 : decode (jt_code 17) 24 = .ok (.ifCond .le 13, 3) := by decide +kernel
theorem E17_24 {call : jv_F} {l0 l1 l2 : Option Value} {x : Int32} {st : List Value} {h : jv_H} : jv_ev call 17 24 [l0, l1, l2] (.int x :: st) h = if x ≤ 0 then jv_ev call 17 37 [l0, l1, l2] st h else jv_ev call 17 27 [l0, l1, l2] st h := je_ifc D17_24 (by decide) rfl rfl
theorem D17_27 : decode (jt_code 17) 27 = .ok (.aload_n 0, 1) := by decide +kernel
theorem E17_27 {call : jv_F} {l1 l2 : Option Value} {a : Nat} {st : List Value} {h : jv_H} : jv_ev call 17 27 [some (.ref a), l1, l2] st h = jv_ev call 17 28 [some (.ref a), l1, l2] (.ref a :: st) h := je_aload_n (r := some a) D17_27 rfl rfl
theorem D17_28 : decode (jt_code 17) 28 = .ok (.invokevirtual 139, 3) := by decide +kernel
theorem E17_28 {call : jv_F} {l0 l1 l2 : Option Value}  {st : List Value} {m : Nat} {I : Nat → Int32} {A : Nat → Nat → Int32} {L : Nat → Nat → Int64} {rest : Nat → Option jv_C} {z : Nat × Nat} (hw : jv_wide st = true) (hc : (call 18 [.ref m] (jm_H m I A L rest z)).isSome = true) : jv_ev call 17 28 [l0, l1, l2] (.ref m :: st) (jm_H m I A L rest z) = jv_ev call 17 31 [l0, l1, l2] ((((call 18 [.ref m] (jm_H m I A L rest z)).getD (none, (jm_H m I A L rest z))).1).toList ++ st) ((call 18 [.ref m] (jm_H m I A L rest z)).getD (none, (jm_H m I A L rest z))).2 := by
  obtain ⟨⟨r, h'⟩, hv⟩ := Option.isSome_iff_exists.mp hc
  rw [hv]
  exact je_virt (y := 18) (as := []) D17_28 rfl (by decide) (by decide) rfl jm_cl hw hv
theorem D17_31 : decode (jt_code 17) 31 = .ok (.iinc 2 1, 3) := by decide +kernel
theorem E17_31 {call : jv_F} {l0 l1 : Option Value} {x : Int32} {st : List Value} {h : jv_H} (hk : ¬ jv_is2 (some l1) = true) : jv_ev call 17 31 [l0, l1, some (.int x)] st h = jv_ev call 17 34 [l0, l1, some (.int (x + (nI 1)))] st h := je_iinc D17_31 rfl rfl (v := x + (nI 1)) (by rfl) (by show jv_st1 _ 2 _ = _; simp only [jv_st1, jv_kill, List.getElem?_cons_succ, List.getElem?_cons_zero, hk, if_false]; rfl)
theorem D17_34 : decode (jt_code 17) 34 = .ok (.goto (-19), 3) := by decide +kernel
theorem E17_34 {call : jv_F} {l0 l1 l2 : Option Value}  {st : List Value} {h : jv_H} : jv_ev call 17 34 [l0, l1, l2] st h = jv_ev call 17 15 [l0, l1, l2] st h := je_goto D17_34 (by decide)
theorem D17_37 : decode (jt_code 17) 37 = .ok (.aload_n 0, 1) := by decide +kernel
theorem E17_37 {call : jv_F} {l1 l2 : Option Value} {a : Nat} {st : List Value} {h : jv_H} : jv_ev call 17 37 [some (.ref a), l1, l2] st h = jv_ev call 17 38 [some (.ref a), l1, l2] (.ref a :: st) h := je_aload_n (r := some a) D17_37 rfl rfl
theorem D17_38 : decode (jt_code 17) 38 = .ok (.invokevirtual 136, 3) := by decide +kernel
theorem E17_38 {call : jv_F} {l0 l1 l2 : Option Value}  {st : List Value} {m : Nat} {I : Nat → Int32} {A : Nat → Nat → Int32} {L : Nat → Nat → Int64} {rest : Nat → Option jv_C} {z : Nat × Nat} (hw : jv_wide st = true) (hc : (call 11 [.ref m] (jm_H m I A L rest z)).isSome = true) : jv_ev call 17 38 [l0, l1, l2] (.ref m :: st) (jm_H m I A L rest z) = jv_ev call 17 41 [l0, l1, l2] ((((call 11 [.ref m] (jm_H m I A L rest z)).getD (none, (jm_H m I A L rest z))).1).toList ++ st) ((call 11 [.ref m] (jm_H m I A L rest z)).getD (none, (jm_H m I A L rest z))).2 := by
  obtain ⟨⟨r, h'⟩, hv⟩ := Option.isSome_iff_exists.mp hc
  rw [hv]
  exact je_virt (y := 11) (as := []) D17_38 rfl (by decide) (by decide) rfl jm_cl hw hv
theorem D17_41 : decode (jt_code 17) 41 = .ok (.ireturn, 1) := by decide +kernel
theorem E17_41 {call : jv_F} {l0 l1 l2 : Option Value} {v : Int32} {h : jv_H} : jv_ev call 17 41 [l0, l1, l2] [.int v] h = some (some (.int v), h) := je_iret (ty := .int) D17_41 rfl rfl rfl
/-! method 18: DrumMachineModel.tick -/
theorem N18 {d : Nat} {b : Nat} {h : jv_H} : jv_run (d + 1) 18 [.ref b] h = jv_ev (jv_run d) 18 0 [some (.ref b), none] [] h := jv_run_eq (Nat.le_of_ble_eq_true rfl) rfl
theorem D18_0 : decode (jt_code 18) 0 = .ok (.aload_n 0, 1) := by decide +kernel
theorem E18_0 {call : jv_F} {l1 : Option Value} {a : Nat} {st : List Value} {h : jv_H} : jv_ev call 18 0 [some (.ref a), l1] st h = jv_ev call 18 1 [some (.ref a), l1] (.ref a :: st) h := je_aload_n (r := some a) D18_0 rfl rfl
theorem D18_1 : decode (jt_code 18) 1 = .ok (.getfield 142, 3) := by decide +kernel
theorem E18_1 {call : jv_F} {l0 l1 : Option Value}  {st : List Value} {m : Nat} {I : Nat → Int32} {A : Nat → Nat → Int32} {L : Nat → Nat → Int64} {rest : Nat → Option jv_C} {z : Nat × Nat} : jv_ev call 18 1 [l0, l1] (.ref m :: st) (jm_H m I A L rest z) = jv_ev call 18 4 [l0, l1] (.int (I 32) :: st) (jm_H m I A L rest z) := je_get D18_1 rfl (by decide) jm_g32
theorem D18_4 : decode (jt_code 18) 4 = .ok (.ifCond .eq 18, 3) := by decide +kernel
theorem E18_4 {call : jv_F} {l0 l1 : Option Value} {x : Int32} {st : List Value} {h : jv_H} : jv_ev call 18 4 [l0, l1] (.int x :: st) h = if x = 0 then jv_ev call 18 22 [l0, l1] st h else jv_ev call 18 7 [l0, l1] st h := je_ifc D18_4 (by decide) rfl rfl
theorem D18_7 : decode (jt_code 18) 7 = .ok (.aload_n 0, 1) := by decide +kernel
theorem E18_7 {call : jv_F} {l1 : Option Value} {a : Nat} {st : List Value} {h : jv_H} : jv_ev call 18 7 [some (.ref a), l1] st h = jv_ev call 18 8 [some (.ref a), l1] (.ref a :: st) h := je_aload_n (r := some a) D18_7 rfl rfl
theorem D18_8 : decode (jt_code 18) 8 = .ok (.getfield 145, 3) := by decide +kernel
theorem E18_8 {call : jv_F} {l0 l1 : Option Value}  {st : List Value} {m : Nat} {I : Nat → Int32} {A : Nat → Nat → Int32} {L : Nat → Nat → Int64} {rest : Nat → Option jv_C} {z : Nat × Nat} : jv_ev call 18 8 [l0, l1] (.ref m :: st) (jm_H m I A L rest z) = jv_ev call 18 11 [l0, l1] (.int (I 35) :: st) (jm_H m I A L rest z) := je_get D18_8 rfl (by decide) jm_g35
theorem D18_11 : decode (jt_code 18) 11 = .ok (.aload_n 0, 1) := by decide +kernel
theorem E18_11 {call : jv_F} {l1 : Option Value} {a : Nat} {st : List Value} {h : jv_H} : jv_ev call 18 11 [some (.ref a), l1] st h = jv_ev call 18 12 [some (.ref a), l1] (.ref a :: st) h := je_aload_n (r := some a) D18_11 rfl rfl
theorem D18_12 : decode (jt_code 18) 12 = .ok (.getfield 148, 3) := by decide +kernel
theorem E18_12 {call : jv_F} {l0 l1 : Option Value}  {st : List Value} {m : Nat} {I : Nat → Int32} {A : Nat → Nat → Int32} {L : Nat → Nat → Int64} {rest : Nat → Option jv_C} {z : Nat × Nat} : jv_ev call 18 12 [l0, l1] (.ref m :: st) (jm_H m I A L rest z) = jv_ev call 18 15 [l0, l1] (.int (I 36) :: st) (jm_H m I A L rest z) := je_get D18_12 rfl (by decide) jm_g36
theorem D18_15 : decode (jt_code 18) 15 = .ok (.if_icmp .ne 7, 3) := by decide +kernel
theorem E18_15 {call : jv_F} {l0 l1 : Option Value} {x y : Int32} {st : List Value} {h : jv_H} : jv_ev call 18 15 [l0, l1] (.int y :: .int x :: st) h = if ¬ x = y then jv_ev call 18 22 [l0, l1] st h else jv_ev call 18 18 [l0, l1] st h := je_icmp D18_15 (by decide) rfl rfl
theorem D18_18 : decode (jt_code 18) 18 = .ok (.aload_n 0, 1) := by decide +kernel
theorem E18_18 {call : jv_F} {l1 : Option Value} {a : Nat} {st : List Value} {h : jv_H} : jv_ev call 18 18 [some (.ref a), l1] st h = jv_ev call 18 19 [some (.ref a), l1] (.ref a :: st) h := je_aload_n (r := some a) D18_18 rfl rfl
theorem D18_19 : decode (jt_code 18) 19 = .ok (.invokevirtual 151, 3) := by decide +kernel
theorem E18_19 {call : jv_F} {l0 l1 : Option Value}  {st : List Value} {m : Nat} {I : Nat → Int32} {A : Nat → Nat → Int32} {L : Nat → Nat → Int64} {rest : Nat → Option jv_C} {z : Nat × Nat} (hw : jv_wide st = true) (hc : (call 21 [.ref m] (jm_H m I A L rest z)).isSome = true) : jv_ev call 18 19 [l0, l1] (.ref m :: st) (jm_H m I A L rest z) = jv_ev call 18 22 [l0, l1] ((((call 21 [.ref m] (jm_H m I A L rest z)).getD (none, (jm_H m I A L rest z))).1).toList ++ st) ((call 21 [.ref m] (jm_H m I A L rest z)).getD (none, (jm_H m I A L rest z))).2 := by
  obtain ⟨⟨r, h'⟩, hv⟩ := Option.isSome_iff_exists.mp hc
  rw [hv]
  exact je_virt (y := 21) (as := []) D18_19 rfl (by decide) (by decide) rfl jm_cl hw hv
theorem D18_22 : decode (jt_code 18) 22 = .ok (.aload_n 0, 1) := by decide +kernel
theorem E18_22 {call : jv_F} {l1 : Option Value} {a : Nat} {st : List Value} {h : jv_H} : jv_ev call 18 22 [some (.ref a), l1] st h = jv_ev call 18 23 [some (.ref a), l1] (.ref a :: st) h := je_aload_n (r := some a) D18_22 rfl rfl
theorem D18_23 : decode (jt_code 18) 23 = .ok (.invokevirtual 121, 3) := by decide +kernel
theorem E18_23 {call : jv_F} {l0 l1 : Option Value}  {st : List Value} {m : Nat} {I : Nat → Int32} {A : Nat → Nat → Int32} {L : Nat → Nat → Int64} {rest : Nat → Option jv_C} {z : Nat × Nat} (hw : jv_wide st = true) (hc : (call 10 [.ref m] (jm_H m I A L rest z)).isSome = true) : jv_ev call 18 23 [l0, l1] (.ref m :: st) (jm_H m I A L rest z) = jv_ev call 18 26 [l0, l1] ((((call 10 [.ref m] (jm_H m I A L rest z)).getD (none, (jm_H m I A L rest z))).1).toList ++ st) ((call 10 [.ref m] (jm_H m I A L rest z)).getD (none, (jm_H m I A L rest z))).2 := by
  obtain ⟨⟨r, h'⟩, hv⟩ := Option.isSome_iff_exists.mp hc
  rw [hv]
  exact je_virt (y := 10) (as := []) D18_23 rfl (by decide) (by decide) rfl jm_cl hw hv
theorem D18_26 : decode (jt_code 18) 26 = .ok (.ifCond .ge 22, 3) := by decide +kernel
theorem E18_26 {call : jv_F} {l0 l1 : Option Value} {x : Int32} {st : List Value} {h : jv_H} : jv_ev call 18 26 [l0, l1] (.int x :: st) h = if 0 ≤ x then jv_ev call 18 48 [l0, l1] st h else jv_ev call 18 29 [l0, l1] st h := je_ifc D18_26 (by decide) rfl rfl
theorem D18_29 : decode (jt_code 18) 29 = .ok (.aload_n 0, 1) := by decide +kernel
theorem E18_29 {call : jv_F} {l1 : Option Value} {a : Nat} {st : List Value} {h : jv_H} : jv_ev call 18 29 [some (.ref a), l1] st h = jv_ev call 18 30 [some (.ref a), l1] (.ref a :: st) h := je_aload_n (r := some a) D18_29 rfl rfl
theorem D18_30 : decode (jt_code 18) 30 = .ok (.invokevirtual 154, 3) := by decide +kernel
theorem E18_30 {call : jv_F} {l0 l1 : Option Value}  {st : List Value} {m : Nat} {I : Nat → Int32} {A : Nat → Nat → Int32} {L : Nat → Nat → Int64} {rest : Nat → Option jv_C} {z : Nat × Nat} (hw : jv_wide st = true) (hc : (call 19 [.ref m] (jm_H m I A L rest z)).isSome = true) : jv_ev call 18 30 [l0, l1] (.ref m :: st) (jm_H m I A L rest z) = jv_ev call 18 33 [l0, l1] ((((call 19 [.ref m] (jm_H m I A L rest z)).getD (none, (jm_H m I A L rest z))).1).toList ++ st) ((call 19 [.ref m] (jm_H m I A L rest z)).getD (none, (jm_H m I A L rest z))).2 := by
  obtain ⟨⟨r, h'⟩, hv⟩ := Option.isSome_iff_exists.mp hc
  rw [hv]
  exact je_virt (y := 19) (as := []) D18_30 rfl (by decide) (by decide) rfl jm_cl hw hv
theorem D18_33 : decode (jt_code 18) 33 = .ok (.ifCond .ne 15, 3) := by decide +kernel
theorem E18_33 {call : jv_F} {l0 l1 : Option Value} {x : Int32} {st : List Value} {h : jv_H} : jv_ev call 18 33 [l0, l1] (.int x :: st) h = if ¬ x = 0 then jv_ev call 18 48 [l0, l1] st h else jv_ev call 18 36 [l0, l1] st h := je_ifc D18_33 (by decide) rfl rfl
theorem D18_36 : decode (jt_code 18) 36 = .ok (.aload_n 0, 1) := by decide +kernel
theorem E18_36 {call : jv_F} {l1 : Option Value} {a : Nat} {st : List Value} {h : jv_H} : jv_ev call 18 36 [some (.ref a), l1] st h = jv_ev call 18 37 [some (.ref a), l1] (.ref a :: st) h := je_aload_n (r := some a) D18_36 rfl rfl
theorem D18_37 : decode (jt_code 18) 37 = .ok (.getfield 142, 3) := by decide +kernel
theorem E18_37 {call : jv_F} {l0 l1 : Option Value}  {st : List Value} {m : Nat} {I : Nat → Int32} {A : Nat → Nat → Int32} {L : Nat → Nat → Int64} {rest : Nat → Option jv_C} {z : Nat × Nat} : jv_ev call 18 37 [l0, l1] (.ref m :: st) (jm_H m I A L rest z) = jv_ev call 18 40 [l0, l1] (.int (I 32) :: st) (jm_H m I A L rest z) := je_get D18_37 rfl (by decide) jm_g32
theorem D18_40 : decode (jt_code 18) 40 = .ok (.iconst 2, 1) := by decide +kernel
theorem E18_40 {call : jv_F} {l0 l1 : Option Value}  {st : List Value} {h : jv_H} : jv_ev call 18 40 [l0, l1] st h = jv_ev call 18 41 [l0, l1] (.int (nI 2) :: st) h := je_iconst D18_40 rfl (by decide)
theorem D18_41 : decode (jt_code 18) 41 = .ok (.if_icmp .eq 7, 3) := by decide +kernel
theorem E18_41 {call : jv_F} {l0 l1 : Option Value} {x y : Int32} {st : List Value} {h : jv_H} : jv_ev call 18 41 [l0, l1] (.int y :: .int x :: st) h = if x = y then jv_ev call 18 48 [l0, l1] st h else jv_ev call 18 44 [l0, l1] st h := je_icmp D18_41 (by decide) rfl rfl
theorem D18_44 : decode (jt_code 18) 44 = .ok (.aload_n 0, 1) := by decide +kernel
theorem E18_44 {call : jv_F} {l1 : Option Value} {a : Nat} {st : List Value} {h : jv_H} : jv_ev call 18 44 [some (.ref a), l1] st h = jv_ev call 18 45 [some (.ref a), l1] (.ref a :: st) h := je_aload_n (r := some a) D18_44 rfl rfl
theorem D18_45 : decode (jt_code 18) 45 = .ok (.invokevirtual 158, 3) := by decide +kernel
theorem E18_45 {call : jv_F} {l0 l1 : Option Value}  {st : List Value} {m : Nat} {I : Nat → Int32} {A : Nat → Nat → Int32} {L : Nat → Nat → Int64} {rest : Nat → Option jv_C} {z : Nat × Nat} (hw : jv_wide st = true) (hc : (call 24 [.ref m] (jm_H m I A L rest z)).isSome = true) : jv_ev call 18 45 [l0, l1] (.ref m :: st) (jm_H m I A L rest z) = jv_ev call 18 48 [l0, l1] ((((call 24 [.ref m] (jm_H m I A L rest z)).getD (none, (jm_H m I A L rest z))).1).toList ++ st) ((call 24 [.ref m] (jm_H m I A L rest z)).getD (none, (jm_H m I A L rest z))).2 := by
  obtain ⟨⟨r, h'⟩, hv⟩ := Option.isSome_iff_exists.mp hc
  rw [hv]
  exact je_virt (y := 24) (as := []) D18_45 rfl (by decide) (by decide) rfl jm_cl hw hv
theorem D18_48 : decode (jt_code 18) 48 = .ok (.aload_n 0, 1) := by decide +kernel
theorem E18_48 {call : jv_F} {l1 : Option Value} {a : Nat} {st : List Value} {h : jv_H} : jv_ev call 18 48 [some (.ref a), l1] st h = jv_ev call 18 49 [some (.ref a), l1] (.ref a :: st) h := je_aload_n (r := some a) D18_48 rfl rfl
theorem D18_49 : decode (jt_code 18) 49 = .ok (.getfield 142, 3) := by decide +kernel
theorem E18_49 {call : jv_F} {l0 l1 : Option Value}  {st : List Value} {m : Nat} {I : Nat → Int32} {A : Nat → Nat → Int32} {L : Nat → Nat → Int64} {rest : Nat → Option jv_C} {z : Nat × Nat} : jv_ev call 18 49 [l0, l1] (.ref m :: st) (jm_H m I A L rest z) = jv_ev call 18 52 [l0, l1] (.int (I 32) :: st) (jm_H m I A L rest z) := je_get D18_49 rfl (by decide) jm_g32
theorem D18_52 : decode (jt_code 18) 52 = .ok (.ifCond .ne 14, 3) := by decide +kernel
theorem E18_52 {call : jv_F} {l0 l1 : Option Value} {x : Int32} {st : List Value} {h : jv_H} : jv_ev call 18 52 [l0, l1] (.int x :: st) h = if ¬ x = 0 then jv_ev call 18 66 [l0, l1] st h else jv_ev call 18 55 [l0, l1] st h := je_ifc D18_52 (by decide) rfl rfl
theorem D18_55 : decode (jt_code 18) 55 = .ok (.aload_n 0, 1) := by decide +kernel
theorem E18_55 {call : jv_F} {l1 : Option Value} {a : Nat} {st : List Value} {h : jv_H} : jv_ev call 18 55 [some (.ref a), l1] st h = jv_ev call 18 56 [some (.ref a), l1] (.ref a :: st) h := je_aload_n (r := some a) D18_55 rfl rfl
theorem D18_56 : decode (jt_code 18) 56 = .ok (.getfield 161, 3) := by decide +kernel
theorem E18_56 {call : jv_F} {l0 l1 : Option Value}  {st : List Value} {m : Nat} {I : Nat → Int32} {A : Nat → Nat → Int32} {L : Nat → Nat → Int64} {rest : Nat → Option jv_C} {z : Nat × Nat} : jv_ev call 18 56 [l0, l1] (.ref m :: st) (jm_H m I A L rest z) = jv_ev call 18 59 [l0, l1] (.int (I 31) :: st) (jm_H m I A L rest z) := je_get D18_56 rfl (by decide) jm_g31
theorem D18_59 : decode (jt_code 18) 59 = .ok (.ifCond .le 7, 3) := by decide +kernel
theorem E18_59 {call : jv_F} {l0 l1 : Option Value} {x : Int32} {st : List Value} {h : jv_H} : jv_ev call 18 59 [l0, l1] (.int x :: st) h = if x ≤ 0 then jv_ev call 18 66 [l0, l1] st h else jv_ev call 18 62 [l0, l1] st h := je_ifc D18_59 (by decide) rfl rfl
theorem D18_62 : decode (jt_code 18) 62 = .ok (.aload_n 0, 1) := by decide +kernel
theorem E18_62 {call : jv_F} {l1 : Option Value} {a : Nat} {st : List Value} {h : jv_H} : jv_ev call 18 62 [some (.ref a), l1] st h = jv_ev call 18 63 [some (.ref a), l1] (.ref a :: st) h := je_aload_n (r := some a) D18_62 rfl rfl
theorem D18_63 : decode (jt_code 18) 63 = .ok (.invokevirtual 164, 3) := by decide +kernel
theorem E18_63 {call : jv_F} {l0 l1 : Option Value}  {st : List Value} {m : Nat} {I : Nat → Int32} {A : Nat → Nat → Int32} {L : Nat → Nat → Int64} {rest : Nat → Option jv_C} {z : Nat × Nat} (hw : jv_wide st = true) (hc : (call 28 [.ref m] (jm_H m I A L rest z)).isSome = true) : jv_ev call 18 63 [l0, l1] (.ref m :: st) (jm_H m I A L rest z) = jv_ev call 18 66 [l0, l1] ((((call 28 [.ref m] (jm_H m I A L rest z)).getD (none, (jm_H m I A L rest z))).1).toList ++ st) ((call 28 [.ref m] (jm_H m I A L rest z)).getD (none, (jm_H m I A L rest z))).2 := by
  obtain ⟨⟨r, h'⟩, hv⟩ := Option.isSome_iff_exists.mp hc
  rw [hv]
  exact je_virt (y := 28) (as := []) D18_63 rfl (by decide) (by decide) rfl jm_cl hw hv
theorem D18_66 : decode (jt_code 18) 66 = .ok (.aload_n 0, 1) := by decide +kernel
theorem E18_66 {call : jv_F} {l1 : Option Value} {a : Nat} {st : List Value} {h : jv_H} : jv_ev call 18 66 [some (.ref a), l1] st h = jv_ev call 18 67 [some (.ref a), l1] (.ref a :: st) h := je_aload_n (r := some a) D18_66 rfl rfl
theorem D18_67 : decode (jt_code 18) 67 = .ok (.invokevirtual 167, 3) := by decide +kernel
theorem E18_67 {call : jv_F} {l0 l1 : Option Value}  {st : List Value} {m : Nat} {I : Nat → Int32} {A : Nat → Nat → Int32} {L : Nat → Nat → Int64} {rest : Nat → Option jv_C} {z : Nat × Nat} (hw : jv_wide st = true) (hc : (call 29 [.ref m] (jm_H m I A L rest z)).isSome = true) : jv_ev call 18 67 [l0, l1] (.ref m :: st) (jm_H m I A L rest z) = jv_ev call 18 70 [l0, l1] ((((call 29 [.ref m] (jm_H m I A L rest z)).getD (none, (jm_H m I A L rest z))).1).toList ++ st) ((call 29 [.ref m] (jm_H m I A L rest z)).getD (none, (jm_H m I A L rest z))).2 := by
  obtain ⟨⟨r, h'⟩, hv⟩ := Option.isSome_iff_exists.mp hc
  rw [hv]
  exact je_virt (y := 29) (as := []) D18_67 rfl (by decide) (by decide) rfl jm_cl hw hv
theorem D18_70 : decode (jt_code 18) 70 = .ok (.istore_n 1, 1) := by decide +kernel
theorem E18_70 {call : jv_F} {l0 l1 : Option Value} {x : Int32} {st : List Value} {h : jv_H} (hk : ¬ jv_is2 (some l0) = true) : jv_ev call 18 70 [l0, l1] (.int x :: st) h = jv_ev call 18 71 [l0, some (.int x)] st h := je_istore_n D18_70 rfl (Nat.le_of_ble_eq_true rfl) (by show jv_st1 _ 1 _ = _; simp only [jv_st1, jv_kill, List.getElem?_cons_succ, List.getElem?_cons_zero, hk, if_false]; rfl)
theorem D18_71 : decode (jt_code 18) 71 = .ok (.iload_n 1, 1) := by decide +kernel
theorem E18_71 {call : jv_F} {l0 : Option Value} {x : Int32} {st : List Value} {h : jv_H} : jv_ev call 18 71 [l0, some (.int x)] st h = jv_ev call 18 72 [l0, some (.int x)] (.int x :: st) h := je_iload_n D18_71 rfl rfl
theorem D18_72 : decode (jt_code 18) 72 = .ok (.ifCond .ge 16, 3) := by decide +kernel
theorem E18_72 {call : jv_F} {l0 l1 : Option Value} {x : Int32} {st : List Value} {h : jv_H} : jv_ev call 18 72 [l0, l1] (.int x :: st) h = if 0 ≤ x then jv_ev call 18 88 [l0, l1] st h else jv_ev call 18 75 [l0, l1] st h := je_ifc D18_72 (by decide) rfl rfl
theorem D18_75 : decode (jt_code 18) 75 = .ok (.aload_n 0, 1) := by decide +kernel
theorem E18_75 {call : jv_F} {l1 : Option Value} {a : Nat} {st : List Value} {h : jv_H} : jv_ev call 18 75 [some (.ref a), l1] st h = jv_ev call 18 76 [some (.ref a), l1] (.ref a :: st) h := je_aload_n (r := some a) D18_75 rfl rfl
theorem D18_76 : decode (jt_code 18) 76 = .ok (.dup, 1) := by decide +kernel
theorem E18_76 {call : jv_F} {l0 l1 : Option Value} {a : Nat} {st : List Value} {h : jv_H} : jv_ev call 18 76 [l0, l1] (.ref a :: st) h = jv_ev call 18 77 [l0, l1] (.ref a :: .ref a :: st) h := je_dup D18_76 rfl rfl
theorem E18_76i {call : jv_F} {l0 l1 : Option Value} {x : Int32} {st : List Value} {h : jv_H} : jv_ev call 18 76 [l0, l1] (.int x :: st) h = jv_ev call 18 77 [l0, l1] (.int x :: .int x :: st) h := je_dup D18_76 rfl rfl
theorem D18_77 : decode (jt_code 18) 77 = .ok (.getfield 170, 3) := by decide +kernel
theorem E18_77 {call : jv_F} {l0 l1 : Option Value}  {st : List Value} {m : Nat} {I : Nat → Int32} {A : Nat → Nat → Int32} {L : Nat → Nat → Int64} {rest : Nat → Option jv_C} {z : Nat × Nat} : jv_ev call 18 77 [l0, l1] (.ref m :: st) (jm_H m I A L rest z) = jv_ev call 18 80 [l0, l1] (.int (I 41) :: st) (jm_H m I A L rest z) := je_get D18_77 rfl (by decide) jm_g41
theorem D18_80 : decode (jt_code 18) 80 = .ok (.iconst 1, 1) := by decide +kernel
theorem E18_80 {call : jv_F} {l0 l1 : Option Value}  {st : List Value} {h : jv_H} : jv_ev call 18 80 [l0, l1] st h = jv_ev call 18 81 [l0, l1] (.int (nI 1) :: st) h := je_iconst D18_80 rfl (by decide)
theorem D18_81 : decode (jt_code 18) 81 = .ok (.iadd, 1) := by decide +kernel
theorem E18_81 {call : jv_F} {l0 l1 : Option Value} {x y : Int32} {st : List Value} {h : jv_H} : jv_ev call 18 81 [l0, l1] (.int y :: .int x :: st) h = jv_ev call 18 82 [l0, l1] (.int (x + y) :: st) h := je_b2 (f := fun x y => x + y) D18_81 rfl (fun _ => rfl)
theorem D18_82 : decode (jt_code 18) 82 = .ok (.putfield 170, 3) := by decide +kernel
theorem E18_82 {call : jv_F} {l0 l1 : Option Value} {v : Int32} {st : List Value} {m : Nat} {I : Nat → Int32} {A : Nat → Nat → Int32} {L : Nat → Nat → Int64} {rest : Nat → Option jv_C} {z : Nat × Nat} : jv_ev call 18 82 [l0, l1] (.int v :: .ref m :: st) (jm_H m I A L rest z) = jv_ev call 18 85 [l0, l1] st (jm_H m (upd I 41 v) A L rest z) := je_put D18_82 rfl (by decide) (by decide) jm_p41
theorem D18_85 : decode (jt_code 18) 85 = .ok (.goto 13, 3) := by decide +kernel
theorem E18_85 {call : jv_F} {l0 l1 : Option Value}  {st : List Value} {h : jv_H} : jv_ev call 18 85 [l0, l1] st h = jv_ev call 18 98 [l0, l1] st h := je_goto D18_85 (by decide)
theorem D18_88 : decode (jt_code 18) 88 = .ok (.aload_n 0, 1) := by decide +kernel
theorem E18_88 {call : jv_F} {l1 : Option Value} {a : Nat} {st : List Value} {h : jv_H} : jv_ev call 18 88 [some (.ref a), l1] st h = jv_ev call 18 89 [some (.ref a), l1] (.ref a :: st) h := je_aload_n (r := some a) D18_88 rfl rfl
theorem D18_89 : decode (jt_code 18) 89 = .ok (.iload_n 1, 1) := by decide +kernel
theorem E18_89 {call : jv_F} {l0 : Option Value} {x : Int32} {st : List Value} {h : jv_H} : jv_ev call 18 89 [l0, some (.int x)] st h = jv_ev call 18 90 [l0, some (.int x)] (.int x :: st) h := je_iload_n D18_89 rfl rfl
theorem D18_90 : decode (jt_code 18) 90 = .ok (.putfield 94, 3) := by decide +kernel
theorem E18_90 {call : jv_F} {l0 l1 : Option Value} {v : Int32} {st : List Value} {m : Nat} {I : Nat → Int32} {A : Nat → Nat → Int32} {L : Nat → Nat → Int64} {rest : Nat → Option jv_C} {z : Nat × Nat} : jv_ev call 18 90 [l0, l1] (.int v :: .ref m :: st) (jm_H m I A L rest z) = jv_ev call 18 93 [l0, l1] st (jm_H m (upd I 37 v) A L rest z) := je_put D18_90 rfl (by decide) (by decide) jm_p37
theorem D18_93 : decode (jt_code 18) 93 = .ok (.aload_n 0, 1) := by decide +kernel
theorem E18_93 {call : jv_F} {l1 : Option Value} {a : Nat} {st : List Value} {h : jv_H} : jv_ev call 18 93 [some (.ref a), l1] st h = jv_ev call 18 94 [some (.ref a), l1] (.ref a :: st) h := je_aload_n (r := some a) D18_93 rfl rfl
theorem D18_94 : decode (jt_code 18) 94 = .ok (.iload_n 1, 1) := by decide +kernel
theorem E18_94 {call : jv_F} {l0 : Option Value} {x : Int32} {st : List Value} {h : jv_H} : jv_ev call 18 94 [l0, some (.int x)] st h = jv_ev call 18 95 [l0, some (.int x)] (.int x :: st) h := je_iload_n D18_94 rfl rfl
theorem D18_95 : decode (jt_code 18) 95 = .ok (.invokevirtual 173, 3) := by decide +kernel
theorem E18_95 {call : jv_F} {l0 l1 : Option Value} {v0 : Value}  {st : List Value} {m : Nat} {I : Nat → Int32} {A : Nat → Nat → Int32} {L : Nat → Nat → Int64} {rest : Nat → Option jv_C} {z : Nat × Nat} (hw : jv_wide st = true) (hc : (call 35 [.ref m, v0] (jm_H m I A L rest z)).isSome = true) : jv_ev call 18 95 [l0, l1] (v0 :: .ref m :: st) (jm_H m I A L rest z) = jv_ev call 18 98 [l0, l1] ((((call 35 [.ref m, v0] (jm_H m I A L rest z)).getD (none, (jm_H m I A L rest z))).1).toList ++ st) ((call 35 [.ref m, v0] (jm_H m I A L rest z)).getD (none, (jm_H m I A L rest z))).2 := by
  obtain ⟨⟨r, h'⟩, hv⟩ := Option.isSome_iff_exists.mp hc
  rw [hv]
  exact je_virt (y := 35) (as := [v0]) D18_95 rfl (by decide) (by decide) rfl jm_cl hw hv
theorem D18_98 : decode (jt_code 18) 98 = .ok (.aload_n 0, 1) := by decide +kernel
theorem E18_98 {call : jv_F} {l1 : Option Value} {a : Nat} {st : List Value} {h : jv_H} : jv_ev call 18 98 [some (.ref a), l1] st h = jv_ev call 18 99 [some (.ref a), l1] (.ref a :: st) h := je_aload_n (r := some a) D18_98 rfl rfl
theorem D18_99 : decode (jt_code 18) 99 = .ok (.dup, 1) := by decide +kernel
theorem E18_99 {call : jv_F} {l0 l1 : Option Value} {a : Nat} {st : List Value} {h : jv_H} : jv_ev call 18 99 [l0, l1] (.ref a :: st) h = jv_ev call 18 100 [l0, l1] (.ref a :: .ref a :: st) h := je_dup D18_99 rfl rfl
theorem E18_99i {call : jv_F} {l0 l1 : Option Value} {x : Int32} {st : List Value} {h : jv_H} : jv_ev call 18 99 [l0, l1] (.int x :: st) h = jv_ev call 18 100 [l0, l1] (.int x :: .int x :: st) h := je_dup D18_99 rfl rfl
theorem D18_100 : decode (jt_code 18) 100 = .ok (.getfield 148, 3) := by decide +kernel
theorem E18_100 {call : jv_F} {l0 l1 : Option Value}  {st : List Value} {m : Nat} {I : Nat → Int32} {A : Nat → Nat → Int32} {L : Nat → Nat → Int64} {rest : Nat → Option jv_C} {z : Nat × Nat} : jv_ev call 18 100 [l0, l1] (.ref m :: st) (jm_H m I A L rest z) = jv_ev call 18 103 [l0, l1] (.int (I 36) :: st) (jm_H m I A L rest z) := je_get D18_100 rfl (by decide) jm_g36
theorem D18_103 : decode (jt_code 18) 103 = .ok (.iconst 1, 1) := by decide +kernel
theorem E18_103 {call : jv_F} {l0 l1 : Option Value}  {st : List Value} {h : jv_H} : jv_ev call 18 103 [l0, l1] st h = jv_ev call 18 104 [l0, l1] (.int (nI 1) :: st) h := je_iconst D18_103 rfl (by decide)
theorem D18_104 : decode (jt_code 18) 104 = .ok (.iadd, 1) := by decide +kernel
theorem E18_104 {call : jv_F} {l0 l1 : Option Value} {x y : Int32} {st : List Value} {h : jv_H} : jv_ev call 18 104 [l0, l1] (.int y :: .int x :: st) h = jv_ev call 18 105 [l0, l1] (.int (x + y) :: st) h := je_b2 (f := fun x y => x + y) D18_104 rfl (fun _ => rfl)
theorem D18_105 : decode (jt_code 18) 105 = .ok (.putfield 148, 3) := by decide +kernel
theorem E18_105 {call : jv_F} {l0 l1 : Option Value} {v : Int32} {st : List Value} {m : Nat} {I : Nat → Int32} {A : Nat → Nat → Int32} {L : Nat → Nat → Int64} {rest : Nat → Option jv_C} {z : Nat × Nat} : jv_ev call 18 105 [l0, l1] (.int v :: .ref m :: st) (jm_H m I A L rest z) = jv_ev call 18 108 [l0, l1] st (jm_H m (upd I 36 v) A L rest z) := je_put D18_105 rfl (by decide) (by decide) jm_p36
theorem D18_108 : decode (jt_code 18) 108 = .ok (.return_, 1) := by decide +kernel
theorem E18_108 {call : jv_F} {l0 l1 : Option Value}  {h : jv_H} : jv_ev call 18 108 [l0, l1] [] h = some (none, h) := je_ret D18_108 rfl
/-! method 19: DrumMachineModel.isWriteAsked -/
theorem N19 {d : Nat} {b : Nat} {h : jv_H} : jv_run (d + 1) 19 [.ref b] h = jv_ev (jv_run d) 19 0 [some (.ref b), none] [] h := jv_run_eq (Nat.le_of_ble_eq_true rfl) rfl
theorem D19_0 : decode (jt_code 19) 0 = .ok (.iconst 0, 1) := by decide +kernel
theorem E19_0 {call : jv_F} {l0 l1 : Option Value}  {st : List Value} {h : jv_H} : jv_ev call 19 0 [l0, l1] st h = jv_ev call 19 1 [l0, l1] (.int (nI 0) :: st) h := je_iconst D19_0 rfl (by decide)
theorem D19_1 : decode (jt_code 19) 1 = .ok (.istore_n 1, 1) := by decide +kernel
theorem E19_1 {call : jv_F} {l0 l1 : Option Value} {x : Int32} {st : List Value} {h : jv_H} (hk : ¬ jv_is2 (some l0) = true) : jv_ev call 19 1 [l0, l1] (.int x :: st) h = jv_ev call 19 2 [l0, some (.int x)] st h := je_istore_n D19_1 rfl (Nat.le_of_ble_eq_true rfl) (by show jv_st1 _ 1 _ = _; simp only [jv_st1, jv_kill, List.getElem?_cons_succ, List.getElem?_cons_zero, hk, if_false]; rfl)
theorem D19_2 : decode (jt_code 19) 2 = .ok (.iload_n 1, 1) := by decide +kernel
theorem E19_2 {call : jv_F} {l0 : Option Value} {x : Int32} {st : List Value} {h : jv_H} : jv_ev call 19 2 [l0, some (.int x)] st h = jv_ev call 19 3 [l0, some (.int x)] (.int x :: st) h := je_iload_n D19_2 rfl rfl
theorem D19_3 : decode (jt_code 19) 3 = .ok (.aload_n 0, 1) := by decide +kernel
theorem E19_3 {call : jv_F} {l1 : Option Value} {a : Nat} {st : List Value} {h : jv_H} : jv_ev call 19 3 [some (.ref a), l1] st h = jv_ev call 19 4 [some (.ref a), l1] (.ref a :: st) h := je_aload_n (r := some a) D19_3 rfl rfl
theorem D19_4 : decode (jt_code 19) 4 = .ok (.getfield 161, 3) := by decide +kernel
theorem E19_4 {call : jv_F} {l0 l1 : Option Value}  {st : List Value} {m : Nat} {I : Nat → Int32} {A : Nat → Nat → Int32} {L : Nat → Nat → Int64} {rest : Nat → Option jv_C} {z : Nat × Nat} : jv_ev call 19 4 [l0, l1] (.ref m :: st) (jm_H m I A L rest z) = jv_ev call 19 7 [l0, l1] (.int (I 31) :: st) (jm_H m I A L rest z) := je_get D19_4 rfl (by decide) jm_g31
theorem D19_7 : decode (jt_code 19) 7 = .ok (.if_icmp .ge 21, 3) := by decide +kernel
theorem E19_7 {call : jv_F} {l0 l1 : Option Value} {x y : Int32} {st : List Value} {h : jv_H} : jv_ev call 19 7 [l0, l1] (.int y :: .int x :: st) h = if y ≤ x then jv_ev call 19 28 [l0, l1] st h else jv_ev call 19 10 [l0, l1] st h := je_icmp D19_7 (by decide) rfl rfl
theorem D19_10 : decode (jt_code 19) 10 = .ok (.aload_n 0, 1) := by decide +kernel
theorem E19_10 {call : jv_F} {l1 : Option Value} {a : Nat} {st : List Value} {h : jv_H} : jv_ev call 19 10 [some (.ref a), l1] st h = jv_ev call 19 11 [some (.ref a), l1] (.ref a :: st) h := je_aload_n (r := some a) D19_10 rfl rfl
theorem D19_11 : decode (jt_code 19) 11 = .ok (.getfield 88, 3) := by decide +kernel
theorem E19_11 {call : jv_F} {l0 l1 : Option Value}  {st : List Value} {m : Nat} {I : Nat → Int32} {A : Nat → Nat → Int32} {L : Nat → Nat → Int64} {rest : Nat → Option jv_C} {z : Nat × Nat} : jv_ev call 19 11 [l0, l1] (.ref m :: st) (jm_H m I A L rest z) = jv_ev call 19 14 [l0, l1] (.ref (m + 25) :: st) (jm_H m I A L rest z) := je_get D19_11 rfl (by decide) jm_g29
theorem D19_14 : decode (jt_code 19) 14 = .ok (.iload_n 1, 1) := by decide +kernel
theorem E19_14 {call : jv_F} {l0 : Option Value} {x : Int32} {st : List Value} {h : jv_H} : jv_ev call 19 14 [l0, some (.int x)] st h = jv_ev call 19 15 [l0, some (.int x)] (.int x :: st) h := je_iload_n D19_14 rfl rfl
theorem D19_15 : decode (jt_code 19) 15 = .ok (.iaload, 1) := by decide +kernel
theorem E19_15 {call : jv_F} {l0 l1 : Option Value} {i : Nat} {st : List Value} {m : Nat} {I : Nat → Int32} {A : Nat → Nat → Int32} {L : Nat → Nat → Int64} {rest : Nat → Option jv_C} {z : Nat × Nat} (hi : i < 18) : jv_ev call 19 15 [l0, l1] (.int (nI i) :: .ref (m + 25) :: st) (jm_H m I A L rest z) = jv_ev call 19 16 [l0, l1] (.int (A 29 i) :: st) (jm_H m I A L rest z) := je_iald D19_15 rfl (jm_l29 hi)
theorem D19_16 : decode (jt_code 19) 16 = .ok (.iconst 2, 1) := by decide +kernel
theorem E19_16 {call : jv_F} {l0 l1 : Option Value}  {st : List Value} {h : jv_H} : jv_ev call 19 16 [l0, l1] st h = jv_ev call 19 17 [l0, l1] (.int (nI 2) :: st) h := je_iconst D19_16 rfl (by decide)
theorem D19_17 : decode (jt_code 19) 17 = .ok (.if_icmp .ne 5, 3) := by decide +kernel
theorem E19_17 {call : jv_F} {l0 l1 : Option Value} {x y : Int32} {st : List Value} {h : jv_H} : jv_ev call 19 17 [l0, l1] (.int y :: .int x :: st) h = if ¬ x = y then jv_ev call 19 22 [l0, l1] st h else jv_ev call 19 20 [l0, l1] st h := je_icmp D19_17 (by decide) rfl rfl
theorem D19_20 : decode (jt_code 19) 20 = .ok (.iconst 1, 1) := by decide +kernel
theorem E19_20 {call : jv_F} {l0 l1 : Option Value}  {st : List Value} {h : jv_H} : jv_ev call 19 20 [l0, l1] st h = jv_ev call 19 21 [l0, l1] (.int (nI 1) :: st) h := je_iconst D19_20 rfl (by decide)
theorem D19_21 : decode (jt_code 19) 21 = .ok (.ireturn, 1) := by decide +kernel
theorem E19_21 {call : jv_F} {l0 l1 : Option Value} {v : Int32} {h : jv_H} (hn : narrow .boolean (.int v) = .int v) (hf : fits .boolean (.int v) = true) : jv_ev call 19 21 [l0, l1] [.int v] h = some (some (.int v), h) := je_iret (ty := .boolean) D19_21 rfl hn hf
theorem D19_22 : decode (jt_code 19) 22 = .ok (.iinc 1 1, 3) := by decide +kernel
theorem E19_22 {call : jv_F} {l0 : Option Value} {x : Int32} {st : List Value} {h : jv_H} (hk : ¬ jv_is2 (some l0) = true) : jv_ev call 19 22 [l0, some (.int x)] st h = jv_ev call 19 25 [l0, some (.int (x + (nI 1)))] st h := je_iinc D19_22 rfl rfl (v := x + (nI 1)) (by rfl) (by show jv_st1 _ 1 _ = _; simp only [jv_st1, jv_kill, List.getElem?_cons_succ, List.getElem?_cons_zero, hk, if_false]; rfl)
theorem D19_25 : decode (jt_code 19) 25 = .ok (.goto (-23), 3) := by decide +kernel
theorem E19_25 {call : jv_F} {l0 l1 : Option Value}  {st : List Value} {h : jv_H} : jv_ev call 19 25 [l0, l1] st h = jv_ev call 19 2 [l0, l1] st h := je_goto D19_25 (by decide)
theorem D19_28 : decode (jt_code 19) 28 = .ok (.iconst 0, 1) := by decide +kernel
theorem E19_28 {call : jv_F} {l0 l1 : Option Value}  {st : List Value} {h : jv_H} : jv_ev call 19 28 [l0, l1] st h = jv_ev call 19 29 [l0, l1] (.int (nI 0) :: st) h := je_iconst D19_28 rfl (by decide)
theorem D19_29 : decode (jt_code 19) 29 = .ok (.ireturn, 1) := by decide +kernel
theorem E19_29 {call : jv_F} {l0 l1 : Option Value} {v : Int32} {h : jv_H} (hn : narrow .boolean (.int v) = .int v) (hf : fits .boolean (.int v) = true) : jv_ev call 19 29 [l0, l1] [.int v] h = some (some (.int v), h) := je_iret (ty := .boolean) D19_29 rfl hn hf
/-! method 20: DrumMachineModel.leave -/
theorem N20 {d : Nat} {b : Nat} {a0 : Int32} {h : jv_H} : jv_run (d + 1) 20 [.ref b, .int a0] h = jv_ev (jv_run d) 20 0 [some (.ref b), some (.int a0)] [] h := jv_run_eq (Nat.le_of_ble_eq_true rfl) rfl
theorem D20_0 : decode (jt_code 20) 0 = .ok (.aload_n 0, 1) := by decide +kernel
theorem E20_0 {call : jv_F} {l1 : Option Value} {a : Nat} {st : List Value} {h : jv_H} : jv_ev call 20 0 [some (.ref a), l1] st h = jv_ev call 20 1 [some (.ref a), l1] (.ref a :: st) h := je_aload_n (r := some a) D20_0 rfl rfl
theorem D20_1 : decode (jt_code 20) 1 = .ok (.getfield 70, 3) := by decide +kernel
theorem E20_1 {call : jv_F} {l0 l1 : Option Value}  {st : List Value} {m : Nat} {I : Nat → Int32} {A : Nat → Nat → Int32} {L : Nat → Nat → Int64} {rest : Nat → Option jv_C} {z : Nat × Nat} : jv_ev call 20 1 [l0, l1] (.ref m :: st) (jm_H m I A L rest z) = jv_ev call 20 4 [l0, l1] (.ref (m + 19) :: st) (jm_H m I A L rest z) := je_get D20_1 rfl (by decide) jm_g23
theorem D20_4 : decode (jt_code 20) 4 = .ok (.iload_n 1, 1) := by decide +kernel
theorem E20_4 {call : jv_F} {l0 : Option Value} {x : Int32} {st : List Value} {h : jv_H} : jv_ev call 20 4 [l0, some (.int x)] st h = jv_ev call 20 5 [l0, some (.int x)] (.int x :: st) h := je_iload_n D20_4 rfl rfl
theorem D20_5 : decode (jt_code 20) 5 = .ok (.iconst (-1), 1) := by decide +kernel
theorem E20_5 {call : jv_F} {l0 l1 : Option Value}  {st : List Value} {h : jv_H} : jv_ev call 20 5 [l0, l1] st h = jv_ev call 20 6 [l0, l1] (.int (-1) :: st) h := je_iconst D20_5 rfl (by decide)
theorem D20_6 : decode (jt_code 20) 6 = .ok (.iastore, 1) := by decide +kernel
theorem E20_6 {call : jv_F} {l0 l1 : Option Value} {i : Nat} {v : Int32} {st : List Value} {m : Nat} {I : Nat → Int32} {A : Nat → Nat → Int32} {L : Nat → Nat → Int64} {rest : Nat → Option jv_C} {z : Nat × Nat} (hi : i < 17) : jv_ev call 20 6 [l0, l1] (.int v :: .int (nI i) :: .ref (m + 19) :: st) (jm_H m I A L rest z) = jv_ev call 20 7 [l0, l1] st (jm_H m I (va_up A 23 (upd (A 23) i v)) L rest z) := je_iast D20_6 rfl (jm_s23 hi)
theorem D20_7 : decode (jt_code 20) 7 = .ok (.aload_n 0, 1) := by decide +kernel
theorem E20_7 {call : jv_F} {l1 : Option Value} {a : Nat} {st : List Value} {h : jv_H} : jv_ev call 20 7 [some (.ref a), l1] st h = jv_ev call 20 8 [some (.ref a), l1] (.ref a :: st) h := je_aload_n (r := some a) D20_7 rfl rfl
theorem D20_8 : decode (jt_code 20) 8 = .ok (.getfield 79, 3) := by decide +kernel
theorem E20_8 {call : jv_F} {l0 l1 : Option Value}  {st : List Value} {m : Nat} {I : Nat → Int32} {A : Nat → Nat → Int32} {L : Nat → Nat → Int64} {rest : Nat → Option jv_C} {z : Nat × Nat} : jv_ev call 20 8 [l0, l1] (.ref m :: st) (jm_H m I A L rest z) = jv_ev call 20 11 [l0, l1] (.ref (m + 22) :: st) (jm_H m I A L rest z) := je_get D20_8 rfl (by decide) jm_g26
theorem D20_11 : decode (jt_code 20) 11 = .ok (.iload_n 1, 1) := by decide +kernel
theorem E20_11 {call : jv_F} {l0 : Option Value} {x : Int32} {st : List Value} {h : jv_H} : jv_ev call 20 11 [l0, some (.int x)] st h = jv_ev call 20 12 [l0, some (.int x)] (.int x :: st) h := je_iload_n D20_11 rfl rfl
theorem D20_12 : decode (jt_code 20) 12 = .ok (.iconst 0, 1) := by decide +kernel
theorem E20_12 {call : jv_F} {l0 l1 : Option Value}  {st : List Value} {h : jv_H} : jv_ev call 20 12 [l0, l1] st h = jv_ev call 20 13 [l0, l1] (.int (nI 0) :: st) h := je_iconst D20_12 rfl (by decide)
theorem D20_13 : decode (jt_code 20) 13 = .ok (.bastore, 1) := by decide +kernel
theorem E20_13 {call : jv_F} {l0 l1 : Option Value} {i : Nat} {v : Int32} {st : List Value} {m : Nat} {I : Nat → Int32} {A : Nat → Nat → Int32} {L : Nat → Nat → Int64} {rest : Nat → Option jv_C} {z : Nat × Nat} (hi : i < 17) (hv : narrow .boolean (.int v) = .int v) : jv_ev call 20 13 [l0, l1] (.int v :: .int (nI i) :: .ref (m + 22) :: st) (jm_H m I A L rest z) = jv_ev call 20 14 [l0, l1] st (jm_H m I (va_up A 26 (upd (A 26) i v)) L rest z) := je_bast D20_13 rfl (by rw [hv]; exact jm_s26 hi)
theorem D20_14 : decode (jt_code 20) 14 = .ok (.aload_n 0, 1) := by decide +kernel
theorem E20_14 {call : jv_F} {l1 : Option Value} {a : Nat} {st : List Value} {h : jv_H} : jv_ev call 20 14 [some (.ref a), l1] st h = jv_ev call 20 15 [some (.ref a), l1] (.ref a :: st) h := je_aload_n (r := some a) D20_14 rfl rfl
theorem D20_15 : decode (jt_code 20) 15 = .ok (.getfield 82, 3) := by decide +kernel
theorem E20_15 {call : jv_F} {l0 l1 : Option Value}  {st : List Value} {m : Nat} {I : Nat → Int32} {A : Nat → Nat → Int32} {L : Nat → Nat → Int64} {rest : Nat → Option jv_C} {z : Nat × Nat} : jv_ev call 20 15 [l0, l1] (.ref m :: st) (jm_H m I A L rest z) = jv_ev call 20 18 [l0, l1] (.ref (m + 23) :: st) (jm_H m I A L rest z) := je_get D20_15 rfl (by decide) jm_g27
theorem D20_18 : decode (jt_code 20) 18 = .ok (.iload_n 1, 1) := by decide +kernel
theorem E20_18 {call : jv_F} {l0 : Option Value} {x : Int32} {st : List Value} {h : jv_H} : jv_ev call 20 18 [l0, some (.int x)] st h = jv_ev call 20 19 [l0, some (.int x)] (.int x :: st) h := je_iload_n D20_18 rfl rfl
theorem D20_19 : decode (jt_code 20) 19 = .ok (.iconst 0, 1) := by decide +kernel
theorem E20_19 {call : jv_F} {l0 l1 : Option Value}  {st : List Value} {h : jv_H} : jv_ev call 20 19 [l0, l1] st h = jv_ev call 20 20 [l0, l1] (.int (nI 0) :: st) h := je_iconst D20_19 rfl (by decide)
theorem D20_20 : decode (jt_code 20) 20 = .ok (.bastore, 1) := by decide +kernel
theorem E20_20 {call : jv_F} {l0 l1 : Option Value} {i : Nat} {v : Int32} {st : List Value} {m : Nat} {I : Nat → Int32} {A : Nat → Nat → Int32} {L : Nat → Nat → Int64} {rest : Nat → Option jv_C} {z : Nat × Nat} (hi : i < 17) (hv : narrow .boolean (.int v) = .int v) : jv_ev call 20 20 [l0, l1] (.int v :: .int (nI i) :: .ref (m + 23) :: st) (jm_H m I A L rest z) = jv_ev call 20 21 [l0, l1] st (jm_H m I (va_up A 27 (upd (A 27) i v)) L rest z) := je_bast D20_20 rfl (by rw [hv]; exact jm_s27 hi)
theorem D20_21 : decode (jt_code 20) 21 = .ok (.aload_n 0, 1) := by decide +kernel
theorem E20_21 {call : jv_F} {l1 : Option Value} {a : Nat} {st : List Value} {h : jv_H} : jv_ev call 20 21 [some (.ref a), l1] st h = jv_ev call 20 22 [some (.ref a), l1] (.ref a :: st) h := je_aload_n (r := some a) D20_21 rfl rfl
theorem D20_22 : decode (jt_code 20) 22 = .ok (.getfield 73, 3) := by decide +kernel
theorem E20_22 {call : jv_F} {l0 l1 : Option Value}  {st : List Value} {m : Nat} {I : Nat → Int32} {A : Nat → Nat → Int32} {L : Nat → Nat → Int64} {rest : Nat → Option jv_C} {z : Nat × Nat} : jv_ev call 20 22 [l0, l1] (.ref m :: st) (jm_H m I A L rest z) = jv_ev call 20 25 [l0, l1] (.ref (m + 20) :: st) (jm_H m I A L rest z) := je_get D20_22 rfl (by decide) jm_g24
theorem D20_25 : decode (jt_code 20) 25 = .ok (.iload_n 1, 1) := by decide +kernel
theorem E20_25 {call : jv_F} {l0 : Option Value} {x : Int32} {st : List Value} {h : jv_H} : jv_ev call 20 25 [l0, some (.int x)] st h = jv_ev call 20 26 [l0, some (.int x)] (.int x :: st) h := je_iload_n D20_25 rfl rfl
theorem D20_26 : decode (jt_code 20) 26 = .ok (.iconst 0, 1) := by decide +kernel
theorem E20_26 {call : jv_F} {l0 l1 : Option Value}  {st : List Value} {h : jv_H} : jv_ev call 20 26 [l0, l1] st h = jv_ev call 20 27 [l0, l1] (.int (nI 0) :: st) h := je_iconst D20_26 rfl (by decide)
theorem D20_27 : decode (jt_code 20) 27 = .ok (.iastore, 1) := by decide +kernel
theorem E20_27 {call : jv_F} {l0 l1 : Option Value} {i : Nat} {v : Int32} {st : List Value} {m : Nat} {I : Nat → Int32} {A : Nat → Nat → Int32} {L : Nat → Nat → Int64} {rest : Nat → Option jv_C} {z : Nat × Nat} (hi : i < 17) : jv_ev call 20 27 [l0, l1] (.int v :: .int (nI i) :: .ref (m + 20) :: st) (jm_H m I A L rest z) = jv_ev call 20 28 [l0, l1] st (jm_H m I (va_up A 24 (upd (A 24) i v)) L rest z) := je_iast D20_27 rfl (jm_s24 hi)
theorem D20_28 : decode (jt_code 20) 28 = .ok (.aload_n 0, 1) := by decide +kernel
theorem E20_28 {call : jv_F} {l1 : Option Value} {a : Nat} {st : List Value} {h : jv_H} : jv_ev call 20 28 [some (.ref a), l1] st h = jv_ev call 20 29 [some (.ref a), l1] (.ref a :: st) h := je_aload_n (r := some a) D20_28 rfl rfl
theorem D20_29 : decode (jt_code 20) 29 = .ok (.getfield 76, 3) := by decide +kernel
theorem E20_29 {call : jv_F} {l0 l1 : Option Value}  {st : List Value} {m : Nat} {I : Nat → Int32} {A : Nat → Nat → Int32} {L : Nat → Nat → Int64} {rest : Nat → Option jv_C} {z : Nat × Nat} : jv_ev call 20 29 [l0, l1] (.ref m :: st) (jm_H m I A L rest z) = jv_ev call 20 32 [l0, l1] (.ref (m + 21) :: st) (jm_H m I A L rest z) := je_get D20_29 rfl (by decide) jm_g25
theorem D20_32 : decode (jt_code 20) 32 = .ok (.iload_n 1, 1) := by decide +kernel
theorem E20_32 {call : jv_F} {l0 : Option Value} {x : Int32} {st : List Value} {h : jv_H} : jv_ev call 20 32 [l0, some (.int x)] st h = jv_ev call 20 33 [l0, some (.int x)] (.int x :: st) h := je_iload_n D20_32 rfl rfl
theorem D20_33 : decode (jt_code 20) 33 = .ok (.iconst 0, 1) := by decide +kernel
theorem E20_33 {call : jv_F} {l0 l1 : Option Value}  {st : List Value} {h : jv_H} : jv_ev call 20 33 [l0, l1] st h = jv_ev call 20 34 [l0, l1] (.int (nI 0) :: st) h := je_iconst D20_33 rfl (by decide)
theorem D20_34 : decode (jt_code 20) 34 = .ok (.iastore, 1) := by decide +kernel
theorem E20_34 {call : jv_F} {l0 l1 : Option Value} {i : Nat} {v : Int32} {st : List Value} {m : Nat} {I : Nat → Int32} {A : Nat → Nat → Int32} {L : Nat → Nat → Int64} {rest : Nat → Option jv_C} {z : Nat × Nat} (hi : i < 17) : jv_ev call 20 34 [l0, l1] (.int v :: .int (nI i) :: .ref (m + 21) :: st) (jm_H m I A L rest z) = jv_ev call 20 35 [l0, l1] st (jm_H m I (va_up A 25 (upd (A 25) i v)) L rest z) := je_iast D20_34 rfl (jm_s25 hi)
theorem D20_35 : decode (jt_code 20) 35 = .ok (.return_, 1) := by decide +kernel
theorem E20_35 {call : jv_F} {l0 l1 : Option Value}  {h : jv_H} : jv_ev call 20 35 [l0, l1] [] h = some (none, h) := je_ret D20_35 rfl
/-! method 21: DrumMachineModel.finish -/
theorem N21 {d : Nat} {b : Nat} {h : jv_H} : jv_run (d + 1) 21 [.ref b] h = jv_ev (jv_run d) 21 0 [some (.ref b), none] [] h := jv_run_eq (Nat.le_of_ble_eq_true rfl) rfl
theorem D21_0 : decode (jt_code 21) 0 = .ok (.aload_n 0, 1) := by decide +kernel
theorem E21_0 {call : jv_F} {l1 : Option Value} {a : Nat} {st : List Value} {h : jv_H} : jv_ev call 21 0 [some (.ref a), l1] st h = jv_ev call 21 1 [some (.ref a), l1] (.ref a :: st) h := je_aload_n (r := some a) D21_0 rfl rfl
theorem D21_1 : decode (jt_code 21) 1 = .ok (.getfield 70, 3) := by decide +kernel
theorem E21_1 {call : jv_F} {l0 l1 : Option Value}  {st : List Value} {m : Nat} {I : Nat → Int32} {A : Nat → Nat → Int32} {L : Nat → Nat → Int64} {rest : Nat → Option jv_C} {z : Nat × Nat} : jv_ev call 21 1 [l0, l1] (.ref m :: st) (jm_H m I A L rest z) = jv_ev call 21 4 [l0, l1] (.ref (m + 19) :: st) (jm_H m I A L rest z) := je_get D21_1 rfl (by decide) jm_g23
theorem D21_4 : decode (jt_code 21) 4 = .ok (.aload_n 0, 1) := by decide +kernel
theorem E21_4 {call : jv_F} {l1 : Option Value} {a : Nat} {st : List Value} {h : jv_H} : jv_ev call 21 4 [some (.ref a), l1] st h = jv_ev call 21 5 [some (.ref a), l1] (.ref a :: st) h := je_aload_n (r := some a) D21_4 rfl rfl
theorem D21_5 : decode (jt_code 21) 5 = .ok (.getfield 176, 3) := by decide +kernel
theorem E21_5 {call : jv_F} {l0 l1 : Option Value}  {st : List Value} {m : Nat} {I : Nat → Int32} {A : Nat → Nat → Int32} {L : Nat → Nat → Int64} {rest : Nat → Option jv_C} {z : Nat × Nat} : jv_ev call 21 5 [l0, l1] (.ref m :: st) (jm_H m I A L rest z) = jv_ev call 21 8 [l0, l1] (.int (I 33) :: st) (jm_H m I A L rest z) := je_get D21_5 rfl (by decide) jm_g33
theorem D21_8 : decode (jt_code 21) 8 = .ok (.iaload, 1) := by decide +kernel
theorem E21_8 {call : jv_F} {l0 l1 : Option Value} {i : Nat} {st : List Value} {m : Nat} {I : Nat → Int32} {A : Nat → Nat → Int32} {L : Nat → Nat → Int64} {rest : Nat → Option jv_C} {z : Nat × Nat} (hi : i < 17) : jv_ev call 21 8 [l0, l1] (.int (nI i) :: .ref (m + 19) :: st) (jm_H m I A L rest z) = jv_ev call 21 9 [l0, l1] (.int (A 23 i) :: st) (jm_H m I A L rest z) := je_iald D21_8 rfl (jm_l23 hi)
theorem D21_9 : decode (jt_code 21) 9 = .ok (.istore_n 1, 1) := by decide +kernel
theorem E21_9 {call : jv_F} {l0 l1 : Option Value} {x : Int32} {st : List Value} {h : jv_H} (hk : ¬ jv_is2 (some l0) = true) : jv_ev call 21 9 [l0, l1] (.int x :: st) h = jv_ev call 21 10 [l0, some (.int x)] st h := je_istore_n D21_9 rfl (Nat.le_of_ble_eq_true rfl) (by show jv_st1 _ 1 _ = _; simp only [jv_st1, jv_kill, List.getElem?_cons_succ, List.getElem?_cons_zero, hk, if_false]; rfl)
theorem D21_10 : decode (jt_code 21) 10 = .ok (.aload_n 0, 1) := by decide +kernel
theorem E21_10 {call : jv_F} {l1 : Option Value} {a : Nat} {st : List Value} {h : jv_H} : jv_ev call 21 10 [some (.ref a), l1] st h = jv_ev call 21 11 [some (.ref a), l1] (.ref a :: st) h := je_aload_n (r := some a) D21_10 rfl rfl
theorem D21_11 : decode (jt_code 21) 11 = .ok (.getfield 142, 3) := by decide +kernel
theorem E21_11 {call : jv_F} {l0 l1 : Option Value}  {st : List Value} {m : Nat} {I : Nat → Int32} {A : Nat → Nat → Int32} {L : Nat → Nat → Int64} {rest : Nat → Option jv_C} {z : Nat × Nat} : jv_ev call 21 11 [l0, l1] (.ref m :: st) (jm_H m I A L rest z) = jv_ev call 21 14 [l0, l1] (.int (I 32) :: st) (jm_H m I A L rest z) := je_get D21_11 rfl (by decide) jm_g32
theorem D21_14 : decode (jt_code 21) 14 = .ok (.iconst 2, 1) := by decide +kernel
theorem E21_14 {call : jv_F} {l0 l1 : Option Value}  {st : List Value} {h : jv_H} : jv_ev call 21 14 [l0, l1] st h = jv_ev call 21 15 [l0, l1] (.int (nI 2) :: st) h := je_iconst D21_14 rfl (by decide)
theorem D21_15 : decode (jt_code 21) 15 = .ok (.if_icmp .ne 41, 3) := by decide +kernel
theorem E21_15 {call : jv_F} {l0 l1 : Option Value} {x y : Int32} {st : List Value} {h : jv_H} : jv_ev call 21 15 [l0, l1] (.int y :: .int x :: st) h = if ¬ x = y then jv_ev call 21 56 [l0, l1] st h else jv_ev call 21 18 [l0, l1] st h := je_icmp D21_15 (by decide) rfl rfl
theorem D21_18 : decode (jt_code 21) 18 = .ok (.aload_n 0, 1) := by decide +kernel
theorem E21_18 {call : jv_F} {l1 : Option Value} {a : Nat} {st : List Value} {h : jv_H} : jv_ev call 21 18 [some (.ref a), l1] st h = jv_ev call 21 19 [some (.ref a), l1] (.ref a :: st) h := je_aload_n (r := some a) D21_18 rfl rfl
theorem D21_19 : decode (jt_code 21) 19 = .ok (.aload_n 0, 1) := by decide +kernel
theorem E21_19 {call : jv_F} {l1 : Option Value} {a : Nat} {st : List Value} {h : jv_H} : jv_ev call 21 19 [some (.ref a), l1] st h = jv_ev call 21 20 [some (.ref a), l1] (.ref a :: st) h := je_aload_n (r := some a) D21_19 rfl rfl
theorem D21_20 : decode (jt_code 21) 20 = .ok (.getfield 176, 3) := by decide +kernel
theorem E21_20 {call : jv_F} {l0 l1 : Option Value}  {st : List Value} {m : Nat} {I : Nat → Int32} {A : Nat → Nat → Int32} {L : Nat → Nat → Int64} {rest : Nat → Option jv_C} {z : Nat × Nat} : jv_ev call 21 20 [l0, l1] (.ref m :: st) (jm_H m I A L rest z) = jv_ev call 21 23 [l0, l1] (.int (I 33) :: st) (jm_H m I A L rest z) := je_get D21_20 rfl (by decide) jm_g33
theorem D21_23 : decode (jt_code 21) 23 = .ok (.invokevirtual 179, 3) := by decide +kernel
theorem E21_23 {call : jv_F} {l0 l1 : Option Value} {v0 : Value}  {st : List Value} {m : Nat} {I : Nat → Int32} {A : Nat → Nat → Int32} {L : Nat → Nat → Int64} {rest : Nat → Option jv_C} {z : Nat × Nat} (hw : jv_wide st = true) (hc : (call 20 [.ref m, v0] (jm_H m I A L rest z)).isSome = true) : jv_ev call 21 23 [l0, l1] (v0 :: .ref m :: st) (jm_H m I A L rest z) = jv_ev call 21 26 [l0, l1] ((((call 20 [.ref m, v0] (jm_H m I A L rest z)).getD (none, (jm_H m I A L rest z))).1).toList ++ st) ((call 20 [.ref m, v0] (jm_H m I A L rest z)).getD (none, (jm_H m I A L rest z))).2 := by
  obtain ⟨⟨r, h'⟩, hv⟩ := Option.isSome_iff_exists.mp hc
  rw [hv]
  exact je_virt (y := 20) (as := [v0]) D21_23 rfl (by decide) (by decide) rfl jm_cl hw hv
theorem D21_26 : decode (jt_code 21) 26 = .ok (.aload_n 0, 1) := by decide +kernel
theorem E21_26 {call : jv_F} {l1 : Option Value} {a : Nat} {st : List Value} {h : jv_H} : jv_ev call 21 26 [some (.ref a), l1] st h = jv_ev call 21 27 [some (.ref a), l1] (.ref a :: st) h := je_aload_n (r := some a) D21_26 rfl rfl
theorem D21_27 : decode (jt_code 21) 27 = .ok (.getfield 27, 3) := by decide +kernel
theorem E21_27 {call : jv_F} {l0 l1 : Option Value}  {st : List Value} {m : Nat} {I : Nat → Int32} {A : Nat → Nat → Int32} {L : Nat → Nat → Int64} {rest : Nat → Option jv_C} {z : Nat × Nat} : jv_ev call 21 27 [l0, l1] (.ref m :: st) (jm_H m I A L rest z) = jv_ev call 21 30 [l0, l1] (.ref (m + 5) :: st) (jm_H m I A L rest z) := je_get D21_27 rfl (by decide) jm_g8
theorem D21_30 : decode (jt_code 21) 30 = .ok (.iload_n 1, 1) := by decide +kernel
theorem E21_30 {call : jv_F} {l0 : Option Value} {x : Int32} {st : List Value} {h : jv_H} : jv_ev call 21 30 [l0, some (.int x)] st h = jv_ev call 21 31 [l0, some (.int x)] (.int x :: st) h := je_iload_n D21_30 rfl rfl
theorem D21_31 : decode (jt_code 21) 31 = .ok (.bipush 64, 2) := by decide +kernel
theorem E21_31 {call : jv_F} {l0 l1 : Option Value}  {st : List Value} {h : jv_H} : jv_ev call 21 31 [l0, l1] st h = jv_ev call 21 33 [l0, l1] (.int (nI 64) :: st) h := je_bipush D21_31 rfl (by decide)
theorem D21_33 : decode (jt_code 21) 33 = .ok (.idiv, 1) := by decide +kernel
theorem E21_33 {call : jv_F} {l0 l1 : Option Value} {x y : Int32} {st : List Value} {h : jv_H} (hy : ¬ y = 0) : jv_ev call 21 33 [l0, l1] (.int y :: .int x :: st) h = jv_ev call 21 34 [l0, l1] (.int (x / y) :: st) h := je_idiv D21_33 rfl hy
theorem D21_34 : decode (jt_code 21) 34 = .ok (.iaload, 1) := by decide +kernel
theorem E21_34 {call : jv_F} {l0 l1 : Option Value} {i : Nat} {st : List Value} {m : Nat} {I : Nat → Int32} {A : Nat → Nat → Int32} {L : Nat → Nat → Int64} {rest : Nat → Option jv_C} {z : Nat × Nat} (hi : i < 12) : jv_ev call 21 34 [l0, l1] (.int (nI i) :: .ref (m + 5) :: st) (jm_H m I A L rest z) = jv_ev call 21 35 [l0, l1] (.int (A 8 i) :: st) (jm_H m I A L rest z) := je_iald D21_34 rfl (jm_l8 hi)
theorem D21_35 : decode (jt_code 21) 35 = .ok (.ifCond .eq 84, 3) := by decide +kernel
theorem E21_35 {call : jv_F} {l0 l1 : Option Value} {x : Int32} {st : List Value} {h : jv_H} : jv_ev call 21 35 [l0, l1] (.int x :: st) h = if x = 0 then jv_ev call 21 119 [l0, l1] st h else jv_ev call 21 38 [l0, l1] st h := je_ifc D21_35 (by decide) rfl rfl
theorem D21_38 : decode (jt_code 21) 38 = .ok (.aload_n 0, 1) := by decide +kernel
theorem E21_38 {call : jv_F} {l1 : Option Value} {a : Nat} {st : List Value} {h : jv_H} : jv_ev call 21 38 [some (.ref a), l1] st h = jv_ev call 21 39 [some (.ref a), l1] (.ref a :: st) h := je_aload_n (r := some a) D21_38 rfl rfl
theorem D21_39 : decode (jt_code 21) 39 = .ok (.getfield 85, 3) := by decide +kernel
theorem E21_39 {call : jv_F} {l0 l1 : Option Value}  {st : List Value} {m : Nat} {I : Nat → Int32} {A : Nat → Nat → Int32} {L : Nat → Nat → Int64} {rest : Nat → Option jv_C} {z : Nat × Nat} : jv_ev call 21 39 [l0, l1] (.ref m :: st) (jm_H m I A L rest z) = jv_ev call 21 42 [l0, l1] (.ref (m + 24) :: st) (jm_H m I A L rest z) := je_get D21_39 rfl (by decide) jm_g28
theorem D21_42 : decode (jt_code 21) 42 = .ok (.aload_n 0, 1) := by decide +kernel
theorem E21_42 {call : jv_F} {l1 : Option Value} {a : Nat} {st : List Value} {h : jv_H} : jv_ev call 21 42 [some (.ref a), l1] st h = jv_ev call 21 43 [some (.ref a), l1] (.ref a :: st) h := je_aload_n (r := some a) D21_42 rfl rfl
theorem D21_43 : decode (jt_code 21) 43 = .ok (.getfield 182, 3) := by decide +kernel
theorem E21_43 {call : jv_F} {l0 l1 : Option Value}  {st : List Value} {m : Nat} {I : Nat → Int32} {A : Nat → Nat → Int32} {L : Nat → Nat → Int64} {rest : Nat → Option jv_C} {z : Nat × Nat} : jv_ev call 21 43 [l0, l1] (.ref m :: st) (jm_H m I A L rest z) = jv_ev call 21 46 [l0, l1] (.int (I 34) :: st) (jm_H m I A L rest z) := je_get D21_43 rfl (by decide) jm_g34
theorem D21_46 : decode (jt_code 21) 46 = .ok (.iconst (-1), 1) := by decide +kernel
theorem E21_46 {call : jv_F} {l0 l1 : Option Value}  {st : List Value} {h : jv_H} : jv_ev call 21 46 [l0, l1] st h = jv_ev call 21 47 [l0, l1] (.int (-1) :: st) h := je_iconst D21_46 rfl (by decide)
theorem D21_47 : decode (jt_code 21) 47 = .ok (.iastore, 1) := by decide +kernel
theorem E21_47 {call : jv_F} {l0 l1 : Option Value} {i : Nat} {v : Int32} {st : List Value} {m : Nat} {I : Nat → Int32} {A : Nat → Nat → Int32} {L : Nat → Nat → Int64} {rest : Nat → Option jv_C} {z : Nat × Nat} (hi : i < 64) : jv_ev call 21 47 [l0, l1] (.int v :: .int (nI i) :: .ref (m + 24) :: st) (jm_H m I A L rest z) = jv_ev call 21 48 [l0, l1] st (jm_H m I (va_up A 28 (upd (A 28) i v)) L rest z) := je_iast D21_47 rfl (jm_s28 hi)
theorem D21_48 : decode (jt_code 21) 48 = .ok (.aload_n 0, 1) := by decide +kernel
theorem E21_48 {call : jv_F} {l1 : Option Value} {a : Nat} {st : List Value} {h : jv_H} : jv_ev call 21 48 [some (.ref a), l1] st h = jv_ev call 21 49 [some (.ref a), l1] (.ref a :: st) h := je_aload_n (r := some a) D21_48 rfl rfl
theorem D21_49 : decode (jt_code 21) 49 = .ok (.iload_n 1, 1) := by decide +kernel
theorem E21_49 {call : jv_F} {l0 : Option Value} {x : Int32} {st : List Value} {h : jv_H} : jv_ev call 21 49 [l0, some (.int x)] st h = jv_ev call 21 50 [l0, some (.int x)] (.int x :: st) h := je_iload_n D21_49 rfl rfl
theorem D21_50 : decode (jt_code 21) 50 = .ok (.invokevirtual 185, 3) := by decide +kernel
theorem E21_50 {call : jv_F} {l0 l1 : Option Value} {v0 : Value}  {st : List Value} {m : Nat} {I : Nat → Int32} {A : Nat → Nat → Int32} {L : Nat → Nat → Int64} {rest : Nat → Option jv_C} {z : Nat × Nat} (hw : jv_wide st = true) (hc : (call 22 [.ref m, v0] (jm_H m I A L rest z)).isSome = true) : jv_ev call 21 50 [l0, l1] (v0 :: .ref m :: st) (jm_H m I A L rest z) = jv_ev call 21 53 [l0, l1] ((((call 22 [.ref m, v0] (jm_H m I A L rest z)).getD (none, (jm_H m I A L rest z))).1).toList ++ st) ((call 22 [.ref m, v0] (jm_H m I A L rest z)).getD (none, (jm_H m I A L rest z))).2 := by
  obtain ⟨⟨r, h'⟩, hv⟩ := Option.isSome_iff_exists.mp hc
  rw [hv]
  exact je_virt (y := 22) (as := [v0]) D21_50 rfl (by decide) (by decide) rfl jm_cl hw hv
theorem D21_53 : decode (jt_code 21) 53 = .ok (.goto 66, 3) := by decide +kernel
theorem E21_53 {call : jv_F} {l0 l1 : Option Value}  {st : List Value} {h : jv_H} : jv_ev call 21 53 [l0, l1] st h = jv_ev call 21 119 [l0, l1] st h := je_goto D21_53 (by decide)
theorem D21_56 : decode (jt_code 21) 56 = .ok (.aload_n 0, 1) := by decide +kernel
theorem E21_56 {call : jv_F} {l1 : Option Value} {a : Nat} {st : List Value} {h : jv_H} : jv_ev call 21 56 [some (.ref a), l1] st h = jv_ev call 21 57 [some (.ref a), l1] (.ref a :: st) h := je_aload_n (r := some a) D21_56 rfl rfl
theorem D21_57 : decode (jt_code 21) 57 = .ok (.getfield 79, 3) := by decide +kernel
theorem E21_57 {call : jv_F} {l0 l1 : Option Value}  {st : List Value} {m : Nat} {I : Nat → Int32} {A : Nat → Nat → Int32} {L : Nat → Nat → Int64} {rest : Nat → Option jv_C} {z : Nat × Nat} : jv_ev call 21 57 [l0, l1] (.ref m :: st) (jm_H m I A L rest z) = jv_ev call 21 60 [l0, l1] (.ref (m + 22) :: st) (jm_H m I A L rest z) := je_get D21_57 rfl (by decide) jm_g26
theorem D21_60 : decode (jt_code 21) 60 = .ok (.aload_n 0, 1) := by decide +kernel
theorem E21_60 {call : jv_F} {l1 : Option Value} {a : Nat} {st : List Value} {h : jv_H} : jv_ev call 21 60 [some (.ref a), l1] st h = jv_ev call 21 61 [some (.ref a), l1] (.ref a :: st) h := je_aload_n (r := some a) D21_60 rfl rfl
theorem D21_61 : decode (jt_code 21) 61 = .ok (.getfield 176, 3) := by decide +kernel
theorem E21_61 {call : jv_F} {l0 l1 : Option Value}  {st : List Value} {m : Nat} {I : Nat → Int32} {A : Nat → Nat → Int32} {L : Nat → Nat → Int64} {rest : Nat → Option jv_C} {z : Nat × Nat} : jv_ev call 21 61 [l0, l1] (.ref m :: st) (jm_H m I A L rest z) = jv_ev call 21 64 [l0, l1] (.int (I 33) :: st) (jm_H m I A L rest z) := je_get D21_61 rfl (by decide) jm_g33
theorem D21_64 : decode (jt_code 21) 64 = .ok (.iconst 0, 1) := by decide +kernel
theorem E21_64 {call : jv_F} {l0 l1 : Option Value}  {st : List Value} {h : jv_H} : jv_ev call 21 64 [l0, l1] st h = jv_ev call 21 65 [l0, l1] (.int (nI 0) :: st) h := je_iconst D21_64 rfl (by decide)
theorem D21_65 : decode (jt_code 21) 65 = .ok (.bastore, 1) := by decide +kernel
theorem E21_65 {call : jv_F} {l0 l1 : Option Value} {i : Nat} {v : Int32} {st : List Value} {m : Nat} {I : Nat → Int32} {A : Nat → Nat → Int32} {L : Nat → Nat → Int64} {rest : Nat → Option jv_C} {z : Nat × Nat} (hi : i < 17) (hv : narrow .boolean (.int v) = .int v) : jv_ev call 21 65 [l0, l1] (.int v :: .int (nI i) :: .ref (m + 22) :: st) (jm_H m I A L rest z) = jv_ev call 21 66 [l0, l1] st (jm_H m I (va_up A 26 (upd (A 26) i v)) L rest z) := je_bast D21_65 rfl (by rw [hv]; exact jm_s26 hi)
theorem D21_66 : decode (jt_code 21) 66 = .ok (.aload_n 0, 1) := by decide +kernel
theorem E21_66 {call : jv_F} {l1 : Option Value} {a : Nat} {st : List Value} {h : jv_H} : jv_ev call 21 66 [some (.ref a), l1] st h = jv_ev call 21 67 [some (.ref a), l1] (.ref a :: st) h := je_aload_n (r := some a) D21_66 rfl rfl
theorem D21_67 : decode (jt_code 21) 67 = .ok (.getfield 82, 3) := by decide +kernel
theorem E21_67 {call : jv_F} {l0 l1 : Option Value}  {st : List Value} {m : Nat} {I : Nat → Int32} {A : Nat → Nat → Int32} {L : Nat → Nat → Int64} {rest : Nat → Option jv_C} {z : Nat × Nat} : jv_ev call 21 67 [l0, l1] (.ref m :: st) (jm_H m I A L rest z) = jv_ev call 21 70 [l0, l1] (.ref (m + 23) :: st) (jm_H m I A L rest z) := je_get D21_67 rfl (by decide) jm_g27
theorem D21_70 : decode (jt_code 21) 70 = .ok (.aload_n 0, 1) := by decide +kernel
theorem E21_70 {call : jv_F} {l1 : Option Value} {a : Nat} {st : List Value} {h : jv_H} : jv_ev call 21 70 [some (.ref a), l1] st h = jv_ev call 21 71 [some (.ref a), l1] (.ref a :: st) h := je_aload_n (r := some a) D21_70 rfl rfl
theorem D21_71 : decode (jt_code 21) 71 = .ok (.getfield 176, 3) := by decide +kernel
theorem E21_71 {call : jv_F} {l0 l1 : Option Value}  {st : List Value} {m : Nat} {I : Nat → Int32} {A : Nat → Nat → Int32} {L : Nat → Nat → Int64} {rest : Nat → Option jv_C} {z : Nat × Nat} : jv_ev call 21 71 [l0, l1] (.ref m :: st) (jm_H m I A L rest z) = jv_ev call 21 74 [l0, l1] (.int (I 33) :: st) (jm_H m I A L rest z) := je_get D21_71 rfl (by decide) jm_g33
theorem D21_74 : decode (jt_code 21) 74 = .ok (.iconst 0, 1) := by decide +kernel
theorem E21_74 {call : jv_F} {l0 l1 : Option Value}  {st : List Value} {h : jv_H} : jv_ev call 21 74 [l0, l1] st h = jv_ev call 21 75 [l0, l1] (.int (nI 0) :: st) h := je_iconst D21_74 rfl (by decide)
theorem D21_75 : decode (jt_code 21) 75 = .ok (.bastore, 1) := by decide +kernel
theorem E21_75 {call : jv_F} {l0 l1 : Option Value} {i : Nat} {v : Int32} {st : List Value} {m : Nat} {I : Nat → Int32} {A : Nat → Nat → Int32} {L : Nat → Nat → Int64} {rest : Nat → Option jv_C} {z : Nat × Nat} (hi : i < 17) (hv : narrow .boolean (.int v) = .int v) : jv_ev call 21 75 [l0, l1] (.int v :: .int (nI i) :: .ref (m + 23) :: st) (jm_H m I A L rest z) = jv_ev call 21 76 [l0, l1] st (jm_H m I (va_up A 27 (upd (A 27) i v)) L rest z) := je_bast D21_75 rfl (by rw [hv]; exact jm_s27 hi)
theorem D21_76 : decode (jt_code 21) 76 = .ok (.aload_n 0, 1) := by decide +kernel
theorem E21_76 {call : jv_F} {l1 : Option Value} {a : Nat} {st : List Value} {h : jv_H} : jv_ev call 21 76 [some (.ref a), l1] st h = jv_ev call 21 77 [some (.ref a), l1] (.ref a :: st) h := je_aload_n (r := some a) D21_76 rfl rfl
theorem D21_77 : decode (jt_code 21) 77 = .ok (.getfield 73, 3) := by decide +kernel
theorem E21_77 {call : jv_F} {l0 l1 : Option Value}  {st : List Value} {m : Nat} {I : Nat → Int32} {A : Nat → Nat → Int32} {L : Nat → Nat → Int64} {rest : Nat → Option jv_C} {z : Nat × Nat} : jv_ev call 21 77 [l0, l1] (.ref m :: st) (jm_H m I A L rest z) = jv_ev call 21 80 [l0, l1] (.ref (m + 20) :: st) (jm_H m I A L rest z) := je_get D21_77 rfl (by decide) jm_g24
theorem D21_80 : decode (jt_code 21) 80 = .ok (.aload_n 0, 1) := by decide +kernel
theorem E21_80 {call : jv_F} {l1 : Option Value} {a : Nat} {st : List Value} {h : jv_H} : jv_ev call 21 80 [some (.ref a), l1] st h = jv_ev call 21 81 [some (.ref a), l1] (.ref a :: st) h := je_aload_n (r := some a) D21_80 rfl rfl
theorem D21_81 : decode (jt_code 21) 81 = .ok (.getfield 176, 3) := by decide +kernel
theorem E21_81 {call : jv_F} {l0 l1 : Option Value}  {st : List Value} {m : Nat} {I : Nat → Int32} {A : Nat → Nat → Int32} {L : Nat → Nat → Int64} {rest : Nat → Option jv_C} {z : Nat × Nat} : jv_ev call 21 81 [l0, l1] (.ref m :: st) (jm_H m I A L rest z) = jv_ev call 21 84 [l0, l1] (.int (I 33) :: st) (jm_H m I A L rest z) := je_get D21_81 rfl (by decide) jm_g33
theorem D21_84 : decode (jt_code 21) 84 = .ok (.iconst 0, 1) := by decide +kernel
theorem E21_84 {call : jv_F} {l0 l1 : Option Value}  {st : List Value} {h : jv_H} : jv_ev call 21 84 [l0, l1] st h = jv_ev call 21 85 [l0, l1] (.int (nI 0) :: st) h := je_iconst D21_84 rfl (by decide)
theorem D21_85 : decode (jt_code 21) 85 = .ok (.iastore, 1) := by decide +kernel
theorem E21_85 {call : jv_F} {l0 l1 : Option Value} {i : Nat} {v : Int32} {st : List Value} {m : Nat} {I : Nat → Int32} {A : Nat → Nat → Int32} {L : Nat → Nat → Int64} {rest : Nat → Option jv_C} {z : Nat × Nat} (hi : i < 17) : jv_ev call 21 85 [l0, l1] (.int v :: .int (nI i) :: .ref (m + 20) :: st) (jm_H m I A L rest z) = jv_ev call 21 86 [l0, l1] st (jm_H m I (va_up A 24 (upd (A 24) i v)) L rest z) := je_iast D21_85 rfl (jm_s24 hi)
theorem D21_86 : decode (jt_code 21) 86 = .ok (.aload_n 0, 1) := by decide +kernel
theorem E21_86 {call : jv_F} {l1 : Option Value} {a : Nat} {st : List Value} {h : jv_H} : jv_ev call 21 86 [some (.ref a), l1] st h = jv_ev call 21 87 [some (.ref a), l1] (.ref a :: st) h := je_aload_n (r := some a) D21_86 rfl rfl
theorem D21_87 : decode (jt_code 21) 87 = .ok (.getfield 76, 3) := by decide +kernel
theorem E21_87 {call : jv_F} {l0 l1 : Option Value}  {st : List Value} {m : Nat} {I : Nat → Int32} {A : Nat → Nat → Int32} {L : Nat → Nat → Int64} {rest : Nat → Option jv_C} {z : Nat × Nat} : jv_ev call 21 87 [l0, l1] (.ref m :: st) (jm_H m I A L rest z) = jv_ev call 21 90 [l0, l1] (.ref (m + 21) :: st) (jm_H m I A L rest z) := je_get D21_87 rfl (by decide) jm_g25
theorem D21_90 : decode (jt_code 21) 90 = .ok (.aload_n 0, 1) := by decide +kernel
theorem E21_90 {call : jv_F} {l1 : Option Value} {a : Nat} {st : List Value} {h : jv_H} : jv_ev call 21 90 [some (.ref a), l1] st h = jv_ev call 21 91 [some (.ref a), l1] (.ref a :: st) h := je_aload_n (r := some a) D21_90 rfl rfl
theorem D21_91 : decode (jt_code 21) 91 = .ok (.getfield 176, 3) := by decide +kernel
theorem E21_91 {call : jv_F} {l0 l1 : Option Value}  {st : List Value} {m : Nat} {I : Nat → Int32} {A : Nat → Nat → Int32} {L : Nat → Nat → Int64} {rest : Nat → Option jv_C} {z : Nat × Nat} : jv_ev call 21 91 [l0, l1] (.ref m :: st) (jm_H m I A L rest z) = jv_ev call 21 94 [l0, l1] (.int (I 33) :: st) (jm_H m I A L rest z) := je_get D21_91 rfl (by decide) jm_g33
theorem D21_94 : decode (jt_code 21) 94 = .ok (.aload_n 0, 1) := by decide +kernel
theorem E21_94 {call : jv_F} {l1 : Option Value} {a : Nat} {st : List Value} {h : jv_H} : jv_ev call 21 94 [some (.ref a), l1] st h = jv_ev call 21 95 [some (.ref a), l1] (.ref a :: st) h := je_aload_n (r := some a) D21_94 rfl rfl
theorem D21_95 : decode (jt_code 21) 95 = .ok (.getfield 67, 3) := by decide +kernel
theorem E21_95 {call : jv_F} {l0 l1 : Option Value}  {st : List Value} {m : Nat} {I : Nat → Int32} {A : Nat → Nat → Int32} {L : Nat → Nat → Int64} {rest : Nat → Option jv_C} {z : Nat × Nat} : jv_ev call 21 95 [l0, l1] (.ref m :: st) (jm_H m I A L rest z) = jv_ev call 21 98 [l0, l1] (.ref (m + 18) :: st) (jm_H m I A L rest z) := je_get D21_95 rfl (by decide) jm_g21
theorem D21_98 : decode (jt_code 21) 98 = .ok (.iload_n 1, 1) := by decide +kernel
theorem E21_98 {call : jv_F} {l0 : Option Value} {x : Int32} {st : List Value} {h : jv_H} : jv_ev call 21 98 [l0, some (.int x)] st h = jv_ev call 21 99 [l0, some (.int x)] (.int x :: st) h := je_iload_n D21_98 rfl rfl
theorem D21_99 : decode (jt_code 21) 99 = .ok (.iaload, 1) := by decide +kernel
theorem E21_99 {call : jv_F} {l0 l1 : Option Value} {i : Nat} {st : List Value} {m : Nat} {I : Nat → Int32} {A : Nat → Nat → Int32} {L : Nat → Nat → Int64} {rest : Nat → Option jv_C} {z : Nat × Nat} (hi : i < 768) : jv_ev call 21 99 [l0, l1] (.int (nI i) :: .ref (m + 18) :: st) (jm_H m I A L rest z) = jv_ev call 21 100 [l0, l1] (.int (A 21 i) :: st) (jm_H m I A L rest z) := je_iald D21_99 rfl (jm_l21 hi)
theorem D21_100 : decode (jt_code 21) 100 = .ok (.ifCond .ge 7, 3) := by decide +kernel
theorem E21_100 {call : jv_F} {l0 l1 : Option Value} {x : Int32} {st : List Value} {h : jv_H} : jv_ev call 21 100 [l0, l1] (.int x :: st) h = if 0 ≤ x then jv_ev call 21 107 [l0, l1] st h else jv_ev call 21 103 [l0, l1] st h := je_ifc D21_100 (by decide) rfl rfl
theorem D21_103 : decode (jt_code 21) 103 = .ok (.iconst 0, 1) := by decide +kernel
theorem E21_103 {call : jv_F} {l0 l1 : Option Value}  {st : List Value} {h : jv_H} : jv_ev call 21 103 [l0, l1] st h = jv_ev call 21 104 [l0, l1] (.int (nI 0) :: st) h := je_iconst D21_103 rfl (by decide)
theorem D21_104 : decode (jt_code 21) 104 = .ok (.goto 14, 3) := by decide +kernel
theorem E21_104 {call : jv_F} {l0 l1 : Option Value}  {st : List Value} {h : jv_H} : jv_ev call 21 104 [l0, l1] st h = jv_ev call 21 118 [l0, l1] st h := je_goto D21_104 (by decide)
theorem D21_107 : decode (jt_code 21) 107 = .ok (.aload_n 0, 1) := by decide +kernel
theorem E21_107 {call : jv_F} {l1 : Option Value} {a : Nat} {st : List Value} {h : jv_H} : jv_ev call 21 107 [some (.ref a), l1] st h = jv_ev call 21 108 [some (.ref a), l1] (.ref a :: st) h := je_aload_n (r := some a) D21_107 rfl rfl
theorem D21_108 : decode (jt_code 21) 108 = .ok (.getfield 188, 3) := by decide +kernel
theorem E21_108 {call : jv_F} {l0 l1 : Option Value}  {st : List Value} {m : Nat} {I : Nat → Int32} {A : Nat → Nat → Int32} {L : Nat → Nat → Int64} {rest : Nat → Option jv_C} {z : Nat × Nat} : jv_ev call 21 108 [l0, l1] (.ref m :: st) (jm_H m I A L rest z) = jv_ev call 21 111 [l0, l1] (.int (I 42) :: st) (jm_H m I A L rest z) := je_get D21_108 rfl (by decide) jm_g42
theorem D21_111 : decode (jt_code 21) 111 = .ok (.aload_n 0, 1) := by decide +kernel
theorem E21_111 {call : jv_F} {l1 : Option Value} {a : Nat} {st : List Value} {h : jv_H} : jv_ev call 21 111 [some (.ref a), l1] st h = jv_ev call 21 112 [some (.ref a), l1] (.ref a :: st) h := je_aload_n (r := some a) D21_111 rfl rfl
theorem D21_112 : decode (jt_code 21) 112 = .ok (.getfield 67, 3) := by decide +kernel
theorem E21_112 {call : jv_F} {l0 l1 : Option Value}  {st : List Value} {m : Nat} {I : Nat → Int32} {A : Nat → Nat → Int32} {L : Nat → Nat → Int64} {rest : Nat → Option jv_C} {z : Nat × Nat} : jv_ev call 21 112 [l0, l1] (.ref m :: st) (jm_H m I A L rest z) = jv_ev call 21 115 [l0, l1] (.ref (m + 18) :: st) (jm_H m I A L rest z) := je_get D21_112 rfl (by decide) jm_g21
theorem D21_115 : decode (jt_code 21) 115 = .ok (.iload_n 1, 1) := by decide +kernel
theorem E21_115 {call : jv_F} {l0 : Option Value} {x : Int32} {st : List Value} {h : jv_H} : jv_ev call 21 115 [l0, some (.int x)] st h = jv_ev call 21 116 [l0, some (.int x)] (.int x :: st) h := je_iload_n D21_115 rfl rfl
theorem D21_116 : decode (jt_code 21) 116 = .ok (.iaload, 1) := by decide +kernel
theorem E21_116 {call : jv_F} {l0 l1 : Option Value} {i : Nat} {st : List Value} {m : Nat} {I : Nat → Int32} {A : Nat → Nat → Int32} {L : Nat → Nat → Int64} {rest : Nat → Option jv_C} {z : Nat × Nat} (hi : i < 768) : jv_ev call 21 116 [l0, l1] (.int (nI i) :: .ref (m + 18) :: st) (jm_H m I A L rest z) = jv_ev call 21 117 [l0, l1] (.int (A 21 i) :: st) (jm_H m I A L rest z) := je_iald D21_116 rfl (jm_l21 hi)
theorem D21_117 : decode (jt_code 21) 117 = .ok (.isub, 1) := by decide +kernel
theorem E21_117 {call : jv_F} {l0 l1 : Option Value} {x y : Int32} {st : List Value} {h : jv_H} : jv_ev call 21 117 [l0, l1] (.int y :: .int x :: st) h = jv_ev call 21 118 [l0, l1] (.int (x - y) :: st) h := je_b2 (f := fun x y => x - y) D21_117 rfl (fun _ => rfl)
theorem D21_118 : decode (jt_code 21) 118 = .ok (.iastore, 1) := by decide +kernel
theorem E21_118 {call : jv_F} {l0 l1 : Option Value} {i : Nat} {v : Int32} {st : List Value} {m : Nat} {I : Nat → Int32} {A : Nat → Nat → Int32} {L : Nat → Nat → Int64} {rest : Nat → Option jv_C} {z : Nat × Nat} (hi : i < 17) : jv_ev call 21 118 [l0, l1] (.int v :: .int (nI i) :: .ref (m + 21) :: st) (jm_H m I A L rest z) = jv_ev call 21 119 [l0, l1] st (jm_H m I (va_up A 25 (upd (A 25) i v)) L rest z) := je_iast D21_118 rfl (jm_s25 hi)
theorem D21_119 : decode (jt_code 21) 119 = .ok (.aload_n 0, 1) := by decide +kernel
theorem E21_119 {call : jv_F} {l1 : Option Value} {a : Nat} {st : List Value} {h : jv_H} : jv_ev call 21 119 [some (.ref a), l1] st h = jv_ev call 21 120 [some (.ref a), l1] (.ref a :: st) h := je_aload_n (r := some a) D21_119 rfl rfl
theorem D21_120 : decode (jt_code 21) 120 = .ok (.iconst 0, 1) := by decide +kernel
theorem E21_120 {call : jv_F} {l0 l1 : Option Value}  {st : List Value} {h : jv_H} : jv_ev call 21 120 [l0, l1] st h = jv_ev call 21 121 [l0, l1] (.int (nI 0) :: st) h := je_iconst D21_120 rfl (by decide)
theorem D21_121 : decode (jt_code 21) 121 = .ok (.putfield 142, 3) := by decide +kernel
theorem E21_121 {call : jv_F} {l0 l1 : Option Value} {v : Int32} {st : List Value} {m : Nat} {I : Nat → Int32} {A : Nat → Nat → Int32} {L : Nat → Nat → Int64} {rest : Nat → Option jv_C} {z : Nat × Nat} : jv_ev call 21 121 [l0, l1] (.int v :: .ref m :: st) (jm_H m I A L rest z) = jv_ev call 21 124 [l0, l1] st (jm_H m (upd I 32 v) A L rest z) := je_put D21_121 rfl (by decide) (by decide) jm_p32
theorem D21_124 : decode (jt_code 21) 124 = .ok (.return_, 1) := by decide +kernel
theorem E21_124 {call : jv_F} {l0 l1 : Option Value}  {h : jv_H} : jv_ev call 21 124 [l0, l1] [] h = some (none, h) := je_ret D21_124 rfl
/-! method 22: DrumMachineModel.vanish -/
theorem N22 {d : Nat} {b : Nat} {a0 : Int32} {h : jv_H} : jv_run (d + 1) 22 [.ref b, .int a0] h = jv_ev (jv_run d) 22 0 [some (.ref b), some (.int a0)] [] h := jv_run_eq (Nat.le_of_ble_eq_true rfl) rfl
theorem D22_0 : decode (jt_code 22) 0 = .ok (.aload_n 0, 1) := by decide +kernel
theorem E22_0 {call : jv_F} {l1 : Option Value} {a : Nat} {st : List Value} {h : jv_H} : jv_ev call 22 0 [some (.ref a), l1] st h = jv_ev call 22 1 [some (.ref a), l1] (.ref a :: st) h := je_aload_n (r := some a) D22_0 rfl rfl
theorem D22_1 : decode (jt_code 22) 1 = .ok (.getfield 63, 3) := by decide +kernel
theorem E22_1 {call : jv_F} {l0 l1 : Option Value}  {st : List Value} {m : Nat} {I : Nat → Int32} {A : Nat → Nat → Int32} {L : Nat → Nat → Int64} {rest : Nat → Option jv_C} {z : Nat × Nat} : jv_ev call 22 1 [l0, l1] (.ref m :: st) (jm_H m I A L rest z) = jv_ev call 22 4 [l0, l1] (.ref (m + 17) :: st) (jm_H m I A L rest z) := je_get D22_1 rfl (by decide) jm_g20
theorem D22_4 : decode (jt_code 22) 4 = .ok (.iload_n 1, 1) := by decide +kernel
theorem E22_4 {call : jv_F} {l0 : Option Value} {x : Int32} {st : List Value} {h : jv_H} : jv_ev call 22 4 [l0, some (.int x)] st h = jv_ev call 22 5 [l0, some (.int x)] (.int x :: st) h := je_iload_n D22_4 rfl rfl
theorem D22_5 : decode (jt_code 22) 5 = .ok (.iconst 0, 1) := by decide +kernel
theorem E22_5 {call : jv_F} {l0 l1 : Option Value}  {st : List Value} {h : jv_H} : jv_ev call 22 5 [l0, l1] st h = jv_ev call 22 6 [l0, l1] (.int (nI 0) :: st) h := je_iconst D22_5 rfl (by decide)
theorem D22_6 : decode (jt_code 22) 6 = .ok (.bastore, 1) := by decide +kernel
theorem E22_6 {call : jv_F} {l0 l1 : Option Value} {i : Nat} {v : Int32} {st : List Value} {m : Nat} {I : Nat → Int32} {A : Nat → Nat → Int32} {L : Nat → Nat → Int64} {rest : Nat → Option jv_C} {z : Nat × Nat} (hi : i < 768) (hv : narrow .boolean (.int v) = .int v) : jv_ev call 22 6 [l0, l1] (.int v :: .int (nI i) :: .ref (m + 17) :: st) (jm_H m I A L rest z) = jv_ev call 22 7 [l0, l1] st (jm_H m I (va_up A 20 (upd (A 20) i v)) L rest z) := je_bast D22_6 rfl (by rw [hv]; exact jm_s20 hi)
theorem D22_7 : decode (jt_code 22) 7 = .ok (.aload_n 0, 1) := by decide +kernel
theorem E22_7 {call : jv_F} {l1 : Option Value} {a : Nat} {st : List Value} {h : jv_H} : jv_ev call 22 7 [some (.ref a), l1] st h = jv_ev call 22 8 [some (.ref a), l1] (.ref a :: st) h := je_aload_n (r := some a) D22_7 rfl rfl
theorem D22_8 : decode (jt_code 22) 8 = .ok (.dup, 1) := by decide +kernel
theorem E22_8 {call : jv_F} {l0 l1 : Option Value} {a : Nat} {st : List Value} {h : jv_H} : jv_ev call 22 8 [l0, l1] (.ref a :: st) h = jv_ev call 22 9 [l0, l1] (.ref a :: .ref a :: st) h := je_dup D22_8 rfl rfl
theorem E22_8i {call : jv_F} {l0 l1 : Option Value} {x : Int32} {st : List Value} {h : jv_H} : jv_ev call 22 8 [l0, l1] (.int x :: st) h = jv_ev call 22 9 [l0, l1] (.int x :: .int x :: st) h := je_dup D22_8 rfl rfl
theorem D22_9 : decode (jt_code 22) 9 = .ok (.getfield 110, 3) := by decide +kernel
theorem E22_9 {call : jv_F} {l0 l1 : Option Value}  {st : List Value} {m : Nat} {I : Nat → Int32} {A : Nat → Nat → Int32} {L : Nat → Nat → Int64} {rest : Nat → Option jv_C} {z : Nat × Nat} : jv_ev call 22 9 [l0, l1] (.ref m :: st) (jm_H m I A L rest z) = jv_ev call 22 12 [l0, l1] (.int (I 22) :: st) (jm_H m I A L rest z) := je_get D22_9 rfl (by decide) jm_g22
theorem D22_12 : decode (jt_code 22) 12 = .ok (.iconst 1, 1) := by decide +kernel
theorem E22_12 {call : jv_F} {l0 l1 : Option Value}  {st : List Value} {h : jv_H} : jv_ev call 22 12 [l0, l1] st h = jv_ev call 22 13 [l0, l1] (.int (nI 1) :: st) h := je_iconst D22_12 rfl (by decide)
theorem D22_13 : decode (jt_code 22) 13 = .ok (.isub, 1) := by decide +kernel
theorem E22_13 {call : jv_F} {l0 l1 : Option Value} {x y : Int32} {st : List Value} {h : jv_H} : jv_ev call 22 13 [l0, l1] (.int y :: .int x :: st) h = jv_ev call 22 14 [l0, l1] (.int (x - y) :: st) h := je_b2 (f := fun x y => x - y) D22_13 rfl (fun _ => rfl)
theorem D22_14 : decode (jt_code 22) 14 = .ok (.putfield 110, 3) := by decide +kernel
theorem E22_14 {call : jv_F} {l0 l1 : Option Value} {v : Int32} {st : List Value} {m : Nat} {I : Nat → Int32} {A : Nat → Nat → Int32} {L : Nat → Nat → Int64} {rest : Nat → Option jv_C} {z : Nat × Nat} : jv_ev call 22 14 [l0, l1] (.int v :: .ref m :: st) (jm_H m I A L rest z) = jv_ev call 22 17 [l0, l1] st (jm_H m (upd I 22 v) A L rest z) := je_put D22_14 rfl (by decide) (by decide) jm_p22
theorem D22_17 : decode (jt_code 22) 17 = .ok (.return_, 1) := by decide +kernel
theorem E22_17 {call : jv_F} {l0 l1 : Option Value}  {h : jv_H} : jv_ev call 22 17 [l0, l1] [] h = some (none, h) := je_ret D22_17 rfl
/-! method 23: DrumMachineModel.mayGo -/
theorem N23 {d : Nat} {b : Nat} {a0 : Int32} {h : jv_H} : jv_run (d + 1) 23 [.ref b, .int a0] h = jv_ev (jv_run d) 23 0 [some (.ref b), some (.int a0)] [] h := jv_run_eq (Nat.le_of_ble_eq_true rfl) rfl
theorem D23_0 : decode (jt_code 23) 0 = .ok (.aload_n 0, 1) := by decide +kernel
theorem E23_0 {call : jv_F} {l1 : Option Value} {a : Nat} {st : List Value} {h : jv_H} : jv_ev call 23 0 [some (.ref a), l1] st h = jv_ev call 23 1 [some (.ref a), l1] (.ref a :: st) h := je_aload_n (r := some a) D23_0 rfl rfl
theorem D23_1 : decode (jt_code 23) 1 = .ok (.getfield 70, 3) := by decide +kernel
theorem E23_1 {call : jv_F} {l0 l1 : Option Value}  {st : List Value} {m : Nat} {I : Nat → Int32} {A : Nat → Nat → Int32} {L : Nat → Nat → Int64} {rest : Nat → Option jv_C} {z : Nat × Nat} : jv_ev call 23 1 [l0, l1] (.ref m :: st) (jm_H m I A L rest z) = jv_ev call 23 4 [l0, l1] (.ref (m + 19) :: st) (jm_H m I A L rest z) := je_get D23_1 rfl (by decide) jm_g23
theorem D23_4 : decode (jt_code 23) 4 = .ok (.iload_n 1, 1) := by decide +kernel
theorem E23_4 {call : jv_F} {l0 : Option Value} {x : Int32} {st : List Value} {h : jv_H} : jv_ev call 23 4 [l0, some (.int x)] st h = jv_ev call 23 5 [l0, some (.int x)] (.int x :: st) h := je_iload_n D23_4 rfl rfl
theorem D23_5 : decode (jt_code 23) 5 = .ok (.iaload, 1) := by decide +kernel
theorem E23_5 {call : jv_F} {l0 l1 : Option Value} {i : Nat} {st : List Value} {m : Nat} {I : Nat → Int32} {A : Nat → Nat → Int32} {L : Nat → Nat → Int64} {rest : Nat → Option jv_C} {z : Nat × Nat} (hi : i < 17) : jv_ev call 23 5 [l0, l1] (.int (nI i) :: .ref (m + 19) :: st) (jm_H m I A L rest z) = jv_ev call 23 6 [l0, l1] (.int (A 23 i) :: st) (jm_H m I A L rest z) := je_iald D23_5 rfl (jm_l23 hi)
theorem D23_6 : decode (jt_code 23) 6 = .ok (.ifCond .lt 29, 3) := by decide +kernel
theorem E23_6 {call : jv_F} {l0 l1 : Option Value} {x : Int32} {st : List Value} {h : jv_H} : jv_ev call 23 6 [l0, l1] (.int x :: st) h = if x < 0 then jv_ev call 23 35 [l0, l1] st h else jv_ev call 23 9 [l0, l1] st h := je_ifc D23_6 (by decide) rfl rfl
theorem D23_9 : decode (jt_code 23) 9 = .ok (.aload_n 0, 1) := by decide +kernel
theorem E23_9 {call : jv_F} {l1 : Option Value} {a : Nat} {st : List Value} {h : jv_H} : jv_ev call 23 9 [some (.ref a), l1] st h = jv_ev call 23 10 [some (.ref a), l1] (.ref a :: st) h := je_aload_n (r := some a) D23_9 rfl rfl
theorem D23_10 : decode (jt_code 23) 10 = .ok (.getfield 79, 3) := by decide +kernel
theorem E23_10 {call : jv_F} {l0 l1 : Option Value}  {st : List Value} {m : Nat} {I : Nat → Int32} {A : Nat → Nat → Int32} {L : Nat → Nat → Int64} {rest : Nat → Option jv_C} {z : Nat × Nat} : jv_ev call 23 10 [l0, l1] (.ref m :: st) (jm_H m I A L rest z) = jv_ev call 23 13 [l0, l1] (.ref (m + 22) :: st) (jm_H m I A L rest z) := je_get D23_10 rfl (by decide) jm_g26
theorem D23_13 : decode (jt_code 23) 13 = .ok (.iload_n 1, 1) := by decide +kernel
theorem E23_13 {call : jv_F} {l0 : Option Value} {x : Int32} {st : List Value} {h : jv_H} : jv_ev call 23 13 [l0, some (.int x)] st h = jv_ev call 23 14 [l0, some (.int x)] (.int x :: st) h := je_iload_n D23_13 rfl rfl
theorem D23_14 : decode (jt_code 23) 14 = .ok (.baload, 1) := by decide +kernel
theorem E23_14 {call : jv_F} {l0 l1 : Option Value} {i : Nat} {st : List Value} {m : Nat} {I : Nat → Int32} {A : Nat → Nat → Int32} {L : Nat → Nat → Int64} {rest : Nat → Option jv_C} {z : Nat × Nat} (hi : i < 17) : jv_ev call 23 14 [l0, l1] (.int (nI i) :: .ref (m + 22) :: st) (jm_H m I A L rest z) = jv_ev call 23 15 [l0, l1] (.int (A 26 i) :: st) (jm_H m I A L rest z) := je_bald D23_14 rfl (jm_l26 hi)
theorem D23_15 : decode (jt_code 23) 15 = .ok (.ifCond .ne 20, 3) := by decide +kernel
theorem E23_15 {call : jv_F} {l0 l1 : Option Value} {x : Int32} {st : List Value} {h : jv_H} : jv_ev call 23 15 [l0, l1] (.int x :: st) h = if ¬ x = 0 then jv_ev call 23 35 [l0, l1] st h else jv_ev call 23 18 [l0, l1] st h := je_ifc D23_15 (by decide) rfl rfl
theorem D23_18 : decode (jt_code 23) 18 = .ok (.aload_n 0, 1) := by decide +kernel
theorem E23_18 {call : jv_F} {l1 : Option Value} {a : Nat} {st : List Value} {h : jv_H} : jv_ev call 23 18 [some (.ref a), l1] st h = jv_ev call 23 19 [some (.ref a), l1] (.ref a :: st) h := je_aload_n (r := some a) D23_18 rfl rfl
theorem D23_19 : decode (jt_code 23) 19 = .ok (.aload_n 0, 1) := by decide +kernel
theorem E23_19 {call : jv_F} {l1 : Option Value} {a : Nat} {st : List Value} {h : jv_H} : jv_ev call 23 19 [some (.ref a), l1] st h = jv_ev call 23 20 [some (.ref a), l1] (.ref a :: st) h := je_aload_n (r := some a) D23_19 rfl rfl
theorem D23_20 : decode (jt_code 23) 20 = .ok (.getfield 70, 3) := by decide +kernel
theorem E23_20 {call : jv_F} {l0 l1 : Option Value}  {st : List Value} {m : Nat} {I : Nat → Int32} {A : Nat → Nat → Int32} {L : Nat → Nat → Int64} {rest : Nat → Option jv_C} {z : Nat × Nat} : jv_ev call 23 20 [l0, l1] (.ref m :: st) (jm_H m I A L rest z) = jv_ev call 23 23 [l0, l1] (.ref (m + 19) :: st) (jm_H m I A L rest z) := je_get D23_20 rfl (by decide) jm_g23
theorem D23_23 : decode (jt_code 23) 23 = .ok (.iload_n 1, 1) := by decide +kernel
theorem E23_23 {call : jv_F} {l0 : Option Value} {x : Int32} {st : List Value} {h : jv_H} : jv_ev call 23 23 [l0, some (.int x)] st h = jv_ev call 23 24 [l0, some (.int x)] (.int x :: st) h := je_iload_n D23_23 rfl rfl
theorem D23_24 : decode (jt_code 23) 24 = .ok (.iaload, 1) := by decide +kernel
theorem E23_24 {call : jv_F} {l0 l1 : Option Value} {i : Nat} {st : List Value} {m : Nat} {I : Nat → Int32} {A : Nat → Nat → Int32} {L : Nat → Nat → Int64} {rest : Nat → Option jv_C} {z : Nat × Nat} (hi : i < 17) : jv_ev call 23 24 [l0, l1] (.int (nI i) :: .ref (m + 19) :: st) (jm_H m I A L rest z) = jv_ev call 23 25 [l0, l1] (.int (A 23 i) :: st) (jm_H m I A L rest z) := je_iald D23_24 rfl (jm_l23 hi)
theorem D23_25 : decode (jt_code 23) 25 = .ok (.invokevirtual 191, 3) := by decide +kernel
theorem E23_25 {call : jv_F} {l0 l1 : Option Value} {v0 : Value}  {st : List Value} {m : Nat} {I : Nat → Int32} {A : Nat → Nat → Int32} {L : Nat → Nat → Int64} {rest : Nat → Option jv_C} {z : Nat × Nat} (hw : jv_wide st = true) (hc : (call 16 [.ref m, v0] (jm_H m I A L rest z)).isSome = true) : jv_ev call 23 25 [l0, l1] (v0 :: .ref m :: st) (jm_H m I A L rest z) = jv_ev call 23 28 [l0, l1] ((((call 16 [.ref m, v0] (jm_H m I A L rest z)).getD (none, (jm_H m I A L rest z))).1).toList ++ st) ((call 16 [.ref m, v0] (jm_H m I A L rest z)).getD (none, (jm_H m I A L rest z))).2 := by
  obtain ⟨⟨r, h'⟩, hv⟩ := Option.isSome_iff_exists.mp hc
  rw [hv]
  exact je_virt (y := 16) (as := [v0]) D23_25 rfl (by decide) (by decide) rfl jm_cl hw hv
theorem D23_28 : decode (jt_code 23) 28 = .ok (.ifCond .ne 7, 3) := by decide +kernel
theorem E23_28 {call : jv_F} {l0 l1 : Option Value} {x : Int32} {st : List Value} {h : jv_H} : jv_ev call 23 28 [l0, l1] (.int x :: st) h = if ¬ x = 0 then jv_ev call 23 35 [l0, l1] st h else jv_ev call 23 31 [l0, l1] st h := je_ifc D23_28 (by decide) rfl rfl
theorem D23_31 : decode (jt_code 23) 31 = .ok (.iconst 1, 1) := by decide +kernel
theorem E23_31 {call : jv_F} {l0 l1 : Option Value}  {st : List Value} {h : jv_H} : jv_ev call 23 31 [l0, l1] st h = jv_ev call 23 32 [l0, l1] (.int (nI 1) :: st) h := je_iconst D23_31 rfl (by decide)
theorem D23_32 : decode (jt_code 23) 32 = .ok (.goto 4, 3) := by decide +kernel
theorem E23_32 {call : jv_F} {l0 l1 : Option Value}  {st : List Value} {h : jv_H} : jv_ev call 23 32 [l0, l1] st h = jv_ev call 23 36 [l0, l1] st h := je_goto D23_32 (by decide)
theorem D23_35 : decode (jt_code 23) 35 = .ok (.iconst 0, 1) := by decide +kernel
theorem E23_35 {call : jv_F} {l0 l1 : Option Value}  {st : List Value} {h : jv_H} : jv_ev call 23 35 [l0, l1] st h = jv_ev call 23 36 [l0, l1] (.int (nI 0) :: st) h := je_iconst D23_35 rfl (by decide)
theorem D23_36 : decode (jt_code 23) 36 = .ok (.ireturn, 1) := by decide +kernel
theorem E23_36 {call : jv_F} {l0 l1 : Option Value} {v : Int32} {h : jv_H} (hn : narrow .boolean (.int v) = .int v) (hf : fits .boolean (.int v) = true) : jv_ev call 23 36 [l0, l1] [.int v] h = some (some (.int v), h) := je_iret (ty := .boolean) D23_36 rfl hn hf
/-! method 24: DrumMachineModel.choose -/
theorem N24 {d : Nat} {b : Nat} {h : jv_H} : jv_run (d + 1) 24 [.ref b] h = jv_ev (jv_run d) 24 0 [some (.ref b), none, none] [] h := jv_run_eq (Nat.le_of_ble_eq_true rfl) rfl
theorem D24_0 : decode (jt_code 24) 0 = .ok (.iconst (-1), 1) := by decide +kernel
theorem E24_0 {call : jv_F} {l0 l1 l2 : Option Value}  {st : List Value} {h : jv_H} : jv_ev call 24 0 [l0, l1, l2] st h = jv_ev call 24 1 [l0, l1, l2] (.int (-1) :: st) h := je_iconst D24_0 rfl (by decide)
theorem D24_1 : decode (jt_code 24) 1 = .ok (.istore_n 1, 1) := by decide +kernel
theorem E24_1 {call : jv_F} {l0 l1 l2 : Option Value} {x : Int32} {st : List Value} {h : jv_H} (hk : ¬ jv_is2 (some l0) = true) : jv_ev call 24 1 [l0, l1, l2] (.int x :: st) h = jv_ev call 24 2 [l0, some (.int x), l2] st h := je_istore_n D24_1 rfl (Nat.le_of_ble_eq_true rfl) (by show jv_st1 _ 1 _ = _; simp only [jv_st1, jv_kill, List.getElem?_cons_succ, List.getElem?_cons_zero, hk, if_false]; rfl)
theorem D24_2 : decode (jt_code 24) 2 = .ok (.iconst 0, 1) := by decide +kernel
theorem E24_2 {call : jv_F} {l0 l1 l2 : Option Value}  {st : List Value} {h : jv_H} : jv_ev call 24 2 [l0, l1, l2] st h = jv_ev call 24 3 [l0, l1, l2] (.int (nI 0) :: st) h := je_iconst D24_2 rfl (by decide)
theorem D24_3 : decode (jt_code 24) 3 = .ok (.istore_n 2, 1) := by decide +kernel
theorem E24_3 {call : jv_F} {l0 l1 l2 : Option Value} {x : Int32} {st : List Value} {h : jv_H} (hk : ¬ jv_is2 (some l1) = true) : jv_ev call 24 3 [l0, l1, l2] (.int x :: st) h = jv_ev call 24 4 [l0, l1, some (.int x)] st h := je_istore_n D24_3 rfl (Nat.le_of_ble_eq_true rfl) (by show jv_st1 _ 2 _ = _; simp only [jv_st1, jv_kill, List.getElem?_cons_succ, List.getElem?_cons_zero, hk, if_false]; rfl)
theorem D24_4 : decode (jt_code 24) 4 = .ok (.iload_n 2, 1) := by decide +kernel
theorem E24_4 {call : jv_F} {l0 l1 : Option Value} {x : Int32} {st : List Value} {h : jv_H} : jv_ev call 24 4 [l0, l1, some (.int x)] st h = jv_ev call 24 5 [l0, l1, some (.int x)] (.int x :: st) h := je_iload_n D24_4 rfl rfl
theorem D24_5 : decode (jt_code 24) 5 = .ok (.aload_n 0, 1) := by decide +kernel
theorem E24_5 {call : jv_F} {l1 l2 : Option Value} {a : Nat} {st : List Value} {h : jv_H} : jv_ev call 24 5 [some (.ref a), l1, l2] st h = jv_ev call 24 6 [some (.ref a), l1, l2] (.ref a :: st) h := je_aload_n (r := some a) D24_5 rfl rfl
theorem D24_6 : decode (jt_code 24) 6 = .ok (.getfield 7, 3) := by decide +kernel
theorem E24_6 {call : jv_F} {l0 l1 l2 : Option Value}  {st : List Value} {m : Nat} {I : Nat → Int32} {A : Nat → Nat → Int32} {L : Nat → Nat → Int64} {rest : Nat → Option jv_C} {z : Nat × Nat} : jv_ev call 24 6 [l0, l1, l2] (.ref m :: st) (jm_H m I A L rest z) = jv_ev call 24 9 [l0, l1, l2] (.int (I 0) :: st) (jm_H m I A L rest z) := je_get D24_6 rfl (by decide) jm_g0
theorem D24_9 : decode (jt_code 24) 9 = .ok (.if_icmp .ge 40, 3) := by decide +kernel
theorem E24_9 {call : jv_F} {l0 l1 l2 : Option Value} {x y : Int32} {st : List Value} {h : jv_H} : jv_ev call 24 9 [l0, l1, l2] (.int y :: .int x :: st) h = if y ≤ x then jv_ev call 24 49 [l0, l1, l2] st h else jv_ev call 24 12 [l0, l1, l2] st h := je_icmp D24_9 (by decide) rfl rfl
theorem D24_12 : decode (jt_code 24) 12 = .ok (.iload_n 1, 1) := by decide +kernel
theorem E24_12 {call : jv_F} {l0 l2 : Option Value} {x : Int32} {st : List Value} {h : jv_H} : jv_ev call 24 12 [l0, some (.int x), l2] st h = jv_ev call 24 13 [l0, some (.int x), l2] (.int x :: st) h := je_iload_n D24_12 rfl rfl
theorem D24_13 : decode (jt_code 24) 13 = .ok (.ifCond .ge 36, 3) := by decide +kernel
theorem E24_13 {call : jv_F} {l0 l1 l2 : Option Value} {x : Int32} {st : List Value} {h : jv_H} : jv_ev call 24 13 [l0, l1, l2] (.int x :: st) h = if 0 ≤ x then jv_ev call 24 49 [l0, l1, l2] st h else jv_ev call 24 16 [l0, l1, l2] st h := je_ifc D24_13 (by decide) rfl rfl
theorem D24_16 : decode (jt_code 24) 16 = .ok (.aload_n 0, 1) := by decide +kernel
theorem E24_16 {call : jv_F} {l1 l2 : Option Value} {a : Nat} {st : List Value} {h : jv_H} : jv_ev call 24 16 [some (.ref a), l1, l2] st h = jv_ev call 24 17 [some (.ref a), l1, l2] (.ref a :: st) h := je_aload_n (r := some a) D24_16 rfl rfl
theorem D24_17 : decode (jt_code 24) 17 = .ok (.iload_n 2, 1) := by decide +kernel
theorem E24_17 {call : jv_F} {l0 l1 : Option Value} {x : Int32} {st : List Value} {h : jv_H} : jv_ev call 24 17 [l0, l1, some (.int x)] st h = jv_ev call 24 18 [l0, l1, some (.int x)] (.int x :: st) h := je_iload_n D24_17 rfl rfl
theorem D24_18 : decode (jt_code 24) 18 = .ok (.invokevirtual 194, 3) := by decide +kernel
theorem E24_18 {call : jv_F} {l0 l1 l2 : Option Value} {v0 : Value}  {st : List Value} {m : Nat} {I : Nat → Int32} {A : Nat → Nat → Int32} {L : Nat → Nat → Int64} {rest : Nat → Option jv_C} {z : Nat × Nat} (hw : jv_wide st = true) (hc : (call 23 [.ref m, v0] (jm_H m I A L rest z)).isSome = true) : jv_ev call 24 18 [l0, l1, l2] (v0 :: .ref m :: st) (jm_H m I A L rest z) = jv_ev call 24 21 [l0, l1, l2] ((((call 23 [.ref m, v0] (jm_H m I A L rest z)).getD (none, (jm_H m I A L rest z))).1).toList ++ st) ((call 23 [.ref m, v0] (jm_H m I A L rest z)).getD (none, (jm_H m I A L rest z))).2 := by
  obtain ⟨⟨r, h'⟩, hv⟩ := Option.isSome_iff_exists.mp hc
  rw [hv]
  exact je_virt (y := 23) (as := [v0]) D24_18 rfl (by decide) (by decide) rfl jm_cl hw hv
theorem D24_21 : decode (jt_code 24) 21 = .ok (.ifCond .eq 22, 3) := by decide +kernel
theorem E24_21 {call : jv_F} {l0 l1 l2 : Option Value} {x : Int32} {st : List Value} {h : jv_H} : jv_ev call 24 21 [l0, l1, l2] (.int x :: st) h = if x = 0 then jv_ev call 24 43 [l0, l1, l2] st h else jv_ev call 24 24 [l0, l1, l2] st h := je_ifc D24_21 (by decide) rfl rfl
theorem D24_24 : decode (jt_code 24) 24 = .ok (.aload_n 0, 1) := by decide +kernel
theorem E24_24 {call : jv_F} {l1 l2 : Option Value} {a : Nat} {st : List Value} {h : jv_H} : jv_ev call 24 24 [some (.ref a), l1, l2] st h = jv_ev call 24 25 [some (.ref a), l1, l2] (.ref a :: st) h := je_aload_n (r := some a) D24_24 rfl rfl
theorem D24_25 : decode (jt_code 24) 25 = .ok (.getfield 73, 3) := by decide +kernel
theorem E24_25 {call : jv_F} {l0 l1 l2 : Option Value}  {st : List Value} {m : Nat} {I : Nat → Int32} {A : Nat → Nat → Int32} {L : Nat → Nat → Int64} {rest : Nat → Option jv_C} {z : Nat × Nat} : jv_ev call 24 25 [l0, l1, l2] (.ref m :: st) (jm_H m I A L rest z) = jv_ev call 24 28 [l0, l1, l2] (.ref (m + 20) :: st) (jm_H m I A L rest z) := je_get D24_25 rfl (by decide) jm_g24
theorem D24_28 : decode (jt_code 24) 28 = .ok (.iload_n 2, 1) := by decide +kernel
theorem E24_28 {call : jv_F} {l0 l1 : Option Value} {x : Int32} {st : List Value} {h : jv_H} : jv_ev call 24 28 [l0, l1, some (.int x)] st h = jv_ev call 24 29 [l0, l1, some (.int x)] (.int x :: st) h := je_iload_n D24_28 rfl rfl
theorem D24_29 : decode (jt_code 24) 29 = .ok (.iaload, 1) := by decide +kernel
theorem E24_29 {call : jv_F} {l0 l1 l2 : Option Value} {i : Nat} {st : List Value} {m : Nat} {I : Nat → Int32} {A : Nat → Nat → Int32} {L : Nat → Nat → Int64} {rest : Nat → Option jv_C} {z : Nat × Nat} (hi : i < 17) : jv_ev call 24 29 [l0, l1, l2] (.int (nI i) :: .ref (m + 20) :: st) (jm_H m I A L rest z) = jv_ev call 24 30 [l0, l1, l2] (.int (A 24 i) :: st) (jm_H m I A L rest z) := je_iald D24_29 rfl (jm_l24 hi)
theorem D24_30 : decode (jt_code 24) 30 = .ok (.aload_n 0, 1) := by decide +kernel
theorem E24_30 {call : jv_F} {l1 l2 : Option Value} {a : Nat} {st : List Value} {h : jv_H} : jv_ev call 24 30 [some (.ref a), l1, l2] st h = jv_ev call 24 31 [some (.ref a), l1, l2] (.ref a :: st) h := je_aload_n (r := some a) D24_30 rfl rfl
theorem D24_31 : decode (jt_code 24) 31 = .ok (.getfield 76, 3) := by decide +kernel
theorem E24_31 {call : jv_F} {l0 l1 l2 : Option Value}  {st : List Value} {m : Nat} {I : Nat → Int32} {A : Nat → Nat → Int32} {L : Nat → Nat → Int64} {rest : Nat → Option jv_C} {z : Nat × Nat} : jv_ev call 24 31 [l0, l1, l2] (.ref m :: st) (jm_H m I A L rest z) = jv_ev call 24 34 [l0, l1, l2] (.ref (m + 21) :: st) (jm_H m I A L rest z) := je_get D24_31 rfl (by decide) jm_g25
theorem D24_34 : decode (jt_code 24) 34 = .ok (.iload_n 2, 1) := by decide +kernel
theorem E24_34 {call : jv_F} {l0 l1 : Option Value} {x : Int32} {st : List Value} {h : jv_H} : jv_ev call 24 34 [l0, l1, some (.int x)] st h = jv_ev call 24 35 [l0, l1, some (.int x)] (.int x :: st) h := je_iload_n D24_34 rfl rfl
theorem D24_35 : decode (jt_code 24) 35 = .ok (.iaload, 1) := by decide +kernel
theorem E24_35 {call : jv_F} {l0 l1 l2 : Option Value} {i : Nat} {st : List Value} {m : Nat} {I : Nat → Int32} {A : Nat → Nat → Int32} {L : Nat → Nat → Int64} {rest : Nat → Option jv_C} {z : Nat × Nat} (hi : i < 17) : jv_ev call 24 35 [l0, l1, l2] (.int (nI i) :: .ref (m + 21) :: st) (jm_H m I A L rest z) = jv_ev call 24 36 [l0, l1, l2] (.int (A 25 i) :: st) (jm_H m I A L rest z) := je_iald D24_35 rfl (jm_l25 hi)
theorem D24_36 : decode (jt_code 24) 36 = .ok (.iconst 1, 1) := by decide +kernel
theorem E24_36 {call : jv_F} {l0 l1 l2 : Option Value}  {st : List Value} {h : jv_H} : jv_ev call 24 36 [l0, l1, l2] st h = jv_ev call 24 37 [l0, l1, l2] (.int (nI 1) :: st) h := je_iconst D24_36 rfl (by decide)
theorem D24_37 : decode (jt_code 24) 37 = .ok (.iadd, 1) := by decide +kernel
theorem E24_37 {call : jv_F} {l0 l1 l2 : Option Value} {x y : Int32} {st : List Value} {h : jv_H} : jv_ev call 24 37 [l0, l1, l2] (.int y :: .int x :: st) h = jv_ev call 24 38 [l0, l1, l2] (.int (x + y) :: st) h := je_b2 (f := fun x y => x + y) D24_37 rfl (fun _ => rfl)
theorem D24_38 : decode (jt_code 24) 38 = .ok (.if_icmp .le 5, 3) := by decide +kernel
theorem E24_38 {call : jv_F} {l0 l1 l2 : Option Value} {x y : Int32} {st : List Value} {h : jv_H} : jv_ev call 24 38 [l0, l1, l2] (.int y :: .int x :: st) h = if x ≤ y then jv_ev call 24 43 [l0, l1, l2] st h else jv_ev call 24 41 [l0, l1, l2] st h := je_icmp D24_38 (by decide) rfl rfl
theorem D24_41 : decode (jt_code 24) 41 = .ok (.iload_n 2, 1) := by decide +kernel
theorem E24_41 {call : jv_F} {l0 l1 : Option Value} {x : Int32} {st : List Value} {h : jv_H} : jv_ev call 24 41 [l0, l1, some (.int x)] st h = jv_ev call 24 42 [l0, l1, some (.int x)] (.int x :: st) h := je_iload_n D24_41 rfl rfl
theorem D24_42 : decode (jt_code 24) 42 = .ok (.istore_n 1, 1) := by decide +kernel
theorem E24_42 {call : jv_F} {l0 l1 l2 : Option Value} {x : Int32} {st : List Value} {h : jv_H} (hk : ¬ jv_is2 (some l0) = true) : jv_ev call 24 42 [l0, l1, l2] (.int x :: st) h = jv_ev call 24 43 [l0, some (.int x), l2] st h := je_istore_n D24_42 rfl (Nat.le_of_ble_eq_true rfl) (by show jv_st1 _ 1 _ = _; simp only [jv_st1, jv_kill, List.getElem?_cons_succ, List.getElem?_cons_zero, hk, if_false]; rfl)
theorem D24_43 : decode (jt_code 24) 43 = .ok (.iinc 2 1, 3) := by decide +kernel
theorem E24_43 {call : jv_F} {l0 l1 : Option Value} {x : Int32} {st : List Value} {h : jv_H} (hk : ¬ jv_is2 (some l1) = true) : jv_ev call 24 43 [l0, l1, some (.int x)] st h = jv_ev call 24 46 [l0, l1, some (.int (x + (nI 1)))] st h := je_iinc D24_43 rfl rfl (v := x + (nI 1)) (by rfl) (by show jv_st1 _ 2 _ = _; simp only [jv_st1, jv_kill, List.getElem?_cons_succ, List.getElem?_cons_zero, hk, if_false]; rfl)
theorem D24_46 : decode (jt_code 24) 46 = .ok (.goto (-42), 3) := by decide +kernel
theorem E24_46 {call : jv_F} {l0 l1 l2 : Option Value}  {st : List Value} {h : jv_H} : jv_ev call 24 46 [l0, l1, l2] st h = jv_ev call 24 4 [l0, l1, l2] st h := je_goto D24_46 (by decide)
theorem D24_49 : decode (jt_code 24) 49 = .ok (.iload_n 1, 1) := by decide +kernel
theorem E24_49 {call : jv_F} {l0 l2 : Option Value} {x : Int32} {st : List Value} {h : jv_H} : jv_ev call 24 49 [l0, some (.int x), l2] st h = jv_ev call 24 50 [l0, some (.int x), l2] (.int x :: st) h := je_iload_n D24_49 rfl rfl
theorem D24_50 : decode (jt_code 24) 50 = .ok (.ifCond .ge 71, 3) := by decide +kernel
theorem E24_50 {call : jv_F} {l0 l1 l2 : Option Value} {x : Int32} {st : List Value} {h : jv_H} : jv_ev call 24 50 [l0, l1, l2] (.int x :: st) h = if 0 ≤ x then jv_ev call 24 121 [l0, l1, l2] st h else jv_ev call 24 53 [l0, l1, l2] st h := je_ifc D24_50 (by decide) rfl rfl
theorem D24_53 : decode (jt_code 24) 53 = .ok (.iconst 0, 1) := by decide +kernel
theorem E24_53 {call : jv_F} {l0 l1 l2 : Option Value}  {st : List Value} {h : jv_H} : jv_ev call 24 53 [l0, l1, l2] st h = jv_ev call 24 54 [l0, l1, l2] (.int (nI 0) :: st) h := je_iconst D24_53 rfl (by decide)
theorem D24_54 : decode (jt_code 24) 54 = .ok (.istore_n 2, 1) := by decide +kernel
theorem E24_54 {call : jv_F} {l0 l1 l2 : Option Value} {x : Int32} {st : List Value} {h : jv_H} (hk : ¬ jv_is2 (some l1) = true) : jv_ev call 24 54 [l0, l1, l2] (.int x :: st) h = jv_ev call 24 55 [l0, l1, some (.int x)] st h := je_istore_n D24_54 rfl (Nat.le_of_ble_eq_true rfl) (by show jv_st1 _ 2 _ = _; simp only [jv_st1, jv_kill, List.getElem?_cons_succ, List.getElem?_cons_zero, hk, if_false]; rfl)
theorem D24_55 : decode (jt_code 24) 55 = .ok (.iload_n 2, 1) := by decide +kernel
theorem E24_55 {call : jv_F} {l0 l1 : Option Value} {x : Int32} {st : List Value} {h : jv_H} : jv_ev call 24 55 [l0, l1, some (.int x)] st h = jv_ev call 24 56 [l0, l1, some (.int x)] (.int x :: st) h := je_iload_n D24_55 rfl rfl
theorem D24_56 : decode (jt_code 24) 56 = .ok (.aload_n 0, 1) := by decide +kernel
theorem E24_56 {call : jv_F} {l1 l2 : Option Value} {a : Nat} {st : List Value} {h : jv_H} : jv_ev call 24 56 [some (.ref a), l1, l2] st h = jv_ev call 24 57 [some (.ref a), l1, l2] (.ref a :: st) h := je_aload_n (r := some a) D24_56 rfl rfl
theorem D24_57 : decode (jt_code 24) 57 = .ok (.getfield 7, 3) := by decide +kernel
theorem E24_57 {call : jv_F} {l0 l1 l2 : Option Value}  {st : List Value} {m : Nat} {I : Nat → Int32} {A : Nat → Nat → Int32} {L : Nat → Nat → Int64} {rest : Nat → Option jv_C} {z : Nat × Nat} : jv_ev call 24 57 [l0, l1, l2] (.ref m :: st) (jm_H m I A L rest z) = jv_ev call 24 60 [l0, l1, l2] (.int (I 0) :: st) (jm_H m I A L rest z) := je_get D24_57 rfl (by decide) jm_g0
theorem D24_60 : decode (jt_code 24) 60 = .ok (.if_icmp .ge 61, 3) := by decide +kernel
theorem E24_60 {call : jv_F} {l0 l1 l2 : Option Value} {x y : Int32} {st : List Value} {h : jv_H} : jv_ev call 24 60 [l0, l1, l2] (.int y :: .int x :: st) h = if y ≤ x then jv_ev call 24 121 [l0, l1, l2] st h else jv_ev call 24 63 [l0, l1, l2] st h := je_icmp D24_60 (by decide) rfl rfl
theorem D24_63 : decode (jt_code 24) 63 = .ok (.aload_n 0, 1) := by decide +kernel
theorem E24_63 {call : jv_F} {l1 l2 : Option Value} {a : Nat} {st : List Value} {h : jv_H} : jv_ev call 24 63 [some (.ref a), l1, l2] st h = jv_ev call 24 64 [some (.ref a), l1, l2] (.ref a :: st) h := je_aload_n (r := some a) D24_63 rfl rfl
theorem D24_64 : decode (jt_code 24) 64 = .ok (.iload_n 2, 1) := by decide +kernel
theorem E24_64 {call : jv_F} {l0 l1 : Option Value} {x : Int32} {st : List Value} {h : jv_H} : jv_ev call 24 64 [l0, l1, some (.int x)] st h = jv_ev call 24 65 [l0, l1, some (.int x)] (.int x :: st) h := je_iload_n D24_64 rfl rfl
theorem D24_65 : decode (jt_code 24) 65 = .ok (.invokevirtual 194, 3) := by decide +kernel
theorem E24_65 {call : jv_F} {l0 l1 l2 : Option Value} {v0 : Value}  {st : List Value} {m : Nat} {I : Nat → Int32} {A : Nat → Nat → Int32} {L : Nat → Nat → Int64} {rest : Nat → Option jv_C} {z : Nat × Nat} (hw : jv_wide st = true) (hc : (call 23 [.ref m, v0] (jm_H m I A L rest z)).isSome = true) : jv_ev call 24 65 [l0, l1, l2] (v0 :: .ref m :: st) (jm_H m I A L rest z) = jv_ev call 24 68 [l0, l1, l2] ((((call 23 [.ref m, v0] (jm_H m I A L rest z)).getD (none, (jm_H m I A L rest z))).1).toList ++ st) ((call 23 [.ref m, v0] (jm_H m I A L rest z)).getD (none, (jm_H m I A L rest z))).2 := by
  obtain ⟨⟨r, h'⟩, hv⟩ := Option.isSome_iff_exists.mp hc
  rw [hv]
  exact je_virt (y := 23) (as := [v0]) D24_65 rfl (by decide) (by decide) rfl jm_cl hw hv
theorem D24_68 : decode (jt_code 24) 68 = .ok (.ifCond .eq 47, 3) := by decide +kernel
theorem E24_68 {call : jv_F} {l0 l1 l2 : Option Value} {x : Int32} {st : List Value} {h : jv_H} : jv_ev call 24 68 [l0, l1, l2] (.int x :: st) h = if x = 0 then jv_ev call 24 115 [l0, l1, l2] st h else jv_ev call 24 71 [l0, l1, l2] st h := je_ifc D24_68 (by decide) rfl rfl
theorem D24_71 : decode (jt_code 24) 71 = .ok (.aload_n 0, 1) := by decide +kernel
theorem E24_71 {call : jv_F} {l1 l2 : Option Value} {a : Nat} {st : List Value} {h : jv_H} : jv_ev call 24 71 [some (.ref a), l1, l2] st h = jv_ev call 24 72 [some (.ref a), l1, l2] (.ref a :: st) h := je_aload_n (r := some a) D24_71 rfl rfl
theorem D24_72 : decode (jt_code 24) 72 = .ok (.getfield 73, 3) := by decide +kernel
theorem E24_72 {call : jv_F} {l0 l1 l2 : Option Value}  {st : List Value} {m : Nat} {I : Nat → Int32} {A : Nat → Nat → Int32} {L : Nat → Nat → Int64} {rest : Nat → Option jv_C} {z : Nat × Nat} : jv_ev call 24 72 [l0, l1, l2] (.ref m :: st) (jm_H m I A L rest z) = jv_ev call 24 75 [l0, l1, l2] (.ref (m + 20) :: st) (jm_H m I A L rest z) := je_get D24_72 rfl (by decide) jm_g24
theorem D24_75 : decode (jt_code 24) 75 = .ok (.iload_n 2, 1) := by decide +kernel
theorem E24_75 {call : jv_F} {l0 l1 : Option Value} {x : Int32} {st : List Value} {h : jv_H} : jv_ev call 24 75 [l0, l1, some (.int x)] st h = jv_ev call 24 76 [l0, l1, some (.int x)] (.int x :: st) h := je_iload_n D24_75 rfl rfl
theorem D24_76 : decode (jt_code 24) 76 = .ok (.iaload, 1) := by decide +kernel
theorem E24_76 {call : jv_F} {l0 l1 l2 : Option Value} {i : Nat} {st : List Value} {m : Nat} {I : Nat → Int32} {A : Nat → Nat → Int32} {L : Nat → Nat → Int64} {rest : Nat → Option jv_C} {z : Nat × Nat} (hi : i < 17) : jv_ev call 24 76 [l0, l1, l2] (.int (nI i) :: .ref (m + 20) :: st) (jm_H m I A L rest z) = jv_ev call 24 77 [l0, l1, l2] (.int (A 24 i) :: st) (jm_H m I A L rest z) := je_iald D24_76 rfl (jm_l24 hi)
theorem D24_77 : decode (jt_code 24) 77 = .ok (.ifCond .le 38, 3) := by decide +kernel
theorem E24_77 {call : jv_F} {l0 l1 l2 : Option Value} {x : Int32} {st : List Value} {h : jv_H} : jv_ev call 24 77 [l0, l1, l2] (.int x :: st) h = if x ≤ 0 then jv_ev call 24 115 [l0, l1, l2] st h else jv_ev call 24 80 [l0, l1, l2] st h := je_ifc D24_77 (by decide) rfl rfl
theorem D24_80 : decode (jt_code 24) 80 = .ok (.iload_n 1, 1) := by decide +kernel
theorem E24_80 {call : jv_F} {l0 l2 : Option Value} {x : Int32} {st : List Value} {h : jv_H} : jv_ev call 24 80 [l0, some (.int x), l2] st h = jv_ev call 24 81 [l0, some (.int x), l2] (.int x :: st) h := je_iload_n D24_80 rfl rfl
theorem D24_81 : decode (jt_code 24) 81 = .ok (.ifCond .lt 32, 3) := by decide +kernel
theorem E24_81 {call : jv_F} {l0 l1 l2 : Option Value} {x : Int32} {st : List Value} {h : jv_H} : jv_ev call 24 81 [l0, l1, l2] (.int x :: st) h = if x < 0 then jv_ev call 24 113 [l0, l1, l2] st h else jv_ev call 24 84 [l0, l1, l2] st h := je_ifc D24_81 (by decide) rfl rfl
theorem D24_84 : decode (jt_code 24) 84 = .ok (.aload_n 0, 1) := by decide +kernel
theorem E24_84 {call : jv_F} {l1 l2 : Option Value} {a : Nat} {st : List Value} {h : jv_H} : jv_ev call 24 84 [some (.ref a), l1, l2] st h = jv_ev call 24 85 [some (.ref a), l1, l2] (.ref a :: st) h := je_aload_n (r := some a) D24_84 rfl rfl
theorem D24_85 : decode (jt_code 24) 85 = .ok (.getfield 76, 3) := by decide +kernel
theorem E24_85 {call : jv_F} {l0 l1 l2 : Option Value}  {st : List Value} {m : Nat} {I : Nat → Int32} {A : Nat → Nat → Int32} {L : Nat → Nat → Int64} {rest : Nat → Option jv_C} {z : Nat × Nat} : jv_ev call 24 85 [l0, l1, l2] (.ref m :: st) (jm_H m I A L rest z) = jv_ev call 24 88 [l0, l1, l2] (.ref (m + 21) :: st) (jm_H m I A L rest z) := je_get D24_85 rfl (by decide) jm_g25
theorem D24_88 : decode (jt_code 24) 88 = .ok (.iload_n 2, 1) := by decide +kernel
theorem E24_88 {call : jv_F} {l0 l1 : Option Value} {x : Int32} {st : List Value} {h : jv_H} : jv_ev call 24 88 [l0, l1, some (.int x)] st h = jv_ev call 24 89 [l0, l1, some (.int x)] (.int x :: st) h := je_iload_n D24_88 rfl rfl
theorem D24_89 : decode (jt_code 24) 89 = .ok (.iaload, 1) := by decide +kernel
theorem E24_89 {call : jv_F} {l0 l1 l2 : Option Value} {i : Nat} {st : List Value} {m : Nat} {I : Nat → Int32} {A : Nat → Nat → Int32} {L : Nat → Nat → Int64} {rest : Nat → Option jv_C} {z : Nat × Nat} (hi : i < 17) : jv_ev call 24 89 [l0, l1, l2] (.int (nI i) :: .ref (m + 21) :: st) (jm_H m I A L rest z) = jv_ev call 24 90 [l0, l1, l2] (.int (A 25 i) :: st) (jm_H m I A L rest z) := je_iald D24_89 rfl (jm_l25 hi)
theorem D24_90 : decode (jt_code 24) 90 = .ok (.aload_n 0, 1) := by decide +kernel
theorem E24_90 {call : jv_F} {l1 l2 : Option Value} {a : Nat} {st : List Value} {h : jv_H} : jv_ev call 24 90 [some (.ref a), l1, l2] st h = jv_ev call 24 91 [some (.ref a), l1, l2] (.ref a :: st) h := je_aload_n (r := some a) D24_90 rfl rfl
theorem D24_91 : decode (jt_code 24) 91 = .ok (.getfield 73, 3) := by decide +kernel
theorem E24_91 {call : jv_F} {l0 l1 l2 : Option Value}  {st : List Value} {m : Nat} {I : Nat → Int32} {A : Nat → Nat → Int32} {L : Nat → Nat → Int64} {rest : Nat → Option jv_C} {z : Nat × Nat} : jv_ev call 24 91 [l0, l1, l2] (.ref m :: st) (jm_H m I A L rest z) = jv_ev call 24 94 [l0, l1, l2] (.ref (m + 20) :: st) (jm_H m I A L rest z) := je_get D24_91 rfl (by decide) jm_g24
theorem D24_94 : decode (jt_code 24) 94 = .ok (.iload_n 2, 1) := by decide +kernel
theorem E24_94 {call : jv_F} {l0 l1 : Option Value} {x : Int32} {st : List Value} {h : jv_H} : jv_ev call 24 94 [l0, l1, some (.int x)] st h = jv_ev call 24 95 [l0, l1, some (.int x)] (.int x :: st) h := je_iload_n D24_94 rfl rfl
theorem D24_95 : decode (jt_code 24) 95 = .ok (.iaload, 1) := by decide +kernel
theorem E24_95 {call : jv_F} {l0 l1 l2 : Option Value} {i : Nat} {st : List Value} {m : Nat} {I : Nat → Int32} {A : Nat → Nat → Int32} {L : Nat → Nat → Int64} {rest : Nat → Option jv_C} {z : Nat × Nat} (hi : i < 17) : jv_ev call 24 95 [l0, l1, l2] (.int (nI i) :: .ref (m + 20) :: st) (jm_H m I A L rest z) = jv_ev call 24 96 [l0, l1, l2] (.int (A 24 i) :: st) (jm_H m I A L rest z) := je_iald D24_95 rfl (jm_l24 hi)
theorem D24_96 : decode (jt_code 24) 96 = .ok (.isub, 1) := by decide +kernel
theorem E24_96 {call : jv_F} {l0 l1 l2 : Option Value} {x y : Int32} {st : List Value} {h : jv_H} : jv_ev call 24 96 [l0, l1, l2] (.int y :: .int x :: st) h = jv_ev call 24 97 [l0, l1, l2] (.int (x - y) :: st) h := je_b2 (f := fun x y => x - y) D24_96 rfl (fun _ => rfl)
theorem D24_97 : decode (jt_code 24) 97 = .ok (.aload_n 0, 1) := by decide +kernel
theorem E24_97 {call : jv_F} {l1 l2 : Option Value} {a : Nat} {st : List Value} {h : jv_H} : jv_ev call 24 97 [some (.ref a), l1, l2] st h = jv_ev call 24 98 [some (.ref a), l1, l2] (.ref a :: st) h := je_aload_n (r := some a) D24_97 rfl rfl
theorem D24_98 : decode (jt_code 24) 98 = .ok (.getfield 76, 3) := by decide +kernel
theorem E24_98 {call : jv_F} {l0 l1 l2 : Option Value}  {st : List Value} {m : Nat} {I : Nat → Int32} {A : Nat → Nat → Int32} {L : Nat → Nat → Int64} {rest : Nat → Option jv_C} {z : Nat × Nat} : jv_ev call 24 98 [l0, l1, l2] (.ref m :: st) (jm_H m I A L rest z) = jv_ev call 24 101 [l0, l1, l2] (.ref (m + 21) :: st) (jm_H m I A L rest z) := je_get D24_98 rfl (by decide) jm_g25
theorem D24_101 : decode (jt_code 24) 101 = .ok (.iload_n 1, 1) := by decide +kernel
theorem E24_101 {call : jv_F} {l0 l2 : Option Value} {x : Int32} {st : List Value} {h : jv_H} : jv_ev call 24 101 [l0, some (.int x), l2] st h = jv_ev call 24 102 [l0, some (.int x), l2] (.int x :: st) h := je_iload_n D24_101 rfl rfl
theorem D24_102 : decode (jt_code 24) 102 = .ok (.iaload, 1) := by decide +kernel
theorem E24_102 {call : jv_F} {l0 l1 l2 : Option Value} {i : Nat} {st : List Value} {m : Nat} {I : Nat → Int32} {A : Nat → Nat → Int32} {L : Nat → Nat → Int64} {rest : Nat → Option jv_C} {z : Nat × Nat} (hi : i < 17) : jv_ev call 24 102 [l0, l1, l2] (.int (nI i) :: .ref (m + 21) :: st) (jm_H m I A L rest z) = jv_ev call 24 103 [l0, l1, l2] (.int (A 25 i) :: st) (jm_H m I A L rest z) := je_iald D24_102 rfl (jm_l25 hi)
theorem D24_103 : decode (jt_code 24) 103 = .ok (.aload_n 0, 1) := by decide +kernel
theorem E24_103 {call : jv_F} {l1 l2 : Option Value} {a : Nat} {st : List Value} {h : jv_H} : jv_ev call 24 103 [some (.ref a), l1, l2] st h = jv_ev call 24 104 [some (.ref a), l1, l2] (.ref a :: st) h := je_aload_n (r := some a) D24_103 rfl rfl
theorem D24_104 : decode (jt_code 24) 104 = .ok (.getfield 73, 3) := by decide +kernel
theorem E24_104 {call : jv_F} {l0 l1 l2 : Option Value}  {st : List Value} {m : Nat} {I : Nat → Int32} {A : Nat → Nat → Int32} {L : Nat → Nat → Int64} {rest : Nat → Option jv_C} {z : Nat × Nat} : jv_ev call 24 104 [l0, l1, l2] (.ref m :: st) (jm_H m I A L rest z) = jv_ev call 24 107 [l0, l1, l2] (.ref (m + 20) :: st) (jm_H m I A L rest z) := je_get D24_104 rfl (by decide) jm_g24
theorem D24_107 : decode (jt_code 24) 107 = .ok (.iload_n 1, 1) := by decide +kernel
theorem E24_107 {call : jv_F} {l0 l2 : Option Value} {x : Int32} {st : List Value} {h : jv_H} : jv_ev call 24 107 [l0, some (.int x), l2] st h = jv_ev call 24 108 [l0, some (.int x), l2] (.int x :: st) h := je_iload_n D24_107 rfl rfl
theorem D24_108 : decode (jt_code 24) 108 = .ok (.iaload, 1) := by decide +kernel
theorem E24_108 {call : jv_F} {l0 l1 l2 : Option Value} {i : Nat} {st : List Value} {m : Nat} {I : Nat → Int32} {A : Nat → Nat → Int32} {L : Nat → Nat → Int64} {rest : Nat → Option jv_C} {z : Nat × Nat} (hi : i < 17) : jv_ev call 24 108 [l0, l1, l2] (.int (nI i) :: .ref (m + 20) :: st) (jm_H m I A L rest z) = jv_ev call 24 109 [l0, l1, l2] (.int (A 24 i) :: st) (jm_H m I A L rest z) := je_iald D24_108 rfl (jm_l24 hi)
theorem D24_109 : decode (jt_code 24) 109 = .ok (.isub, 1) := by decide +kernel
theorem E24_109 {call : jv_F} {l0 l1 l2 : Option Value} {x y : Int32} {st : List Value} {h : jv_H} : jv_ev call 24 109 [l0, l1, l2] (.int y :: .int x :: st) h = jv_ev call 24 110 [l0, l1, l2] (.int (x - y) :: st) h := je_b2 (f := fun x y => x - y) D24_109 rfl (fun _ => rfl)
theorem D24_110 : decode (jt_code 24) 110 = .ok (.if_icmp .le 5, 3) := by decide +kernel
theorem E24_110 {call : jv_F} {l0 l1 l2 : Option Value} {x y : Int32} {st : List Value} {h : jv_H} : jv_ev call 24 110 [l0, l1, l2] (.int y :: .int x :: st) h = if x ≤ y then jv_ev call 24 115 [l0, l1, l2] st h else jv_ev call 24 113 [l0, l1, l2] st h := je_icmp D24_110 (by decide) rfl rfl
theorem D24_113 : decode (jt_code 24) 113 = .ok (.iload_n 2, 1) := by decide +kernel
theorem E24_113 {call : jv_F} {l0 l1 : Option Value} {x : Int32} {st : List Value} {h : jv_H} : jv_ev call 24 113 [l0, l1, some (.int x)] st h = jv_ev call 24 114 [l0, l1, some (.int x)] (.int x :: st) h := je_iload_n D24_113 rfl rfl
theorem D24_114 : decode (jt_code 24) 114 = .ok (.istore_n 1, 1) := by decide +kernel
theorem E24_114 {call : jv_F} {l0 l1 l2 : Option Value} {x : Int32} {st : List Value} {h : jv_H} (hk : ¬ jv_is2 (some l0) = true) : jv_ev call 24 114 [l0, l1, l2] (.int x :: st) h = jv_ev call 24 115 [l0, some (.int x), l2] st h := je_istore_n D24_114 rfl (Nat.le_of_ble_eq_true rfl) (by show jv_st1 _ 1 _ = _; simp only [jv_st1, jv_kill, List.getElem?_cons_succ, List.getElem?_cons_zero, hk, if_false]; rfl)
theorem D24_115 : decode (jt_code 24) 115 = .ok (.iinc 2 1, 3) := by decide +kernel
theorem E24_115 {call : jv_F} {l0 l1 : Option Value} {x : Int32} {st : List Value} {h : jv_H} (hk : ¬ jv_is2 (some l1) = true) : jv_ev call 24 115 [l0, l1, some (.int x)] st h = jv_ev call 24 118 [l0, l1, some (.int (x + (nI 1)))] st h := je_iinc D24_115 rfl rfl (v := x + (nI 1)) (by rfl) (by show jv_st1 _ 2 _ = _; simp only [jv_st1, jv_kill, List.getElem?_cons_succ, List.getElem?_cons_zero, hk, if_false]; rfl)
theorem D24_118 : decode (jt_code 24) 118 = .ok (.goto (-63), 3) := by decide +kernel
theorem E24_118 {call : jv_F} {l0 l1 l2 : Option Value}  {st : List Value} {h : jv_H} : jv_ev call 24 118 [l0, l1, l2] st h = jv_ev call 24 55 [l0, l1, l2] st h := je_goto D24_118 (by decide)
theorem D24_121 : decode (jt_code 24) 121 = .ok (.iload_n 1, 1) := by decide +kernel
theorem E24_121 {call : jv_F} {l0 l2 : Option Value} {x : Int32} {st : List Value} {h : jv_H} : jv_ev call 24 121 [l0, some (.int x), l2] st h = jv_ev call 24 122 [l0, some (.int x), l2] (.int x :: st) h := je_iload_n D24_121 rfl rfl
theorem D24_122 : decode (jt_code 24) 122 = .ok (.ifCond .ge 48, 3) := by decide +kernel
theorem E24_122 {call : jv_F} {l0 l1 l2 : Option Value} {x : Int32} {st : List Value} {h : jv_H} : jv_ev call 24 122 [l0, l1, l2] (.int x :: st) h = if 0 ≤ x then jv_ev call 24 170 [l0, l1, l2] st h else jv_ev call 24 125 [l0, l1, l2] st h := je_ifc D24_122 (by decide) rfl rfl
theorem D24_125 : decode (jt_code 24) 125 = .ok (.iconst 0, 1) := by decide +kernel
theorem E24_125 {call : jv_F} {l0 l1 l2 : Option Value}  {st : List Value} {h : jv_H} : jv_ev call 24 125 [l0, l1, l2] st h = jv_ev call 24 126 [l0, l1, l2] (.int (nI 0) :: st) h := je_iconst D24_125 rfl (by decide)
theorem D24_126 : decode (jt_code 24) 126 = .ok (.istore_n 2, 1) := by decide +kernel
theorem E24_126 {call : jv_F} {l0 l1 l2 : Option Value} {x : Int32} {st : List Value} {h : jv_H} (hk : ¬ jv_is2 (some l1) = true) : jv_ev call 24 126 [l0, l1, l2] (.int x :: st) h = jv_ev call 24 127 [l0, l1, some (.int x)] st h := je_istore_n D24_126 rfl (Nat.le_of_ble_eq_true rfl) (by show jv_st1 _ 2 _ = _; simp only [jv_st1, jv_kill, List.getElem?_cons_succ, List.getElem?_cons_zero, hk, if_false]; rfl)
theorem D24_127 : decode (jt_code 24) 127 = .ok (.iload_n 2, 1) := by decide +kernel
theorem E24_127 {call : jv_F} {l0 l1 : Option Value} {x : Int32} {st : List Value} {h : jv_H} : jv_ev call 24 127 [l0, l1, some (.int x)] st h = jv_ev call 24 128 [l0, l1, some (.int x)] (.int x :: st) h := je_iload_n D24_127 rfl rfl
theorem D24_128 : decode (jt_code 24) 128 = .ok (.aload_n 0, 1) := by decide +kernel
theorem E24_128 {call : jv_F} {l1 l2 : Option Value} {a : Nat} {st : List Value} {h : jv_H} : jv_ev call 24 128 [some (.ref a), l1, l2] st h = jv_ev call 24 129 [some (.ref a), l1, l2] (.ref a :: st) h := je_aload_n (r := some a) D24_128 rfl rfl
theorem D24_129 : decode (jt_code 24) 129 = .ok (.getfield 7, 3) := by decide +kernel
theorem E24_129 {call : jv_F} {l0 l1 l2 : Option Value}  {st : List Value} {m : Nat} {I : Nat → Int32} {A : Nat → Nat → Int32} {L : Nat → Nat → Int64} {rest : Nat → Option jv_C} {z : Nat × Nat} : jv_ev call 24 129 [l0, l1, l2] (.ref m :: st) (jm_H m I A L rest z) = jv_ev call 24 132 [l0, l1, l2] (.int (I 0) :: st) (jm_H m I A L rest z) := je_get D24_129 rfl (by decide) jm_g0
theorem D24_132 : decode (jt_code 24) 132 = .ok (.if_icmp .ge 38, 3) := by decide +kernel
theorem E24_132 {call : jv_F} {l0 l1 l2 : Option Value} {x y : Int32} {st : List Value} {h : jv_H} : jv_ev call 24 132 [l0, l1, l2] (.int y :: .int x :: st) h = if y ≤ x then jv_ev call 24 170 [l0, l1, l2] st h else jv_ev call 24 135 [l0, l1, l2] st h := je_icmp D24_132 (by decide) rfl rfl
theorem D24_135 : decode (jt_code 24) 135 = .ok (.aload_n 0, 1) := by decide +kernel
theorem E24_135 {call : jv_F} {l1 l2 : Option Value} {a : Nat} {st : List Value} {h : jv_H} : jv_ev call 24 135 [some (.ref a), l1, l2] st h = jv_ev call 24 136 [some (.ref a), l1, l2] (.ref a :: st) h := je_aload_n (r := some a) D24_135 rfl rfl
theorem D24_136 : decode (jt_code 24) 136 = .ok (.iload_n 2, 1) := by decide +kernel
theorem E24_136 {call : jv_F} {l0 l1 : Option Value} {x : Int32} {st : List Value} {h : jv_H} : jv_ev call 24 136 [l0, l1, some (.int x)] st h = jv_ev call 24 137 [l0, l1, some (.int x)] (.int x :: st) h := je_iload_n D24_136 rfl rfl
theorem D24_137 : decode (jt_code 24) 137 = .ok (.invokevirtual 194, 3) := by decide +kernel
theorem E24_137 {call : jv_F} {l0 l1 l2 : Option Value} {v0 : Value}  {st : List Value} {m : Nat} {I : Nat → Int32} {A : Nat → Nat → Int32} {L : Nat → Nat → Int64} {rest : Nat → Option jv_C} {z : Nat × Nat} (hw : jv_wide st = true) (hc : (call 23 [.ref m, v0] (jm_H m I A L rest z)).isSome = true) : jv_ev call 24 137 [l0, l1, l2] (v0 :: .ref m :: st) (jm_H m I A L rest z) = jv_ev call 24 140 [l0, l1, l2] ((((call 23 [.ref m, v0] (jm_H m I A L rest z)).getD (none, (jm_H m I A L rest z))).1).toList ++ st) ((call 23 [.ref m, v0] (jm_H m I A L rest z)).getD (none, (jm_H m I A L rest z))).2 := by
  obtain ⟨⟨r, h'⟩, hv⟩ := Option.isSome_iff_exists.mp hc
  rw [hv]
  exact je_virt (y := 23) (as := [v0]) D24_137 rfl (by decide) (by decide) rfl jm_cl hw hv
theorem D24_140 : decode (jt_code 24) 140 = .ok (.ifCond .eq 24, 3) := by decide +kernel
theorem E24_140 {call : jv_F} {l0 l1 l2 : Option Value} {x : Int32} {st : List Value} {h : jv_H} : jv_ev call 24 140 [l0, l1, l2] (.int x :: st) h = if x = 0 then jv_ev call 24 164 [l0, l1, l2] st h else jv_ev call 24 143 [l0, l1, l2] st h := je_ifc D24_140 (by decide) rfl rfl
theorem D24_143 : decode (jt_code 24) 143 = .ok (.iload_n 1, 1) := by decide +kernel
theorem E24_143 {call : jv_F} {l0 l2 : Option Value} {x : Int32} {st : List Value} {h : jv_H} : jv_ev call 24 143 [l0, some (.int x), l2] st h = jv_ev call 24 144 [l0, some (.int x), l2] (.int x :: st) h := je_iload_n D24_143 rfl rfl
theorem D24_144 : decode (jt_code 24) 144 = .ok (.ifCond .lt 18, 3) := by decide +kernel
theorem E24_144 {call : jv_F} {l0 l1 l2 : Option Value} {x : Int32} {st : List Value} {h : jv_H} : jv_ev call 24 144 [l0, l1, l2] (.int x :: st) h = if x < 0 then jv_ev call 24 162 [l0, l1, l2] st h else jv_ev call 24 147 [l0, l1, l2] st h := je_ifc D24_144 (by decide) rfl rfl
theorem D24_147 : decode (jt_code 24) 147 = .ok (.aload_n 0, 1) := by decide +kernel
theorem E24_147 {call : jv_F} {l1 l2 : Option Value} {a : Nat} {st : List Value} {h : jv_H} : jv_ev call 24 147 [some (.ref a), l1, l2] st h = jv_ev call 24 148 [some (.ref a), l1, l2] (.ref a :: st) h := je_aload_n (r := some a) D24_147 rfl rfl
theorem D24_148 : decode (jt_code 24) 148 = .ok (.getfield 76, 3) := by decide +kernel
theorem E24_148 {call : jv_F} {l0 l1 l2 : Option Value}  {st : List Value} {m : Nat} {I : Nat → Int32} {A : Nat → Nat → Int32} {L : Nat → Nat → Int64} {rest : Nat → Option jv_C} {z : Nat × Nat} : jv_ev call 24 148 [l0, l1, l2] (.ref m :: st) (jm_H m I A L rest z) = jv_ev call 24 151 [l0, l1, l2] (.ref (m + 21) :: st) (jm_H m I A L rest z) := je_get D24_148 rfl (by decide) jm_g25
theorem D24_151 : decode (jt_code 24) 151 = .ok (.iload_n 2, 1) := by decide +kernel
theorem E24_151 {call : jv_F} {l0 l1 : Option Value} {x : Int32} {st : List Value} {h : jv_H} : jv_ev call 24 151 [l0, l1, some (.int x)] st h = jv_ev call 24 152 [l0, l1, some (.int x)] (.int x :: st) h := je_iload_n D24_151 rfl rfl
theorem D24_152 : decode (jt_code 24) 152 = .ok (.iaload, 1) := by decide +kernel
theorem E24_152 {call : jv_F} {l0 l1 l2 : Option Value} {i : Nat} {st : List Value} {m : Nat} {I : Nat → Int32} {A : Nat → Nat → Int32} {L : Nat → Nat → Int64} {rest : Nat → Option jv_C} {z : Nat × Nat} (hi : i < 17) : jv_ev call 24 152 [l0, l1, l2] (.int (nI i) :: .ref (m + 21) :: st) (jm_H m I A L rest z) = jv_ev call 24 153 [l0, l1, l2] (.int (A 25 i) :: st) (jm_H m I A L rest z) := je_iald D24_152 rfl (jm_l25 hi)
theorem D24_153 : decode (jt_code 24) 153 = .ok (.aload_n 0, 1) := by decide +kernel
theorem E24_153 {call : jv_F} {l1 l2 : Option Value} {a : Nat} {st : List Value} {h : jv_H} : jv_ev call 24 153 [some (.ref a), l1, l2] st h = jv_ev call 24 154 [some (.ref a), l1, l2] (.ref a :: st) h := je_aload_n (r := some a) D24_153 rfl rfl
theorem D24_154 : decode (jt_code 24) 154 = .ok (.getfield 76, 3) := by decide +kernel
theorem E24_154 {call : jv_F} {l0 l1 l2 : Option Value}  {st : List Value} {m : Nat} {I : Nat → Int32} {A : Nat → Nat → Int32} {L : Nat → Nat → Int64} {rest : Nat → Option jv_C} {z : Nat × Nat} : jv_ev call 24 154 [l0, l1, l2] (.ref m :: st) (jm_H m I A L rest z) = jv_ev call 24 157 [l0, l1, l2] (.ref (m + 21) :: st) (jm_H m I A L rest z) := je_get D24_154 rfl (by decide) jm_g25
theorem D24_157 : decode (jt_code 24) 157 = .ok (.iload_n 1, 1) := by decide +kernel
theorem E24_157 {call : jv_F} {l0 l2 : Option Value} {x : Int32} {st : List Value} {h : jv_H} : jv_ev call 24 157 [l0, some (.int x), l2] st h = jv_ev call 24 158 [l0, some (.int x), l2] (.int x :: st) h := je_iload_n D24_157 rfl rfl
theorem D24_158 : decode (jt_code 24) 158 = .ok (.iaload, 1) := by decide +kernel
theorem E24_158 {call : jv_F} {l0 l1 l2 : Option Value} {i : Nat} {st : List Value} {m : Nat} {I : Nat → Int32} {A : Nat → Nat → Int32} {L : Nat → Nat → Int64} {rest : Nat → Option jv_C} {z : Nat × Nat} (hi : i < 17) : jv_ev call 24 158 [l0, l1, l2] (.int (nI i) :: .ref (m + 21) :: st) (jm_H m I A L rest z) = jv_ev call 24 159 [l0, l1, l2] (.int (A 25 i) :: st) (jm_H m I A L rest z) := je_iald D24_158 rfl (jm_l25 hi)
theorem D24_159 : decode (jt_code 24) 159 = .ok (.if_icmp .le 5, 3) := by decide +kernel
theorem E24_159 {call : jv_F} {l0 l1 l2 : Option Value} {x y : Int32} {st : List Value} {h : jv_H} : jv_ev call 24 159 [l0, l1, l2] (.int y :: .int x :: st) h = if x ≤ y then jv_ev call 24 164 [l0, l1, l2] st h else jv_ev call 24 162 [l0, l1, l2] st h := je_icmp D24_159 (by decide) rfl rfl
theorem D24_162 : decode (jt_code 24) 162 = .ok (.iload_n 2, 1) := by decide +kernel
theorem E24_162 {call : jv_F} {l0 l1 : Option Value} {x : Int32} {st : List Value} {h : jv_H} : jv_ev call 24 162 [l0, l1, some (.int x)] st h = jv_ev call 24 163 [l0, l1, some (.int x)] (.int x :: st) h := je_iload_n D24_162 rfl rfl
theorem D24_163 : decode (jt_code 24) 163 = .ok (.istore_n 1, 1) := by decide +kernel
theorem E24_163 {call : jv_F} {l0 l1 l2 : Option Value} {x : Int32} {st : List Value} {h : jv_H} (hk : ¬ jv_is2 (some l0) = true) : jv_ev call 24 163 [l0, l1, l2] (.int x :: st) h = jv_ev call 24 164 [l0, some (.int x), l2] st h := je_istore_n D24_163 rfl (Nat.le_of_ble_eq_true rfl) (by show jv_st1 _ 1 _ = _; simp only [jv_st1, jv_kill, List.getElem?_cons_succ, List.getElem?_cons_zero, hk, if_false]; rfl)
theorem D24_164 : decode (jt_code 24) 164 = .ok (.iinc 2 1, 3) := by decide +kernel
theorem E24_164 {call : jv_F} {l0 l1 : Option Value} {x : Int32} {st : List Value} {h : jv_H} (hk : ¬ jv_is2 (some l1) = true) : jv_ev call 24 164 [l0, l1, some (.int x)] st h = jv_ev call 24 167 [l0, l1, some (.int (x + (nI 1)))] st h := je_iinc D24_164 rfl rfl (v := x + (nI 1)) (by rfl) (by show jv_st1 _ 2 _ = _; simp only [jv_st1, jv_kill, List.getElem?_cons_succ, List.getElem?_cons_zero, hk, if_false]; rfl)
theorem D24_167 : decode (jt_code 24) 167 = .ok (.goto (-40), 3) := by decide +kernel
theorem E24_167 {call : jv_F} {l0 l1 l2 : Option Value}  {st : List Value} {h : jv_H} : jv_ev call 24 167 [l0, l1, l2] st h = jv_ev call 24 127 [l0, l1, l2] st h := je_goto D24_167 (by decide)
theorem D24_170 : decode (jt_code 24) 170 = .ok (.iload_n 1, 1) := by decide +kernel
theorem E24_170 {call : jv_F} {l0 l2 : Option Value} {x : Int32} {st : List Value} {h : jv_H} : jv_ev call 24 170 [l0, some (.int x), l2] st h = jv_ev call 24 171 [l0, some (.int x), l2] (.int x :: st) h := je_iload_n D24_170 rfl rfl
theorem D24_171 : decode (jt_code 24) 171 = .ok (.ifCond .ge 4, 3) := by decide +kernel
theorem E24_171 {call : jv_F} {l0 l1 l2 : Option Value} {x : Int32} {st : List Value} {h : jv_H} : jv_ev call 24 171 [l0, l1, l2] (.int x :: st) h = if 0 ≤ x then jv_ev call 24 175 [l0, l1, l2] st h else jv_ev call 24 174 [l0, l1, l2] st h := je_ifc D24_171 (by decide) rfl rfl
theorem D24_174 : decode (jt_code 24) 174 = .ok (.return_, 1) := by decide +kernel
theorem E24_174 {call : jv_F} {l0 l1 l2 : Option Value}  {h : jv_H} : jv_ev call 24 174 [l0, l1, l2] [] h = some (none, h) := je_ret D24_174 rfl
theorem D24_175 : decode (jt_code 24) 175 = .ok (.aload_n 0, 1) := by decide +kernel
theorem E24_175 {call : jv_F} {l1 l2 : Option Value} {a : Nat} {st : List Value} {h : jv_H} : jv_ev call 24 175 [some (.ref a), l1, l2] st h = jv_ev call 24 176 [some (.ref a), l1, l2] (.ref a :: st) h := je_aload_n (r := some a) D24_175 rfl rfl
theorem D24_176 : decode (jt_code 24) 176 = .ok (.getfield 67, 3) := by decide +kernel
theorem E24_176 {call : jv_F} {l0 l1 l2 : Option Value}  {st : List Value} {m : Nat} {I : Nat → Int32} {A : Nat → Nat → Int32} {L : Nat → Nat → Int64} {rest : Nat → Option jv_C} {z : Nat × Nat} : jv_ev call 24 176 [l0, l1, l2] (.ref m :: st) (jm_H m I A L rest z) = jv_ev call 24 179 [l0, l1, l2] (.ref (m + 18) :: st) (jm_H m I A L rest z) := je_get D24_176 rfl (by decide) jm_g21
theorem D24_179 : decode (jt_code 24) 179 = .ok (.aload_n 0, 1) := by decide +kernel
theorem E24_179 {call : jv_F} {l1 l2 : Option Value} {a : Nat} {st : List Value} {h : jv_H} : jv_ev call 24 179 [some (.ref a), l1, l2] st h = jv_ev call 24 180 [some (.ref a), l1, l2] (.ref a :: st) h := je_aload_n (r := some a) D24_179 rfl rfl
theorem D24_180 : decode (jt_code 24) 180 = .ok (.getfield 70, 3) := by decide +kernel
theorem E24_180 {call : jv_F} {l0 l1 l2 : Option Value}  {st : List Value} {m : Nat} {I : Nat → Int32} {A : Nat → Nat → Int32} {L : Nat → Nat → Int64} {rest : Nat → Option jv_C} {z : Nat × Nat} : jv_ev call 24 180 [l0, l1, l2] (.ref m :: st) (jm_H m I A L rest z) = jv_ev call 24 183 [l0, l1, l2] (.ref (m + 19) :: st) (jm_H m I A L rest z) := je_get D24_180 rfl (by decide) jm_g23
theorem D24_183 : decode (jt_code 24) 183 = .ok (.iload_n 1, 1) := by decide +kernel
theorem E24_183 {call : jv_F} {l0 l2 : Option Value} {x : Int32} {st : List Value} {h : jv_H} : jv_ev call 24 183 [l0, some (.int x), l2] st h = jv_ev call 24 184 [l0, some (.int x), l2] (.int x :: st) h := je_iload_n D24_183 rfl rfl
theorem D24_184 : decode (jt_code 24) 184 = .ok (.iaload, 1) := by decide +kernel
theorem E24_184 {call : jv_F} {l0 l1 l2 : Option Value} {i : Nat} {st : List Value} {m : Nat} {I : Nat → Int32} {A : Nat → Nat → Int32} {L : Nat → Nat → Int64} {rest : Nat → Option jv_C} {z : Nat × Nat} (hi : i < 17) : jv_ev call 24 184 [l0, l1, l2] (.int (nI i) :: .ref (m + 19) :: st) (jm_H m I A L rest z) = jv_ev call 24 185 [l0, l1, l2] (.int (A 23 i) :: st) (jm_H m I A L rest z) := je_iald D24_184 rfl (jm_l23 hi)
theorem D24_185 : decode (jt_code 24) 185 = .ok (.aload_n 0, 1) := by decide +kernel
theorem E24_185 {call : jv_F} {l1 l2 : Option Value} {a : Nat} {st : List Value} {h : jv_H} : jv_ev call 24 185 [some (.ref a), l1, l2] st h = jv_ev call 24 186 [some (.ref a), l1, l2] (.ref a :: st) h := je_aload_n (r := some a) D24_185 rfl rfl
theorem D24_186 : decode (jt_code 24) 186 = .ok (.getfield 188, 3) := by decide +kernel
theorem E24_186 {call : jv_F} {l0 l1 l2 : Option Value}  {st : List Value} {m : Nat} {I : Nat → Int32} {A : Nat → Nat → Int32} {L : Nat → Nat → Int64} {rest : Nat → Option jv_C} {z : Nat × Nat} : jv_ev call 24 186 [l0, l1, l2] (.ref m :: st) (jm_H m I A L rest z) = jv_ev call 24 189 [l0, l1, l2] (.int (I 42) :: st) (jm_H m I A L rest z) := je_get D24_186 rfl (by decide) jm_g42
theorem D24_189 : decode (jt_code 24) 189 = .ok (.iastore, 1) := by decide +kernel
theorem E24_189 {call : jv_F} {l0 l1 l2 : Option Value} {i : Nat} {v : Int32} {st : List Value} {m : Nat} {I : Nat → Int32} {A : Nat → Nat → Int32} {L : Nat → Nat → Int64} {rest : Nat → Option jv_C} {z : Nat × Nat} (hi : i < 768) : jv_ev call 24 189 [l0, l1, l2] (.int v :: .int (nI i) :: .ref (m + 18) :: st) (jm_H m I A L rest z) = jv_ev call 24 190 [l0, l1, l2] st (jm_H m I (va_up A 21 (upd (A 21) i v)) L rest z) := je_iast D24_189 rfl (jm_s21 hi)
theorem D24_190 : decode (jt_code 24) 190 = .ok (.aload_n 0, 1) := by decide +kernel
theorem E24_190 {call : jv_F} {l1 l2 : Option Value} {a : Nat} {st : List Value} {h : jv_H} : jv_ev call 24 190 [some (.ref a), l1, l2] st h = jv_ev call 24 191 [some (.ref a), l1, l2] (.ref a :: st) h := je_aload_n (r := some a) D24_190 rfl rfl
theorem D24_191 : decode (jt_code 24) 191 = .ok (.iconst 2, 1) := by decide +kernel
theorem E24_191 {call : jv_F} {l0 l1 l2 : Option Value}  {st : List Value} {h : jv_H} : jv_ev call 24 191 [l0, l1, l2] st h = jv_ev call 24 192 [l0, l1, l2] (.int (nI 2) :: st) h := je_iconst D24_191 rfl (by decide)
theorem D24_192 : decode (jt_code 24) 192 = .ok (.iload_n 1, 1) := by decide +kernel
theorem E24_192 {call : jv_F} {l0 l2 : Option Value} {x : Int32} {st : List Value} {h : jv_H} : jv_ev call 24 192 [l0, some (.int x), l2] st h = jv_ev call 24 193 [l0, some (.int x), l2] (.int x :: st) h := je_iload_n D24_192 rfl rfl
theorem D24_193 : decode (jt_code 24) 193 = .ok (.invokevirtual 197, 3) := by decide +kernel
theorem E24_193 {call : jv_F} {l0 l1 l2 : Option Value} {v0 v1 : Value}  {st : List Value} {m : Nat} {I : Nat → Int32} {A : Nat → Nat → Int32} {L : Nat → Nat → Int64} {rest : Nat → Option jv_C} {z : Nat × Nat} (hw : jv_wide st = true) (hc : (call 25 [.ref m, v0, v1] (jm_H m I A L rest z)).isSome = true) : jv_ev call 24 193 [l0, l1, l2] (v1 :: v0 :: .ref m :: st) (jm_H m I A L rest z) = jv_ev call 24 196 [l0, l1, l2] ((((call 25 [.ref m, v0, v1] (jm_H m I A L rest z)).getD (none, (jm_H m I A L rest z))).1).toList ++ st) ((call 25 [.ref m, v0, v1] (jm_H m I A L rest z)).getD (none, (jm_H m I A L rest z))).2 := by
  obtain ⟨⟨r, h'⟩, hv⟩ := Option.isSome_iff_exists.mp hc
  rw [hv]
  exact je_virt (y := 25) (as := [v0, v1]) D24_193 rfl (by decide) (by decide) rfl jm_cl hw hv
theorem D24_196 : decode (jt_code 24) 196 = .ok (.return_, 1) := by decide +kernel
theorem E24_196 {call : jv_F} {l0 l1 l2 : Option Value}  {h : jv_H} : jv_ev call 24 196 [l0, l1, l2] [] h = some (none, h) := je_ret D24_196 rfl
/-! method 25: DrumMachineModel.ask -/
theorem N25 {d : Nat} {b : Nat} {a0 : Int32} {a1 : Int32} {h : jv_H} : jv_run (d + 1) 25 [.ref b, .int a0, .int a1] h = jv_ev (jv_run d) 25 0 [some (.ref b), some (.int a0), some (.int a1)] [] h := jv_run_eq (Nat.le_of_ble_eq_true rfl) rfl
theorem D25_0 : decode (jt_code 25) 0 = .ok (.aload_n 0, 1) := by decide +kernel
theorem E25_0 {call : jv_F} {l1 l2 : Option Value} {a : Nat} {st : List Value} {h : jv_H} : jv_ev call 25 0 [some (.ref a), l1, l2] st h = jv_ev call 25 1 [some (.ref a), l1, l2] (.ref a :: st) h := je_aload_n (r := some a) D25_0 rfl rfl
theorem D25_1 : decode (jt_code 25) 1 = .ok (.getfield 79, 3) := by decide +kernel
theorem E25_1 {call : jv_F} {l0 l1 l2 : Option Value}  {st : List Value} {m : Nat} {I : Nat → Int32} {A : Nat → Nat → Int32} {L : Nat → Nat → Int64} {rest : Nat → Option jv_C} {z : Nat × Nat} : jv_ev call 25 1 [l0, l1, l2] (.ref m :: st) (jm_H m I A L rest z) = jv_ev call 25 4 [l0, l1, l2] (.ref (m + 22) :: st) (jm_H m I A L rest z) := je_get D25_1 rfl (by decide) jm_g26
theorem D25_4 : decode (jt_code 25) 4 = .ok (.iload_n 2, 1) := by decide +kernel
theorem E25_4 {call : jv_F} {l0 l1 : Option Value} {x : Int32} {st : List Value} {h : jv_H} : jv_ev call 25 4 [l0, l1, some (.int x)] st h = jv_ev call 25 5 [l0, l1, some (.int x)] (.int x :: st) h := je_iload_n D25_4 rfl rfl
theorem D25_5 : decode (jt_code 25) 5 = .ok (.iconst 1, 1) := by decide +kernel
theorem E25_5 {call : jv_F} {l0 l1 l2 : Option Value}  {st : List Value} {h : jv_H} : jv_ev call 25 5 [l0, l1, l2] st h = jv_ev call 25 6 [l0, l1, l2] (.int (nI 1) :: st) h := je_iconst D25_5 rfl (by decide)
theorem D25_6 : decode (jt_code 25) 6 = .ok (.bastore, 1) := by decide +kernel
theorem E25_6 {call : jv_F} {l0 l1 l2 : Option Value} {i : Nat} {v : Int32} {st : List Value} {m : Nat} {I : Nat → Int32} {A : Nat → Nat → Int32} {L : Nat → Nat → Int64} {rest : Nat → Option jv_C} {z : Nat × Nat} (hi : i < 17) (hv : narrow .boolean (.int v) = .int v) : jv_ev call 25 6 [l0, l1, l2] (.int v :: .int (nI i) :: .ref (m + 22) :: st) (jm_H m I A L rest z) = jv_ev call 25 7 [l0, l1, l2] st (jm_H m I (va_up A 26 (upd (A 26) i v)) L rest z) := je_bast D25_6 rfl (by rw [hv]; exact jm_s26 hi)
theorem D25_7 : decode (jt_code 25) 7 = .ok (.aload_n 0, 1) := by decide +kernel
theorem E25_7 {call : jv_F} {l1 l2 : Option Value} {a : Nat} {st : List Value} {h : jv_H} : jv_ev call 25 7 [some (.ref a), l1, l2] st h = jv_ev call 25 8 [some (.ref a), l1, l2] (.ref a :: st) h := je_aload_n (r := some a) D25_7 rfl rfl
theorem D25_8 : decode (jt_code 25) 8 = .ok (.getfield 88, 3) := by decide +kernel
theorem E25_8 {call : jv_F} {l0 l1 l2 : Option Value}  {st : List Value} {m : Nat} {I : Nat → Int32} {A : Nat → Nat → Int32} {L : Nat → Nat → Int64} {rest : Nat → Option jv_C} {z : Nat × Nat} : jv_ev call 25 8 [l0, l1, l2] (.ref m :: st) (jm_H m I A L rest z) = jv_ev call 25 11 [l0, l1, l2] (.ref (m + 25) :: st) (jm_H m I A L rest z) := je_get D25_8 rfl (by decide) jm_g29
theorem D25_11 : decode (jt_code 25) 11 = .ok (.aload_n 0, 1) := by decide +kernel
theorem E25_11 {call : jv_F} {l1 l2 : Option Value} {a : Nat} {st : List Value} {h : jv_H} : jv_ev call 25 11 [some (.ref a), l1, l2] st h = jv_ev call 25 12 [some (.ref a), l1, l2] (.ref a :: st) h := je_aload_n (r := some a) D25_11 rfl rfl
theorem D25_12 : decode (jt_code 25) 12 = .ok (.getfield 161, 3) := by decide +kernel
theorem E25_12 {call : jv_F} {l0 l1 l2 : Option Value}  {st : List Value} {m : Nat} {I : Nat → Int32} {A : Nat → Nat → Int32} {L : Nat → Nat → Int64} {rest : Nat → Option jv_C} {z : Nat × Nat} : jv_ev call 25 12 [l0, l1, l2] (.ref m :: st) (jm_H m I A L rest z) = jv_ev call 25 15 [l0, l1, l2] (.int (I 31) :: st) (jm_H m I A L rest z) := je_get D25_12 rfl (by decide) jm_g31
theorem D25_15 : decode (jt_code 25) 15 = .ok (.iload_n 1, 1) := by decide +kernel
theorem E25_15 {call : jv_F} {l0 l2 : Option Value} {x : Int32} {st : List Value} {h : jv_H} : jv_ev call 25 15 [l0, some (.int x), l2] st h = jv_ev call 25 16 [l0, some (.int x), l2] (.int x :: st) h := je_iload_n D25_15 rfl rfl
theorem D25_16 : decode (jt_code 25) 16 = .ok (.iastore, 1) := by decide +kernel
theorem E25_16 {call : jv_F} {l0 l1 l2 : Option Value} {i : Nat} {v : Int32} {st : List Value} {m : Nat} {I : Nat → Int32} {A : Nat → Nat → Int32} {L : Nat → Nat → Int64} {rest : Nat → Option jv_C} {z : Nat × Nat} (hi : i < 18) : jv_ev call 25 16 [l0, l1, l2] (.int v :: .int (nI i) :: .ref (m + 25) :: st) (jm_H m I A L rest z) = jv_ev call 25 17 [l0, l1, l2] st (jm_H m I (va_up A 29 (upd (A 29) i v)) L rest z) := je_iast D25_16 rfl (jm_s29 hi)
theorem D25_17 : decode (jt_code 25) 17 = .ok (.aload_n 0, 1) := by decide +kernel
theorem E25_17 {call : jv_F} {l1 l2 : Option Value} {a : Nat} {st : List Value} {h : jv_H} : jv_ev call 25 17 [some (.ref a), l1, l2] st h = jv_ev call 25 18 [some (.ref a), l1, l2] (.ref a :: st) h := je_aload_n (r := some a) D25_17 rfl rfl
theorem D25_18 : decode (jt_code 25) 18 = .ok (.getfield 91, 3) := by decide +kernel
theorem E25_18 {call : jv_F} {l0 l1 l2 : Option Value}  {st : List Value} {m : Nat} {I : Nat → Int32} {A : Nat → Nat → Int32} {L : Nat → Nat → Int64} {rest : Nat → Option jv_C} {z : Nat × Nat} : jv_ev call 25 18 [l0, l1, l2] (.ref m :: st) (jm_H m I A L rest z) = jv_ev call 25 21 [l0, l1, l2] (.ref (m + 26) :: st) (jm_H m I A L rest z) := je_get D25_18 rfl (by decide) jm_g30
theorem D25_21 : decode (jt_code 25) 21 = .ok (.aload_n 0, 1) := by decide +kernel
theorem E25_21 {call : jv_F} {l1 l2 : Option Value} {a : Nat} {st : List Value} {h : jv_H} : jv_ev call 25 21 [some (.ref a), l1, l2] st h = jv_ev call 25 22 [some (.ref a), l1, l2] (.ref a :: st) h := je_aload_n (r := some a) D25_21 rfl rfl
theorem D25_22 : decode (jt_code 25) 22 = .ok (.getfield 161, 3) := by decide +kernel
theorem E25_22 {call : jv_F} {l0 l1 l2 : Option Value}  {st : List Value} {m : Nat} {I : Nat → Int32} {A : Nat → Nat → Int32} {L : Nat → Nat → Int64} {rest : Nat → Option jv_C} {z : Nat × Nat} : jv_ev call 25 22 [l0, l1, l2] (.ref m :: st) (jm_H m I A L rest z) = jv_ev call 25 25 [l0, l1, l2] (.int (I 31) :: st) (jm_H m I A L rest z) := je_get D25_22 rfl (by decide) jm_g31
theorem D25_25 : decode (jt_code 25) 25 = .ok (.iload_n 2, 1) := by decide +kernel
theorem E25_25 {call : jv_F} {l0 l1 : Option Value} {x : Int32} {st : List Value} {h : jv_H} : jv_ev call 25 25 [l0, l1, some (.int x)] st h = jv_ev call 25 26 [l0, l1, some (.int x)] (.int x :: st) h := je_iload_n D25_25 rfl rfl
theorem D25_26 : decode (jt_code 25) 26 = .ok (.iastore, 1) := by decide +kernel
theorem E25_26 {call : jv_F} {l0 l1 l2 : Option Value} {i : Nat} {v : Int32} {st : List Value} {m : Nat} {I : Nat → Int32} {A : Nat → Nat → Int32} {L : Nat → Nat → Int64} {rest : Nat → Option jv_C} {z : Nat × Nat} (hi : i < 18) : jv_ev call 25 26 [l0, l1, l2] (.int v :: .int (nI i) :: .ref (m + 26) :: st) (jm_H m I A L rest z) = jv_ev call 25 27 [l0, l1, l2] st (jm_H m I (va_up A 30 (upd (A 30) i v)) L rest z) := je_iast D25_26 rfl (jm_s30 hi)
theorem D25_27 : decode (jt_code 25) 27 = .ok (.aload_n 0, 1) := by decide +kernel
theorem E25_27 {call : jv_F} {l1 l2 : Option Value} {a : Nat} {st : List Value} {h : jv_H} : jv_ev call 25 27 [some (.ref a), l1, l2] st h = jv_ev call 25 28 [some (.ref a), l1, l2] (.ref a :: st) h := je_aload_n (r := some a) D25_27 rfl rfl
theorem D25_28 : decode (jt_code 25) 28 = .ok (.dup, 1) := by decide +kernel
theorem E25_28 {call : jv_F} {l0 l1 l2 : Option Value} {a : Nat} {st : List Value} {h : jv_H} : jv_ev call 25 28 [l0, l1, l2] (.ref a :: st) h = jv_ev call 25 29 [l0, l1, l2] (.ref a :: .ref a :: st) h := je_dup D25_28 rfl rfl
theorem E25_28i {call : jv_F} {l0 l1 l2 : Option Value} {x : Int32} {st : List Value} {h : jv_H} : jv_ev call 25 28 [l0, l1, l2] (.int x :: st) h = jv_ev call 25 29 [l0, l1, l2] (.int x :: .int x :: st) h := je_dup D25_28 rfl rfl
theorem D25_29 : decode (jt_code 25) 29 = .ok (.getfield 161, 3) := by decide +kernel
theorem E25_29 {call : jv_F} {l0 l1 l2 : Option Value}  {st : List Value} {m : Nat} {I : Nat → Int32} {A : Nat → Nat → Int32} {L : Nat → Nat → Int64} {rest : Nat → Option jv_C} {z : Nat × Nat} : jv_ev call 25 29 [l0, l1, l2] (.ref m :: st) (jm_H m I A L rest z) = jv_ev call 25 32 [l0, l1, l2] (.int (I 31) :: st) (jm_H m I A L rest z) := je_get D25_29 rfl (by decide) jm_g31
theorem D25_32 : decode (jt_code 25) 32 = .ok (.iconst 1, 1) := by decide +kernel
theorem E25_32 {call : jv_F} {l0 l1 l2 : Option Value}  {st : List Value} {h : jv_H} : jv_ev call 25 32 [l0, l1, l2] st h = jv_ev call 25 33 [l0, l1, l2] (.int (nI 1) :: st) h := je_iconst D25_32 rfl (by decide)
theorem D25_33 : decode (jt_code 25) 33 = .ok (.iadd, 1) := by decide +kernel
theorem E25_33 {call : jv_F} {l0 l1 l2 : Option Value} {x y : Int32} {st : List Value} {h : jv_H} : jv_ev call 25 33 [l0, l1, l2] (.int y :: .int x :: st) h = jv_ev call 25 34 [l0, l1, l2] (.int (x + y) :: st) h := je_b2 (f := fun x y => x + y) D25_33 rfl (fun _ => rfl)
theorem D25_34 : decode (jt_code 25) 34 = .ok (.putfield 161, 3) := by decide +kernel
theorem E25_34 {call : jv_F} {l0 l1 l2 : Option Value} {v : Int32} {st : List Value} {m : Nat} {I : Nat → Int32} {A : Nat → Nat → Int32} {L : Nat → Nat → Int64} {rest : Nat → Option jv_C} {z : Nat × Nat} : jv_ev call 25 34 [l0, l1, l2] (.int v :: .ref m :: st) (jm_H m I A L rest z) = jv_ev call 25 37 [l0, l1, l2] st (jm_H m (upd I 31 v) A L rest z) := je_put D25_34 rfl (by decide) (by decide) jm_p31
theorem D25_37 : decode (jt_code 25) 37 = .ok (.return_, 1) := by decide +kernel
theorem E25_37 {call : jv_F} {l0 l1 l2 : Option Value}  {h : jv_H} : jv_ev call 25 37 [l0, l1, l2] [] h = some (none, h) := je_ret D25_37 rfl
/-! method 26: DrumMachineModel.drop -/
theorem N26 {d : Nat} {b : Nat} {a0 : Int32} {h : jv_H} : jv_run (d + 1) 26 [.ref b, .int a0] h = jv_ev (jv_run d) 26 0 [some (.ref b), some (.int a0), none] [] h := jv_run_eq (Nat.le_of_ble_eq_true rfl) rfl
theorem D26_0 : decode (jt_code 26) 0 = .ok (.aload_n 0, 1) := by decide +kernel
theorem E26_0 {call : jv_F} {l1 l2 : Option Value} {a : Nat} {st : List Value} {h : jv_H} : jv_ev call 26 0 [some (.ref a), l1, l2] st h = jv_ev call 26 1 [some (.ref a), l1, l2] (.ref a :: st) h := je_aload_n (r := some a) D26_0 rfl rfl
theorem D26_1 : decode (jt_code 26) 1 = .ok (.dup, 1) := by decide +kernel
theorem E26_1 {call : jv_F} {l0 l1 l2 : Option Value} {a : Nat} {st : List Value} {h : jv_H} : jv_ev call 26 1 [l0, l1, l2] (.ref a :: st) h = jv_ev call 26 2 [l0, l1, l2] (.ref a :: .ref a :: st) h := je_dup D26_1 rfl rfl
theorem E26_1i {call : jv_F} {l0 l1 l2 : Option Value} {x : Int32} {st : List Value} {h : jv_H} : jv_ev call 26 1 [l0, l1, l2] (.int x :: st) h = jv_ev call 26 2 [l0, l1, l2] (.int x :: .int x :: st) h := je_dup D26_1 rfl rfl
theorem D26_2 : decode (jt_code 26) 2 = .ok (.getfield 161, 3) := by decide +kernel
theorem E26_2 {call : jv_F} {l0 l1 l2 : Option Value}  {st : List Value} {m : Nat} {I : Nat → Int32} {A : Nat → Nat → Int32} {L : Nat → Nat → Int64} {rest : Nat → Option jv_C} {z : Nat × Nat} : jv_ev call 26 2 [l0, l1, l2] (.ref m :: st) (jm_H m I A L rest z) = jv_ev call 26 5 [l0, l1, l2] (.int (I 31) :: st) (jm_H m I A L rest z) := je_get D26_2 rfl (by decide) jm_g31
theorem D26_5 : decode (jt_code 26) 5 = .ok (.iconst 1, 1) := by decide +kernel
theorem E26_5 {call : jv_F} {l0 l1 l2 : Option Value}  {st : List Value} {h : jv_H} : jv_ev call 26 5 [l0, l1, l2] st h = jv_ev call 26 6 [l0, l1, l2] (.int (nI 1) :: st) h := je_iconst D26_5 rfl (by decide)
theorem D26_6 : decode (jt_code 26) 6 = .ok (.isub, 1) := by decide +kernel
theorem E26_6 {call : jv_F} {l0 l1 l2 : Option Value} {x y : Int32} {st : List Value} {h : jv_H} : jv_ev call 26 6 [l0, l1, l2] (.int y :: .int x :: st) h = jv_ev call 26 7 [l0, l1, l2] (.int (x - y) :: st) h := je_b2 (f := fun x y => x - y) D26_6 rfl (fun _ => rfl)
theorem D26_7 : decode (jt_code 26) 7 = .ok (.putfield 161, 3) := by decide +kernel
theorem E26_7 {call : jv_F} {l0 l1 l2 : Option Value} {v : Int32} {st : List Value} {m : Nat} {I : Nat → Int32} {A : Nat → Nat → Int32} {L : Nat → Nat → Int64} {rest : Nat → Option jv_C} {z : Nat × Nat} : jv_ev call 26 7 [l0, l1, l2] (.int v :: .ref m :: st) (jm_H m I A L rest z) = jv_ev call 26 10 [l0, l1, l2] st (jm_H m (upd I 31 v) A L rest z) := je_put D26_7 rfl (by decide) (by decide) jm_p31
theorem D26_10 : decode (jt_code 26) 10 = .ok (.iload_n 1, 1) := by decide +kernel
theorem E26_10 {call : jv_F} {l0 l2 : Option Value} {x : Int32} {st : List Value} {h : jv_H} : jv_ev call 26 10 [l0, some (.int x), l2] st h = jv_ev call 26 11 [l0, some (.int x), l2] (.int x :: st) h := je_iload_n D26_10 rfl rfl
theorem D26_11 : decode (jt_code 26) 11 = .ok (.istore_n 2, 1) := by decide +kernel
theorem E26_11 {call : jv_F} {l0 l1 l2 : Option Value} {x : Int32} {st : List Value} {h : jv_H} (hk : ¬ jv_is2 (some l1) = true) : jv_ev call 26 11 [l0, l1, l2] (.int x :: st) h = jv_ev call 26 12 [l0, l1, some (.int x)] st h := je_istore_n D26_11 rfl (Nat.le_of_ble_eq_true rfl) (by show jv_st1 _ 2 _ = _; simp only [jv_st1, jv_kill, List.getElem?_cons_succ, List.getElem?_cons_zero, hk, if_false]; rfl)
theorem D26_12 : decode (jt_code 26) 12 = .ok (.iload_n 2, 1) := by decide +kernel
theorem E26_12 {call : jv_F} {l0 l1 : Option Value} {x : Int32} {st : List Value} {h : jv_H} : jv_ev call 26 12 [l0, l1, some (.int x)] st h = jv_ev call 26 13 [l0, l1, some (.int x)] (.int x :: st) h := je_iload_n D26_12 rfl rfl
theorem D26_13 : decode (jt_code 26) 13 = .ok (.aload_n 0, 1) := by decide +kernel
theorem E26_13 {call : jv_F} {l1 l2 : Option Value} {a : Nat} {st : List Value} {h : jv_H} : jv_ev call 26 13 [some (.ref a), l1, l2] st h = jv_ev call 26 14 [some (.ref a), l1, l2] (.ref a :: st) h := je_aload_n (r := some a) D26_13 rfl rfl
theorem D26_14 : decode (jt_code 26) 14 = .ok (.getfield 161, 3) := by decide +kernel
theorem E26_14 {call : jv_F} {l0 l1 l2 : Option Value}  {st : List Value} {m : Nat} {I : Nat → Int32} {A : Nat → Nat → Int32} {L : Nat → Nat → Int64} {rest : Nat → Option jv_C} {z : Nat × Nat} : jv_ev call 26 14 [l0, l1, l2] (.ref m :: st) (jm_H m I A L rest z) = jv_ev call 26 17 [l0, l1, l2] (.int (I 31) :: st) (jm_H m I A L rest z) := je_get D26_14 rfl (by decide) jm_g31
theorem D26_17 : decode (jt_code 26) 17 = .ok (.if_icmp .ge 37, 3) := by decide +kernel
theorem E26_17 {call : jv_F} {l0 l1 l2 : Option Value} {x y : Int32} {st : List Value} {h : jv_H} : jv_ev call 26 17 [l0, l1, l2] (.int y :: .int x :: st) h = if y ≤ x then jv_ev call 26 54 [l0, l1, l2] st h else jv_ev call 26 20 [l0, l1, l2] st h := je_icmp D26_17 (by decide) rfl rfl
theorem D26_20 : decode (jt_code 26) 20 = .ok (.aload_n 0, 1) := by decide +kernel
theorem E26_20 {call : jv_F} {l1 l2 : Option Value} {a : Nat} {st : List Value} {h : jv_H} : jv_ev call 26 20 [some (.ref a), l1, l2] st h = jv_ev call 26 21 [some (.ref a), l1, l2] (.ref a :: st) h := je_aload_n (r := some a) D26_20 rfl rfl
theorem D26_21 : decode (jt_code 26) 21 = .ok (.getfield 88, 3) := by decide +kernel
theorem E26_21 {call : jv_F} {l0 l1 l2 : Option Value}  {st : List Value} {m : Nat} {I : Nat → Int32} {A : Nat → Nat → Int32} {L : Nat → Nat → Int64} {rest : Nat → Option jv_C} {z : Nat × Nat} : jv_ev call 26 21 [l0, l1, l2] (.ref m :: st) (jm_H m I A L rest z) = jv_ev call 26 24 [l0, l1, l2] (.ref (m + 25) :: st) (jm_H m I A L rest z) := je_get D26_21 rfl (by decide) jm_g29
theorem D26_24 : decode (jt_code 26) 24 = .ok (.iload_n 2, 1) := by decide +kernel
theorem E26_24 {call : jv_F} {l0 l1 : Option Value} {x : Int32} {st : List Value} {h : jv_H} : jv_ev call 26 24 [l0, l1, some (.int x)] st h = jv_ev call 26 25 [l0, l1, some (.int x)] (.int x :: st) h := je_iload_n D26_24 rfl rfl
theorem D26_25 : decode (jt_code 26) 25 = .ok (.aload_n 0, 1) := by decide +kernel
theorem E26_25 {call : jv_F} {l1 l2 : Option Value} {a : Nat} {st : List Value} {h : jv_H} : jv_ev call 26 25 [some (.ref a), l1, l2] st h = jv_ev call 26 26 [some (.ref a), l1, l2] (.ref a :: st) h := je_aload_n (r := some a) D26_25 rfl rfl
theorem D26_26 : decode (jt_code 26) 26 = .ok (.getfield 88, 3) := by decide +kernel
theorem E26_26 {call : jv_F} {l0 l1 l2 : Option Value}  {st : List Value} {m : Nat} {I : Nat → Int32} {A : Nat → Nat → Int32} {L : Nat → Nat → Int64} {rest : Nat → Option jv_C} {z : Nat × Nat} : jv_ev call 26 26 [l0, l1, l2] (.ref m :: st) (jm_H m I A L rest z) = jv_ev call 26 29 [l0, l1, l2] (.ref (m + 25) :: st) (jm_H m I A L rest z) := je_get D26_26 rfl (by decide) jm_g29
theorem D26_29 : decode (jt_code 26) 29 = .ok (.iload_n 2, 1) := by decide +kernel
theorem E26_29 {call : jv_F} {l0 l1 : Option Value} {x : Int32} {st : List Value} {h : jv_H} : jv_ev call 26 29 [l0, l1, some (.int x)] st h = jv_ev call 26 30 [l0, l1, some (.int x)] (.int x :: st) h := je_iload_n D26_29 rfl rfl
theorem D26_30 : decode (jt_code 26) 30 = .ok (.iconst 1, 1) := by decide +kernel
theorem E26_30 {call : jv_F} {l0 l1 l2 : Option Value}  {st : List Value} {h : jv_H} : jv_ev call 26 30 [l0, l1, l2] st h = jv_ev call 26 31 [l0, l1, l2] (.int (nI 1) :: st) h := je_iconst D26_30 rfl (by decide)
theorem D26_31 : decode (jt_code 26) 31 = .ok (.iadd, 1) := by decide +kernel
theorem E26_31 {call : jv_F} {l0 l1 l2 : Option Value} {x y : Int32} {st : List Value} {h : jv_H} : jv_ev call 26 31 [l0, l1, l2] (.int y :: .int x :: st) h = jv_ev call 26 32 [l0, l1, l2] (.int (x + y) :: st) h := je_b2 (f := fun x y => x + y) D26_31 rfl (fun _ => rfl)
theorem D26_32 : decode (jt_code 26) 32 = .ok (.iaload, 1) := by decide +kernel
theorem E26_32 {call : jv_F} {l0 l1 l2 : Option Value} {i : Nat} {st : List Value} {m : Nat} {I : Nat → Int32} {A : Nat → Nat → Int32} {L : Nat → Nat → Int64} {rest : Nat → Option jv_C} {z : Nat × Nat} (hi : i < 18) : jv_ev call 26 32 [l0, l1, l2] (.int (nI i) :: .ref (m + 25) :: st) (jm_H m I A L rest z) = jv_ev call 26 33 [l0, l1, l2] (.int (A 29 i) :: st) (jm_H m I A L rest z) := je_iald D26_32 rfl (jm_l29 hi)
theorem D26_33 : decode (jt_code 26) 33 = .ok (.iastore, 1) := by decide +kernel
theorem E26_33 {call : jv_F} {l0 l1 l2 : Option Value} {i : Nat} {v : Int32} {st : List Value} {m : Nat} {I : Nat → Int32} {A : Nat → Nat → Int32} {L : Nat → Nat → Int64} {rest : Nat → Option jv_C} {z : Nat × Nat} (hi : i < 18) : jv_ev call 26 33 [l0, l1, l2] (.int v :: .int (nI i) :: .ref (m + 25) :: st) (jm_H m I A L rest z) = jv_ev call 26 34 [l0, l1, l2] st (jm_H m I (va_up A 29 (upd (A 29) i v)) L rest z) := je_iast D26_33 rfl (jm_s29 hi)
theorem D26_34 : decode (jt_code 26) 34 = .ok (.aload_n 0, 1) := by decide +kernel
theorem E26_34 {call : jv_F} {l1 l2 : Option Value} {a : Nat} {st : List Value} {h : jv_H} : jv_ev call 26 34 [some (.ref a), l1, l2] st h = jv_ev call 26 35 [some (.ref a), l1, l2] (.ref a :: st) h := je_aload_n (r := some a) D26_34 rfl rfl
theorem D26_35 : decode (jt_code 26) 35 = .ok (.getfield 91, 3) := by decide +kernel
theorem E26_35 {call : jv_F} {l0 l1 l2 : Option Value}  {st : List Value} {m : Nat} {I : Nat → Int32} {A : Nat → Nat → Int32} {L : Nat → Nat → Int64} {rest : Nat → Option jv_C} {z : Nat × Nat} : jv_ev call 26 35 [l0, l1, l2] (.ref m :: st) (jm_H m I A L rest z) = jv_ev call 26 38 [l0, l1, l2] (.ref (m + 26) :: st) (jm_H m I A L rest z) := je_get D26_35 rfl (by decide) jm_g30
theorem D26_38 : decode (jt_code 26) 38 = .ok (.iload_n 2, 1) := by decide +kernel
theorem E26_38 {call : jv_F} {l0 l1 : Option Value} {x : Int32} {st : List Value} {h : jv_H} : jv_ev call 26 38 [l0, l1, some (.int x)] st h = jv_ev call 26 39 [l0, l1, some (.int x)] (.int x :: st) h := je_iload_n D26_38 rfl rfl
theorem D26_39 : decode (jt_code 26) 39 = .ok (.aload_n 0, 1) := by decide +kernel
theorem E26_39 {call : jv_F} {l1 l2 : Option Value} {a : Nat} {st : List Value} {h : jv_H} : jv_ev call 26 39 [some (.ref a), l1, l2] st h = jv_ev call 26 40 [some (.ref a), l1, l2] (.ref a :: st) h := je_aload_n (r := some a) D26_39 rfl rfl
theorem D26_40 : decode (jt_code 26) 40 = .ok (.getfield 91, 3) := by decide +kernel
theorem E26_40 {call : jv_F} {l0 l1 l2 : Option Value}  {st : List Value} {m : Nat} {I : Nat → Int32} {A : Nat → Nat → Int32} {L : Nat → Nat → Int64} {rest : Nat → Option jv_C} {z : Nat × Nat} : jv_ev call 26 40 [l0, l1, l2] (.ref m :: st) (jm_H m I A L rest z) = jv_ev call 26 43 [l0, l1, l2] (.ref (m + 26) :: st) (jm_H m I A L rest z) := je_get D26_40 rfl (by decide) jm_g30
theorem D26_43 : decode (jt_code 26) 43 = .ok (.iload_n 2, 1) := by decide +kernel
theorem E26_43 {call : jv_F} {l0 l1 : Option Value} {x : Int32} {st : List Value} {h : jv_H} : jv_ev call 26 43 [l0, l1, some (.int x)] st h = jv_ev call 26 44 [l0, l1, some (.int x)] (.int x :: st) h := je_iload_n D26_43 rfl rfl
theorem D26_44 : decode (jt_code 26) 44 = .ok (.iconst 1, 1) := by decide +kernel
theorem E26_44 {call : jv_F} {l0 l1 l2 : Option Value}  {st : List Value} {h : jv_H} : jv_ev call 26 44 [l0, l1, l2] st h = jv_ev call 26 45 [l0, l1, l2] (.int (nI 1) :: st) h := je_iconst D26_44 rfl (by decide)
theorem D26_45 : decode (jt_code 26) 45 = .ok (.iadd, 1) := by decide +kernel
theorem E26_45 {call : jv_F} {l0 l1 l2 : Option Value} {x y : Int32} {st : List Value} {h : jv_H} : jv_ev call 26 45 [l0, l1, l2] (.int y :: .int x :: st) h = jv_ev call 26 46 [l0, l1, l2] (.int (x + y) :: st) h := je_b2 (f := fun x y => x + y) D26_45 rfl (fun _ => rfl)
theorem D26_46 : decode (jt_code 26) 46 = .ok (.iaload, 1) := by decide +kernel
theorem E26_46 {call : jv_F} {l0 l1 l2 : Option Value} {i : Nat} {st : List Value} {m : Nat} {I : Nat → Int32} {A : Nat → Nat → Int32} {L : Nat → Nat → Int64} {rest : Nat → Option jv_C} {z : Nat × Nat} (hi : i < 18) : jv_ev call 26 46 [l0, l1, l2] (.int (nI i) :: .ref (m + 26) :: st) (jm_H m I A L rest z) = jv_ev call 26 47 [l0, l1, l2] (.int (A 30 i) :: st) (jm_H m I A L rest z) := je_iald D26_46 rfl (jm_l30 hi)
theorem D26_47 : decode (jt_code 26) 47 = .ok (.iastore, 1) := by decide +kernel
theorem E26_47 {call : jv_F} {l0 l1 l2 : Option Value} {i : Nat} {v : Int32} {st : List Value} {m : Nat} {I : Nat → Int32} {A : Nat → Nat → Int32} {L : Nat → Nat → Int64} {rest : Nat → Option jv_C} {z : Nat × Nat} (hi : i < 18) : jv_ev call 26 47 [l0, l1, l2] (.int v :: .int (nI i) :: .ref (m + 26) :: st) (jm_H m I A L rest z) = jv_ev call 26 48 [l0, l1, l2] st (jm_H m I (va_up A 30 (upd (A 30) i v)) L rest z) := je_iast D26_47 rfl (jm_s30 hi)
theorem D26_48 : decode (jt_code 26) 48 = .ok (.iinc 2 1, 3) := by decide +kernel
theorem E26_48 {call : jv_F} {l0 l1 : Option Value} {x : Int32} {st : List Value} {h : jv_H} (hk : ¬ jv_is2 (some l1) = true) : jv_ev call 26 48 [l0, l1, some (.int x)] st h = jv_ev call 26 51 [l0, l1, some (.int (x + (nI 1)))] st h := je_iinc D26_48 rfl rfl (v := x + (nI 1)) (by rfl) (by show jv_st1 _ 2 _ = _; simp only [jv_st1, jv_kill, List.getElem?_cons_succ, List.getElem?_cons_zero, hk, if_false]; rfl)
theorem D26_51 : decode (jt_code 26) 51 = .ok (.goto (-39), 3) := by decide +kernel
theorem E26_51 {call : jv_F} {l0 l1 l2 : Option Value}  {st : List Value} {h : jv_H} : jv_ev call 26 51 [l0, l1, l2] st h = jv_ev call 26 12 [l0, l1, l2] st h := je_goto D26_51 (by decide)
theorem D26_54 : decode (jt_code 26) 54 = .ok (.return_, 1) := by decide +kernel
theorem E26_54 {call : jv_F} {l0 l1 l2 : Option Value}  {h : jv_H} : jv_ev call 26 54 [l0, l1, l2] [] h = some (none, h) := je_ret D26_54 rfl
/-! method 27: DrumMachineModel.passes -/
theorem N27 {d : Nat} {b : Nat} {a0 : Int32} {h : jv_H} : jv_run (d + 1) 27 [.ref b, .int a0] h = jv_ev (jv_run d) 27 0 [some (.ref b), some (.int a0), none] [] h := jv_run_eq (Nat.le_of_ble_eq_true rfl) rfl
theorem D27_0 : decode (jt_code 27) 0 = .ok (.iconst 2, 1) := by decide +kernel
theorem E27_0 {call : jv_F} {l0 l1 l2 : Option Value}  {st : List Value} {h : jv_H} : jv_ev call 27 0 [l0, l1, l2] st h = jv_ev call 27 1 [l0, l1, l2] (.int (nI 2) :: st) h := je_iconst D27_0 rfl (by decide)
theorem D27_1 : decode (jt_code 27) 1 = .ok (.iload_n 1, 1) := by decide +kernel
theorem E27_1 {call : jv_F} {l0 l2 : Option Value} {x : Int32} {st : List Value} {h : jv_H} : jv_ev call 27 1 [l0, some (.int x), l2] st h = jv_ev call 27 2 [l0, some (.int x), l2] (.int x :: st) h := je_iload_n D27_1 rfl rfl
theorem D27_2 : decode (jt_code 27) 2 = .ok (.bipush 16, 2) := by decide +kernel
theorem E27_2 {call : jv_F} {l0 l1 l2 : Option Value}  {st : List Value} {h : jv_H} : jv_ev call 27 2 [l0, l1, l2] st h = jv_ev call 27 4 [l0, l1, l2] (.int (nI 16) :: st) h := je_bipush D27_2 rfl (by decide)
theorem D27_4 : decode (jt_code 27) 4 = .ok (.irem, 1) := by decide +kernel
theorem E27_4 {call : jv_F} {l0 l1 l2 : Option Value} {x y : Int32} {st : List Value} {h : jv_H} (hy : ¬ y = 0) : jv_ev call 27 4 [l0, l1, l2] (.int y :: .int x :: st) h = jv_ev call 27 5 [l0, l1, l2] (.int (x - x / y * y) :: st) h := je_irem D27_4 rfl hy
theorem D27_5 : decode (jt_code 27) 5 = .ok (.imul, 1) := by decide +kernel
theorem E27_5 {call : jv_F} {l0 l1 l2 : Option Value} {x y : Int32} {st : List Value} {h : jv_H} : jv_ev call 27 5 [l0, l1, l2] (.int y :: .int x :: st) h = jv_ev call 27 6 [l0, l1, l2] (.int (x * y) :: st) h := je_b2 (f := fun x y => x * y) D27_5 rfl (fun _ => rfl)
theorem D27_6 : decode (jt_code 27) 6 = .ok (.istore_n 2, 1) := by decide +kernel
theorem E27_6 {call : jv_F} {l0 l1 l2 : Option Value} {x : Int32} {st : List Value} {h : jv_H} (hk : ¬ jv_is2 (some l1) = true) : jv_ev call 27 6 [l0, l1, l2] (.int x :: st) h = jv_ev call 27 7 [l0, l1, some (.int x)] st h := je_istore_n D27_6 rfl (Nat.le_of_ble_eq_true rfl) (by show jv_st1 _ 2 _ = _; simp only [jv_st1, jv_kill, List.getElem?_cons_succ, List.getElem?_cons_zero, hk, if_false]; rfl)
theorem D27_7 : decode (jt_code 27) 7 = .ok (.aload_n 0, 1) := by decide +kernel
theorem E27_7 {call : jv_F} {l1 l2 : Option Value} {a : Nat} {st : List Value} {h : jv_H} : jv_ev call 27 7 [some (.ref a), l1, l2] st h = jv_ev call 27 8 [some (.ref a), l1, l2] (.ref a :: st) h := je_aload_n (r := some a) D27_7 rfl rfl
theorem D27_8 : decode (jt_code 27) 8 = .ok (.getfield 148, 3) := by decide +kernel
theorem E27_8 {call : jv_F} {l0 l1 l2 : Option Value}  {st : List Value} {m : Nat} {I : Nat → Int32} {A : Nat → Nat → Int32} {L : Nat → Nat → Int64} {rest : Nat → Option jv_C} {z : Nat × Nat} : jv_ev call 27 8 [l0, l1, l2] (.ref m :: st) (jm_H m I A L rest z) = jv_ev call 27 11 [l0, l1, l2] (.int (I 36) :: st) (jm_H m I A L rest z) := je_get D27_8 rfl (by decide) jm_g36
theorem D27_11 : decode (jt_code 27) 11 = .ok (.iload_n 2, 1) := by decide +kernel
theorem E27_11 {call : jv_F} {l0 l1 : Option Value} {x : Int32} {st : List Value} {h : jv_H} : jv_ev call 27 11 [l0, l1, some (.int x)] st h = jv_ev call 27 12 [l0, l1, some (.int x)] (.int x :: st) h := je_iload_n D27_11 rfl rfl
theorem D27_12 : decode (jt_code 27) 12 = .ok (.aload_n 0, 1) := by decide +kernel
theorem E27_12 {call : jv_F} {l1 l2 : Option Value} {a : Nat} {st : List Value} {h : jv_H} : jv_ev call 27 12 [some (.ref a), l1, l2] st h = jv_ev call 27 13 [some (.ref a), l1, l2] (.ref a :: st) h := je_aload_n (r := some a) D27_12 rfl rfl
theorem D27_13 : decode (jt_code 27) 13 = .ok (.getfield 148, 3) := by decide +kernel
theorem E27_13 {call : jv_F} {l0 l1 l2 : Option Value}  {st : List Value} {m : Nat} {I : Nat → Int32} {A : Nat → Nat → Int32} {L : Nat → Nat → Int64} {rest : Nat → Option jv_C} {z : Nat × Nat} : jv_ev call 27 13 [l0, l1, l2] (.ref m :: st) (jm_H m I A L rest z) = jv_ev call 27 16 [l0, l1, l2] (.int (I 36) :: st) (jm_H m I A L rest z) := je_get D27_13 rfl (by decide) jm_g36
theorem D27_16 : decode (jt_code 27) 16 = .ok (.bipush 32, 2) := by decide +kernel
theorem E27_16 {call : jv_F} {l0 l1 l2 : Option Value}  {st : List Value} {h : jv_H} : jv_ev call 27 16 [l0, l1, l2] st h = jv_ev call 27 18 [l0, l1, l2] (.int (nI 32) :: st) h := je_bipush D27_16 rfl (by decide)
theorem D27_18 : decode (jt_code 27) 18 = .ok (.irem, 1) := by decide +kernel
theorem E27_18 {call : jv_F} {l0 l1 l2 : Option Value} {x y : Int32} {st : List Value} {h : jv_H} (hy : ¬ y = 0) : jv_ev call 27 18 [l0, l1, l2] (.int y :: .int x :: st) h = jv_ev call 27 19 [l0, l1, l2] (.int (x - x / y * y) :: st) h := je_irem D27_18 rfl hy
theorem D27_19 : decode (jt_code 27) 19 = .ok (.isub, 1) := by decide +kernel
theorem E27_19 {call : jv_F} {l0 l1 l2 : Option Value} {x y : Int32} {st : List Value} {h : jv_H} : jv_ev call 27 19 [l0, l1, l2] (.int y :: .int x :: st) h = jv_ev call 27 20 [l0, l1, l2] (.int (x - y) :: st) h := je_b2 (f := fun x y => x - y) D27_19 rfl (fun _ => rfl)
theorem D27_20 : decode (jt_code 27) 20 = .ok (.bipush 32, 2) := by decide +kernel
theorem E27_20 {call : jv_F} {l0 l1 l2 : Option Value}  {st : List Value} {h : jv_H} : jv_ev call 27 20 [l0, l1, l2] st h = jv_ev call 27 22 [l0, l1, l2] (.int (nI 32) :: st) h := je_bipush D27_20 rfl (by decide)
theorem D27_22 : decode (jt_code 27) 22 = .ok (.iadd, 1) := by decide +kernel
theorem E27_22 {call : jv_F} {l0 l1 l2 : Option Value} {x y : Int32} {st : List Value} {h : jv_H} : jv_ev call 27 22 [l0, l1, l2] (.int y :: .int x :: st) h = jv_ev call 27 23 [l0, l1, l2] (.int (x + y) :: st) h := je_b2 (f := fun x y => x + y) D27_22 rfl (fun _ => rfl)
theorem D27_23 : decode (jt_code 27) 23 = .ok (.bipush 32, 2) := by decide +kernel
theorem E27_23 {call : jv_F} {l0 l1 l2 : Option Value}  {st : List Value} {h : jv_H} : jv_ev call 27 23 [l0, l1, l2] st h = jv_ev call 27 25 [l0, l1, l2] (.int (nI 32) :: st) h := je_bipush D27_23 rfl (by decide)
theorem D27_25 : decode (jt_code 27) 25 = .ok (.irem, 1) := by decide +kernel
theorem E27_25 {call : jv_F} {l0 l1 l2 : Option Value} {x y : Int32} {st : List Value} {h : jv_H} (hy : ¬ y = 0) : jv_ev call 27 25 [l0, l1, l2] (.int y :: .int x :: st) h = jv_ev call 27 26 [l0, l1, l2] (.int (x - x / y * y) :: st) h := je_irem D27_25 rfl hy
theorem D27_26 : decode (jt_code 27) 26 = .ok (.iadd, 1) := by decide +kernel
theorem E27_26 {call : jv_F} {l0 l1 l2 : Option Value} {x y : Int32} {st : List Value} {h : jv_H} : jv_ev call 27 26 [l0, l1, l2] (.int y :: .int x :: st) h = jv_ev call 27 27 [l0, l1, l2] (.int (x + y) :: st) h := je_b2 (f := fun x y => x + y) D27_26 rfl (fun _ => rfl)
theorem D27_27 : decode (jt_code 27) 27 = .ok (.ireturn, 1) := by decide +kernel
theorem E27_27 {call : jv_F} {l0 l1 l2 : Option Value} {v : Int32} {h : jv_H} : jv_ev call 27 27 [l0, l1, l2] [.int v] h = some (some (.int v), h) := je_iret (ty := .int) D27_27 rfl rfl rfl
/-! method 28: DrumMachineModel.begin -/
theorem N28 {d : Nat} {b : Nat} {h : jv_H} : jv_run (d + 1) 28 [.ref b] h = jv_ev (jv_run d) 28 0 [some (.ref b), none, none] [] h := jv_run_eq (Nat.le_of_ble_eq_true rfl) rfl
theorem D28_0 : decode (jt_code 28) 0 = .ok (.aload_n 0, 1) := by decide +kernel
theorem E28_0 {call : jv_F} {l1 l2 : Option Value} {a : Nat} {st : List Value} {h : jv_H} : jv_ev call 28 0 [some (.ref a), l1, l2] st h = jv_ev call 28 1 [some (.ref a), l1, l2] (.ref a :: st) h := je_aload_n (r := some a) D28_0 rfl rfl
theorem D28_1 : decode (jt_code 28) 1 = .ok (.aload_n 0, 1) := by decide +kernel
theorem E28_1 {call : jv_F} {l1 l2 : Option Value} {a : Nat} {st : List Value} {h : jv_H} : jv_ev call 28 1 [some (.ref a), l1, l2] st h = jv_ev call 28 2 [some (.ref a), l1, l2] (.ref a :: st) h := je_aload_n (r := some a) D28_1 rfl rfl
theorem D28_2 : decode (jt_code 28) 2 = .ok (.getfield 88, 3) := by decide +kernel
theorem E28_2 {call : jv_F} {l0 l1 l2 : Option Value}  {st : List Value} {m : Nat} {I : Nat → Int32} {A : Nat → Nat → Int32} {L : Nat → Nat → Int64} {rest : Nat → Option jv_C} {z : Nat × Nat} : jv_ev call 28 2 [l0, l1, l2] (.ref m :: st) (jm_H m I A L rest z) = jv_ev call 28 5 [l0, l1, l2] (.ref (m + 25) :: st) (jm_H m I A L rest z) := je_get D28_2 rfl (by decide) jm_g29
theorem D28_5 : decode (jt_code 28) 5 = .ok (.iconst 0, 1) := by decide +kernel
theorem E28_5 {call : jv_F} {l0 l1 l2 : Option Value}  {st : List Value} {h : jv_H} : jv_ev call 28 5 [l0, l1, l2] st h = jv_ev call 28 6 [l0, l1, l2] (.int (nI 0) :: st) h := je_iconst D28_5 rfl (by decide)
theorem D28_6 : decode (jt_code 28) 6 = .ok (.iaload, 1) := by decide +kernel
theorem E28_6 {call : jv_F} {l0 l1 l2 : Option Value} {i : Nat} {st : List Value} {m : Nat} {I : Nat → Int32} {A : Nat → Nat → Int32} {L : Nat → Nat → Int64} {rest : Nat → Option jv_C} {z : Nat × Nat} (hi : i < 18) : jv_ev call 28 6 [l0, l1, l2] (.int (nI i) :: .ref (m + 25) :: st) (jm_H m I A L rest z) = jv_ev call 28 7 [l0, l1, l2] (.int (A 29 i) :: st) (jm_H m I A L rest z) := je_iald D28_6 rfl (jm_l29 hi)
theorem D28_7 : decode (jt_code 28) 7 = .ok (.putfield 142, 3) := by decide +kernel
theorem E28_7 {call : jv_F} {l0 l1 l2 : Option Value} {v : Int32} {st : List Value} {m : Nat} {I : Nat → Int32} {A : Nat → Nat → Int32} {L : Nat → Nat → Int64} {rest : Nat → Option jv_C} {z : Nat × Nat} : jv_ev call 28 7 [l0, l1, l2] (.int v :: .ref m :: st) (jm_H m I A L rest z) = jv_ev call 28 10 [l0, l1, l2] st (jm_H m (upd I 32 v) A L rest z) := je_put D28_7 rfl (by decide) (by decide) jm_p32
theorem D28_10 : decode (jt_code 28) 10 = .ok (.aload_n 0, 1) := by decide +kernel
theorem E28_10 {call : jv_F} {l1 l2 : Option Value} {a : Nat} {st : List Value} {h : jv_H} : jv_ev call 28 10 [some (.ref a), l1, l2] st h = jv_ev call 28 11 [some (.ref a), l1, l2] (.ref a :: st) h := je_aload_n (r := some a) D28_10 rfl rfl
theorem D28_11 : decode (jt_code 28) 11 = .ok (.aload_n 0, 1) := by decide +kernel
theorem E28_11 {call : jv_F} {l1 l2 : Option Value} {a : Nat} {st : List Value} {h : jv_H} : jv_ev call 28 11 [some (.ref a), l1, l2] st h = jv_ev call 28 12 [some (.ref a), l1, l2] (.ref a :: st) h := je_aload_n (r := some a) D28_11 rfl rfl
theorem D28_12 : decode (jt_code 28) 12 = .ok (.getfield 91, 3) := by decide +kernel
theorem E28_12 {call : jv_F} {l0 l1 l2 : Option Value}  {st : List Value} {m : Nat} {I : Nat → Int32} {A : Nat → Nat → Int32} {L : Nat → Nat → Int64} {rest : Nat → Option jv_C} {z : Nat × Nat} : jv_ev call 28 12 [l0, l1, l2] (.ref m :: st) (jm_H m I A L rest z) = jv_ev call 28 15 [l0, l1, l2] (.ref (m + 26) :: st) (jm_H m I A L rest z) := je_get D28_12 rfl (by decide) jm_g30
theorem D28_15 : decode (jt_code 28) 15 = .ok (.iconst 0, 1) := by decide +kernel
theorem E28_15 {call : jv_F} {l0 l1 l2 : Option Value}  {st : List Value} {h : jv_H} : jv_ev call 28 15 [l0, l1, l2] st h = jv_ev call 28 16 [l0, l1, l2] (.int (nI 0) :: st) h := je_iconst D28_15 rfl (by decide)
theorem D28_16 : decode (jt_code 28) 16 = .ok (.iaload, 1) := by decide +kernel
theorem E28_16 {call : jv_F} {l0 l1 l2 : Option Value} {i : Nat} {st : List Value} {m : Nat} {I : Nat → Int32} {A : Nat → Nat → Int32} {L : Nat → Nat → Int64} {rest : Nat → Option jv_C} {z : Nat × Nat} (hi : i < 18) : jv_ev call 28 16 [l0, l1, l2] (.int (nI i) :: .ref (m + 26) :: st) (jm_H m I A L rest z) = jv_ev call 28 17 [l0, l1, l2] (.int (A 30 i) :: st) (jm_H m I A L rest z) := je_iald D28_16 rfl (jm_l30 hi)
theorem D28_17 : decode (jt_code 28) 17 = .ok (.putfield 176, 3) := by decide +kernel
theorem E28_17 {call : jv_F} {l0 l1 l2 : Option Value} {v : Int32} {st : List Value} {m : Nat} {I : Nat → Int32} {A : Nat → Nat → Int32} {L : Nat → Nat → Int64} {rest : Nat → Option jv_C} {z : Nat × Nat} : jv_ev call 28 17 [l0, l1, l2] (.int v :: .ref m :: st) (jm_H m I A L rest z) = jv_ev call 28 20 [l0, l1, l2] st (jm_H m (upd I 33 v) A L rest z) := je_put D28_17 rfl (by decide) (by decide) jm_p33
theorem D28_20 : decode (jt_code 28) 20 = .ok (.aload_n 0, 1) := by decide +kernel
theorem E28_20 {call : jv_F} {l1 l2 : Option Value} {a : Nat} {st : List Value} {h : jv_H} : jv_ev call 28 20 [some (.ref a), l1, l2] st h = jv_ev call 28 21 [some (.ref a), l1, l2] (.ref a :: st) h := je_aload_n (r := some a) D28_20 rfl rfl
theorem D28_21 : decode (jt_code 28) 21 = .ok (.iconst 0, 1) := by decide +kernel
theorem E28_21 {call : jv_F} {l0 l1 l2 : Option Value}  {st : List Value} {h : jv_H} : jv_ev call 28 21 [l0, l1, l2] st h = jv_ev call 28 22 [l0, l1, l2] (.int (nI 0) :: st) h := je_iconst D28_21 rfl (by decide)
theorem D28_22 : decode (jt_code 28) 22 = .ok (.invokevirtual 201, 3) := by decide +kernel
theorem E28_22 {call : jv_F} {l0 l1 l2 : Option Value} {v0 : Value}  {st : List Value} {m : Nat} {I : Nat → Int32} {A : Nat → Nat → Int32} {L : Nat → Nat → Int64} {rest : Nat → Option jv_C} {z : Nat × Nat} (hw : jv_wide st = true) (hc : (call 26 [.ref m, v0] (jm_H m I A L rest z)).isSome = true) : jv_ev call 28 22 [l0, l1, l2] (v0 :: .ref m :: st) (jm_H m I A L rest z) = jv_ev call 28 25 [l0, l1, l2] ((((call 26 [.ref m, v0] (jm_H m I A L rest z)).getD (none, (jm_H m I A L rest z))).1).toList ++ st) ((call 26 [.ref m, v0] (jm_H m I A L rest z)).getD (none, (jm_H m I A L rest z))).2 := by
  obtain ⟨⟨r, h'⟩, hv⟩ := Option.isSome_iff_exists.mp hc
  rw [hv]
  exact je_virt (y := 26) (as := [v0]) D28_22 rfl (by decide) (by decide) rfl jm_cl hw hv
theorem D28_25 : decode (jt_code 28) 25 = .ok (.aload_n 0, 1) := by decide +kernel
theorem E28_25 {call : jv_F} {l1 l2 : Option Value} {a : Nat} {st : List Value} {h : jv_H} : jv_ev call 28 25 [some (.ref a), l1, l2] st h = jv_ev call 28 26 [some (.ref a), l1, l2] (.ref a :: st) h := je_aload_n (r := some a) D28_25 rfl rfl
theorem D28_26 : decode (jt_code 28) 26 = .ok (.getfield 70, 3) := by decide +kernel
theorem E28_26 {call : jv_F} {l0 l1 l2 : Option Value}  {st : List Value} {m : Nat} {I : Nat → Int32} {A : Nat → Nat → Int32} {L : Nat → Nat → Int64} {rest : Nat → Option jv_C} {z : Nat × Nat} : jv_ev call 28 26 [l0, l1, l2] (.ref m :: st) (jm_H m I A L rest z) = jv_ev call 28 29 [l0, l1, l2] (.ref (m + 19) :: st) (jm_H m I A L rest z) := je_get D28_26 rfl (by decide) jm_g23
theorem D28_29 : decode (jt_code 28) 29 = .ok (.aload_n 0, 1) := by decide +kernel
theorem E28_29 {call : jv_F} {l1 l2 : Option Value} {a : Nat} {st : List Value} {h : jv_H} : jv_ev call 28 29 [some (.ref a), l1, l2] st h = jv_ev call 28 30 [some (.ref a), l1, l2] (.ref a :: st) h := je_aload_n (r := some a) D28_29 rfl rfl
theorem D28_30 : decode (jt_code 28) 30 = .ok (.getfield 176, 3) := by decide +kernel
theorem E28_30 {call : jv_F} {l0 l1 l2 : Option Value}  {st : List Value} {m : Nat} {I : Nat → Int32} {A : Nat → Nat → Int32} {L : Nat → Nat → Int64} {rest : Nat → Option jv_C} {z : Nat × Nat} : jv_ev call 28 30 [l0, l1, l2] (.ref m :: st) (jm_H m I A L rest z) = jv_ev call 28 33 [l0, l1, l2] (.int (I 33) :: st) (jm_H m I A L rest z) := je_get D28_30 rfl (by decide) jm_g33
theorem D28_33 : decode (jt_code 28) 33 = .ok (.iaload, 1) := by decide +kernel
theorem E28_33 {call : jv_F} {l0 l1 l2 : Option Value} {i : Nat} {st : List Value} {m : Nat} {I : Nat → Int32} {A : Nat → Nat → Int32} {L : Nat → Nat → Int64} {rest : Nat → Option jv_C} {z : Nat × Nat} (hi : i < 17) : jv_ev call 28 33 [l0, l1, l2] (.int (nI i) :: .ref (m + 19) :: st) (jm_H m I A L rest z) = jv_ev call 28 34 [l0, l1, l2] (.int (A 23 i) :: st) (jm_H m I A L rest z) := je_iald D28_33 rfl (jm_l23 hi)
theorem D28_34 : decode (jt_code 28) 34 = .ok (.istore_n 1, 1) := by decide +kernel
theorem E28_34 {call : jv_F} {l0 l1 l2 : Option Value} {x : Int32} {st : List Value} {h : jv_H} (hk : ¬ jv_is2 (some l0) = true) : jv_ev call 28 34 [l0, l1, l2] (.int x :: st) h = jv_ev call 28 35 [l0, some (.int x), l2] st h := je_istore_n D28_34 rfl (Nat.le_of_ble_eq_true rfl) (by show jv_st1 _ 1 _ = _; simp only [jv_st1, jv_kill, List.getElem?_cons_succ, List.getElem?_cons_zero, hk, if_false]; rfl)
theorem D28_35 : decode (jt_code 28) 35 = .ok (.aload_n 0, 1) := by decide +kernel
theorem E28_35 {call : jv_F} {l1 l2 : Option Value} {a : Nat} {st : List Value} {h : jv_H} : jv_ev call 28 35 [some (.ref a), l1, l2] st h = jv_ev call 28 36 [some (.ref a), l1, l2] (.ref a :: st) h := je_aload_n (r := some a) D28_35 rfl rfl
theorem D28_36 : decode (jt_code 28) 36 = .ok (.getfield 142, 3) := by decide +kernel
theorem E28_36 {call : jv_F} {l0 l1 l2 : Option Value}  {st : List Value} {m : Nat} {I : Nat → Int32} {A : Nat → Nat → Int32} {L : Nat → Nat → Int64} {rest : Nat → Option jv_C} {z : Nat × Nat} : jv_ev call 28 36 [l0, l1, l2] (.ref m :: st) (jm_H m I A L rest z) = jv_ev call 28 39 [l0, l1, l2] (.int (I 32) :: st) (jm_H m I A L rest z) := je_get D28_36 rfl (by decide) jm_g32
theorem D28_39 : decode (jt_code 28) 39 = .ok (.iconst 1, 1) := by decide +kernel
theorem E28_39 {call : jv_F} {l0 l1 l2 : Option Value}  {st : List Value} {h : jv_H} : jv_ev call 28 39 [l0, l1, l2] st h = jv_ev call 28 40 [l0, l1, l2] (.int (nI 1) :: st) h := je_iconst D28_39 rfl (by decide)
theorem D28_40 : decode (jt_code 28) 40 = .ok (.if_icmp .ne 35, 3) := by decide +kernel
theorem E28_40 {call : jv_F} {l0 l1 l2 : Option Value} {x y : Int32} {st : List Value} {h : jv_H} : jv_ev call 28 40 [l0, l1, l2] (.int y :: .int x :: st) h = if ¬ x = y then jv_ev call 28 75 [l0, l1, l2] st h else jv_ev call 28 43 [l0, l1, l2] st h := je_icmp D28_40 (by decide) rfl rfl
theorem D28_43 : decode (jt_code 28) 43 = .ok (.aload_n 0, 1) := by decide +kernel
theorem E28_43 {call : jv_F} {l1 l2 : Option Value} {a : Nat} {st : List Value} {h : jv_H} : jv_ev call 28 43 [some (.ref a), l1, l2] st h = jv_ev call 28 44 [some (.ref a), l1, l2] (.ref a :: st) h := je_aload_n (r := some a) D28_43 rfl rfl
theorem D28_44 : decode (jt_code 28) 44 = .ok (.aload_n 0, 1) := by decide +kernel
theorem E28_44 {call : jv_F} {l1 l2 : Option Value} {a : Nat} {st : List Value} {h : jv_H} : jv_ev call 28 44 [some (.ref a), l1, l2] st h = jv_ev call 28 45 [some (.ref a), l1, l2] (.ref a :: st) h := je_aload_n (r := some a) D28_44 rfl rfl
theorem D28_45 : decode (jt_code 28) 45 = .ok (.iload_n 1, 1) := by decide +kernel
theorem E28_45 {call : jv_F} {l0 l2 : Option Value} {x : Int32} {st : List Value} {h : jv_H} : jv_ev call 28 45 [l0, some (.int x), l2] st h = jv_ev call 28 46 [l0, some (.int x), l2] (.int x :: st) h := je_iload_n D28_45 rfl rfl
theorem D28_46 : decode (jt_code 28) 46 = .ok (.invokevirtual 204, 3) := by decide +kernel
theorem E28_46 {call : jv_F} {l0 l1 l2 : Option Value} {v0 : Value}  {st : List Value} {m : Nat} {I : Nat → Int32} {A : Nat → Nat → Int32} {L : Nat → Nat → Int64} {rest : Nat → Option jv_C} {z : Nat × Nat} (hw : jv_wide st = true) (hc : (call 9 [.ref m, v0] (jm_H m I A L rest z)).isSome = true) : jv_ev call 28 46 [l0, l1, l2] (v0 :: .ref m :: st) (jm_H m I A L rest z) = jv_ev call 28 49 [l0, l1, l2] ((((call 9 [.ref m, v0] (jm_H m I A L rest z)).getD (none, (jm_H m I A L rest z))).1).toList ++ st) ((call 9 [.ref m, v0] (jm_H m I A L rest z)).getD (none, (jm_H m I A L rest z))).2 := by
  obtain ⟨⟨r, h'⟩, hv⟩ := Option.isSome_iff_exists.mp hc
  rw [hv]
  exact je_virt (y := 9) (as := [v0]) D28_46 rfl (by decide) (by decide) rfl jm_cl hw hv
theorem D28_49 : decode (jt_code 28) 49 = .ok (.putfield 182, 3) := by decide +kernel
theorem E28_49 {call : jv_F} {l0 l1 l2 : Option Value} {v : Int32} {st : List Value} {m : Nat} {I : Nat → Int32} {A : Nat → Nat → Int32} {L : Nat → Nat → Int64} {rest : Nat → Option jv_C} {z : Nat × Nat} : jv_ev call 28 49 [l0, l1, l2] (.int v :: .ref m :: st) (jm_H m I A L rest z) = jv_ev call 28 52 [l0, l1, l2] st (jm_H m (upd I 34 v) A L rest z) := je_put D28_49 rfl (by decide) (by decide) jm_p34
theorem D28_52 : decode (jt_code 28) 52 = .ok (.aload_n 0, 1) := by decide +kernel
theorem E28_52 {call : jv_F} {l1 l2 : Option Value} {a : Nat} {st : List Value} {h : jv_H} : jv_ev call 28 52 [some (.ref a), l1, l2] st h = jv_ev call 28 53 [some (.ref a), l1, l2] (.ref a :: st) h := je_aload_n (r := some a) D28_52 rfl rfl
theorem D28_53 : decode (jt_code 28) 53 = .ok (.getfield 85, 3) := by decide +kernel
theorem E28_53 {call : jv_F} {l0 l1 l2 : Option Value}  {st : List Value} {m : Nat} {I : Nat → Int32} {A : Nat → Nat → Int32} {L : Nat → Nat → Int64} {rest : Nat → Option jv_C} {z : Nat × Nat} : jv_ev call 28 53 [l0, l1, l2] (.ref m :: st) (jm_H m I A L rest z) = jv_ev call 28 56 [l0, l1, l2] (.ref (m + 24) :: st) (jm_H m I A L rest z) := je_get D28_53 rfl (by decide) jm_g28
theorem D28_56 : decode (jt_code 28) 56 = .ok (.aload_n 0, 1) := by decide +kernel
theorem E28_56 {call : jv_F} {l1 l2 : Option Value} {a : Nat} {st : List Value} {h : jv_H} : jv_ev call 28 56 [some (.ref a), l1, l2] st h = jv_ev call 28 57 [some (.ref a), l1, l2] (.ref a :: st) h := je_aload_n (r := some a) D28_56 rfl rfl
theorem D28_57 : decode (jt_code 28) 57 = .ok (.getfield 182, 3) := by decide +kernel
theorem E28_57 {call : jv_F} {l0 l1 l2 : Option Value}  {st : List Value} {m : Nat} {I : Nat → Int32} {A : Nat → Nat → Int32} {L : Nat → Nat → Int64} {rest : Nat → Option jv_C} {z : Nat × Nat} : jv_ev call 28 57 [l0, l1, l2] (.ref m :: st) (jm_H m I A L rest z) = jv_ev call 28 60 [l0, l1, l2] (.int (I 34) :: st) (jm_H m I A L rest z) := je_get D28_57 rfl (by decide) jm_g34
theorem D28_60 : decode (jt_code 28) 60 = .ok (.iconst (-1), 1) := by decide +kernel
theorem E28_60 {call : jv_F} {l0 l1 l2 : Option Value}  {st : List Value} {h : jv_H} : jv_ev call 28 60 [l0, l1, l2] st h = jv_ev call 28 61 [l0, l1, l2] (.int (-1) :: st) h := je_iconst D28_60 rfl (by decide)
theorem D28_61 : decode (jt_code 28) 61 = .ok (.iastore, 1) := by decide +kernel
theorem E28_61 {call : jv_F} {l0 l1 l2 : Option Value} {i : Nat} {v : Int32} {st : List Value} {m : Nat} {I : Nat → Int32} {A : Nat → Nat → Int32} {L : Nat → Nat → Int64} {rest : Nat → Option jv_C} {z : Nat × Nat} (hi : i < 64) : jv_ev call 28 61 [l0, l1, l2] (.int v :: .int (nI i) :: .ref (m + 24) :: st) (jm_H m I A L rest z) = jv_ev call 28 62 [l0, l1, l2] st (jm_H m I (va_up A 28 (upd (A 28) i v)) L rest z) := je_iast D28_61 rfl (jm_s28 hi)
theorem D28_62 : decode (jt_code 28) 62 = .ok (.aload_n 0, 1) := by decide +kernel
theorem E28_62 {call : jv_F} {l1 l2 : Option Value} {a : Nat} {st : List Value} {h : jv_H} : jv_ev call 28 62 [some (.ref a), l1, l2] st h = jv_ev call 28 63 [some (.ref a), l1, l2] (.ref a :: st) h := je_aload_n (r := some a) D28_62 rfl rfl
theorem D28_63 : decode (jt_code 28) 63 = .ok (.dup, 1) := by decide +kernel
theorem E28_63 {call : jv_F} {l0 l1 l2 : Option Value} {a : Nat} {st : List Value} {h : jv_H} : jv_ev call 28 63 [l0, l1, l2] (.ref a :: st) h = jv_ev call 28 64 [l0, l1, l2] (.ref a :: .ref a :: st) h := je_dup D28_63 rfl rfl
theorem E28_63i {call : jv_F} {l0 l1 l2 : Option Value} {x : Int32} {st : List Value} {h : jv_H} : jv_ev call 28 63 [l0, l1, l2] (.int x :: st) h = jv_ev call 28 64 [l0, l1, l2] (.int x :: .int x :: st) h := je_dup D28_63 rfl rfl
theorem D28_64 : decode (jt_code 28) 64 = .ok (.getfield 207, 3) := by decide +kernel
theorem E28_64 {call : jv_F} {l0 l1 l2 : Option Value}  {st : List Value} {m : Nat} {I : Nat → Int32} {A : Nat → Nat → Int32} {L : Nat → Nat → Int64} {rest : Nat → Option jv_C} {z : Nat × Nat} : jv_ev call 28 64 [l0, l1, l2] (.ref m :: st) (jm_H m I A L rest z) = jv_ev call 28 67 [l0, l1, l2] (.int (I 38) :: st) (jm_H m I A L rest z) := je_get D28_64 rfl (by decide) jm_g38
theorem D28_67 : decode (jt_code 28) 67 = .ok (.iconst 1, 1) := by decide +kernel
theorem E28_67 {call : jv_F} {l0 l1 l2 : Option Value}  {st : List Value} {h : jv_H} : jv_ev call 28 67 [l0, l1, l2] st h = jv_ev call 28 68 [l0, l1, l2] (.int (nI 1) :: st) h := je_iconst D28_67 rfl (by decide)
theorem D28_68 : decode (jt_code 28) 68 = .ok (.iadd, 1) := by decide +kernel
theorem E28_68 {call : jv_F} {l0 l1 l2 : Option Value} {x y : Int32} {st : List Value} {h : jv_H} : jv_ev call 28 68 [l0, l1, l2] (.int y :: .int x :: st) h = jv_ev call 28 69 [l0, l1, l2] (.int (x + y) :: st) h := je_b2 (f := fun x y => x + y) D28_68 rfl (fun _ => rfl)
theorem D28_69 : decode (jt_code 28) 69 = .ok (.putfield 207, 3) := by decide +kernel
theorem E28_69 {call : jv_F} {l0 l1 l2 : Option Value} {v : Int32} {st : List Value} {m : Nat} {I : Nat → Int32} {A : Nat → Nat → Int32} {L : Nat → Nat → Int64} {rest : Nat → Option jv_C} {z : Nat × Nat} : jv_ev call 28 69 [l0, l1, l2] (.int v :: .ref m :: st) (jm_H m I A L rest z) = jv_ev call 28 72 [l0, l1, l2] st (jm_H m (upd I 38 v) A L rest z) := je_put D28_69 rfl (by decide) (by decide) jm_p38
theorem D28_72 : decode (jt_code 28) 72 = .ok (.goto 79, 3) := by decide +kernel
theorem E28_72 {call : jv_F} {l0 l1 l2 : Option Value}  {st : List Value} {h : jv_H} : jv_ev call 28 72 [l0, l1, l2] st h = jv_ev call 28 151 [l0, l1, l2] st h := je_goto D28_72 (by decide)
theorem D28_75 : decode (jt_code 28) 75 = .ok (.aload_n 0, 1) := by decide +kernel
theorem E28_75 {call : jv_F} {l1 l2 : Option Value} {a : Nat} {st : List Value} {h : jv_H} : jv_ev call 28 75 [some (.ref a), l1, l2] st h = jv_ev call 28 76 [some (.ref a), l1, l2] (.ref a :: st) h := je_aload_n (r := some a) D28_75 rfl rfl
theorem D28_76 : decode (jt_code 28) 76 = .ok (.iconst (-1), 1) := by decide +kernel
theorem E28_76 {call : jv_F} {l0 l1 l2 : Option Value}  {st : List Value} {h : jv_H} : jv_ev call 28 76 [l0, l1, l2] st h = jv_ev call 28 77 [l0, l1, l2] (.int (-1) :: st) h := je_iconst D28_76 rfl (by decide)
theorem D28_77 : decode (jt_code 28) 77 = .ok (.putfield 182, 3) := by decide +kernel
theorem E28_77 {call : jv_F} {l0 l1 l2 : Option Value} {v : Int32} {st : List Value} {m : Nat} {I : Nat → Int32} {A : Nat → Nat → Int32} {L : Nat → Nat → Int64} {rest : Nat → Option jv_C} {z : Nat × Nat} : jv_ev call 28 77 [l0, l1, l2] (.int v :: .ref m :: st) (jm_H m I A L rest z) = jv_ev call 28 80 [l0, l1, l2] st (jm_H m (upd I 34 v) A L rest z) := je_put D28_77 rfl (by decide) (by decide) jm_p34
theorem D28_80 : decode (jt_code 28) 80 = .ok (.iconst 0, 1) := by decide +kernel
theorem E28_80 {call : jv_F} {l0 l1 l2 : Option Value}  {st : List Value} {h : jv_H} : jv_ev call 28 80 [l0, l1, l2] st h = jv_ev call 28 81 [l0, l1, l2] (.int (nI 0) :: st) h := je_iconst D28_80 rfl (by decide)
theorem D28_81 : decode (jt_code 28) 81 = .ok (.istore_n 2, 1) := by decide +kernel
theorem E28_81 {call : jv_F} {l0 l1 l2 : Option Value} {x : Int32} {st : List Value} {h : jv_H} (hk : ¬ jv_is2 (some l1) = true) : jv_ev call 28 81 [l0, l1, l2] (.int x :: st) h = jv_ev call 28 82 [l0, l1, some (.int x)] st h := je_istore_n D28_81 rfl (Nat.le_of_ble_eq_true rfl) (by show jv_st1 _ 2 _ = _; simp only [jv_st1, jv_kill, List.getElem?_cons_succ, List.getElem?_cons_zero, hk, if_false]; rfl)
theorem D28_82 : decode (jt_code 28) 82 = .ok (.iload_n 2, 1) := by decide +kernel
theorem E28_82 {call : jv_F} {l0 l1 : Option Value} {x : Int32} {st : List Value} {h : jv_H} : jv_ev call 28 82 [l0, l1, some (.int x)] st h = jv_ev call 28 83 [l0, l1, some (.int x)] (.int x :: st) h := je_iload_n D28_82 rfl rfl
theorem D28_83 : decode (jt_code 28) 83 = .ok (.bipush 64, 2) := by decide +kernel
theorem E28_83 {call : jv_F} {l0 l1 l2 : Option Value}  {st : List Value} {h : jv_H} : jv_ev call 28 83 [l0, l1, l2] st h = jv_ev call 28 85 [l0, l1, l2] (.int (nI 64) :: st) h := je_bipush D28_83 rfl (by decide)
theorem D28_85 : decode (jt_code 28) 85 = .ok (.if_icmp .ge 46, 3) := by decide +kernel
theorem E28_85 {call : jv_F} {l0 l1 l2 : Option Value} {x y : Int32} {st : List Value} {h : jv_H} : jv_ev call 28 85 [l0, l1, l2] (.int y :: .int x :: st) h = if y ≤ x then jv_ev call 28 131 [l0, l1, l2] st h else jv_ev call 28 88 [l0, l1, l2] st h := je_icmp D28_85 (by decide) rfl rfl
theorem D28_88 : decode (jt_code 28) 88 = .ok (.aload_n 0, 1) := by decide +kernel
theorem E28_88 {call : jv_F} {l1 l2 : Option Value} {a : Nat} {st : List Value} {h : jv_H} : jv_ev call 28 88 [some (.ref a), l1, l2] st h = jv_ev call 28 89 [some (.ref a), l1, l2] (.ref a :: st) h := je_aload_n (r := some a) D28_88 rfl rfl
theorem D28_89 : decode (jt_code 28) 89 = .ok (.getfield 85, 3) := by decide +kernel
theorem E28_89 {call : jv_F} {l0 l1 l2 : Option Value}  {st : List Value} {m : Nat} {I : Nat → Int32} {A : Nat → Nat → Int32} {L : Nat → Nat → Int64} {rest : Nat → Option jv_C} {z : Nat × Nat} : jv_ev call 28 89 [l0, l1, l2] (.ref m :: st) (jm_H m I A L rest z) = jv_ev call 28 92 [l0, l1, l2] (.ref (m + 24) :: st) (jm_H m I A L rest z) := je_get D28_89 rfl (by decide) jm_g28
theorem D28_92 : decode (jt_code 28) 92 = .ok (.iload_n 2, 1) := by decide +kernel
theorem E28_92 {call : jv_F} {l0 l1 : Option Value} {x : Int32} {st : List Value} {h : jv_H} : jv_ev call 28 92 [l0, l1, some (.int x)] st h = jv_ev call 28 93 [l0, l1, some (.int x)] (.int x :: st) h := je_iload_n D28_92 rfl rfl
theorem D28_93 : decode (jt_code 28) 93 = .ok (.iaload, 1) := by decide +kernel
theorem E28_93 {call : jv_F} {l0 l1 l2 : Option Value} {i : Nat} {st : List Value} {m : Nat} {I : Nat → Int32} {A : Nat → Nat → Int32} {L : Nat → Nat → Int64} {rest : Nat → Option jv_C} {z : Nat × Nat} (hi : i < 64) : jv_ev call 28 93 [l0, l1, l2] (.int (nI i) :: .ref (m + 24) :: st) (jm_H m I A L rest z) = jv_ev call 28 94 [l0, l1, l2] (.int (A 28 i) :: st) (jm_H m I A L rest z) := je_iald D28_93 rfl (jm_l28 hi)
theorem D28_94 : decode (jt_code 28) 94 = .ok (.ifCond .ge 31, 3) := by decide +kernel
theorem E28_94 {call : jv_F} {l0 l1 l2 : Option Value} {x : Int32} {st : List Value} {h : jv_H} : jv_ev call 28 94 [l0, l1, l2] (.int x :: st) h = if 0 ≤ x then jv_ev call 28 125 [l0, l1, l2] st h else jv_ev call 28 97 [l0, l1, l2] st h := je_ifc D28_94 (by decide) rfl rfl
theorem D28_97 : decode (jt_code 28) 97 = .ok (.aload_n 0, 1) := by decide +kernel
theorem E28_97 {call : jv_F} {l1 l2 : Option Value} {a : Nat} {st : List Value} {h : jv_H} : jv_ev call 28 97 [some (.ref a), l1, l2] st h = jv_ev call 28 98 [some (.ref a), l1, l2] (.ref a :: st) h := je_aload_n (r := some a) D28_97 rfl rfl
theorem D28_98 : decode (jt_code 28) 98 = .ok (.getfield 182, 3) := by decide +kernel
theorem E28_98 {call : jv_F} {l0 l1 l2 : Option Value}  {st : List Value} {m : Nat} {I : Nat → Int32} {A : Nat → Nat → Int32} {L : Nat → Nat → Int64} {rest : Nat → Option jv_C} {z : Nat × Nat} : jv_ev call 28 98 [l0, l1, l2] (.ref m :: st) (jm_H m I A L rest z) = jv_ev call 28 101 [l0, l1, l2] (.int (I 34) :: st) (jm_H m I A L rest z) := je_get D28_98 rfl (by decide) jm_g34
theorem D28_101 : decode (jt_code 28) 101 = .ok (.ifCond .lt 19, 3) := by decide +kernel
theorem E28_101 {call : jv_F} {l0 l1 l2 : Option Value} {x : Int32} {st : List Value} {h : jv_H} : jv_ev call 28 101 [l0, l1, l2] (.int x :: st) h = if x < 0 then jv_ev call 28 120 [l0, l1, l2] st h else jv_ev call 28 104 [l0, l1, l2] st h := je_ifc D28_101 (by decide) rfl rfl
theorem D28_104 : decode (jt_code 28) 104 = .ok (.aload_n 0, 1) := by decide +kernel
theorem E28_104 {call : jv_F} {l1 l2 : Option Value} {a : Nat} {st : List Value} {h : jv_H} : jv_ev call 28 104 [some (.ref a), l1, l2] st h = jv_ev call 28 105 [some (.ref a), l1, l2] (.ref a :: st) h := je_aload_n (r := some a) D28_104 rfl rfl
theorem D28_105 : decode (jt_code 28) 105 = .ok (.iload_n 2, 1) := by decide +kernel
theorem E28_105 {call : jv_F} {l0 l1 : Option Value} {x : Int32} {st : List Value} {h : jv_H} : jv_ev call 28 105 [l0, l1, some (.int x)] st h = jv_ev call 28 106 [l0, l1, some (.int x)] (.int x :: st) h := je_iload_n D28_105 rfl rfl
theorem D28_106 : decode (jt_code 28) 106 = .ok (.invokevirtual 210, 3) := by decide +kernel
theorem E28_106 {call : jv_F} {l0 l1 l2 : Option Value} {v0 : Value}  {st : List Value} {m : Nat} {I : Nat → Int32} {A : Nat → Nat → Int32} {L : Nat → Nat → Int64} {rest : Nat → Option jv_C} {z : Nat × Nat} (hw : jv_wide st = true) (hc : (call 27 [.ref m, v0] (jm_H m I A L rest z)).isSome = true) : jv_ev call 28 106 [l0, l1, l2] (v0 :: .ref m :: st) (jm_H m I A L rest z) = jv_ev call 28 109 [l0, l1, l2] ((((call 27 [.ref m, v0] (jm_H m I A L rest z)).getD (none, (jm_H m I A L rest z))).1).toList ++ st) ((call 27 [.ref m, v0] (jm_H m I A L rest z)).getD (none, (jm_H m I A L rest z))).2 := by
  obtain ⟨⟨r, h'⟩, hv⟩ := Option.isSome_iff_exists.mp hc
  rw [hv]
  exact je_virt (y := 27) (as := [v0]) D28_106 rfl (by decide) (by decide) rfl jm_cl hw hv
theorem D28_109 : decode (jt_code 28) 109 = .ok (.aload_n 0, 1) := by decide +kernel
theorem E28_109 {call : jv_F} {l1 l2 : Option Value} {a : Nat} {st : List Value} {h : jv_H} : jv_ev call 28 109 [some (.ref a), l1, l2] st h = jv_ev call 28 110 [some (.ref a), l1, l2] (.ref a :: st) h := je_aload_n (r := some a) D28_109 rfl rfl
theorem D28_110 : decode (jt_code 28) 110 = .ok (.aload_n 0, 1) := by decide +kernel
theorem E28_110 {call : jv_F} {l1 l2 : Option Value} {a : Nat} {st : List Value} {h : jv_H} : jv_ev call 28 110 [some (.ref a), l1, l2] st h = jv_ev call 28 111 [some (.ref a), l1, l2] (.ref a :: st) h := je_aload_n (r := some a) D28_110 rfl rfl
theorem D28_111 : decode (jt_code 28) 111 = .ok (.getfield 182, 3) := by decide +kernel
theorem E28_111 {call : jv_F} {l0 l1 l2 : Option Value}  {st : List Value} {m : Nat} {I : Nat → Int32} {A : Nat → Nat → Int32} {L : Nat → Nat → Int64} {rest : Nat → Option jv_C} {z : Nat × Nat} : jv_ev call 28 111 [l0, l1, l2] (.ref m :: st) (jm_H m I A L rest z) = jv_ev call 28 114 [l0, l1, l2] (.int (I 34) :: st) (jm_H m I A L rest z) := je_get D28_111 rfl (by decide) jm_g34
theorem D28_114 : decode (jt_code 28) 114 = .ok (.invokevirtual 210, 3) := by decide +kernel
theorem E28_114 {call : jv_F} {l0 l1 l2 : Option Value} {v0 : Value}  {st : List Value} {m : Nat} {I : Nat → Int32} {A : Nat → Nat → Int32} {L : Nat → Nat → Int64} {rest : Nat → Option jv_C} {z : Nat × Nat} (hw : jv_wide st = true) (hc : (call 27 [.ref m, v0] (jm_H m I A L rest z)).isSome = true) : jv_ev call 28 114 [l0, l1, l2] (v0 :: .ref m :: st) (jm_H m I A L rest z) = jv_ev call 28 117 [l0, l1, l2] ((((call 27 [.ref m, v0] (jm_H m I A L rest z)).getD (none, (jm_H m I A L rest z))).1).toList ++ st) ((call 27 [.ref m, v0] (jm_H m I A L rest z)).getD (none, (jm_H m I A L rest z))).2 := by
  obtain ⟨⟨r, h'⟩, hv⟩ := Option.isSome_iff_exists.mp hc
  rw [hv]
  exact je_virt (y := 27) (as := [v0]) D28_114 rfl (by decide) (by decide) rfl jm_cl hw hv
theorem D28_117 : decode (jt_code 28) 117 = .ok (.if_icmp .ge 8, 3) := by decide +kernel
theorem E28_117 {call : jv_F} {l0 l1 l2 : Option Value} {x y : Int32} {st : List Value} {h : jv_H} : jv_ev call 28 117 [l0, l1, l2] (.int y :: .int x :: st) h = if y ≤ x then jv_ev call 28 125 [l0, l1, l2] st h else jv_ev call 28 120 [l0, l1, l2] st h := je_icmp D28_117 (by decide) rfl rfl
theorem D28_120 : decode (jt_code 28) 120 = .ok (.aload_n 0, 1) := by decide +kernel
theorem E28_120 {call : jv_F} {l1 l2 : Option Value} {a : Nat} {st : List Value} {h : jv_H} : jv_ev call 28 120 [some (.ref a), l1, l2] st h = jv_ev call 28 121 [some (.ref a), l1, l2] (.ref a :: st) h := je_aload_n (r := some a) D28_120 rfl rfl
theorem D28_121 : decode (jt_code 28) 121 = .ok (.iload_n 2, 1) := by decide +kernel
theorem E28_121 {call : jv_F} {l0 l1 : Option Value} {x : Int32} {st : List Value} {h : jv_H} : jv_ev call 28 121 [l0, l1, some (.int x)] st h = jv_ev call 28 122 [l0, l1, some (.int x)] (.int x :: st) h := je_iload_n D28_121 rfl rfl
theorem D28_122 : decode (jt_code 28) 122 = .ok (.putfield 182, 3) := by decide +kernel
theorem E28_122 {call : jv_F} {l0 l1 l2 : Option Value} {v : Int32} {st : List Value} {m : Nat} {I : Nat → Int32} {A : Nat → Nat → Int32} {L : Nat → Nat → Int64} {rest : Nat → Option jv_C} {z : Nat × Nat} : jv_ev call 28 122 [l0, l1, l2] (.int v :: .ref m :: st) (jm_H m I A L rest z) = jv_ev call 28 125 [l0, l1, l2] st (jm_H m (upd I 34 v) A L rest z) := je_put D28_122 rfl (by decide) (by decide) jm_p34
theorem D28_125 : decode (jt_code 28) 125 = .ok (.iinc 2 1, 3) := by decide +kernel
theorem E28_125 {call : jv_F} {l0 l1 : Option Value} {x : Int32} {st : List Value} {h : jv_H} (hk : ¬ jv_is2 (some l1) = true) : jv_ev call 28 125 [l0, l1, some (.int x)] st h = jv_ev call 28 128 [l0, l1, some (.int (x + (nI 1)))] st h := je_iinc D28_125 rfl rfl (v := x + (nI 1)) (by rfl) (by show jv_st1 _ 2 _ = _; simp only [jv_st1, jv_kill, List.getElem?_cons_succ, List.getElem?_cons_zero, hk, if_false]; rfl)
theorem D28_128 : decode (jt_code 28) 128 = .ok (.goto (-46), 3) := by decide +kernel
theorem E28_128 {call : jv_F} {l0 l1 l2 : Option Value}  {st : List Value} {h : jv_H} : jv_ev call 28 128 [l0, l1, l2] st h = jv_ev call 28 82 [l0, l1, l2] st h := je_goto D28_128 (by decide)
theorem D28_131 : decode (jt_code 28) 131 = .ok (.aload_n 0, 1) := by decide +kernel
theorem E28_131 {call : jv_F} {l1 l2 : Option Value} {a : Nat} {st : List Value} {h : jv_H} : jv_ev call 28 131 [some (.ref a), l1, l2] st h = jv_ev call 28 132 [some (.ref a), l1, l2] (.ref a :: st) h := je_aload_n (r := some a) D28_131 rfl rfl
theorem D28_132 : decode (jt_code 28) 132 = .ok (.getfield 85, 3) := by decide +kernel
theorem E28_132 {call : jv_F} {l0 l1 l2 : Option Value}  {st : List Value} {m : Nat} {I : Nat → Int32} {A : Nat → Nat → Int32} {L : Nat → Nat → Int64} {rest : Nat → Option jv_C} {z : Nat × Nat} : jv_ev call 28 132 [l0, l1, l2] (.ref m :: st) (jm_H m I A L rest z) = jv_ev call 28 135 [l0, l1, l2] (.ref (m + 24) :: st) (jm_H m I A L rest z) := je_get D28_132 rfl (by decide) jm_g28
theorem D28_135 : decode (jt_code 28) 135 = .ok (.aload_n 0, 1) := by decide +kernel
theorem E28_135 {call : jv_F} {l1 l2 : Option Value} {a : Nat} {st : List Value} {h : jv_H} : jv_ev call 28 135 [some (.ref a), l1, l2] st h = jv_ev call 28 136 [some (.ref a), l1, l2] (.ref a :: st) h := je_aload_n (r := some a) D28_135 rfl rfl
theorem D28_136 : decode (jt_code 28) 136 = .ok (.getfield 182, 3) := by decide +kernel
theorem E28_136 {call : jv_F} {l0 l1 l2 : Option Value}  {st : List Value} {m : Nat} {I : Nat → Int32} {A : Nat → Nat → Int32} {L : Nat → Nat → Int64} {rest : Nat → Option jv_C} {z : Nat × Nat} : jv_ev call 28 136 [l0, l1, l2] (.ref m :: st) (jm_H m I A L rest z) = jv_ev call 28 139 [l0, l1, l2] (.int (I 34) :: st) (jm_H m I A L rest z) := je_get D28_136 rfl (by decide) jm_g34
theorem D28_139 : decode (jt_code 28) 139 = .ok (.iload_n 1, 1) := by decide +kernel
theorem E28_139 {call : jv_F} {l0 l2 : Option Value} {x : Int32} {st : List Value} {h : jv_H} : jv_ev call 28 139 [l0, some (.int x), l2] st h = jv_ev call 28 140 [l0, some (.int x), l2] (.int x :: st) h := je_iload_n D28_139 rfl rfl
theorem D28_140 : decode (jt_code 28) 140 = .ok (.iastore, 1) := by decide +kernel
theorem E28_140 {call : jv_F} {l0 l1 l2 : Option Value} {i : Nat} {v : Int32} {st : List Value} {m : Nat} {I : Nat → Int32} {A : Nat → Nat → Int32} {L : Nat → Nat → Int64} {rest : Nat → Option jv_C} {z : Nat × Nat} (hi : i < 64) : jv_ev call 28 140 [l0, l1, l2] (.int v :: .int (nI i) :: .ref (m + 24) :: st) (jm_H m I A L rest z) = jv_ev call 28 141 [l0, l1, l2] st (jm_H m I (va_up A 28 (upd (A 28) i v)) L rest z) := je_iast D28_140 rfl (jm_s28 hi)
theorem D28_141 : decode (jt_code 28) 141 = .ok (.aload_n 0, 1) := by decide +kernel
theorem E28_141 {call : jv_F} {l1 l2 : Option Value} {a : Nat} {st : List Value} {h : jv_H} : jv_ev call 28 141 [some (.ref a), l1, l2] st h = jv_ev call 28 142 [some (.ref a), l1, l2] (.ref a :: st) h := je_aload_n (r := some a) D28_141 rfl rfl
theorem D28_142 : decode (jt_code 28) 142 = .ok (.dup, 1) := by decide +kernel
theorem E28_142 {call : jv_F} {l0 l1 l2 : Option Value} {a : Nat} {st : List Value} {h : jv_H} : jv_ev call 28 142 [l0, l1, l2] (.ref a :: st) h = jv_ev call 28 143 [l0, l1, l2] (.ref a :: .ref a :: st) h := je_dup D28_142 rfl rfl
theorem E28_142i {call : jv_F} {l0 l1 l2 : Option Value} {x : Int32} {st : List Value} {h : jv_H} : jv_ev call 28 142 [l0, l1, l2] (.int x :: st) h = jv_ev call 28 143 [l0, l1, l2] (.int x :: .int x :: st) h := je_dup D28_142 rfl rfl
theorem D28_143 : decode (jt_code 28) 143 = .ok (.getfield 213, 3) := by decide +kernel
theorem E28_143 {call : jv_F} {l0 l1 l2 : Option Value}  {st : List Value} {m : Nat} {I : Nat → Int32} {A : Nat → Nat → Int32} {L : Nat → Nat → Int64} {rest : Nat → Option jv_C} {z : Nat × Nat} : jv_ev call 28 143 [l0, l1, l2] (.ref m :: st) (jm_H m I A L rest z) = jv_ev call 28 146 [l0, l1, l2] (.int (I 39) :: st) (jm_H m I A L rest z) := je_get D28_143 rfl (by decide) jm_g39
theorem D28_146 : decode (jt_code 28) 146 = .ok (.iconst 1, 1) := by decide +kernel
theorem E28_146 {call : jv_F} {l0 l1 l2 : Option Value}  {st : List Value} {h : jv_H} : jv_ev call 28 146 [l0, l1, l2] st h = jv_ev call 28 147 [l0, l1, l2] (.int (nI 1) :: st) h := je_iconst D28_146 rfl (by decide)
theorem D28_147 : decode (jt_code 28) 147 = .ok (.iadd, 1) := by decide +kernel
theorem E28_147 {call : jv_F} {l0 l1 l2 : Option Value} {x y : Int32} {st : List Value} {h : jv_H} : jv_ev call 28 147 [l0, l1, l2] (.int y :: .int x :: st) h = jv_ev call 28 148 [l0, l1, l2] (.int (x + y) :: st) h := je_b2 (f := fun x y => x + y) D28_147 rfl (fun _ => rfl)
theorem D28_148 : decode (jt_code 28) 148 = .ok (.putfield 213, 3) := by decide +kernel
theorem E28_148 {call : jv_F} {l0 l1 l2 : Option Value} {v : Int32} {st : List Value} {m : Nat} {I : Nat → Int32} {A : Nat → Nat → Int32} {L : Nat → Nat → Int64} {rest : Nat → Option jv_C} {z : Nat × Nat} : jv_ev call 28 148 [l0, l1, l2] (.int v :: .ref m :: st) (jm_H m I A L rest z) = jv_ev call 28 151 [l0, l1, l2] st (jm_H m (upd I 39 v) A L rest z) := je_put D28_148 rfl (by decide) (by decide) jm_p39
theorem D28_151 : decode (jt_code 28) 151 = .ok (.aload_n 0, 1) := by decide +kernel
theorem E28_151 {call : jv_F} {l1 l2 : Option Value} {a : Nat} {st : List Value} {h : jv_H} : jv_ev call 28 151 [some (.ref a), l1, l2] st h = jv_ev call 28 152 [some (.ref a), l1, l2] (.ref a :: st) h := je_aload_n (r := some a) D28_151 rfl rfl
theorem D28_152 : decode (jt_code 28) 152 = .ok (.aload_n 0, 1) := by decide +kernel
theorem E28_152 {call : jv_F} {l1 l2 : Option Value} {a : Nat} {st : List Value} {h : jv_H} : jv_ev call 28 152 [some (.ref a), l1, l2] st h = jv_ev call 28 153 [some (.ref a), l1, l2] (.ref a :: st) h := je_aload_n (r := some a) D28_152 rfl rfl
theorem D28_153 : decode (jt_code 28) 153 = .ok (.aload_n 0, 1) := by decide +kernel
theorem E28_153 {call : jv_F} {l1 l2 : Option Value} {a : Nat} {st : List Value} {h : jv_H} : jv_ev call 28 153 [some (.ref a), l1, l2] st h = jv_ev call 28 154 [some (.ref a), l1, l2] (.ref a :: st) h := je_aload_n (r := some a) D28_153 rfl rfl
theorem D28_154 : decode (jt_code 28) 154 = .ok (.getfield 182, 3) := by decide +kernel
theorem E28_154 {call : jv_F} {l0 l1 l2 : Option Value}  {st : List Value} {m : Nat} {I : Nat → Int32} {A : Nat → Nat → Int32} {L : Nat → Nat → Int64} {rest : Nat → Option jv_C} {z : Nat × Nat} : jv_ev call 28 154 [l0, l1, l2] (.ref m :: st) (jm_H m I A L rest z) = jv_ev call 28 157 [l0, l1, l2] (.int (I 34) :: st) (jm_H m I A L rest z) := je_get D28_154 rfl (by decide) jm_g34
theorem D28_157 : decode (jt_code 28) 157 = .ok (.invokevirtual 210, 3) := by decide +kernel
theorem E28_157 {call : jv_F} {l0 l1 l2 : Option Value} {v0 : Value}  {st : List Value} {m : Nat} {I : Nat → Int32} {A : Nat → Nat → Int32} {L : Nat → Nat → Int64} {rest : Nat → Option jv_C} {z : Nat × Nat} (hw : jv_wide st = true) (hc : (call 27 [.ref m, v0] (jm_H m I A L rest z)).isSome = true) : jv_ev call 28 157 [l0, l1, l2] (v0 :: .ref m :: st) (jm_H m I A L rest z) = jv_ev call 28 160 [l0, l1, l2] ((((call 27 [.ref m, v0] (jm_H m I A L rest z)).getD (none, (jm_H m I A L rest z))).1).toList ++ st) ((call 27 [.ref m, v0] (jm_H m I A L rest z)).getD (none, (jm_H m I A L rest z))).2 := by
  obtain ⟨⟨r, h'⟩, hv⟩ := Option.isSome_iff_exists.mp hc
  rw [hv]
  exact je_virt (y := 27) (as := [v0]) D28_157 rfl (by decide) (by decide) rfl jm_cl hw hv
theorem D28_160 : decode (jt_code 28) 160 = .ok (.iconst 2, 1) := by decide +kernel
theorem E28_160 {call : jv_F} {l0 l1 l2 : Option Value}  {st : List Value} {h : jv_H} : jv_ev call 28 160 [l0, l1, l2] st h = jv_ev call 28 161 [l0, l1, l2] (.int (nI 2) :: st) h := je_iconst D28_160 rfl (by decide)
theorem D28_161 : decode (jt_code 28) 161 = .ok (.iadd, 1) := by decide +kernel
theorem E28_161 {call : jv_F} {l0 l1 l2 : Option Value} {x y : Int32} {st : List Value} {h : jv_H} : jv_ev call 28 161 [l0, l1, l2] (.int y :: .int x :: st) h = jv_ev call 28 162 [l0, l1, l2] (.int (x + y) :: st) h := je_b2 (f := fun x y => x + y) D28_161 rfl (fun _ => rfl)
theorem D28_162 : decode (jt_code 28) 162 = .ok (.putfield 145, 3) := by decide +kernel
theorem E28_162 {call : jv_F} {l0 l1 l2 : Option Value} {v : Int32} {st : List Value} {m : Nat} {I : Nat → Int32} {A : Nat → Nat → Int32} {L : Nat → Nat → Int64} {rest : Nat → Option jv_C} {z : Nat × Nat} : jv_ev call 28 162 [l0, l1, l2] (.int v :: .ref m :: st) (jm_H m I A L rest z) = jv_ev call 28 165 [l0, l1, l2] st (jm_H m (upd I 35 v) A L rest z) := je_put D28_162 rfl (by decide) (by decide) jm_p35
theorem D28_165 : decode (jt_code 28) 165 = .ok (.return_, 1) := by decide +kernel
theorem E28_165 {call : jv_F} {l0 l1 l2 : Option Value}  {h : jv_H} : jv_ev call 28 165 [l0, l1, l2] [] h = some (none, h) := je_ret D28_165 rfl
/-! method 29: DrumMachineModel.next -/
theorem N29 {d : Nat} {b : Nat} {h : jv_H} : jv_run (d + 1) 29 [.ref b] h = jv_ev (jv_run d) 29 0 [some (.ref b), none, none] [] h := jv_run_eq (Nat.le_of_ble_eq_true rfl) rfl
theorem D29_0 : decode (jt_code 29) 0 = .ok (.aload_n 0, 1) := by decide +kernel
theorem E29_0 {call : jv_F} {l1 l2 : Option Value} {a : Nat} {st : List Value} {h : jv_H} : jv_ev call 29 0 [some (.ref a), l1, l2] st h = jv_ev call 29 1 [some (.ref a), l1, l2] (.ref a :: st) h := je_aload_n (r := some a) D29_0 rfl rfl
theorem D29_1 : decode (jt_code 29) 1 = .ok (.getfield 94, 3) := by decide +kernel
theorem E29_1 {call : jv_F} {l0 l1 l2 : Option Value}  {st : List Value} {m : Nat} {I : Nat → Int32} {A : Nat → Nat → Int32} {L : Nat → Nat → Int64} {rest : Nat → Option jv_C} {z : Nat × Nat} : jv_ev call 29 1 [l0, l1, l2] (.ref m :: st) (jm_H m I A L rest z) = jv_ev call 29 4 [l0, l1, l2] (.int (I 37) :: st) (jm_H m I A L rest z) := je_get D29_1 rfl (by decide) jm_g37
theorem D29_4 : decode (jt_code 29) 4 = .ok (.ifCond .lt 30, 3) := by decide +kernel
theorem E29_4 {call : jv_F} {l0 l1 l2 : Option Value} {x : Int32} {st : List Value} {h : jv_H} : jv_ev call 29 4 [l0, l1, l2] (.int x :: st) h = if x < 0 then jv_ev call 29 34 [l0, l1, l2] st h else jv_ev call 29 7 [l0, l1, l2] st h := je_ifc D29_4 (by decide) rfl rfl
theorem D29_7 : decode (jt_code 29) 7 = .ok (.aload_n 0, 1) := by decide +kernel
theorem E29_7 {call : jv_F} {l1 l2 : Option Value} {a : Nat} {st : List Value} {h : jv_H} : jv_ev call 29 7 [some (.ref a), l1, l2] st h = jv_ev call 29 8 [some (.ref a), l1, l2] (.ref a :: st) h := je_aload_n (r := some a) D29_7 rfl rfl
theorem D29_8 : decode (jt_code 29) 8 = .ok (.aload_n 0, 1) := by decide +kernel
theorem E29_8 {call : jv_F} {l1 l2 : Option Value} {a : Nat} {st : List Value} {h : jv_H} : jv_ev call 29 8 [some (.ref a), l1, l2] st h = jv_ev call 29 9 [some (.ref a), l1, l2] (.ref a :: st) h := je_aload_n (r := some a) D29_8 rfl rfl
theorem D29_9 : decode (jt_code 29) 9 = .ok (.getfield 94, 3) := by decide +kernel
theorem E29_9 {call : jv_F} {l0 l1 l2 : Option Value}  {st : List Value} {m : Nat} {I : Nat → Int32} {A : Nat → Nat → Int32} {L : Nat → Nat → Int64} {rest : Nat → Option jv_C} {z : Nat × Nat} : jv_ev call 29 9 [l0, l1, l2] (.ref m :: st) (jm_H m I A L rest z) = jv_ev call 29 12 [l0, l1, l2] (.int (I 37) :: st) (jm_H m I A L rest z) := je_get D29_9 rfl (by decide) jm_g37
theorem D29_12 : decode (jt_code 29) 12 = .ok (.invokevirtual 125, 3) := by decide +kernel
theorem E29_12 {call : jv_F} {l0 l1 l2 : Option Value} {v0 : Value}  {st : List Value} {m : Nat} {I : Nat → Int32} {A : Nat → Nat → Int32} {L : Nat → Nat → Int64} {rest : Nat → Option jv_C} {z : Nat × Nat} (hw : jv_wide st = true) (hc : (call 12 [.ref m, v0] (jm_H m I A L rest z)).isSome = true) : jv_ev call 29 12 [l0, l1, l2] (v0 :: .ref m :: st) (jm_H m I A L rest z) = jv_ev call 29 15 [l0, l1, l2] ((((call 12 [.ref m, v0] (jm_H m I A L rest z)).getD (none, (jm_H m I A L rest z))).1).toList ++ st) ((call 12 [.ref m, v0] (jm_H m I A L rest z)).getD (none, (jm_H m I A L rest z))).2 := by
  obtain ⟨⟨r, h'⟩, hv⟩ := Option.isSome_iff_exists.mp hc
  rw [hv]
  exact je_virt (y := 12) (as := [v0]) D29_12 rfl (by decide) (by decide) rfl jm_cl hw hv
theorem D29_15 : decode (jt_code 29) 15 = .ok (.ifCond .eq 19, 3) := by decide +kernel
theorem E29_15 {call : jv_F} {l0 l1 l2 : Option Value} {x : Int32} {st : List Value} {h : jv_H} : jv_ev call 29 15 [l0, l1, l2] (.int x :: st) h = if x = 0 then jv_ev call 29 34 [l0, l1, l2] st h else jv_ev call 29 18 [l0, l1, l2] st h := je_ifc D29_15 (by decide) rfl rfl
theorem D29_18 : decode (jt_code 29) 18 = .ok (.aload_n 0, 1) := by decide +kernel
theorem E29_18 {call : jv_F} {l1 l2 : Option Value} {a : Nat} {st : List Value} {h : jv_H} : jv_ev call 29 18 [some (.ref a), l1, l2] st h = jv_ev call 29 19 [some (.ref a), l1, l2] (.ref a :: st) h := je_aload_n (r := some a) D29_18 rfl rfl
theorem D29_19 : decode (jt_code 29) 19 = .ok (.aload_n 0, 1) := by decide +kernel
theorem E29_19 {call : jv_F} {l1 l2 : Option Value} {a : Nat} {st : List Value} {h : jv_H} : jv_ev call 29 19 [some (.ref a), l1, l2] st h = jv_ev call 29 20 [some (.ref a), l1, l2] (.ref a :: st) h := je_aload_n (r := some a) D29_19 rfl rfl
theorem D29_20 : decode (jt_code 29) 20 = .ok (.getfield 94, 3) := by decide +kernel
theorem E29_20 {call : jv_F} {l0 l1 l2 : Option Value}  {st : List Value} {m : Nat} {I : Nat → Int32} {A : Nat → Nat → Int32} {L : Nat → Nat → Int64} {rest : Nat → Option jv_C} {z : Nat × Nat} : jv_ev call 29 20 [l0, l1, l2] (.ref m :: st) (jm_H m I A L rest z) = jv_ev call 29 23 [l0, l1, l2] (.int (I 37) :: st) (jm_H m I A L rest z) := je_get D29_20 rfl (by decide) jm_g37
theorem D29_23 : decode (jt_code 29) 23 = .ok (.invokevirtual 216, 3) := by decide +kernel
theorem E29_23 {call : jv_F} {l0 l1 l2 : Option Value} {v0 : Value}  {st : List Value} {m : Nat} {I : Nat → Int32} {A : Nat → Nat → Int32} {L : Nat → Nat → Int64} {rest : Nat → Option jv_C} {z : Nat × Nat} (hw : jv_wide st = true) (hc : (call 13 [.ref m, v0] (jm_H m I A L rest z)).isSome = true) : jv_ev call 29 23 [l0, l1, l2] (v0 :: .ref m :: st) (jm_H m I A L rest z) = jv_ev call 29 26 [l0, l1, l2] ((((call 13 [.ref m, v0] (jm_H m I A L rest z)).getD (none, (jm_H m I A L rest z))).1).toList ++ st) ((call 13 [.ref m, v0] (jm_H m I A L rest z)).getD (none, (jm_H m I A L rest z))).2 := by
  obtain ⟨⟨r, h'⟩, hv⟩ := Option.isSome_iff_exists.mp hc
  rw [hv]
  exact je_virt (y := 13) (as := [v0]) D29_23 rfl (by decide) (by decide) rfl jm_cl hw hv
theorem D29_26 : decode (jt_code 29) 26 = .ok (.ifCond .eq 8, 3) := by decide +kernel
theorem E29_26 {call : jv_F} {l0 l1 l2 : Option Value} {x : Int32} {st : List Value} {h : jv_H} : jv_ev call 29 26 [l0, l1, l2] (.int x :: st) h = if x = 0 then jv_ev call 29 34 [l0, l1, l2] st h else jv_ev call 29 29 [l0, l1, l2] st h := je_ifc D29_26 (by decide) rfl rfl
theorem D29_29 : decode (jt_code 29) 29 = .ok (.aload_n 0, 1) := by decide +kernel
theorem E29_29 {call : jv_F} {l1 l2 : Option Value} {a : Nat} {st : List Value} {h : jv_H} : jv_ev call 29 29 [some (.ref a), l1, l2] st h = jv_ev call 29 30 [some (.ref a), l1, l2] (.ref a :: st) h := je_aload_n (r := some a) D29_29 rfl rfl
theorem D29_30 : decode (jt_code 29) 30 = .ok (.getfield 94, 3) := by decide +kernel
theorem E29_30 {call : jv_F} {l0 l1 l2 : Option Value}  {st : List Value} {m : Nat} {I : Nat → Int32} {A : Nat → Nat → Int32} {L : Nat → Nat → Int64} {rest : Nat → Option jv_C} {z : Nat × Nat} : jv_ev call 29 30 [l0, l1, l2] (.ref m :: st) (jm_H m I A L rest z) = jv_ev call 29 33 [l0, l1, l2] (.int (I 37) :: st) (jm_H m I A L rest z) := je_get D29_30 rfl (by decide) jm_g37
theorem D29_33 : decode (jt_code 29) 33 = .ok (.ireturn, 1) := by decide +kernel
theorem E29_33 {call : jv_F} {l0 l1 l2 : Option Value} {v : Int32} {h : jv_H} : jv_ev call 29 33 [l0, l1, l2] [.int v] h = some (some (.int v), h) := je_iret (ty := .int) D29_33 rfl rfl rfl
theorem D29_34 : decode (jt_code 29) 34 = .ok (.iconst 1, 1) := by decide +kernel
theorem E29_34 {call : jv_F} {l0 l1 l2 : Option Value}  {st : List Value} {h : jv_H} : jv_ev call 29 34 [l0, l1, l2] st h = jv_ev call 29 35 [l0, l1, l2] (.int (nI 1) :: st) h := je_iconst D29_34 rfl (by decide)
theorem D29_35 : decode (jt_code 29) 35 = .ok (.istore_n 1, 1) := by decide +kernel
theorem E29_35 {call : jv_F} {l0 l1 l2 : Option Value} {x : Int32} {st : List Value} {h : jv_H} (hk : ¬ jv_is2 (some l0) = true) : jv_ev call 29 35 [l0, l1, l2] (.int x :: st) h = jv_ev call 29 36 [l0, some (.int x), l2] st h := je_istore_n D29_35 rfl (Nat.le_of_ble_eq_true rfl) (by show jv_st1 _ 1 _ = _; simp only [jv_st1, jv_kill, List.getElem?_cons_succ, List.getElem?_cons_zero, hk, if_false]; rfl)
theorem D29_36 : decode (jt_code 29) 36 = .ok (.iload_n 1, 1) := by decide +kernel
theorem E29_36 {call : jv_F} {l0 l2 : Option Value} {x : Int32} {st : List Value} {h : jv_H} : jv_ev call 29 36 [l0, some (.int x), l2] st h = jv_ev call 29 37 [l0, some (.int x), l2] (.int x :: st) h := je_iload_n D29_36 rfl rfl
theorem D29_37 : decode (jt_code 29) 37 = .ok (.aload_n 0, 1) := by decide +kernel
theorem E29_37 {call : jv_F} {l1 l2 : Option Value} {a : Nat} {st : List Value} {h : jv_H} : jv_ev call 29 37 [some (.ref a), l1, l2] st h = jv_ev call 29 38 [some (.ref a), l1, l2] (.ref a :: st) h := je_aload_n (r := some a) D29_37 rfl rfl
theorem D29_38 : decode (jt_code 29) 38 = .ok (.getfield 97, 3) := by decide +kernel
theorem E29_38 {call : jv_F} {l0 l1 l2 : Option Value}  {st : List Value} {m : Nat} {I : Nat → Int32} {A : Nat → Nat → Int32} {L : Nat → Nat → Int64} {rest : Nat → Option jv_C} {z : Nat × Nat} : jv_ev call 29 38 [l0, l1, l2] (.ref m :: st) (jm_H m I A L rest z) = jv_ev call 29 41 [l0, l1, l2] (.int (I 5) :: st) (jm_H m I A L rest z) := je_get D29_38 rfl (by decide) jm_g5
theorem D29_41 : decode (jt_code 29) 41 = .ok (.if_icmp .gt 39, 3) := by decide +kernel
theorem E29_41 {call : jv_F} {l0 l1 l2 : Option Value} {x y : Int32} {st : List Value} {h : jv_H} : jv_ev call 29 41 [l0, l1, l2] (.int y :: .int x :: st) h = if y < x then jv_ev call 29 80 [l0, l1, l2] st h else jv_ev call 29 44 [l0, l1, l2] st h := je_icmp D29_41 (by decide) rfl rfl
theorem D29_44 : decode (jt_code 29) 44 = .ok (.aload_n 0, 1) := by decide +kernel
theorem E29_44 {call : jv_F} {l1 l2 : Option Value} {a : Nat} {st : List Value} {h : jv_H} : jv_ev call 29 44 [some (.ref a), l1, l2] st h = jv_ev call 29 45 [some (.ref a), l1, l2] (.ref a :: st) h := je_aload_n (r := some a) D29_44 rfl rfl
theorem D29_45 : decode (jt_code 29) 45 = .ok (.getfield 94, 3) := by decide +kernel
theorem E29_45 {call : jv_F} {l0 l1 l2 : Option Value}  {st : List Value} {m : Nat} {I : Nat → Int32} {A : Nat → Nat → Int32} {L : Nat → Nat → Int64} {rest : Nat → Option jv_C} {z : Nat × Nat} : jv_ev call 29 45 [l0, l1, l2] (.ref m :: st) (jm_H m I A L rest z) = jv_ev call 29 48 [l0, l1, l2] (.int (I 37) :: st) (jm_H m I A L rest z) := je_get D29_45 rfl (by decide) jm_g37
theorem D29_48 : decode (jt_code 29) 48 = .ok (.iload_n 1, 1) := by decide +kernel
theorem E29_48 {call : jv_F} {l0 l2 : Option Value} {x : Int32} {st : List Value} {h : jv_H} : jv_ev call 29 48 [l0, some (.int x), l2] st h = jv_ev call 29 49 [l0, some (.int x), l2] (.int x :: st) h := je_iload_n D29_48 rfl rfl
theorem D29_49 : decode (jt_code 29) 49 = .ok (.iadd, 1) := by decide +kernel
theorem E29_49 {call : jv_F} {l0 l1 l2 : Option Value} {x y : Int32} {st : List Value} {h : jv_H} : jv_ev call 29 49 [l0, l1, l2] (.int y :: .int x :: st) h = jv_ev call 29 50 [l0, l1, l2] (.int (x + y) :: st) h := je_b2 (f := fun x y => x + y) D29_49 rfl (fun _ => rfl)
theorem D29_50 : decode (jt_code 29) 50 = .ok (.aload_n 0, 1) := by decide +kernel
theorem E29_50 {call : jv_F} {l1 l2 : Option Value} {a : Nat} {st : List Value} {h : jv_H} : jv_ev call 29 50 [some (.ref a), l1, l2] st h = jv_ev call 29 51 [some (.ref a), l1, l2] (.ref a :: st) h := je_aload_n (r := some a) D29_50 rfl rfl
theorem D29_51 : decode (jt_code 29) 51 = .ok (.getfield 97, 3) := by decide +kernel
theorem E29_51 {call : jv_F} {l0 l1 l2 : Option Value}  {st : List Value} {m : Nat} {I : Nat → Int32} {A : Nat → Nat → Int32} {L : Nat → Nat → Int64} {rest : Nat → Option jv_C} {z : Nat × Nat} : jv_ev call 29 51 [l0, l1, l2] (.ref m :: st) (jm_H m I A L rest z) = jv_ev call 29 54 [l0, l1, l2] (.int (I 5) :: st) (jm_H m I A L rest z) := je_get D29_51 rfl (by decide) jm_g5
theorem D29_54 : decode (jt_code 29) 54 = .ok (.irem, 1) := by decide +kernel
theorem E29_54 {call : jv_F} {l0 l1 l2 : Option Value} {x y : Int32} {st : List Value} {h : jv_H} (hy : ¬ y = 0) : jv_ev call 29 54 [l0, l1, l2] (.int y :: .int x :: st) h = jv_ev call 29 55 [l0, l1, l2] (.int (x - x / y * y) :: st) h := je_irem D29_54 rfl hy
theorem D29_55 : decode (jt_code 29) 55 = .ok (.istore_n 2, 1) := by decide +kernel
theorem E29_55 {call : jv_F} {l0 l1 l2 : Option Value} {x : Int32} {st : List Value} {h : jv_H} (hk : ¬ jv_is2 (some l1) = true) : jv_ev call 29 55 [l0, l1, l2] (.int x :: st) h = jv_ev call 29 56 [l0, l1, some (.int x)] st h := je_istore_n D29_55 rfl (Nat.le_of_ble_eq_true rfl) (by show jv_st1 _ 2 _ = _; simp only [jv_st1, jv_kill, List.getElem?_cons_succ, List.getElem?_cons_zero, hk, if_false]; rfl)
theorem D29_56 : decode (jt_code 29) 56 = .ok (.aload_n 0, 1) := by decide +kernel
theorem E29_56 {call : jv_F} {l1 l2 : Option Value} {a : Nat} {st : List Value} {h : jv_H} : jv_ev call 29 56 [some (.ref a), l1, l2] st h = jv_ev call 29 57 [some (.ref a), l1, l2] (.ref a :: st) h := je_aload_n (r := some a) D29_56 rfl rfl
theorem D29_57 : decode (jt_code 29) 57 = .ok (.iload_n 2, 1) := by decide +kernel
theorem E29_57 {call : jv_F} {l0 l1 : Option Value} {x : Int32} {st : List Value} {h : jv_H} : jv_ev call 29 57 [l0, l1, some (.int x)] st h = jv_ev call 29 58 [l0, l1, some (.int x)] (.int x :: st) h := je_iload_n D29_57 rfl rfl
theorem D29_58 : decode (jt_code 29) 58 = .ok (.invokevirtual 125, 3) := by decide +kernel
theorem E29_58 {call : jv_F} {l0 l1 l2 : Option Value} {v0 : Value}  {st : List Value} {m : Nat} {I : Nat → Int32} {A : Nat → Nat → Int32} {L : Nat → Nat → Int64} {rest : Nat → Option jv_C} {z : Nat × Nat} (hw : jv_wide st = true) (hc : (call 12 [.ref m, v0] (jm_H m I A L rest z)).isSome = true) : jv_ev call 29 58 [l0, l1, l2] (v0 :: .ref m :: st) (jm_H m I A L rest z) = jv_ev call 29 61 [l0, l1, l2] ((((call 12 [.ref m, v0] (jm_H m I A L rest z)).getD (none, (jm_H m I A L rest z))).1).toList ++ st) ((call 12 [.ref m, v0] (jm_H m I A L rest z)).getD (none, (jm_H m I A L rest z))).2 := by
  obtain ⟨⟨r, h'⟩, hv⟩ := Option.isSome_iff_exists.mp hc
  rw [hv]
  exact je_virt (y := 12) (as := [v0]) D29_58 rfl (by decide) (by decide) rfl jm_cl hw hv
theorem D29_61 : decode (jt_code 29) 61 = .ok (.ifCond .eq 13, 3) := by decide +kernel
theorem E29_61 {call : jv_F} {l0 l1 l2 : Option Value} {x : Int32} {st : List Value} {h : jv_H} : jv_ev call 29 61 [l0, l1, l2] (.int x :: st) h = if x = 0 then jv_ev call 29 74 [l0, l1, l2] st h else jv_ev call 29 64 [l0, l1, l2] st h := je_ifc D29_61 (by decide) rfl rfl
theorem D29_64 : decode (jt_code 29) 64 = .ok (.aload_n 0, 1) := by decide +kernel
theorem E29_64 {call : jv_F} {l1 l2 : Option Value} {a : Nat} {st : List Value} {h : jv_H} : jv_ev call 29 64 [some (.ref a), l1, l2] st h = jv_ev call 29 65 [some (.ref a), l1, l2] (.ref a :: st) h := je_aload_n (r := some a) D29_64 rfl rfl
theorem D29_65 : decode (jt_code 29) 65 = .ok (.iload_n 2, 1) := by decide +kernel
theorem E29_65 {call : jv_F} {l0 l1 : Option Value} {x : Int32} {st : List Value} {h : jv_H} : jv_ev call 29 65 [l0, l1, some (.int x)] st h = jv_ev call 29 66 [l0, l1, some (.int x)] (.int x :: st) h := je_iload_n D29_65 rfl rfl
theorem D29_66 : decode (jt_code 29) 66 = .ok (.invokevirtual 216, 3) := by decide +kernel
theorem E29_66 {call : jv_F} {l0 l1 l2 : Option Value} {v0 : Value}  {st : List Value} {m : Nat} {I : Nat → Int32} {A : Nat → Nat → Int32} {L : Nat → Nat → Int64} {rest : Nat → Option jv_C} {z : Nat × Nat} (hw : jv_wide st = true) (hc : (call 13 [.ref m, v0] (jm_H m I A L rest z)).isSome = true) : jv_ev call 29 66 [l0, l1, l2] (v0 :: .ref m :: st) (jm_H m I A L rest z) = jv_ev call 29 69 [l0, l1, l2] ((((call 13 [.ref m, v0] (jm_H m I A L rest z)).getD (none, (jm_H m I A L rest z))).1).toList ++ st) ((call 13 [.ref m, v0] (jm_H m I A L rest z)).getD (none, (jm_H m I A L rest z))).2 := by
  obtain ⟨⟨r, h'⟩, hv⟩ := Option.isSome_iff_exists.mp hc
  rw [hv]
  exact je_virt (y := 13) (as := [v0]) D29_66 rfl (by decide) (by decide) rfl jm_cl hw hv
theorem D29_69 : decode (jt_code 29) 69 = .ok (.ifCond .eq 5, 3) := by decide +kernel
theorem E29_69 {call : jv_F} {l0 l1 l2 : Option Value} {x : Int32} {st : List Value} {h : jv_H} : jv_ev call 29 69 [l0, l1, l2] (.int x :: st) h = if x = 0 then jv_ev call 29 74 [l0, l1, l2] st h else jv_ev call 29 72 [l0, l1, l2] st h := je_ifc D29_69 (by decide) rfl rfl
theorem D29_72 : decode (jt_code 29) 72 = .ok (.iload_n 2, 1) := by decide +kernel
theorem E29_72 {call : jv_F} {l0 l1 : Option Value} {x : Int32} {st : List Value} {h : jv_H} : jv_ev call 29 72 [l0, l1, some (.int x)] st h = jv_ev call 29 73 [l0, l1, some (.int x)] (.int x :: st) h := je_iload_n D29_72 rfl rfl
theorem D29_73 : decode (jt_code 29) 73 = .ok (.ireturn, 1) := by decide +kernel
theorem E29_73 {call : jv_F} {l0 l1 l2 : Option Value} {v : Int32} {h : jv_H} : jv_ev call 29 73 [l0, l1, l2] [.int v] h = some (some (.int v), h) := je_iret (ty := .int) D29_73 rfl rfl rfl
theorem D29_74 : decode (jt_code 29) 74 = .ok (.iinc 1 1, 3) := by decide +kernel
theorem E29_74 {call : jv_F} {l0 l2 : Option Value} {x : Int32} {st : List Value} {h : jv_H} (hk : ¬ jv_is2 (some l0) = true) : jv_ev call 29 74 [l0, some (.int x), l2] st h = jv_ev call 29 77 [l0, some (.int (x + (nI 1))), l2] st h := je_iinc D29_74 rfl rfl (v := x + (nI 1)) (by rfl) (by show jv_st1 _ 1 _ = _; simp only [jv_st1, jv_kill, List.getElem?_cons_succ, List.getElem?_cons_zero, hk, if_false]; rfl)
theorem D29_77 : decode (jt_code 29) 77 = .ok (.goto (-41), 3) := by decide +kernel
theorem E29_77 {call : jv_F} {l0 l1 l2 : Option Value}  {st : List Value} {h : jv_H} : jv_ev call 29 77 [l0, l1, l2] st h = jv_ev call 29 36 [l0, l1, l2] st h := je_goto D29_77 (by decide)
theorem D29_80 : decode (jt_code 29) 80 = .ok (.iconst (-1), 1) := by decide +kernel
theorem E29_80 {call : jv_F} {l0 l1 l2 : Option Value}  {st : List Value} {h : jv_H} : jv_ev call 29 80 [l0, l1, l2] st h = jv_ev call 29 81 [l0, l1, l2] (.int (-1) :: st) h := je_iconst D29_80 rfl (by decide)
theorem D29_81 : decode (jt_code 29) 81 = .ok (.ireturn, 1) := by decide +kernel
theorem E29_81 {call : jv_F} {l0 l1 l2 : Option Value} {v : Int32} {h : jv_H} : jv_ev call 29 81 [l0, l1, l2] [.int v] h = some (some (.int v), h) := je_iret (ty := .int) D29_81 rfl rfl rfl
/-! method 30: DrumMachineModel.ends -/
theorem N30 {d : Nat} {b : Nat} {a0 : Int32} {a1 : Int32} {h : jv_H} : jv_run (d + 1) 30 [.ref b, .int a0, .int a1] h = jv_ev (jv_run d) 30 0 [some (.ref b), some (.int a0), some (.int a1), none, none] [] h := jv_run_eq (Nat.le_of_ble_eq_true rfl) rfl
theorem D30_0 : decode (jt_code 30) 0 = .ok (.aload_n 0, 1) := by decide +kernel
theorem E30_0 {call : jv_F} {l1 l2 l3 l4 : Option Value} {a : Nat} {st : List Value} {h : jv_H} : jv_ev call 30 0 [some (.ref a), l1, l2, l3, l4] st h = jv_ev call 30 1 [some (.ref a), l1, l2, l3, l4] (.ref a :: st) h := je_aload_n (r := some a) D30_0 rfl rfl
theorem D30_1 : decode (jt_code 30) 1 = .ok (.getfield 27, 3) := by decide +kernel
theorem E30_1 {call : jv_F} {l0 l1 l2 l3 l4 : Option Value}  {st : List Value} {m : Nat} {I : Nat → Int32} {A : Nat → Nat → Int32} {L : Nat → Nat → Int64} {rest : Nat → Option jv_C} {z : Nat × Nat} : jv_ev call 30 1 [l0, l1, l2, l3, l4] (.ref m :: st) (jm_H m I A L rest z) = jv_ev call 30 4 [l0, l1, l2, l3, l4] (.ref (m + 5) :: st) (jm_H m I A L rest z) := je_get D30_1 rfl (by decide) jm_g8
theorem D30_4 : decode (jt_code 30) 4 = .ok (.iload_n 1, 1) := by decide +kernel
theorem E30_4 {call : jv_F} {l0 l2 l3 l4 : Option Value} {x : Int32} {st : List Value} {h : jv_H} : jv_ev call 30 4 [l0, some (.int x), l2, l3, l4] st h = jv_ev call 30 5 [l0, some (.int x), l2, l3, l4] (.int x :: st) h := je_iload_n D30_4 rfl rfl
theorem D30_5 : decode (jt_code 30) 5 = .ok (.iload_n 2, 1) := by decide +kernel
theorem E30_5 {call : jv_F} {l0 l1 l3 l4 : Option Value} {x : Int32} {st : List Value} {h : jv_H} : jv_ev call 30 5 [l0, l1, some (.int x), l3, l4] st h = jv_ev call 30 6 [l0, l1, some (.int x), l3, l4] (.int x :: st) h := je_iload_n D30_5 rfl rfl
theorem D30_6 : decode (jt_code 30) 6 = .ok (.iastore, 1) := by decide +kernel
theorem E30_6 {call : jv_F} {l0 l1 l2 l3 l4 : Option Value} {i : Nat} {v : Int32} {st : List Value} {m : Nat} {I : Nat → Int32} {A : Nat → Nat → Int32} {L : Nat → Nat → Int64} {rest : Nat → Option jv_C} {z : Nat × Nat} (hi : i < 12) : jv_ev call 30 6 [l0, l1, l2, l3, l4] (.int v :: .int (nI i) :: .ref (m + 5) :: st) (jm_H m I A L rest z) = jv_ev call 30 7 [l0, l1, l2, l3, l4] st (jm_H m I (va_up A 8 (upd (A 8) i v)) L rest z) := je_iast D30_6 rfl (jm_s8 hi)
theorem D30_7 : decode (jt_code 30) 7 = .ok (.aload_n 0, 1) := by decide +kernel
theorem E30_7 {call : jv_F} {l1 l2 l3 l4 : Option Value} {a : Nat} {st : List Value} {h : jv_H} : jv_ev call 30 7 [some (.ref a), l1, l2, l3, l4] st h = jv_ev call 30 8 [some (.ref a), l1, l2, l3, l4] (.ref a :: st) h := je_aload_n (r := some a) D30_7 rfl rfl
theorem D30_8 : decode (jt_code 30) 8 = .ok (.getfield 57, 3) := by decide +kernel
theorem E30_8 {call : jv_F} {l0 l1 l2 l3 l4 : Option Value}  {st : List Value} {m : Nat} {I : Nat → Int32} {A : Nat → Nat → Int32} {L : Nat → Nat → Int64} {rest : Nat → Option jv_C} {z : Nat × Nat} : jv_ev call 30 8 [l0, l1, l2, l3, l4] (.ref m :: st) (jm_H m I A L rest z) = jv_ev call 30 11 [l0, l1, l2, l3, l4] (.ref (m + 15) :: st) (jm_H m I A L rest z) := je_get D30_8 rfl (by decide) jm_g18
theorem D30_11 : decode (jt_code 30) 11 = .ok (.iload_n 1, 1) := by decide +kernel
theorem E30_11 {call : jv_F} {l0 l2 l3 l4 : Option Value} {x : Int32} {st : List Value} {h : jv_H} : jv_ev call 30 11 [l0, some (.int x), l2, l3, l4] st h = jv_ev call 30 12 [l0, some (.int x), l2, l3, l4] (.int x :: st) h := je_iload_n D30_11 rfl rfl
theorem D30_12 : decode (jt_code 30) 12 = .ok (.iconst 0, 1) := by decide +kernel
theorem E30_12 {call : jv_F} {l0 l1 l2 l3 l4 : Option Value}  {st : List Value} {h : jv_H} : jv_ev call 30 12 [l0, l1, l2, l3, l4] st h = jv_ev call 30 13 [l0, l1, l2, l3, l4] (.int (nI 0) :: st) h := je_iconst D30_12 rfl (by decide)
theorem D30_13 : decode (jt_code 30) 13 = .ok (.iastore, 1) := by decide +kernel
theorem E30_13 {call : jv_F} {l0 l1 l2 l3 l4 : Option Value} {i : Nat} {v : Int32} {st : List Value} {m : Nat} {I : Nat → Int32} {A : Nat → Nat → Int32} {L : Nat → Nat → Int64} {rest : Nat → Option jv_C} {z : Nat × Nat} (hi : i < 12) : jv_ev call 30 13 [l0, l1, l2, l3, l4] (.int v :: .int (nI i) :: .ref (m + 15) :: st) (jm_H m I A L rest z) = jv_ev call 30 14 [l0, l1, l2, l3, l4] st (jm_H m I (va_up A 18 (upd (A 18) i v)) L rest z) := je_iast D30_13 rfl (jm_s18 hi)
theorem D30_14 : decode (jt_code 30) 14 = .ok (.aload_n 0, 1) := by decide +kernel
theorem E30_14 {call : jv_F} {l1 l2 l3 l4 : Option Value} {a : Nat} {st : List Value} {h : jv_H} : jv_ev call 30 14 [some (.ref a), l1, l2, l3, l4] st h = jv_ev call 30 15 [some (.ref a), l1, l2, l3, l4] (.ref a :: st) h := je_aload_n (r := some a) D30_14 rfl rfl
theorem D30_15 : decode (jt_code 30) 15 = .ok (.getfield 161, 3) := by decide +kernel
theorem E30_15 {call : jv_F} {l0 l1 l2 l3 l4 : Option Value}  {st : List Value} {m : Nat} {I : Nat → Int32} {A : Nat → Nat → Int32} {L : Nat → Nat → Int64} {rest : Nat → Option jv_C} {z : Nat × Nat} : jv_ev call 30 15 [l0, l1, l2, l3, l4] (.ref m :: st) (jm_H m I A L rest z) = jv_ev call 30 18 [l0, l1, l2, l3, l4] (.int (I 31) :: st) (jm_H m I A L rest z) := je_get D30_15 rfl (by decide) jm_g31
theorem D30_18 : decode (jt_code 30) 18 = .ok (.iconst 1, 1) := by decide +kernel
theorem E30_18 {call : jv_F} {l0 l1 l2 l3 l4 : Option Value}  {st : List Value} {h : jv_H} : jv_ev call 30 18 [l0, l1, l2, l3, l4] st h = jv_ev call 30 19 [l0, l1, l2, l3, l4] (.int (nI 1) :: st) h := je_iconst D30_18 rfl (by decide)
theorem D30_19 : decode (jt_code 30) 19 = .ok (.isub, 1) := by decide +kernel
theorem E30_19 {call : jv_F} {l0 l1 l2 l3 l4 : Option Value} {x y : Int32} {st : List Value} {h : jv_H} : jv_ev call 30 19 [l0, l1, l2, l3, l4] (.int y :: .int x :: st) h = jv_ev call 30 20 [l0, l1, l2, l3, l4] (.int (x - y) :: st) h := je_b2 (f := fun x y => x - y) D30_19 rfl (fun _ => rfl)
theorem D30_20 : decode (jt_code 30) 20 = .ok (.istore_n 3, 1) := by decide +kernel
theorem E30_20 {call : jv_F} {l0 l1 l2 l3 l4 : Option Value} {x : Int32} {st : List Value} {h : jv_H} (hk : ¬ jv_is2 (some l2) = true) : jv_ev call 30 20 [l0, l1, l2, l3, l4] (.int x :: st) h = jv_ev call 30 21 [l0, l1, l2, some (.int x), l4] st h := je_istore_n D30_20 rfl (Nat.le_of_ble_eq_true rfl) (by show jv_st1 _ 3 _ = _; simp only [jv_st1, jv_kill, List.getElem?_cons_succ, List.getElem?_cons_zero, hk, if_false]; rfl)
theorem D30_21 : decode (jt_code 30) 21 = .ok (.iload_n 3, 1) := by decide +kernel
theorem E30_21 {call : jv_F} {l0 l1 l2 l4 : Option Value} {x : Int32} {st : List Value} {h : jv_H} : jv_ev call 30 21 [l0, l1, l2, some (.int x), l4] st h = jv_ev call 30 22 [l0, l1, l2, some (.int x), l4] (.int x :: st) h := je_iload_n D30_21 rfl rfl
theorem D30_22 : decode (jt_code 30) 22 = .ok (.ifCond .lt 47, 3) := by decide +kernel
theorem E30_22 {call : jv_F} {l0 l1 l2 l3 l4 : Option Value} {x : Int32} {st : List Value} {h : jv_H} : jv_ev call 30 22 [l0, l1, l2, l3, l4] (.int x :: st) h = if x < 0 then jv_ev call 30 69 [l0, l1, l2, l3, l4] st h else jv_ev call 30 25 [l0, l1, l2, l3, l4] st h := je_ifc D30_22 (by decide) rfl rfl
theorem D30_25 : decode (jt_code 30) 25 = .ok (.aload_n 0, 1) := by decide +kernel
theorem E30_25 {call : jv_F} {l1 l2 l3 l4 : Option Value} {a : Nat} {st : List Value} {h : jv_H} : jv_ev call 30 25 [some (.ref a), l1, l2, l3, l4] st h = jv_ev call 30 26 [some (.ref a), l1, l2, l3, l4] (.ref a :: st) h := je_aload_n (r := some a) D30_25 rfl rfl
theorem D30_26 : decode (jt_code 30) 26 = .ok (.getfield 91, 3) := by decide +kernel
theorem E30_26 {call : jv_F} {l0 l1 l2 l3 l4 : Option Value}  {st : List Value} {m : Nat} {I : Nat → Int32} {A : Nat → Nat → Int32} {L : Nat → Nat → Int64} {rest : Nat → Option jv_C} {z : Nat × Nat} : jv_ev call 30 26 [l0, l1, l2, l3, l4] (.ref m :: st) (jm_H m I A L rest z) = jv_ev call 30 29 [l0, l1, l2, l3, l4] (.ref (m + 26) :: st) (jm_H m I A L rest z) := je_get D30_26 rfl (by decide) jm_g30
theorem D30_29 : decode (jt_code 30) 29 = .ok (.iload_n 3, 1) := by decide +kernel
theorem E30_29 {call : jv_F} {l0 l1 l2 l4 : Option Value} {x : Int32} {st : List Value} {h : jv_H} : jv_ev call 30 29 [l0, l1, l2, some (.int x), l4] st h = jv_ev call 30 30 [l0, l1, l2, some (.int x), l4] (.int x :: st) h := je_iload_n D30_29 rfl rfl
theorem D30_30 : decode (jt_code 30) 30 = .ok (.iaload, 1) := by decide +kernel
theorem E30_30 {call : jv_F} {l0 l1 l2 l3 l4 : Option Value} {i : Nat} {st : List Value} {m : Nat} {I : Nat → Int32} {A : Nat → Nat → Int32} {L : Nat → Nat → Int64} {rest : Nat → Option jv_C} {z : Nat × Nat} (hi : i < 18) : jv_ev call 30 30 [l0, l1, l2, l3, l4] (.int (nI i) :: .ref (m + 26) :: st) (jm_H m I A L rest z) = jv_ev call 30 31 [l0, l1, l2, l3, l4] (.int (A 30 i) :: st) (jm_H m I A L rest z) := je_iald D30_30 rfl (jm_l30 hi)
theorem D30_31 : decode (jt_code 30) 31 = .ok (.istore 4, 2) := by decide +kernel
theorem E30_31 {call : jv_F} {l0 l1 l2 l3 l4 : Option Value} {x : Int32} {st : List Value} {h : jv_H} (hk : ¬ jv_is2 (some l3) = true) : jv_ev call 30 31 [l0, l1, l2, l3, l4] (.int x :: st) h = jv_ev call 30 33 [l0, l1, l2, l3, some (.int x)] st h := je_istore D30_31 rfl (Nat.le_of_ble_eq_true rfl) (by show jv_st1 _ 4 _ = _; simp only [jv_st1, jv_kill, List.getElem?_cons_succ, List.getElem?_cons_zero, hk, if_false]; rfl)
theorem D30_33 : decode (jt_code 30) 33 = .ok (.aload_n 0, 1) := by decide +kernel
theorem E30_33 {call : jv_F} {l1 l2 l3 l4 : Option Value} {a : Nat} {st : List Value} {h : jv_H} : jv_ev call 30 33 [some (.ref a), l1, l2, l3, l4] st h = jv_ev call 30 34 [some (.ref a), l1, l2, l3, l4] (.ref a :: st) h := je_aload_n (r := some a) D30_33 rfl rfl
theorem D30_34 : decode (jt_code 30) 34 = .ok (.getfield 70, 3) := by decide +kernel
theorem E30_34 {call : jv_F} {l0 l1 l2 l3 l4 : Option Value}  {st : List Value} {m : Nat} {I : Nat → Int32} {A : Nat → Nat → Int32} {L : Nat → Nat → Int64} {rest : Nat → Option jv_C} {z : Nat × Nat} : jv_ev call 30 34 [l0, l1, l2, l3, l4] (.ref m :: st) (jm_H m I A L rest z) = jv_ev call 30 37 [l0, l1, l2, l3, l4] (.ref (m + 19) :: st) (jm_H m I A L rest z) := je_get D30_34 rfl (by decide) jm_g23
theorem D30_37 : decode (jt_code 30) 37 = .ok (.iload 4, 2) := by decide +kernel
theorem E30_37 {call : jv_F} {l0 l1 l2 l3 : Option Value} {x : Int32} {st : List Value} {h : jv_H} : jv_ev call 30 37 [l0, l1, l2, l3, some (.int x)] st h = jv_ev call 30 39 [l0, l1, l2, l3, some (.int x)] (.int x :: st) h := je_iload D30_37 rfl rfl
theorem D30_39 : decode (jt_code 30) 39 = .ok (.iaload, 1) := by decide +kernel
theorem E30_39 {call : jv_F} {l0 l1 l2 l3 l4 : Option Value} {i : Nat} {st : List Value} {m : Nat} {I : Nat → Int32} {A : Nat → Nat → Int32} {L : Nat → Nat → Int64} {rest : Nat → Option jv_C} {z : Nat × Nat} (hi : i < 17) : jv_ev call 30 39 [l0, l1, l2, l3, l4] (.int (nI i) :: .ref (m + 19) :: st) (jm_H m I A L rest z) = jv_ev call 30 40 [l0, l1, l2, l3, l4] (.int (A 23 i) :: st) (jm_H m I A L rest z) := je_iald D30_39 rfl (jm_l23 hi)
theorem D30_40 : decode (jt_code 30) 40 = .ok (.bipush 64, 2) := by decide +kernel
theorem E30_40 {call : jv_F} {l0 l1 l2 l3 l4 : Option Value}  {st : List Value} {h : jv_H} : jv_ev call 30 40 [l0, l1, l2, l3, l4] st h = jv_ev call 30 42 [l0, l1, l2, l3, l4] (.int (nI 64) :: st) h := je_bipush D30_40 rfl (by decide)
theorem D30_42 : decode (jt_code 30) 42 = .ok (.idiv, 1) := by decide +kernel
theorem E30_42 {call : jv_F} {l0 l1 l2 l3 l4 : Option Value} {x y : Int32} {st : List Value} {h : jv_H} (hy : ¬ y = 0) : jv_ev call 30 42 [l0, l1, l2, l3, l4] (.int y :: .int x :: st) h = jv_ev call 30 43 [l0, l1, l2, l3, l4] (.int (x / y) :: st) h := je_idiv D30_42 rfl hy
theorem D30_43 : decode (jt_code 30) 43 = .ok (.iload_n 1, 1) := by decide +kernel
theorem E30_43 {call : jv_F} {l0 l2 l3 l4 : Option Value} {x : Int32} {st : List Value} {h : jv_H} : jv_ev call 30 43 [l0, some (.int x), l2, l3, l4] st h = jv_ev call 30 44 [l0, some (.int x), l2, l3, l4] (.int x :: st) h := je_iload_n D30_43 rfl rfl
theorem D30_44 : decode (jt_code 30) 44 = .ok (.if_icmp .eq 6, 3) := by decide +kernel
theorem E30_44 {call : jv_F} {l0 l1 l2 l3 l4 : Option Value} {x y : Int32} {st : List Value} {h : jv_H} : jv_ev call 30 44 [l0, l1, l2, l3, l4] (.int y :: .int x :: st) h = if x = y then jv_ev call 30 50 [l0, l1, l2, l3, l4] st h else jv_ev call 30 47 [l0, l1, l2, l3, l4] st h := je_icmp D30_44 (by decide) rfl rfl
theorem D30_47 : decode (jt_code 30) 47 = .ok (.goto 16, 3) := by decide +kernel
theorem E30_47 {call : jv_F} {l0 l1 l2 l3 l4 : Option Value}  {st : List Value} {h : jv_H} : jv_ev call 30 47 [l0, l1, l2, l3, l4] st h = jv_ev call 30 63 [l0, l1, l2, l3, l4] st h := je_goto D30_47 (by decide)
theorem D30_50 : decode (jt_code 30) 50 = .ok (.aload_n 0, 1) := by decide +kernel
theorem E30_50 {call : jv_F} {l1 l2 l3 l4 : Option Value} {a : Nat} {st : List Value} {h : jv_H} : jv_ev call 30 50 [some (.ref a), l1, l2, l3, l4] st h = jv_ev call 30 51 [some (.ref a), l1, l2, l3, l4] (.ref a :: st) h := je_aload_n (r := some a) D30_50 rfl rfl
theorem D30_51 : decode (jt_code 30) 51 = .ok (.getfield 79, 3) := by decide +kernel
theorem E30_51 {call : jv_F} {l0 l1 l2 l3 l4 : Option Value}  {st : List Value} {m : Nat} {I : Nat → Int32} {A : Nat → Nat → Int32} {L : Nat → Nat → Int64} {rest : Nat → Option jv_C} {z : Nat × Nat} : jv_ev call 30 51 [l0, l1, l2, l3, l4] (.ref m :: st) (jm_H m I A L rest z) = jv_ev call 30 54 [l0, l1, l2, l3, l4] (.ref (m + 22) :: st) (jm_H m I A L rest z) := je_get D30_51 rfl (by decide) jm_g26
theorem D30_54 : decode (jt_code 30) 54 = .ok (.iload 4, 2) := by decide +kernel
theorem E30_54 {call : jv_F} {l0 l1 l2 l3 : Option Value} {x : Int32} {st : List Value} {h : jv_H} : jv_ev call 30 54 [l0, l1, l2, l3, some (.int x)] st h = jv_ev call 30 56 [l0, l1, l2, l3, some (.int x)] (.int x :: st) h := je_iload D30_54 rfl rfl
theorem D30_56 : decode (jt_code 30) 56 = .ok (.iconst 0, 1) := by decide +kernel
theorem E30_56 {call : jv_F} {l0 l1 l2 l3 l4 : Option Value}  {st : List Value} {h : jv_H} : jv_ev call 30 56 [l0, l1, l2, l3, l4] st h = jv_ev call 30 57 [l0, l1, l2, l3, l4] (.int (nI 0) :: st) h := je_iconst D30_56 rfl (by decide)
theorem D30_57 : decode (jt_code 30) 57 = .ok (.bastore, 1) := by decide +kernel
theorem E30_57 {call : jv_F} {l0 l1 l2 l3 l4 : Option Value} {i : Nat} {v : Int32} {st : List Value} {m : Nat} {I : Nat → Int32} {A : Nat → Nat → Int32} {L : Nat → Nat → Int64} {rest : Nat → Option jv_C} {z : Nat × Nat} (hi : i < 17) (hv : narrow .boolean (.int v) = .int v) : jv_ev call 30 57 [l0, l1, l2, l3, l4] (.int v :: .int (nI i) :: .ref (m + 22) :: st) (jm_H m I A L rest z) = jv_ev call 30 58 [l0, l1, l2, l3, l4] st (jm_H m I (va_up A 26 (upd (A 26) i v)) L rest z) := je_bast D30_57 rfl (by rw [hv]; exact jm_s26 hi)
theorem D30_58 : decode (jt_code 30) 58 = .ok (.aload_n 0, 1) := by decide +kernel
theorem E30_58 {call : jv_F} {l1 l2 l3 l4 : Option Value} {a : Nat} {st : List Value} {h : jv_H} : jv_ev call 30 58 [some (.ref a), l1, l2, l3, l4] st h = jv_ev call 30 59 [some (.ref a), l1, l2, l3, l4] (.ref a :: st) h := je_aload_n (r := some a) D30_58 rfl rfl
theorem D30_59 : decode (jt_code 30) 59 = .ok (.iload_n 3, 1) := by decide +kernel
theorem E30_59 {call : jv_F} {l0 l1 l2 l4 : Option Value} {x : Int32} {st : List Value} {h : jv_H} : jv_ev call 30 59 [l0, l1, l2, some (.int x), l4] st h = jv_ev call 30 60 [l0, l1, l2, some (.int x), l4] (.int x :: st) h := je_iload_n D30_59 rfl rfl
theorem D30_60 : decode (jt_code 30) 60 = .ok (.invokevirtual 201, 3) := by decide +kernel
theorem E30_60 {call : jv_F} {l0 l1 l2 l3 l4 : Option Value} {v0 : Value}  {st : List Value} {m : Nat} {I : Nat → Int32} {A : Nat → Nat → Int32} {L : Nat → Nat → Int64} {rest : Nat → Option jv_C} {z : Nat × Nat} (hw : jv_wide st = true) (hc : (call 26 [.ref m, v0] (jm_H m I A L rest z)).isSome = true) : jv_ev call 30 60 [l0, l1, l2, l3, l4] (v0 :: .ref m :: st) (jm_H m I A L rest z) = jv_ev call 30 63 [l0, l1, l2, l3, l4] ((((call 26 [.ref m, v0] (jm_H m I A L rest z)).getD (none, (jm_H m I A L rest z))).1).toList ++ st) ((call 26 [.ref m, v0] (jm_H m I A L rest z)).getD (none, (jm_H m I A L rest z))).2 := by
  obtain ⟨⟨r, h'⟩, hv⟩ := Option.isSome_iff_exists.mp hc
  rw [hv]
  exact je_virt (y := 26) (as := [v0]) D30_60 rfl (by decide) (by decide) rfl jm_cl hw hv
theorem D30_63 : decode (jt_code 30) 63 = .ok (.iinc 3 (-1), 3) := by decide +kernel
theorem E30_63 {call : jv_F} {l0 l1 l2 l4 : Option Value} {x : Int32} {st : List Value} {h : jv_H} (hk : ¬ jv_is2 (some l2) = true) : jv_ev call 30 63 [l0, l1, l2, some (.int x), l4] st h = jv_ev call 30 66 [l0, l1, l2, some (.int (x + (-1))), l4] st h := je_iinc D30_63 rfl rfl (v := x + (-1)) (by rfl) (by show jv_st1 _ 3 _ = _; simp only [jv_st1, jv_kill, List.getElem?_cons_succ, List.getElem?_cons_zero, hk, if_false]; rfl)
theorem D30_66 : decode (jt_code 30) 66 = .ok (.goto (-45), 3) := by decide +kernel
theorem E30_66 {call : jv_F} {l0 l1 l2 l3 l4 : Option Value}  {st : List Value} {h : jv_H} : jv_ev call 30 66 [l0, l1, l2, l3, l4] st h = jv_ev call 30 21 [l0, l1, l2, l3, l4] st h := je_goto D30_66 (by decide)
theorem D30_69 : decode (jt_code 30) 69 = .ok (.bipush 64, 2) := by decide +kernel
theorem E30_69 {call : jv_F} {l0 l1 l2 l3 l4 : Option Value}  {st : List Value} {h : jv_H} : jv_ev call 30 69 [l0, l1, l2, l3, l4] st h = jv_ev call 30 71 [l0, l1, l2, l3, l4] (.int (nI 64) :: st) h := je_bipush D30_69 rfl (by decide)
theorem D30_71 : decode (jt_code 30) 71 = .ok (.iload_n 1, 1) := by decide +kernel
theorem E30_71 {call : jv_F} {l0 l2 l3 l4 : Option Value} {x : Int32} {st : List Value} {h : jv_H} : jv_ev call 30 71 [l0, some (.int x), l2, l3, l4] st h = jv_ev call 30 72 [l0, some (.int x), l2, l3, l4] (.int x :: st) h := je_iload_n D30_71 rfl rfl
theorem D30_72 : decode (jt_code 30) 72 = .ok (.imul, 1) := by decide +kernel
theorem E30_72 {call : jv_F} {l0 l1 l2 l3 l4 : Option Value} {x y : Int32} {st : List Value} {h : jv_H} : jv_ev call 30 72 [l0, l1, l2, l3, l4] (.int y :: .int x :: st) h = jv_ev call 30 73 [l0, l1, l2, l3, l4] (.int (x * y) :: st) h := je_b2 (f := fun x y => x * y) D30_72 rfl (fun _ => rfl)
theorem D30_73 : decode (jt_code 30) 73 = .ok (.istore_n 3, 1) := by decide +kernel
theorem E30_73 {call : jv_F} {l0 l1 l2 l3 l4 : Option Value} {x : Int32} {st : List Value} {h : jv_H} (hk : ¬ jv_is2 (some l2) = true) : jv_ev call 30 73 [l0, l1, l2, l3, l4] (.int x :: st) h = jv_ev call 30 74 [l0, l1, l2, some (.int x), l4] st h := je_istore_n D30_73 rfl (Nat.le_of_ble_eq_true rfl) (by show jv_st1 _ 3 _ = _; simp only [jv_st1, jv_kill, List.getElem?_cons_succ, List.getElem?_cons_zero, hk, if_false]; rfl)
theorem D30_74 : decode (jt_code 30) 74 = .ok (.iload_n 3, 1) := by decide +kernel
theorem E30_74 {call : jv_F} {l0 l1 l2 l4 : Option Value} {x : Int32} {st : List Value} {h : jv_H} : jv_ev call 30 74 [l0, l1, l2, some (.int x), l4] st h = jv_ev call 30 75 [l0, l1, l2, some (.int x), l4] (.int x :: st) h := je_iload_n D30_74 rfl rfl
theorem D30_75 : decode (jt_code 30) 75 = .ok (.bipush 64, 2) := by decide +kernel
theorem E30_75 {call : jv_F} {l0 l1 l2 l3 l4 : Option Value}  {st : List Value} {h : jv_H} : jv_ev call 30 75 [l0, l1, l2, l3, l4] st h = jv_ev call 30 77 [l0, l1, l2, l3, l4] (.int (nI 64) :: st) h := je_bipush D30_75 rfl (by decide)
theorem D30_77 : decode (jt_code 30) 77 = .ok (.iload_n 1, 1) := by decide +kernel
theorem E30_77 {call : jv_F} {l0 l2 l3 l4 : Option Value} {x : Int32} {st : List Value} {h : jv_H} : jv_ev call 30 77 [l0, some (.int x), l2, l3, l4] st h = jv_ev call 30 78 [l0, some (.int x), l2, l3, l4] (.int x :: st) h := je_iload_n D30_77 rfl rfl
theorem D30_78 : decode (jt_code 30) 78 = .ok (.imul, 1) := by decide +kernel
theorem E30_78 {call : jv_F} {l0 l1 l2 l3 l4 : Option Value} {x y : Int32} {st : List Value} {h : jv_H} : jv_ev call 30 78 [l0, l1, l2, l3, l4] (.int y :: .int x :: st) h = jv_ev call 30 79 [l0, l1, l2, l3, l4] (.int (x * y) :: st) h := je_b2 (f := fun x y => x * y) D30_78 rfl (fun _ => rfl)
theorem D30_79 : decode (jt_code 30) 79 = .ok (.bipush 64, 2) := by decide +kernel
theorem E30_79 {call : jv_F} {l0 l1 l2 l3 l4 : Option Value}  {st : List Value} {h : jv_H} : jv_ev call 30 79 [l0, l1, l2, l3, l4] st h = jv_ev call 30 81 [l0, l1, l2, l3, l4] (.int (nI 64) :: st) h := je_bipush D30_79 rfl (by decide)
theorem D30_81 : decode (jt_code 30) 81 = .ok (.iadd, 1) := by decide +kernel
theorem E30_81 {call : jv_F} {l0 l1 l2 l3 l4 : Option Value} {x y : Int32} {st : List Value} {h : jv_H} : jv_ev call 30 81 [l0, l1, l2, l3, l4] (.int y :: .int x :: st) h = jv_ev call 30 82 [l0, l1, l2, l3, l4] (.int (x + y) :: st) h := je_b2 (f := fun x y => x + y) D30_81 rfl (fun _ => rfl)
theorem D30_82 : decode (jt_code 30) 82 = .ok (.if_icmp .ge 76, 3) := by decide +kernel
theorem E30_82 {call : jv_F} {l0 l1 l2 l3 l4 : Option Value} {x y : Int32} {st : List Value} {h : jv_H} : jv_ev call 30 82 [l0, l1, l2, l3, l4] (.int y :: .int x :: st) h = if y ≤ x then jv_ev call 30 158 [l0, l1, l2, l3, l4] st h else jv_ev call 30 85 [l0, l1, l2, l3, l4] st h := je_icmp D30_82 (by decide) rfl rfl
theorem D30_85 : decode (jt_code 30) 85 = .ok (.aload_n 0, 1) := by decide +kernel
theorem E30_85 {call : jv_F} {l1 l2 l3 l4 : Option Value} {a : Nat} {st : List Value} {h : jv_H} : jv_ev call 30 85 [some (.ref a), l1, l2, l3, l4] st h = jv_ev call 30 86 [some (.ref a), l1, l2, l3, l4] (.ref a :: st) h := je_aload_n (r := some a) D30_85 rfl rfl
theorem D30_86 : decode (jt_code 30) 86 = .ok (.getfield 63, 3) := by decide +kernel
theorem E30_86 {call : jv_F} {l0 l1 l2 l3 l4 : Option Value}  {st : List Value} {m : Nat} {I : Nat → Int32} {A : Nat → Nat → Int32} {L : Nat → Nat → Int64} {rest : Nat → Option jv_C} {z : Nat × Nat} : jv_ev call 30 86 [l0, l1, l2, l3, l4] (.ref m :: st) (jm_H m I A L rest z) = jv_ev call 30 89 [l0, l1, l2, l3, l4] (.ref (m + 17) :: st) (jm_H m I A L rest z) := je_get D30_86 rfl (by decide) jm_g20
theorem D30_89 : decode (jt_code 30) 89 = .ok (.iload_n 3, 1) := by decide +kernel
theorem E30_89 {call : jv_F} {l0 l1 l2 l4 : Option Value} {x : Int32} {st : List Value} {h : jv_H} : jv_ev call 30 89 [l0, l1, l2, some (.int x), l4] st h = jv_ev call 30 90 [l0, l1, l2, some (.int x), l4] (.int x :: st) h := je_iload_n D30_89 rfl rfl
theorem D30_90 : decode (jt_code 30) 90 = .ok (.baload, 1) := by decide +kernel
theorem E30_90 {call : jv_F} {l0 l1 l2 l3 l4 : Option Value} {i : Nat} {st : List Value} {m : Nat} {I : Nat → Int32} {A : Nat → Nat → Int32} {L : Nat → Nat → Int64} {rest : Nat → Option jv_C} {z : Nat × Nat} (hi : i < 768) : jv_ev call 30 90 [l0, l1, l2, l3, l4] (.int (nI i) :: .ref (m + 17) :: st) (jm_H m I A L rest z) = jv_ev call 30 91 [l0, l1, l2, l3, l4] (.int (A 20 i) :: st) (jm_H m I A L rest z) := je_bald D30_90 rfl (jm_l20 hi)
theorem D30_91 : decode (jt_code 30) 91 = .ok (.ifCond .ne 6, 3) := by decide +kernel
theorem E30_91 {call : jv_F} {l0 l1 l2 l3 l4 : Option Value} {x : Int32} {st : List Value} {h : jv_H} : jv_ev call 30 91 [l0, l1, l2, l3, l4] (.int x :: st) h = if ¬ x = 0 then jv_ev call 30 97 [l0, l1, l2, l3, l4] st h else jv_ev call 30 94 [l0, l1, l2, l3, l4] st h := je_ifc D30_91 (by decide) rfl rfl
theorem D30_94 : decode (jt_code 30) 94 = .ok (.goto 58, 3) := by decide +kernel
theorem E30_94 {call : jv_F} {l0 l1 l2 l3 l4 : Option Value}  {st : List Value} {h : jv_H} : jv_ev call 30 94 [l0, l1, l2, l3, l4] st h = jv_ev call 30 152 [l0, l1, l2, l3, l4] st h := je_goto D30_94 (by decide)
theorem D30_97 : decode (jt_code 30) 97 = .ok (.aload_n 0, 1) := by decide +kernel
theorem E30_97 {call : jv_F} {l1 l2 l3 l4 : Option Value} {a : Nat} {st : List Value} {h : jv_H} : jv_ev call 30 97 [some (.ref a), l1, l2, l3, l4] st h = jv_ev call 30 98 [some (.ref a), l1, l2, l3, l4] (.ref a :: st) h := je_aload_n (r := some a) D30_97 rfl rfl
theorem D30_98 : decode (jt_code 30) 98 = .ok (.iload_n 3, 1) := by decide +kernel
theorem E30_98 {call : jv_F} {l0 l1 l2 l4 : Option Value} {x : Int32} {st : List Value} {h : jv_H} : jv_ev call 30 98 [l0, l1, l2, some (.int x), l4] st h = jv_ev call 30 99 [l0, l1, l2, some (.int x), l4] (.int x :: st) h := je_iload_n D30_98 rfl rfl
theorem D30_99 : decode (jt_code 30) 99 = .ok (.invokevirtual 117, 3) := by decide +kernel
theorem E30_99 {call : jv_F} {l0 l1 l2 l3 l4 : Option Value} {v0 : Value}  {st : List Value} {m : Nat} {I : Nat → Int32} {A : Nat → Nat → Int32} {L : Nat → Nat → Int64} {rest : Nat → Option jv_C} {z : Nat × Nat} (hw : jv_wide st = true) (hc : (call 8 [.ref m, v0] (jm_H m I A L rest z)).isSome = true) : jv_ev call 30 99 [l0, l1, l2, l3, l4] (v0 :: .ref m :: st) (jm_H m I A L rest z) = jv_ev call 30 102 [l0, l1, l2, l3, l4] ((((call 8 [.ref m, v0] (jm_H m I A L rest z)).getD (none, (jm_H m I A L rest z))).1).toList ++ st) ((call 8 [.ref m, v0] (jm_H m I A L rest z)).getD (none, (jm_H m I A L rest z))).2 := by
  obtain ⟨⟨r, h'⟩, hv⟩ := Option.isSome_iff_exists.mp hc
  rw [hv]
  exact je_virt (y := 8) (as := [v0]) D30_99 rfl (by decide) (by decide) rfl jm_cl hw hv
theorem D30_102 : decode (jt_code 30) 102 = .ok (.istore 4, 2) := by decide +kernel
theorem E30_102 {call : jv_F} {l0 l1 l2 l3 l4 : Option Value} {x : Int32} {st : List Value} {h : jv_H} (hk : ¬ jv_is2 (some l3) = true) : jv_ev call 30 102 [l0, l1, l2, l3, l4] (.int x :: st) h = jv_ev call 30 104 [l0, l1, l2, l3, some (.int x)] st h := je_istore D30_102 rfl (Nat.le_of_ble_eq_true rfl) (by show jv_st1 _ 4 _ = _; simp only [jv_st1, jv_kill, List.getElem?_cons_succ, List.getElem?_cons_zero, hk, if_false]; rfl)
theorem D30_104 : decode (jt_code 30) 104 = .ok (.iload 4, 2) := by decide +kernel
theorem E30_104 {call : jv_F} {l0 l1 l2 l3 : Option Value} {x : Int32} {st : List Value} {h : jv_H} : jv_ev call 30 104 [l0, l1, l2, l3, some (.int x)] st h = jv_ev call 30 106 [l0, l1, l2, l3, some (.int x)] (.int x :: st) h := je_iload D30_104 rfl rfl
theorem D30_106 : decode (jt_code 30) 106 = .ok (.ifCond .lt 16, 3) := by decide +kernel
theorem E30_106 {call : jv_F} {l0 l1 l2 l3 l4 : Option Value} {x : Int32} {st : List Value} {h : jv_H} : jv_ev call 30 106 [l0, l1, l2, l3, l4] (.int x :: st) h = if x < 0 then jv_ev call 30 122 [l0, l1, l2, l3, l4] st h else jv_ev call 30 109 [l0, l1, l2, l3, l4] st h := je_ifc D30_106 (by decide) rfl rfl
theorem D30_109 : decode (jt_code 30) 109 = .ok (.aload_n 0, 1) := by decide +kernel
theorem E30_109 {call : jv_F} {l1 l2 l3 l4 : Option Value} {a : Nat} {st : List Value} {h : jv_H} : jv_ev call 30 109 [some (.ref a), l1, l2, l3, l4] st h = jv_ev call 30 110 [some (.ref a), l1, l2, l3, l4] (.ref a :: st) h := je_aload_n (r := some a) D30_109 rfl rfl
theorem D30_110 : decode (jt_code 30) 110 = .ok (.getfield 79, 3) := by decide +kernel
theorem E30_110 {call : jv_F} {l0 l1 l2 l3 l4 : Option Value}  {st : List Value} {m : Nat} {I : Nat → Int32} {A : Nat → Nat → Int32} {L : Nat → Nat → Int64} {rest : Nat → Option jv_C} {z : Nat × Nat} : jv_ev call 30 110 [l0, l1, l2, l3, l4] (.ref m :: st) (jm_H m I A L rest z) = jv_ev call 30 113 [l0, l1, l2, l3, l4] (.ref (m + 22) :: st) (jm_H m I A L rest z) := je_get D30_110 rfl (by decide) jm_g26
theorem D30_113 : decode (jt_code 30) 113 = .ok (.iload 4, 2) := by decide +kernel
theorem E30_113 {call : jv_F} {l0 l1 l2 l3 : Option Value} {x : Int32} {st : List Value} {h : jv_H} : jv_ev call 30 113 [l0, l1, l2, l3, some (.int x)] st h = jv_ev call 30 115 [l0, l1, l2, l3, some (.int x)] (.int x :: st) h := je_iload D30_113 rfl rfl
theorem D30_115 : decode (jt_code 30) 115 = .ok (.baload, 1) := by decide +kernel
theorem E30_115 {call : jv_F} {l0 l1 l2 l3 l4 : Option Value} {i : Nat} {st : List Value} {m : Nat} {I : Nat → Int32} {A : Nat → Nat → Int32} {L : Nat → Nat → Int64} {rest : Nat → Option jv_C} {z : Nat × Nat} (hi : i < 17) : jv_ev call 30 115 [l0, l1, l2, l3, l4] (.int (nI i) :: .ref (m + 22) :: st) (jm_H m I A L rest z) = jv_ev call 30 116 [l0, l1, l2, l3, l4] (.int (A 26 i) :: st) (jm_H m I A L rest z) := je_bald D30_115 rfl (jm_l26 hi)
theorem D30_116 : decode (jt_code 30) 116 = .ok (.ifCond .eq 6, 3) := by decide +kernel
theorem E30_116 {call : jv_F} {l0 l1 l2 l3 l4 : Option Value} {x : Int32} {st : List Value} {h : jv_H} : jv_ev call 30 116 [l0, l1, l2, l3, l4] (.int x :: st) h = if x = 0 then jv_ev call 30 122 [l0, l1, l2, l3, l4] st h else jv_ev call 30 119 [l0, l1, l2, l3, l4] st h := je_ifc D30_116 (by decide) rfl rfl
theorem D30_119 : decode (jt_code 30) 119 = .ok (.goto 33, 3) := by decide +kernel
theorem E30_119 {call : jv_F} {l0 l1 l2 l3 l4 : Option Value}  {st : List Value} {h : jv_H} : jv_ev call 30 119 [l0, l1, l2, l3, l4] st h = jv_ev call 30 152 [l0, l1, l2, l3, l4] st h := je_goto D30_119 (by decide)
theorem D30_122 : decode (jt_code 30) 122 = .ok (.iload 4, 2) := by decide +kernel
theorem E30_122 {call : jv_F} {l0 l1 l2 l3 : Option Value} {x : Int32} {st : List Value} {h : jv_H} : jv_ev call 30 122 [l0, l1, l2, l3, some (.int x)] st h = jv_ev call 30 124 [l0, l1, l2, l3, some (.int x)] (.int x :: st) h := je_iload D30_122 rfl rfl
theorem D30_124 : decode (jt_code 30) 124 = .ok (.ifCond .lt 12, 3) := by decide +kernel
theorem E30_124 {call : jv_F} {l0 l1 l2 l3 l4 : Option Value} {x : Int32} {st : List Value} {h : jv_H} : jv_ev call 30 124 [l0, l1, l2, l3, l4] (.int x :: st) h = if x < 0 then jv_ev call 30 136 [l0, l1, l2, l3, l4] st h else jv_ev call 30 127 [l0, l1, l2, l3, l4] st h := je_ifc D30_124 (by decide) rfl rfl
theorem D30_127 : decode (jt_code 30) 127 = .ok (.aload_n 0, 1) := by decide +kernel
theorem E30_127 {call : jv_F} {l1 l2 l3 l4 : Option Value} {a : Nat} {st : List Value} {h : jv_H} : jv_ev call 30 127 [some (.ref a), l1, l2, l3, l4] st h = jv_ev call 30 128 [some (.ref a), l1, l2, l3, l4] (.ref a :: st) h := je_aload_n (r := some a) D30_127 rfl rfl
theorem D30_128 : decode (jt_code 30) 128 = .ok (.iload 4, 2) := by decide +kernel
theorem E30_128 {call : jv_F} {l0 l1 l2 l3 : Option Value} {x : Int32} {st : List Value} {h : jv_H} : jv_ev call 30 128 [l0, l1, l2, l3, some (.int x)] st h = jv_ev call 30 130 [l0, l1, l2, l3, some (.int x)] (.int x :: st) h := je_iload D30_128 rfl rfl
theorem D30_130 : decode (jt_code 30) 130 = .ok (.invokevirtual 179, 3) := by decide +kernel
theorem E30_130 {call : jv_F} {l0 l1 l2 l3 l4 : Option Value} {v0 : Value}  {st : List Value} {m : Nat} {I : Nat → Int32} {A : Nat → Nat → Int32} {L : Nat → Nat → Int64} {rest : Nat → Option jv_C} {z : Nat × Nat} (hw : jv_wide st = true) (hc : (call 20 [.ref m, v0] (jm_H m I A L rest z)).isSome = true) : jv_ev call 30 130 [l0, l1, l2, l3, l4] (v0 :: .ref m :: st) (jm_H m I A L rest z) = jv_ev call 30 133 [l0, l1, l2, l3, l4] ((((call 20 [.ref m, v0] (jm_H m I A L rest z)).getD (none, (jm_H m I A L rest z))).1).toList ++ st) ((call 20 [.ref m, v0] (jm_H m I A L rest z)).getD (none, (jm_H m I A L rest z))).2 := by
  obtain ⟨⟨r, h'⟩, hv⟩ := Option.isSome_iff_exists.mp hc
  rw [hv]
  exact je_virt (y := 20) (as := [v0]) D30_130 rfl (by decide) (by decide) rfl jm_cl hw hv
theorem D30_133 : decode (jt_code 30) 133 = .ok (.goto 14, 3) := by decide +kernel
theorem E30_133 {call : jv_F} {l0 l1 l2 l3 l4 : Option Value}  {st : List Value} {h : jv_H} : jv_ev call 30 133 [l0, l1, l2, l3, l4] st h = jv_ev call 30 147 [l0, l1, l2, l3, l4] st h := je_goto D30_133 (by decide)
theorem D30_136 : decode (jt_code 30) 136 = .ok (.aload_n 0, 1) := by decide +kernel
theorem E30_136 {call : jv_F} {l1 l2 l3 l4 : Option Value} {a : Nat} {st : List Value} {h : jv_H} : jv_ev call 30 136 [some (.ref a), l1, l2, l3, l4] st h = jv_ev call 30 137 [some (.ref a), l1, l2, l3, l4] (.ref a :: st) h := je_aload_n (r := some a) D30_136 rfl rfl
theorem D30_137 : decode (jt_code 30) 137 = .ok (.getfield 85, 3) := by decide +kernel
theorem E30_137 {call : jv_F} {l0 l1 l2 l3 l4 : Option Value}  {st : List Value} {m : Nat} {I : Nat → Int32} {A : Nat → Nat → Int32} {L : Nat → Nat → Int64} {rest : Nat → Option jv_C} {z : Nat × Nat} : jv_ev call 30 137 [l0, l1, l2, l3, l4] (.ref m :: st) (jm_H m I A L rest z) = jv_ev call 30 140 [l0, l1, l2, l3, l4] (.ref (m + 24) :: st) (jm_H m I A L rest z) := je_get D30_137 rfl (by decide) jm_g28
theorem D30_140 : decode (jt_code 30) 140 = .ok (.aload_n 0, 1) := by decide +kernel
theorem E30_140 {call : jv_F} {l1 l2 l3 l4 : Option Value} {a : Nat} {st : List Value} {h : jv_H} : jv_ev call 30 140 [some (.ref a), l1, l2, l3, l4] st h = jv_ev call 30 141 [some (.ref a), l1, l2, l3, l4] (.ref a :: st) h := je_aload_n (r := some a) D30_140 rfl rfl
theorem D30_141 : decode (jt_code 30) 141 = .ok (.iload_n 3, 1) := by decide +kernel
theorem E30_141 {call : jv_F} {l0 l1 l2 l4 : Option Value} {x : Int32} {st : List Value} {h : jv_H} : jv_ev call 30 141 [l0, l1, l2, some (.int x), l4] st h = jv_ev call 30 142 [l0, l1, l2, some (.int x), l4] (.int x :: st) h := je_iload_n D30_141 rfl rfl
theorem D30_142 : decode (jt_code 30) 142 = .ok (.invokevirtual 204, 3) := by decide +kernel
theorem E30_142 {call : jv_F} {l0 l1 l2 l3 l4 : Option Value} {v0 : Value}  {st : List Value} {m : Nat} {I : Nat → Int32} {A : Nat → Nat → Int32} {L : Nat → Nat → Int64} {rest : Nat → Option jv_C} {z : Nat × Nat} (hw : jv_wide st = true) (hc : (call 9 [.ref m, v0] (jm_H m I A L rest z)).isSome = true) : jv_ev call 30 142 [l0, l1, l2, l3, l4] (v0 :: .ref m :: st) (jm_H m I A L rest z) = jv_ev call 30 145 [l0, l1, l2, l3, l4] ((((call 9 [.ref m, v0] (jm_H m I A L rest z)).getD (none, (jm_H m I A L rest z))).1).toList ++ st) ((call 9 [.ref m, v0] (jm_H m I A L rest z)).getD (none, (jm_H m I A L rest z))).2 := by
  obtain ⟨⟨r, h'⟩, hv⟩ := Option.isSome_iff_exists.mp hc
  rw [hv]
  exact je_virt (y := 9) (as := [v0]) D30_142 rfl (by decide) (by decide) rfl jm_cl hw hv
theorem D30_145 : decode (jt_code 30) 145 = .ok (.iconst (-1), 1) := by decide +kernel
theorem E30_145 {call : jv_F} {l0 l1 l2 l3 l4 : Option Value}  {st : List Value} {h : jv_H} : jv_ev call 30 145 [l0, l1, l2, l3, l4] st h = jv_ev call 30 146 [l0, l1, l2, l3, l4] (.int (-1) :: st) h := je_iconst D30_145 rfl (by decide)
theorem D30_146 : decode (jt_code 30) 146 = .ok (.iastore, 1) := by decide +kernel
theorem E30_146 {call : jv_F} {l0 l1 l2 l3 l4 : Option Value} {i : Nat} {v : Int32} {st : List Value} {m : Nat} {I : Nat → Int32} {A : Nat → Nat → Int32} {L : Nat → Nat → Int64} {rest : Nat → Option jv_C} {z : Nat × Nat} (hi : i < 64) : jv_ev call 30 146 [l0, l1, l2, l3, l4] (.int v :: .int (nI i) :: .ref (m + 24) :: st) (jm_H m I A L rest z) = jv_ev call 30 147 [l0, l1, l2, l3, l4] st (jm_H m I (va_up A 28 (upd (A 28) i v)) L rest z) := je_iast D30_146 rfl (jm_s28 hi)
theorem D30_147 : decode (jt_code 30) 147 = .ok (.aload_n 0, 1) := by decide +kernel
theorem E30_147 {call : jv_F} {l1 l2 l3 l4 : Option Value} {a : Nat} {st : List Value} {h : jv_H} : jv_ev call 30 147 [some (.ref a), l1, l2, l3, l4] st h = jv_ev call 30 148 [some (.ref a), l1, l2, l3, l4] (.ref a :: st) h := je_aload_n (r := some a) D30_147 rfl rfl
theorem D30_148 : decode (jt_code 30) 148 = .ok (.iload_n 3, 1) := by decide +kernel
theorem E30_148 {call : jv_F} {l0 l1 l2 l4 : Option Value} {x : Int32} {st : List Value} {h : jv_H} : jv_ev call 30 148 [l0, l1, l2, some (.int x), l4] st h = jv_ev call 30 149 [l0, l1, l2, some (.int x), l4] (.int x :: st) h := je_iload_n D30_148 rfl rfl
theorem D30_149 : decode (jt_code 30) 149 = .ok (.invokevirtual 185, 3) := by decide +kernel
theorem E30_149 {call : jv_F} {l0 l1 l2 l3 l4 : Option Value} {v0 : Value}  {st : List Value} {m : Nat} {I : Nat → Int32} {A : Nat → Nat → Int32} {L : Nat → Nat → Int64} {rest : Nat → Option jv_C} {z : Nat × Nat} (hw : jv_wide st = true) (hc : (call 22 [.ref m, v0] (jm_H m I A L rest z)).isSome = true) : jv_ev call 30 149 [l0, l1, l2, l3, l4] (v0 :: .ref m :: st) (jm_H m I A L rest z) = jv_ev call 30 152 [l0, l1, l2, l3, l4] ((((call 22 [.ref m, v0] (jm_H m I A L rest z)).getD (none, (jm_H m I A L rest z))).1).toList ++ st) ((call 22 [.ref m, v0] (jm_H m I A L rest z)).getD (none, (jm_H m I A L rest z))).2 := by
  obtain ⟨⟨r, h'⟩, hv⟩ := Option.isSome_iff_exists.mp hc
  rw [hv]
  exact je_virt (y := 22) (as := [v0]) D30_149 rfl (by decide) (by decide) rfl jm_cl hw hv
theorem D30_152 : decode (jt_code 30) 152 = .ok (.iinc 3 1, 3) := by decide +kernel
theorem E30_152 {call : jv_F} {l0 l1 l2 l4 : Option Value} {x : Int32} {st : List Value} {h : jv_H} (hk : ¬ jv_is2 (some l2) = true) : jv_ev call 30 152 [l0, l1, l2, some (.int x), l4] st h = jv_ev call 30 155 [l0, l1, l2, some (.int (x + (nI 1))), l4] st h := je_iinc D30_152 rfl rfl (v := x + (nI 1)) (by rfl) (by show jv_st1 _ 3 _ = _; simp only [jv_st1, jv_kill, List.getElem?_cons_succ, List.getElem?_cons_zero, hk, if_false]; rfl)
theorem D30_155 : decode (jt_code 30) 155 = .ok (.goto (-81), 3) := by decide +kernel
theorem E30_155 {call : jv_F} {l0 l1 l2 l3 l4 : Option Value}  {st : List Value} {h : jv_H} : jv_ev call 30 155 [l0, l1, l2, l3, l4] st h = jv_ev call 30 74 [l0, l1, l2, l3, l4] st h := je_goto D30_155 (by decide)
theorem D30_158 : decode (jt_code 30) 158 = .ok (.return_, 1) := by decide +kernel
theorem E30_158 {call : jv_F} {l0 l1 l2 l3 l4 : Option Value}  {h : jv_H} : jv_ev call 30 158 [l0, l1, l2, l3, l4] [] h = some (none, h) := je_ret D30_158 rfl
/-! method 31: DrumMachineModel.comes -/
theorem N31 {d : Nat} {b : Nat} {a0 : Int32} {a1 : Int32} {h : jv_H} : jv_run (d + 1) 31 [.ref b, .int a0, .int a1] h = jv_ev (jv_run d) 31 0 [some (.ref b), some (.int a0), some (.int a1), none, none, none] [] h := jv_run_eq (Nat.le_of_ble_eq_true rfl) rfl
theorem D31_0 : decode (jt_code 31) 0 = .ok (.iload_n 2, 1) := by decide +kernel
theorem E31_0 {call : jv_F} {l0 l1 l3 l4 l5 : Option Value} {x : Int32} {st : List Value} {h : jv_H} : jv_ev call 31 0 [l0, l1, some (.int x), l3, l4, l5] st h = jv_ev call 31 1 [l0, l1, some (.int x), l3, l4, l5] (.int x :: st) h := je_iload_n D31_0 rfl rfl
theorem D31_1 : decode (jt_code 31) 1 = .ok (.invokestatic 129, 3) := by decide +kernel
theorem E31_1 {call : jv_F} {l0 l1 l2 l3 l4 l5 : Option Value} {v0 : Value}  {st : List Value} {h : jv_H} (hw : jv_wide st = true) (hc : (call 14 [v0] h).isSome = true) : jv_ev call 31 1 [l0, l1, l2, l3, l4, l5] (v0 :: st) h = jv_ev call 31 4 [l0, l1, l2, l3, l4, l5] ((((call 14 [v0] h).getD (none, h)).1).toList ++ st) ((call 14 [v0] h).getD (none, h)).2 := by
  obtain ⟨⟨r, h'⟩, hv⟩ := Option.isSome_iff_exists.mp hc
  rw [hv]
  exact je_stat (y := 14) (as := [v0]) D31_1 rfl (by decide) (by decide) rfl hw hv
theorem D31_4 : decode (jt_code 31) 4 = .ok (.ifCond .ne 11, 3) := by decide +kernel
theorem E31_4 {call : jv_F} {l0 l1 l2 l3 l4 l5 : Option Value} {x : Int32} {st : List Value} {h : jv_H} : jv_ev call 31 4 [l0, l1, l2, l3, l4, l5] (.int x :: st) h = if ¬ x = 0 then jv_ev call 31 15 [l0, l1, l2, l3, l4, l5] st h else jv_ev call 31 7 [l0, l1, l2, l3, l4, l5] st h := je_ifc D31_4 (by decide) rfl rfl
theorem D31_7 : decode (jt_code 31) 7 = .ok (.aload_n 0, 1) := by decide +kernel
theorem E31_7 {call : jv_F} {l1 l2 l3 l4 l5 : Option Value} {a : Nat} {st : List Value} {h : jv_H} : jv_ev call 31 7 [some (.ref a), l1, l2, l3, l4, l5] st h = jv_ev call 31 8 [some (.ref a), l1, l2, l3, l4, l5] (.ref a :: st) h := je_aload_n (r := some a) D31_7 rfl rfl
theorem D31_8 : decode (jt_code 31) 8 = .ok (.iload_n 1, 1) := by decide +kernel
theorem E31_8 {call : jv_F} {l0 l2 l3 l4 l5 : Option Value} {x : Int32} {st : List Value} {h : jv_H} : jv_ev call 31 8 [l0, some (.int x), l2, l3, l4, l5] st h = jv_ev call 31 9 [l0, some (.int x), l2, l3, l4, l5] (.int x :: st) h := je_iload_n D31_8 rfl rfl
theorem D31_9 : decode (jt_code 31) 9 = .ok (.iconst 4, 1) := by decide +kernel
theorem E31_9 {call : jv_F} {l0 l1 l2 l3 l4 l5 : Option Value}  {st : List Value} {h : jv_H} : jv_ev call 31 9 [l0, l1, l2, l3, l4, l5] st h = jv_ev call 31 10 [l0, l1, l2, l3, l4, l5] (.int (nI 4) :: st) h := je_iconst D31_9 rfl (by decide)
theorem D31_10 : decode (jt_code 31) 10 = .ok (.invokevirtual 219, 3) := by decide +kernel
theorem E31_10 {call : jv_F} {l0 l1 l2 l3 l4 l5 : Option Value} {v0 v1 : Value}  {st : List Value} {m : Nat} {I : Nat → Int32} {A : Nat → Nat → Int32} {L : Nat → Nat → Int64} {rest : Nat → Option jv_C} {z : Nat × Nat} (hw : jv_wide st = true) (hc : (call 30 [.ref m, v0, v1] (jm_H m I A L rest z)).isSome = true) : jv_ev call 31 10 [l0, l1, l2, l3, l4, l5] (v1 :: v0 :: .ref m :: st) (jm_H m I A L rest z) = jv_ev call 31 13 [l0, l1, l2, l3, l4, l5] ((((call 30 [.ref m, v0, v1] (jm_H m I A L rest z)).getD (none, (jm_H m I A L rest z))).1).toList ++ st) ((call 30 [.ref m, v0, v1] (jm_H m I A L rest z)).getD (none, (jm_H m I A L rest z))).2 := by
  obtain ⟨⟨r, h'⟩, hv⟩ := Option.isSome_iff_exists.mp hc
  rw [hv]
  exact je_virt (y := 30) (as := [v0, v1]) D31_10 rfl (by decide) (by decide) rfl jm_cl hw hv
theorem D31_13 : decode (jt_code 31) 13 = .ok (.iconst 0, 1) := by decide +kernel
theorem E31_13 {call : jv_F} {l0 l1 l2 l3 l4 l5 : Option Value}  {st : List Value} {h : jv_H} : jv_ev call 31 13 [l0, l1, l2, l3, l4, l5] st h = jv_ev call 31 14 [l0, l1, l2, l3, l4, l5] (.int (nI 0) :: st) h := je_iconst D31_13 rfl (by decide)
theorem D31_14 : decode (jt_code 31) 14 = .ok (.ireturn, 1) := by decide +kernel
theorem E31_14 {call : jv_F} {l0 l1 l2 l3 l4 l5 : Option Value} {v : Int32} {h : jv_H} (hn : narrow .boolean (.int v) = .int v) (hf : fits .boolean (.int v) = true) : jv_ev call 31 14 [l0, l1, l2, l3, l4, l5] [.int v] h = some (some (.int v), h) := je_iret (ty := .boolean) D31_14 rfl hn hf
theorem D31_15 : decode (jt_code 31) 15 = .ok (.iload_n 1, 1) := by decide +kernel
theorem E31_15 {call : jv_F} {l0 l2 l3 l4 l5 : Option Value} {x : Int32} {st : List Value} {h : jv_H} : jv_ev call 31 15 [l0, some (.int x), l2, l3, l4, l5] st h = jv_ev call 31 16 [l0, some (.int x), l2, l3, l4, l5] (.int x :: st) h := je_iload_n D31_15 rfl rfl
theorem D31_16 : decode (jt_code 31) 16 = .ok (.iload_n 2, 1) := by decide +kernel
theorem E31_16 {call : jv_F} {l0 l1 l3 l4 l5 : Option Value} {x : Int32} {st : List Value} {h : jv_H} : jv_ev call 31 16 [l0, l1, some (.int x), l3, l4, l5] st h = jv_ev call 31 17 [l0, l1, some (.int x), l3, l4, l5] (.int x :: st) h := je_iload_n D31_16 rfl rfl
theorem D31_17 : decode (jt_code 31) 17 = .ok (.invokestatic 132, 3) := by decide +kernel
theorem E31_17 {call : jv_F} {l0 l1 l2 l3 l4 l5 : Option Value} {v0 v1 : Value}  {st : List Value} {h : jv_H} (hw : jv_wide st = true) (hc : (call 15 [v0, v1] h).isSome = true) : jv_ev call 31 17 [l0, l1, l2, l3, l4, l5] (v1 :: v0 :: st) h = jv_ev call 31 20 [l0, l1, l2, l3, l4, l5] ((((call 15 [v0, v1] h).getD (none, h)).1).toList ++ st) ((call 15 [v0, v1] h).getD (none, h)).2 := by
  obtain ⟨⟨r, h'⟩, hv⟩ := Option.isSome_iff_exists.mp hc
  rw [hv]
  exact je_stat (y := 15) (as := [v0, v1]) D31_17 rfl (by decide) (by decide) rfl hw hv
theorem D31_20 : decode (jt_code 31) 20 = .ok (.istore_n 3, 1) := by decide +kernel
theorem E31_20 {call : jv_F} {l0 l1 l2 l3 l4 l5 : Option Value} {x : Int32} {st : List Value} {h : jv_H} (hk : ¬ jv_is2 (some l2) = true) : jv_ev call 31 20 [l0, l1, l2, l3, l4, l5] (.int x :: st) h = jv_ev call 31 21 [l0, l1, l2, some (.int x), l4, l5] st h := je_istore_n D31_20 rfl (Nat.le_of_ble_eq_true rfl) (by show jv_st1 _ 3 _ = _; simp only [jv_st1, jv_kill, List.getElem?_cons_succ, List.getElem?_cons_zero, hk, if_false]; rfl)
theorem D31_21 : decode (jt_code 31) 21 = .ok (.aload_n 0, 1) := by decide +kernel
theorem E31_21 {call : jv_F} {l1 l2 l3 l4 l5 : Option Value} {a : Nat} {st : List Value} {h : jv_H} : jv_ev call 31 21 [some (.ref a), l1, l2, l3, l4, l5] st h = jv_ev call 31 22 [some (.ref a), l1, l2, l3, l4, l5] (.ref a :: st) h := je_aload_n (r := some a) D31_21 rfl rfl
theorem D31_22 : decode (jt_code 31) 22 = .ok (.iload_n 3, 1) := by decide +kernel
theorem E31_22 {call : jv_F} {l0 l1 l2 l4 l5 : Option Value} {x : Int32} {st : List Value} {h : jv_H} : jv_ev call 31 22 [l0, l1, l2, some (.int x), l4, l5] st h = jv_ev call 31 23 [l0, l1, l2, some (.int x), l4, l5] (.int x :: st) h := je_iload_n D31_22 rfl rfl
theorem D31_23 : decode (jt_code 31) 23 = .ok (.invokevirtual 117, 3) := by decide +kernel
theorem E31_23 {call : jv_F} {l0 l1 l2 l3 l4 l5 : Option Value} {v0 : Value}  {st : List Value} {m : Nat} {I : Nat → Int32} {A : Nat → Nat → Int32} {L : Nat → Nat → Int64} {rest : Nat → Option jv_C} {z : Nat × Nat} (hw : jv_wide st = true) (hc : (call 8 [.ref m, v0] (jm_H m I A L rest z)).isSome = true) : jv_ev call 31 23 [l0, l1, l2, l3, l4, l5] (v0 :: .ref m :: st) (jm_H m I A L rest z) = jv_ev call 31 26 [l0, l1, l2, l3, l4, l5] ((((call 8 [.ref m, v0] (jm_H m I A L rest z)).getD (none, (jm_H m I A L rest z))).1).toList ++ st) ((call 8 [.ref m, v0] (jm_H m I A L rest z)).getD (none, (jm_H m I A L rest z))).2 := by
  obtain ⟨⟨r, h'⟩, hv⟩ := Option.isSome_iff_exists.mp hc
  rw [hv]
  exact je_virt (y := 8) (as := [v0]) D31_23 rfl (by decide) (by decide) rfl jm_cl hw hv
theorem D31_26 : decode (jt_code 31) 26 = .ok (.istore 4, 2) := by decide +kernel
theorem E31_26 {call : jv_F} {l0 l1 l2 l3 l4 l5 : Option Value} {x : Int32} {st : List Value} {h : jv_H} (hk : ¬ jv_is2 (some l3) = true) : jv_ev call 31 26 [l0, l1, l2, l3, l4, l5] (.int x :: st) h = jv_ev call 31 28 [l0, l1, l2, l3, some (.int x), l5] st h := je_istore D31_26 rfl (Nat.le_of_ble_eq_true rfl) (by show jv_st1 _ 4 _ = _; simp only [jv_st1, jv_kill, List.getElem?_cons_succ, List.getElem?_cons_zero, hk, if_false]; rfl)
theorem D31_28 : decode (jt_code 31) 28 = .ok (.iload 4, 2) := by decide +kernel
theorem E31_28 {call : jv_F} {l0 l1 l2 l3 l5 : Option Value} {x : Int32} {st : List Value} {h : jv_H} : jv_ev call 31 28 [l0, l1, l2, l3, some (.int x), l5] st h = jv_ev call 31 30 [l0, l1, l2, l3, some (.int x), l5] (.int x :: st) h := je_iload D31_28 rfl rfl
theorem D31_30 : decode (jt_code 31) 30 = .ok (.ifCond .lt 15, 3) := by decide +kernel
theorem E31_30 {call : jv_F} {l0 l1 l2 l3 l4 l5 : Option Value} {x : Int32} {st : List Value} {h : jv_H} : jv_ev call 31 30 [l0, l1, l2, l3, l4, l5] (.int x :: st) h = if x < 0 then jv_ev call 31 45 [l0, l1, l2, l3, l4, l5] st h else jv_ev call 31 33 [l0, l1, l2, l3, l4, l5] st h := je_ifc D31_30 (by decide) rfl rfl
theorem D31_33 : decode (jt_code 31) 33 = .ok (.aload_n 0, 1) := by decide +kernel
theorem E31_33 {call : jv_F} {l1 l2 l3 l4 l5 : Option Value} {a : Nat} {st : List Value} {h : jv_H} : jv_ev call 31 33 [some (.ref a), l1, l2, l3, l4, l5] st h = jv_ev call 31 34 [some (.ref a), l1, l2, l3, l4, l5] (.ref a :: st) h := je_aload_n (r := some a) D31_33 rfl rfl
theorem D31_34 : decode (jt_code 31) 34 = .ok (.getfield 79, 3) := by decide +kernel
theorem E31_34 {call : jv_F} {l0 l1 l2 l3 l4 l5 : Option Value}  {st : List Value} {m : Nat} {I : Nat → Int32} {A : Nat → Nat → Int32} {L : Nat → Nat → Int64} {rest : Nat → Option jv_C} {z : Nat × Nat} : jv_ev call 31 34 [l0, l1, l2, l3, l4, l5] (.ref m :: st) (jm_H m I A L rest z) = jv_ev call 31 37 [l0, l1, l2, l3, l4, l5] (.ref (m + 22) :: st) (jm_H m I A L rest z) := je_get D31_34 rfl (by decide) jm_g26
theorem D31_37 : decode (jt_code 31) 37 = .ok (.iload 4, 2) := by decide +kernel
theorem E31_37 {call : jv_F} {l0 l1 l2 l3 l5 : Option Value} {x : Int32} {st : List Value} {h : jv_H} : jv_ev call 31 37 [l0, l1, l2, l3, some (.int x), l5] st h = jv_ev call 31 39 [l0, l1, l2, l3, some (.int x), l5] (.int x :: st) h := je_iload D31_37 rfl rfl
theorem D31_39 : decode (jt_code 31) 39 = .ok (.baload, 1) := by decide +kernel
theorem E31_39 {call : jv_F} {l0 l1 l2 l3 l4 l5 : Option Value} {i : Nat} {st : List Value} {m : Nat} {I : Nat → Int32} {A : Nat → Nat → Int32} {L : Nat → Nat → Int64} {rest : Nat → Option jv_C} {z : Nat × Nat} (hi : i < 17) : jv_ev call 31 39 [l0, l1, l2, l3, l4, l5] (.int (nI i) :: .ref (m + 22) :: st) (jm_H m I A L rest z) = jv_ev call 31 40 [l0, l1, l2, l3, l4, l5] (.int (A 26 i) :: st) (jm_H m I A L rest z) := je_bald D31_39 rfl (jm_l26 hi)
theorem D31_40 : decode (jt_code 31) 40 = .ok (.ifCond .ne 5, 3) := by decide +kernel
theorem E31_40 {call : jv_F} {l0 l1 l2 l3 l4 l5 : Option Value} {x : Int32} {st : List Value} {h : jv_H} : jv_ev call 31 40 [l0, l1, l2, l3, l4, l5] (.int x :: st) h = if ¬ x = 0 then jv_ev call 31 45 [l0, l1, l2, l3, l4, l5] st h else jv_ev call 31 43 [l0, l1, l2, l3, l4, l5] st h := je_ifc D31_40 (by decide) rfl rfl
theorem D31_43 : decode (jt_code 31) 43 = .ok (.iconst 1, 1) := by decide +kernel
theorem E31_43 {call : jv_F} {l0 l1 l2 l3 l4 l5 : Option Value}  {st : List Value} {h : jv_H} : jv_ev call 31 43 [l0, l1, l2, l3, l4, l5] st h = jv_ev call 31 44 [l0, l1, l2, l3, l4, l5] (.int (nI 1) :: st) h := je_iconst D31_43 rfl (by decide)
theorem D31_44 : decode (jt_code 31) 44 = .ok (.ireturn, 1) := by decide +kernel
theorem E31_44 {call : jv_F} {l0 l1 l2 l3 l4 l5 : Option Value} {v : Int32} {h : jv_H} (hn : narrow .boolean (.int v) = .int v) (hf : fits .boolean (.int v) = true) : jv_ev call 31 44 [l0, l1, l2, l3, l4, l5] [.int v] h = some (some (.int v), h) := je_iret (ty := .boolean) D31_44 rfl hn hf
theorem D31_45 : decode (jt_code 31) 45 = .ok (.aload_n 0, 1) := by decide +kernel
theorem E31_45 {call : jv_F} {l1 l2 l3 l4 l5 : Option Value} {a : Nat} {st : List Value} {h : jv_H} : jv_ev call 31 45 [some (.ref a), l1, l2, l3, l4, l5] st h = jv_ev call 31 46 [some (.ref a), l1, l2, l3, l4, l5] (.ref a :: st) h := je_aload_n (r := some a) D31_45 rfl rfl
theorem D31_46 : decode (jt_code 31) 46 = .ok (.getfield 63, 3) := by decide +kernel
theorem E31_46 {call : jv_F} {l0 l1 l2 l3 l4 l5 : Option Value}  {st : List Value} {m : Nat} {I : Nat → Int32} {A : Nat → Nat → Int32} {L : Nat → Nat → Int64} {rest : Nat → Option jv_C} {z : Nat × Nat} : jv_ev call 31 46 [l0, l1, l2, l3, l4, l5] (.ref m :: st) (jm_H m I A L rest z) = jv_ev call 31 49 [l0, l1, l2, l3, l4, l5] (.ref (m + 17) :: st) (jm_H m I A L rest z) := je_get D31_46 rfl (by decide) jm_g20
theorem D31_49 : decode (jt_code 31) 49 = .ok (.iload_n 3, 1) := by decide +kernel
theorem E31_49 {call : jv_F} {l0 l1 l2 l4 l5 : Option Value} {x : Int32} {st : List Value} {h : jv_H} : jv_ev call 31 49 [l0, l1, l2, some (.int x), l4, l5] st h = jv_ev call 31 50 [l0, l1, l2, some (.int x), l4, l5] (.int x :: st) h := je_iload_n D31_49 rfl rfl
theorem D31_50 : decode (jt_code 31) 50 = .ok (.baload, 1) := by decide +kernel
theorem E31_50 {call : jv_F} {l0 l1 l2 l3 l4 l5 : Option Value} {i : Nat} {st : List Value} {m : Nat} {I : Nat → Int32} {A : Nat → Nat → Int32} {L : Nat → Nat → Int64} {rest : Nat → Option jv_C} {z : Nat × Nat} (hi : i < 768) : jv_ev call 31 50 [l0, l1, l2, l3, l4, l5] (.int (nI i) :: .ref (m + 17) :: st) (jm_H m I A L rest z) = jv_ev call 31 51 [l0, l1, l2, l3, l4, l5] (.int (A 20 i) :: st) (jm_H m I A L rest z) := je_bald D31_50 rfl (jm_l20 hi)
theorem D31_51 : decode (jt_code 31) 51 = .ok (.ifCond .ne 20, 3) := by decide +kernel
theorem E31_51 {call : jv_F} {l0 l1 l2 l3 l4 l5 : Option Value} {x : Int32} {st : List Value} {h : jv_H} : jv_ev call 31 51 [l0, l1, l2, l3, l4, l5] (.int x :: st) h = if ¬ x = 0 then jv_ev call 31 71 [l0, l1, l2, l3, l4, l5] st h else jv_ev call 31 54 [l0, l1, l2, l3, l4, l5] st h := je_ifc D31_51 (by decide) rfl rfl
theorem D31_54 : decode (jt_code 31) 54 = .ok (.aload_n 0, 1) := by decide +kernel
theorem E31_54 {call : jv_F} {l1 l2 l3 l4 l5 : Option Value} {a : Nat} {st : List Value} {h : jv_H} : jv_ev call 31 54 [some (.ref a), l1, l2, l3, l4, l5] st h = jv_ev call 31 55 [some (.ref a), l1, l2, l3, l4, l5] (.ref a :: st) h := je_aload_n (r := some a) D31_54 rfl rfl
theorem D31_55 : decode (jt_code 31) 55 = .ok (.getfield 110, 3) := by decide +kernel
theorem E31_55 {call : jv_F} {l0 l1 l2 l3 l4 l5 : Option Value}  {st : List Value} {m : Nat} {I : Nat → Int32} {A : Nat → Nat → Int32} {L : Nat → Nat → Int64} {rest : Nat → Option jv_C} {z : Nat × Nat} : jv_ev call 31 55 [l0, l1, l2, l3, l4, l5] (.ref m :: st) (jm_H m I A L rest z) = jv_ev call 31 58 [l0, l1, l2, l3, l4, l5] (.int (I 22) :: st) (jm_H m I A L rest z) := je_get D31_55 rfl (by decide) jm_g22
theorem D31_58 : decode (jt_code 31) 58 = .ok (.bipush 64, 2) := by decide +kernel
theorem E31_58 {call : jv_F} {l0 l1 l2 l3 l4 l5 : Option Value}  {st : List Value} {h : jv_H} : jv_ev call 31 58 [l0, l1, l2, l3, l4, l5] st h = jv_ev call 31 60 [l0, l1, l2, l3, l4, l5] (.int (nI 64) :: st) h := je_bipush D31_58 rfl (by decide)
theorem D31_60 : decode (jt_code 31) 60 = .ok (.if_icmp .ne 11, 3) := by decide +kernel
theorem E31_60 {call : jv_F} {l0 l1 l2 l3 l4 l5 : Option Value} {x y : Int32} {st : List Value} {h : jv_H} : jv_ev call 31 60 [l0, l1, l2, l3, l4, l5] (.int y :: .int x :: st) h = if ¬ x = y then jv_ev call 31 71 [l0, l1, l2, l3, l4, l5] st h else jv_ev call 31 63 [l0, l1, l2, l3, l4, l5] st h := je_icmp D31_60 (by decide) rfl rfl
theorem D31_63 : decode (jt_code 31) 63 = .ok (.aload_n 0, 1) := by decide +kernel
theorem E31_63 {call : jv_F} {l1 l2 l3 l4 l5 : Option Value} {a : Nat} {st : List Value} {h : jv_H} : jv_ev call 31 63 [some (.ref a), l1, l2, l3, l4, l5] st h = jv_ev call 31 64 [some (.ref a), l1, l2, l3, l4, l5] (.ref a :: st) h := je_aload_n (r := some a) D31_63 rfl rfl
theorem D31_64 : decode (jt_code 31) 64 = .ok (.iload_n 1, 1) := by decide +kernel
theorem E31_64 {call : jv_F} {l0 l2 l3 l4 l5 : Option Value} {x : Int32} {st : List Value} {h : jv_H} : jv_ev call 31 64 [l0, some (.int x), l2, l3, l4, l5] st h = jv_ev call 31 65 [l0, some (.int x), l2, l3, l4, l5] (.int x :: st) h := je_iload_n D31_64 rfl rfl
theorem D31_65 : decode (jt_code 31) 65 = .ok (.iconst 5, 1) := by decide +kernel
theorem E31_65 {call : jv_F} {l0 l1 l2 l3 l4 l5 : Option Value}  {st : List Value} {h : jv_H} : jv_ev call 31 65 [l0, l1, l2, l3, l4, l5] st h = jv_ev call 31 66 [l0, l1, l2, l3, l4, l5] (.int (nI 5) :: st) h := je_iconst D31_65 rfl (by decide)
theorem D31_66 : decode (jt_code 31) 66 = .ok (.invokevirtual 219, 3) := by decide +kernel
theorem E31_66 {call : jv_F} {l0 l1 l2 l3 l4 l5 : Option Value} {v0 v1 : Value}  {st : List Value} {m : Nat} {I : Nat → Int32} {A : Nat → Nat → Int32} {L : Nat → Nat → Int64} {rest : Nat → Option jv_C} {z : Nat × Nat} (hw : jv_wide st = true) (hc : (call 30 [.ref m, v0, v1] (jm_H m I A L rest z)).isSome = true) : jv_ev call 31 66 [l0, l1, l2, l3, l4, l5] (v1 :: v0 :: .ref m :: st) (jm_H m I A L rest z) = jv_ev call 31 69 [l0, l1, l2, l3, l4, l5] ((((call 30 [.ref m, v0, v1] (jm_H m I A L rest z)).getD (none, (jm_H m I A L rest z))).1).toList ++ st) ((call 30 [.ref m, v0, v1] (jm_H m I A L rest z)).getD (none, (jm_H m I A L rest z))).2 := by
  obtain ⟨⟨r, h'⟩, hv⟩ := Option.isSome_iff_exists.mp hc
  rw [hv]
  exact je_virt (y := 30) (as := [v0, v1]) D31_66 rfl (by decide) (by decide) rfl jm_cl hw hv
theorem D31_69 : decode (jt_code 31) 69 = .ok (.iconst 0, 1) := by decide +kernel
theorem E31_69 {call : jv_F} {l0 l1 l2 l3 l4 l5 : Option Value}  {st : List Value} {h : jv_H} : jv_ev call 31 69 [l0, l1, l2, l3, l4, l5] st h = jv_ev call 31 70 [l0, l1, l2, l3, l4, l5] (.int (nI 0) :: st) h := je_iconst D31_69 rfl (by decide)
theorem D31_70 : decode (jt_code 31) 70 = .ok (.ireturn, 1) := by decide +kernel
theorem E31_70 {call : jv_F} {l0 l1 l2 l3 l4 l5 : Option Value} {v : Int32} {h : jv_H} (hn : narrow .boolean (.int v) = .int v) (hf : fits .boolean (.int v) = true) : jv_ev call 31 70 [l0, l1, l2, l3, l4, l5] [.int v] h = some (some (.int v), h) := je_iret (ty := .boolean) D31_70 rfl hn hf
theorem D31_71 : decode (jt_code 31) 71 = .ok (.aload_n 0, 1) := by decide +kernel
theorem E31_71 {call : jv_F} {l1 l2 l3 l4 l5 : Option Value} {a : Nat} {st : List Value} {h : jv_H} : jv_ev call 31 71 [some (.ref a), l1, l2, l3, l4, l5] st h = jv_ev call 31 72 [some (.ref a), l1, l2, l3, l4, l5] (.ref a :: st) h := je_aload_n (r := some a) D31_71 rfl rfl
theorem D31_72 : decode (jt_code 31) 72 = .ok (.invokevirtual 121, 3) := by decide +kernel
theorem E31_72 {call : jv_F} {l0 l1 l2 l3 l4 l5 : Option Value}  {st : List Value} {m : Nat} {I : Nat → Int32} {A : Nat → Nat → Int32} {L : Nat → Nat → Int64} {rest : Nat → Option jv_C} {z : Nat × Nat} (hw : jv_wide st = true) (hc : (call 10 [.ref m] (jm_H m I A L rest z)).isSome = true) : jv_ev call 31 72 [l0, l1, l2, l3, l4, l5] (.ref m :: st) (jm_H m I A L rest z) = jv_ev call 31 75 [l0, l1, l2, l3, l4, l5] ((((call 10 [.ref m] (jm_H m I A L rest z)).getD (none, (jm_H m I A L rest z))).1).toList ++ st) ((call 10 [.ref m] (jm_H m I A L rest z)).getD (none, (jm_H m I A L rest z))).2 := by
  obtain ⟨⟨r, h'⟩, hv⟩ := Option.isSome_iff_exists.mp hc
  rw [hv]
  exact je_virt (y := 10) (as := []) D31_72 rfl (by decide) (by decide) rfl jm_cl hw hv
theorem D31_75 : decode (jt_code 31) 75 = .ok (.istore 5, 2) := by decide +kernel
theorem E31_75 {call : jv_F} {l0 l1 l2 l3 l4 l5 : Option Value} {x : Int32} {st : List Value} {h : jv_H} (hk : ¬ jv_is2 (some l4) = true) : jv_ev call 31 75 [l0, l1, l2, l3, l4, l5] (.int x :: st) h = jv_ev call 31 77 [l0, l1, l2, l3, l4, some (.int x)] st h := je_istore D31_75 rfl (Nat.le_of_ble_eq_true rfl) (by show jv_st1 _ 5 _ = _; simp only [jv_st1, jv_kill, List.getElem?_cons_succ, List.getElem?_cons_zero, hk, if_false]; rfl)
theorem D31_77 : decode (jt_code 31) 77 = .ok (.aload_n 0, 1) := by decide +kernel
theorem E31_77 {call : jv_F} {l1 l2 l3 l4 l5 : Option Value} {a : Nat} {st : List Value} {h : jv_H} : jv_ev call 31 77 [some (.ref a), l1, l2, l3, l4, l5] st h = jv_ev call 31 78 [some (.ref a), l1, l2, l3, l4, l5] (.ref a :: st) h := je_aload_n (r := some a) D31_77 rfl rfl
theorem D31_78 : decode (jt_code 31) 78 = .ok (.getfield 63, 3) := by decide +kernel
theorem E31_78 {call : jv_F} {l0 l1 l2 l3 l4 l5 : Option Value}  {st : List Value} {m : Nat} {I : Nat → Int32} {A : Nat → Nat → Int32} {L : Nat → Nat → Int64} {rest : Nat → Option jv_C} {z : Nat × Nat} : jv_ev call 31 78 [l0, l1, l2, l3, l4, l5] (.ref m :: st) (jm_H m I A L rest z) = jv_ev call 31 81 [l0, l1, l2, l3, l4, l5] (.ref (m + 17) :: st) (jm_H m I A L rest z) := je_get D31_78 rfl (by decide) jm_g20
theorem D31_81 : decode (jt_code 31) 81 = .ok (.iload_n 3, 1) := by decide +kernel
theorem E31_81 {call : jv_F} {l0 l1 l2 l4 l5 : Option Value} {x : Int32} {st : List Value} {h : jv_H} : jv_ev call 31 81 [l0, l1, l2, some (.int x), l4, l5] st h = jv_ev call 31 82 [l0, l1, l2, some (.int x), l4, l5] (.int x :: st) h := je_iload_n D31_81 rfl rfl
theorem D31_82 : decode (jt_code 31) 82 = .ok (.baload, 1) := by decide +kernel
theorem E31_82 {call : jv_F} {l0 l1 l2 l3 l4 l5 : Option Value} {i : Nat} {st : List Value} {m : Nat} {I : Nat → Int32} {A : Nat → Nat → Int32} {L : Nat → Nat → Int64} {rest : Nat → Option jv_C} {z : Nat × Nat} (hi : i < 768) : jv_ev call 31 82 [l0, l1, l2, l3, l4, l5] (.int (nI i) :: .ref (m + 17) :: st) (jm_H m I A L rest z) = jv_ev call 31 83 [l0, l1, l2, l3, l4, l5] (.int (A 20 i) :: st) (jm_H m I A L rest z) := je_bald D31_82 rfl (jm_l20 hi)
theorem D31_83 : decode (jt_code 31) 83 = .ok (.ifCond .ne 36, 3) := by decide +kernel
theorem E31_83 {call : jv_F} {l0 l1 l2 l3 l4 l5 : Option Value} {x : Int32} {st : List Value} {h : jv_H} : jv_ev call 31 83 [l0, l1, l2, l3, l4, l5] (.int x :: st) h = if ¬ x = 0 then jv_ev call 31 119 [l0, l1, l2, l3, l4, l5] st h else jv_ev call 31 86 [l0, l1, l2, l3, l4, l5] st h := je_ifc D31_83 (by decide) rfl rfl
theorem D31_86 : decode (jt_code 31) 86 = .ok (.iload 5, 2) := by decide +kernel
theorem E31_86 {call : jv_F} {l0 l1 l2 l3 l4 : Option Value} {x : Int32} {st : List Value} {h : jv_H} : jv_ev call 31 86 [l0, l1, l2, l3, l4, some (.int x)] st h = jv_ev call 31 88 [l0, l1, l2, l3, l4, some (.int x)] (.int x :: st) h := je_iload D31_86 rfl rfl
theorem D31_88 : decode (jt_code 31) 88 = .ok (.ifCond .lt 31, 3) := by decide +kernel
theorem E31_88 {call : jv_F} {l0 l1 l2 l3 l4 l5 : Option Value} {x : Int32} {st : List Value} {h : jv_H} : jv_ev call 31 88 [l0, l1, l2, l3, l4, l5] (.int x :: st) h = if x < 0 then jv_ev call 31 119 [l0, l1, l2, l3, l4, l5] st h else jv_ev call 31 91 [l0, l1, l2, l3, l4, l5] st h := je_ifc D31_88 (by decide) rfl rfl
theorem D31_91 : decode (jt_code 31) 91 = .ok (.aload_n 0, 1) := by decide +kernel
theorem E31_91 {call : jv_F} {l1 l2 l3 l4 l5 : Option Value} {a : Nat} {st : List Value} {h : jv_H} : jv_ev call 31 91 [some (.ref a), l1, l2, l3, l4, l5] st h = jv_ev call 31 92 [some (.ref a), l1, l2, l3, l4, l5] (.ref a :: st) h := je_aload_n (r := some a) D31_91 rfl rfl
theorem D31_92 : decode (jt_code 31) 92 = .ok (.iload_n 3, 1) := by decide +kernel
theorem E31_92 {call : jv_F} {l0 l1 l2 l4 l5 : Option Value} {x : Int32} {st : List Value} {h : jv_H} : jv_ev call 31 92 [l0, l1, l2, some (.int x), l4, l5] st h = jv_ev call 31 93 [l0, l1, l2, some (.int x), l4, l5] (.int x :: st) h := je_iload_n D31_92 rfl rfl
theorem D31_93 : decode (jt_code 31) 93 = .ok (.invokevirtual 113, 3) := by decide +kernel
theorem E31_93 {call : jv_F} {l0 l1 l2 l3 l4 l5 : Option Value} {v0 : Value}  {st : List Value} {m : Nat} {I : Nat → Int32} {A : Nat → Nat → Int32} {L : Nat → Nat → Int64} {rest : Nat → Option jv_C} {z : Nat × Nat} (hw : jv_wide st = true) (hc : (call 7 [.ref m, v0] (jm_H m I A L rest z)).isSome = true) : jv_ev call 31 93 [l0, l1, l2, l3, l4, l5] (v0 :: .ref m :: st) (jm_H m I A L rest z) = jv_ev call 31 96 [l0, l1, l2, l3, l4, l5] ((((call 7 [.ref m, v0] (jm_H m I A L rest z)).getD (none, (jm_H m I A L rest z))).1).toList ++ st) ((call 7 [.ref m, v0] (jm_H m I A L rest z)).getD (none, (jm_H m I A L rest z))).2 := by
  obtain ⟨⟨r, h'⟩, hv⟩ := Option.isSome_iff_exists.mp hc
  rw [hv]
  exact je_virt (y := 7) (as := [v0]) D31_93 rfl (by decide) (by decide) rfl jm_cl hw hv
theorem D31_96 : decode (jt_code 31) 96 = .ok (.aload_n 0, 1) := by decide +kernel
theorem E31_96 {call : jv_F} {l1 l2 l3 l4 l5 : Option Value} {a : Nat} {st : List Value} {h : jv_H} : jv_ev call 31 96 [some (.ref a), l1, l2, l3, l4, l5] st h = jv_ev call 31 97 [some (.ref a), l1, l2, l3, l4, l5] (.ref a :: st) h := je_aload_n (r := some a) D31_96 rfl rfl
theorem D31_97 : decode (jt_code 31) 97 = .ok (.getfield 67, 3) := by decide +kernel
theorem E31_97 {call : jv_F} {l0 l1 l2 l3 l4 l5 : Option Value}  {st : List Value} {m : Nat} {I : Nat → Int32} {A : Nat → Nat → Int32} {L : Nat → Nat → Int64} {rest : Nat → Option jv_C} {z : Nat × Nat} : jv_ev call 31 97 [l0, l1, l2, l3, l4, l5] (.ref m :: st) (jm_H m I A L rest z) = jv_ev call 31 100 [l0, l1, l2, l3, l4, l5] (.ref (m + 18) :: st) (jm_H m I A L rest z) := je_get D31_97 rfl (by decide) jm_g21
theorem D31_100 : decode (jt_code 31) 100 = .ok (.iload_n 3, 1) := by decide +kernel
theorem E31_100 {call : jv_F} {l0 l1 l2 l4 l5 : Option Value} {x : Int32} {st : List Value} {h : jv_H} : jv_ev call 31 100 [l0, l1, l2, some (.int x), l4, l5] st h = jv_ev call 31 101 [l0, l1, l2, some (.int x), l4, l5] (.int x :: st) h := je_iload_n D31_100 rfl rfl
theorem D31_101 : decode (jt_code 31) 101 = .ok (.iconst (-1), 1) := by decide +kernel
theorem E31_101 {call : jv_F} {l0 l1 l2 l3 l4 l5 : Option Value}  {st : List Value} {h : jv_H} : jv_ev call 31 101 [l0, l1, l2, l3, l4, l5] st h = jv_ev call 31 102 [l0, l1, l2, l3, l4, l5] (.int (-1) :: st) h := je_iconst D31_101 rfl (by decide)
theorem D31_102 : decode (jt_code 31) 102 = .ok (.iastore, 1) := by decide +kernel
theorem E31_102 {call : jv_F} {l0 l1 l2 l3 l4 l5 : Option Value} {i : Nat} {v : Int32} {st : List Value} {m : Nat} {I : Nat → Int32} {A : Nat → Nat → Int32} {L : Nat → Nat → Int64} {rest : Nat → Option jv_C} {z : Nat × Nat} (hi : i < 768) : jv_ev call 31 102 [l0, l1, l2, l3, l4, l5] (.int v :: .int (nI i) :: .ref (m + 18) :: st) (jm_H m I A L rest z) = jv_ev call 31 103 [l0, l1, l2, l3, l4, l5] st (jm_H m I (va_up A 21 (upd (A 21) i v)) L rest z) := je_iast D31_102 rfl (jm_s21 hi)
theorem D31_103 : decode (jt_code 31) 103 = .ok (.aload_n 0, 1) := by decide +kernel
theorem E31_103 {call : jv_F} {l1 l2 l3 l4 l5 : Option Value} {a : Nat} {st : List Value} {h : jv_H} : jv_ev call 31 103 [some (.ref a), l1, l2, l3, l4, l5] st h = jv_ev call 31 104 [some (.ref a), l1, l2, l3, l4, l5] (.ref a :: st) h := je_aload_n (r := some a) D31_103 rfl rfl
theorem D31_104 : decode (jt_code 31) 104 = .ok (.iload 5, 2) := by decide +kernel
theorem E31_104 {call : jv_F} {l0 l1 l2 l3 l4 : Option Value} {x : Int32} {st : List Value} {h : jv_H} : jv_ev call 31 104 [l0, l1, l2, l3, l4, some (.int x)] st h = jv_ev call 31 106 [l0, l1, l2, l3, l4, some (.int x)] (.int x :: st) h := je_iload D31_104 rfl rfl
theorem D31_106 : decode (jt_code 31) 106 = .ok (.invokevirtual 179, 3) := by decide +kernel
theorem E31_106 {call : jv_F} {l0 l1 l2 l3 l4 l5 : Option Value} {v0 : Value}  {st : List Value} {m : Nat} {I : Nat → Int32} {A : Nat → Nat → Int32} {L : Nat → Nat → Int64} {rest : Nat → Option jv_C} {z : Nat × Nat} (hw : jv_wide st = true) (hc : (call 20 [.ref m, v0] (jm_H m I A L rest z)).isSome = true) : jv_ev call 31 106 [l0, l1, l2, l3, l4, l5] (v0 :: .ref m :: st) (jm_H m I A L rest z) = jv_ev call 31 109 [l0, l1, l2, l3, l4, l5] ((((call 20 [.ref m, v0] (jm_H m I A L rest z)).getD (none, (jm_H m I A L rest z))).1).toList ++ st) ((call 20 [.ref m, v0] (jm_H m I A L rest z)).getD (none, (jm_H m I A L rest z))).2 := by
  obtain ⟨⟨r, h'⟩, hv⟩ := Option.isSome_iff_exists.mp hc
  rw [hv]
  exact je_virt (y := 20) (as := [v0]) D31_106 rfl (by decide) (by decide) rfl jm_cl hw hv
theorem D31_109 : decode (jt_code 31) 109 = .ok (.aload_n 0, 1) := by decide +kernel
theorem E31_109 {call : jv_F} {l1 l2 l3 l4 l5 : Option Value} {a : Nat} {st : List Value} {h : jv_H} : jv_ev call 31 109 [some (.ref a), l1, l2, l3, l4, l5] st h = jv_ev call 31 110 [some (.ref a), l1, l2, l3, l4, l5] (.ref a :: st) h := je_aload_n (r := some a) D31_109 rfl rfl
theorem D31_110 : decode (jt_code 31) 110 = .ok (.getfield 70, 3) := by decide +kernel
theorem E31_110 {call : jv_F} {l0 l1 l2 l3 l4 l5 : Option Value}  {st : List Value} {m : Nat} {I : Nat → Int32} {A : Nat → Nat → Int32} {L : Nat → Nat → Int64} {rest : Nat → Option jv_C} {z : Nat × Nat} : jv_ev call 31 110 [l0, l1, l2, l3, l4, l5] (.ref m :: st) (jm_H m I A L rest z) = jv_ev call 31 113 [l0, l1, l2, l3, l4, l5] (.ref (m + 19) :: st) (jm_H m I A L rest z) := je_get D31_110 rfl (by decide) jm_g23
theorem D31_113 : decode (jt_code 31) 113 = .ok (.iload 5, 2) := by decide +kernel
theorem E31_113 {call : jv_F} {l0 l1 l2 l3 l4 : Option Value} {x : Int32} {st : List Value} {h : jv_H} : jv_ev call 31 113 [l0, l1, l2, l3, l4, some (.int x)] st h = jv_ev call 31 115 [l0, l1, l2, l3, l4, some (.int x)] (.int x :: st) h := je_iload D31_113 rfl rfl
theorem D31_115 : decode (jt_code 31) 115 = .ok (.iload_n 3, 1) := by decide +kernel
theorem E31_115 {call : jv_F} {l0 l1 l2 l4 l5 : Option Value} {x : Int32} {st : List Value} {h : jv_H} : jv_ev call 31 115 [l0, l1, l2, some (.int x), l4, l5] st h = jv_ev call 31 116 [l0, l1, l2, some (.int x), l4, l5] (.int x :: st) h := je_iload_n D31_115 rfl rfl
theorem D31_116 : decode (jt_code 31) 116 = .ok (.iastore, 1) := by decide +kernel
theorem E31_116 {call : jv_F} {l0 l1 l2 l3 l4 l5 : Option Value} {i : Nat} {v : Int32} {st : List Value} {m : Nat} {I : Nat → Int32} {A : Nat → Nat → Int32} {L : Nat → Nat → Int64} {rest : Nat → Option jv_C} {z : Nat × Nat} (hi : i < 17) : jv_ev call 31 116 [l0, l1, l2, l3, l4, l5] (.int v :: .int (nI i) :: .ref (m + 19) :: st) (jm_H m I A L rest z) = jv_ev call 31 117 [l0, l1, l2, l3, l4, l5] st (jm_H m I (va_up A 23 (upd (A 23) i v)) L rest z) := je_iast D31_116 rfl (jm_s23 hi)
theorem D31_117 : decode (jt_code 31) 117 = .ok (.iconst 1, 1) := by decide +kernel
theorem E31_117 {call : jv_F} {l0 l1 l2 l3 l4 l5 : Option Value}  {st : List Value} {h : jv_H} : jv_ev call 31 117 [l0, l1, l2, l3, l4, l5] st h = jv_ev call 31 118 [l0, l1, l2, l3, l4, l5] (.int (nI 1) :: st) h := je_iconst D31_117 rfl (by decide)
theorem D31_118 : decode (jt_code 31) 118 = .ok (.ireturn, 1) := by decide +kernel
theorem E31_118 {call : jv_F} {l0 l1 l2 l3 l4 l5 : Option Value} {v : Int32} {h : jv_H} (hn : narrow .boolean (.int v) = .int v) (hf : fits .boolean (.int v) = true) : jv_ev call 31 118 [l0, l1, l2, l3, l4, l5] [.int v] h = some (some (.int v), h) := je_iret (ty := .boolean) D31_118 rfl hn hf
theorem D31_119 : decode (jt_code 31) 119 = .ok (.aload_n 0, 1) := by decide +kernel
theorem E31_119 {call : jv_F} {l1 l2 l3 l4 l5 : Option Value} {a : Nat} {st : List Value} {h : jv_H} : jv_ev call 31 119 [some (.ref a), l1, l2, l3, l4, l5] st h = jv_ev call 31 120 [some (.ref a), l1, l2, l3, l4, l5] (.ref a :: st) h := je_aload_n (r := some a) D31_119 rfl rfl
theorem D31_120 : decode (jt_code 31) 120 = .ok (.dup, 1) := by decide +kernel
theorem E31_120 {call : jv_F} {l0 l1 l2 l3 l4 l5 : Option Value} {a : Nat} {st : List Value} {h : jv_H} : jv_ev call 31 120 [l0, l1, l2, l3, l4, l5] (.ref a :: st) h = jv_ev call 31 121 [l0, l1, l2, l3, l4, l5] (.ref a :: .ref a :: st) h := je_dup D31_120 rfl rfl
theorem E31_120i {call : jv_F} {l0 l1 l2 l3 l4 l5 : Option Value} {x : Int32} {st : List Value} {h : jv_H} : jv_ev call 31 120 [l0, l1, l2, l3, l4, l5] (.int x :: st) h = jv_ev call 31 121 [l0, l1, l2, l3, l4, l5] (.int x :: .int x :: st) h := je_dup D31_120 rfl rfl
theorem D31_121 : decode (jt_code 31) 121 = .ok (.getfield 222, 3) := by decide +kernel
theorem E31_121 {call : jv_F} {l0 l1 l2 l3 l4 l5 : Option Value}  {st : List Value} {m : Nat} {I : Nat → Int32} {A : Nat → Nat → Int32} {L : Nat → Nat → Int64} {rest : Nat → Option jv_C} {z : Nat × Nat} : jv_ev call 31 121 [l0, l1, l2, l3, l4, l5] (.ref m :: st) (jm_H m I A L rest z) = jv_ev call 31 124 [l0, l1, l2, l3, l4, l5] (.int (I 40) :: st) (jm_H m I A L rest z) := je_get D31_121 rfl (by decide) jm_g40
theorem D31_124 : decode (jt_code 31) 124 = .ok (.iconst 1, 1) := by decide +kernel
theorem E31_124 {call : jv_F} {l0 l1 l2 l3 l4 l5 : Option Value}  {st : List Value} {h : jv_H} : jv_ev call 31 124 [l0, l1, l2, l3, l4, l5] st h = jv_ev call 31 125 [l0, l1, l2, l3, l4, l5] (.int (nI 1) :: st) h := je_iconst D31_124 rfl (by decide)
theorem D31_125 : decode (jt_code 31) 125 = .ok (.iadd, 1) := by decide +kernel
theorem E31_125 {call : jv_F} {l0 l1 l2 l3 l4 l5 : Option Value} {x y : Int32} {st : List Value} {h : jv_H} : jv_ev call 31 125 [l0, l1, l2, l3, l4, l5] (.int y :: .int x :: st) h = jv_ev call 31 126 [l0, l1, l2, l3, l4, l5] (.int (x + y) :: st) h := je_b2 (f := fun x y => x + y) D31_125 rfl (fun _ => rfl)
theorem D31_126 : decode (jt_code 31) 126 = .ok (.putfield 222, 3) := by decide +kernel
theorem E31_126 {call : jv_F} {l0 l1 l2 l3 l4 l5 : Option Value} {v : Int32} {st : List Value} {m : Nat} {I : Nat → Int32} {A : Nat → Nat → Int32} {L : Nat → Nat → Int64} {rest : Nat → Option jv_C} {z : Nat × Nat} : jv_ev call 31 126 [l0, l1, l2, l3, l4, l5] (.int v :: .ref m :: st) (jm_H m I A L rest z) = jv_ev call 31 129 [l0, l1, l2, l3, l4, l5] st (jm_H m (upd I 40 v) A L rest z) := je_put D31_126 rfl (by decide) (by decide) jm_p40
theorem D31_129 : decode (jt_code 31) 129 = .ok (.aload_n 0, 1) := by decide +kernel
theorem E31_129 {call : jv_F} {l1 l2 l3 l4 l5 : Option Value} {a : Nat} {st : List Value} {h : jv_H} : jv_ev call 31 129 [some (.ref a), l1, l2, l3, l4, l5] st h = jv_ev call 31 130 [some (.ref a), l1, l2, l3, l4, l5] (.ref a :: st) h := je_aload_n (r := some a) D31_129 rfl rfl
theorem D31_130 : decode (jt_code 31) 130 = .ok (.getfield 57, 3) := by decide +kernel
theorem E31_130 {call : jv_F} {l0 l1 l2 l3 l4 l5 : Option Value}  {st : List Value} {m : Nat} {I : Nat → Int32} {A : Nat → Nat → Int32} {L : Nat → Nat → Int64} {rest : Nat → Option jv_C} {z : Nat × Nat} : jv_ev call 31 130 [l0, l1, l2, l3, l4, l5] (.ref m :: st) (jm_H m I A L rest z) = jv_ev call 31 133 [l0, l1, l2, l3, l4, l5] (.ref (m + 15) :: st) (jm_H m I A L rest z) := je_get D31_130 rfl (by decide) jm_g18
theorem D31_133 : decode (jt_code 31) 133 = .ok (.iload_n 1, 1) := by decide +kernel
theorem E31_133 {call : jv_F} {l0 l2 l3 l4 l5 : Option Value} {x : Int32} {st : List Value} {h : jv_H} : jv_ev call 31 133 [l0, some (.int x), l2, l3, l4, l5] st h = jv_ev call 31 134 [l0, some (.int x), l2, l3, l4, l5] (.int x :: st) h := je_iload_n D31_133 rfl rfl
theorem D31_134 : decode (jt_code 31) 134 = .ok (.iload 4, 2) := by decide +kernel
theorem E31_134 {call : jv_F} {l0 l1 l2 l3 l5 : Option Value} {x : Int32} {st : List Value} {h : jv_H} : jv_ev call 31 134 [l0, l1, l2, l3, some (.int x), l5] st h = jv_ev call 31 136 [l0, l1, l2, l3, some (.int x), l5] (.int x :: st) h := je_iload D31_134 rfl rfl
theorem D31_136 : decode (jt_code 31) 136 = .ok (.ifCond .ge 8, 3) := by decide +kernel
theorem E31_136 {call : jv_F} {l0 l1 l2 l3 l4 l5 : Option Value} {x : Int32} {st : List Value} {h : jv_H} : jv_ev call 31 136 [l0, l1, l2, l3, l4, l5] (.int x :: st) h = if 0 ≤ x then jv_ev call 31 144 [l0, l1, l2, l3, l4, l5] st h else jv_ev call 31 139 [l0, l1, l2, l3, l4, l5] st h := je_ifc D31_136 (by decide) rfl rfl
theorem D31_139 : decode (jt_code 31) 139 = .ok (.iload 5, 2) := by decide +kernel
theorem E31_139 {call : jv_F} {l0 l1 l2 l3 l4 : Option Value} {x : Int32} {st : List Value} {h : jv_H} : jv_ev call 31 139 [l0, l1, l2, l3, l4, some (.int x)] st h = jv_ev call 31 141 [l0, l1, l2, l3, l4, some (.int x)] (.int x :: st) h := je_iload D31_139 rfl rfl
theorem D31_141 : decode (jt_code 31) 141 = .ok (.ifCond .lt 7, 3) := by decide +kernel
theorem E31_141 {call : jv_F} {l0 l1 l2 l3 l4 l5 : Option Value} {x : Int32} {st : List Value} {h : jv_H} : jv_ev call 31 141 [l0, l1, l2, l3, l4, l5] (.int x :: st) h = if x < 0 then jv_ev call 31 148 [l0, l1, l2, l3, l4, l5] st h else jv_ev call 31 144 [l0, l1, l2, l3, l4, l5] st h := je_ifc D31_141 (by decide) rfl rfl
theorem D31_144 : decode (jt_code 31) 144 = .ok (.iconst 1, 1) := by decide +kernel
theorem E31_144 {call : jv_F} {l0 l1 l2 l3 l4 l5 : Option Value}  {st : List Value} {h : jv_H} : jv_ev call 31 144 [l0, l1, l2, l3, l4, l5] st h = jv_ev call 31 145 [l0, l1, l2, l3, l4, l5] (.int (nI 1) :: st) h := je_iconst D31_144 rfl (by decide)
theorem D31_145 : decode (jt_code 31) 145 = .ok (.goto 4, 3) := by decide +kernel
theorem E31_145 {call : jv_F} {l0 l1 l2 l3 l4 l5 : Option Value}  {st : List Value} {h : jv_H} : jv_ev call 31 145 [l0, l1, l2, l3, l4, l5] st h = jv_ev call 31 149 [l0, l1, l2, l3, l4, l5] st h := je_goto D31_145 (by decide)
theorem D31_148 : decode (jt_code 31) 148 = .ok (.iconst 2, 1) := by decide +kernel
theorem E31_148 {call : jv_F} {l0 l1 l2 l3 l4 l5 : Option Value}  {st : List Value} {h : jv_H} : jv_ev call 31 148 [l0, l1, l2, l3, l4, l5] st h = jv_ev call 31 149 [l0, l1, l2, l3, l4, l5] (.int (nI 2) :: st) h := je_iconst D31_148 rfl (by decide)
theorem D31_149 : decode (jt_code 31) 149 = .ok (.iastore, 1) := by decide +kernel
theorem E31_149 {call : jv_F} {l0 l1 l2 l3 l4 l5 : Option Value} {i : Nat} {v : Int32} {st : List Value} {m : Nat} {I : Nat → Int32} {A : Nat → Nat → Int32} {L : Nat → Nat → Int64} {rest : Nat → Option jv_C} {z : Nat × Nat} (hi : i < 12) : jv_ev call 31 149 [l0, l1, l2, l3, l4, l5] (.int v :: .int (nI i) :: .ref (m + 15) :: st) (jm_H m I A L rest z) = jv_ev call 31 150 [l0, l1, l2, l3, l4, l5] st (jm_H m I (va_up A 18 (upd (A 18) i v)) L rest z) := je_iast D31_149 rfl (jm_s18 hi)
theorem D31_150 : decode (jt_code 31) 150 = .ok (.aload_n 0, 1) := by decide +kernel
theorem E31_150 {call : jv_F} {l1 l2 l3 l4 l5 : Option Value} {a : Nat} {st : List Value} {h : jv_H} : jv_ev call 31 150 [some (.ref a), l1, l2, l3, l4, l5] st h = jv_ev call 31 151 [some (.ref a), l1, l2, l3, l4, l5] (.ref a :: st) h := je_aload_n (r := some a) D31_150 rfl rfl
theorem D31_151 : decode (jt_code 31) 151 = .ok (.getfield 60, 3) := by decide +kernel
theorem E31_151 {call : jv_F} {l0 l1 l2 l3 l4 l5 : Option Value}  {st : List Value} {m : Nat} {I : Nat → Int32} {A : Nat → Nat → Int32} {L : Nat → Nat → Int64} {rest : Nat → Option jv_C} {z : Nat × Nat} : jv_ev call 31 151 [l0, l1, l2, l3, l4, l5] (.ref m :: st) (jm_H m I A L rest z) = jv_ev call 31 154 [l0, l1, l2, l3, l4, l5] (.ref (m + 16) :: st) (jm_H m I A L rest z) := je_get D31_151 rfl (by decide) jm_g19
theorem D31_154 : decode (jt_code 31) 154 = .ok (.iload_n 1, 1) := by decide +kernel
theorem E31_154 {call : jv_F} {l0 l2 l3 l4 l5 : Option Value} {x : Int32} {st : List Value} {h : jv_H} : jv_ev call 31 154 [l0, some (.int x), l2, l3, l4, l5] st h = jv_ev call 31 155 [l0, some (.int x), l2, l3, l4, l5] (.int x :: st) h := je_iload_n D31_154 rfl rfl
theorem D31_155 : decode (jt_code 31) 155 = .ok (.iload_n 3, 1) := by decide +kernel
theorem E31_155 {call : jv_F} {l0 l1 l2 l4 l5 : Option Value} {x : Int32} {st : List Value} {h : jv_H} : jv_ev call 31 155 [l0, l1, l2, some (.int x), l4, l5] st h = jv_ev call 31 156 [l0, l1, l2, some (.int x), l4, l5] (.int x :: st) h := je_iload_n D31_155 rfl rfl
theorem D31_156 : decode (jt_code 31) 156 = .ok (.iastore, 1) := by decide +kernel
theorem E31_156 {call : jv_F} {l0 l1 l2 l3 l4 l5 : Option Value} {i : Nat} {v : Int32} {st : List Value} {m : Nat} {I : Nat → Int32} {A : Nat → Nat → Int32} {L : Nat → Nat → Int64} {rest : Nat → Option jv_C} {z : Nat × Nat} (hi : i < 12) : jv_ev call 31 156 [l0, l1, l2, l3, l4, l5] (.int v :: .int (nI i) :: .ref (m + 16) :: st) (jm_H m I A L rest z) = jv_ev call 31 157 [l0, l1, l2, l3, l4, l5] st (jm_H m I (va_up A 19 (upd (A 19) i v)) L rest z) := je_iast D31_156 rfl (jm_s19 hi)
theorem D31_157 : decode (jt_code 31) 157 = .ok (.iload 4, 2) := by decide +kernel
theorem E31_157 {call : jv_F} {l0 l1 l2 l3 l5 : Option Value} {x : Int32} {st : List Value} {h : jv_H} : jv_ev call 31 157 [l0, l1, l2, l3, some (.int x), l5] st h = jv_ev call 31 159 [l0, l1, l2, l3, some (.int x), l5] (.int x :: st) h := je_iload D31_157 rfl rfl
theorem D31_159 : decode (jt_code 31) 159 = .ok (.ifCond .ge 23, 3) := by decide +kernel
theorem E31_159 {call : jv_F} {l0 l1 l2 l3 l4 l5 : Option Value} {x : Int32} {st : List Value} {h : jv_H} : jv_ev call 31 159 [l0, l1, l2, l3, l4, l5] (.int x :: st) h = if 0 ≤ x then jv_ev call 31 182 [l0, l1, l2, l3, l4, l5] st h else jv_ev call 31 162 [l0, l1, l2, l3, l4, l5] st h := je_ifc D31_159 (by decide) rfl rfl
theorem D31_162 : decode (jt_code 31) 162 = .ok (.iload 5, 2) := by decide +kernel
theorem E31_162 {call : jv_F} {l0 l1 l2 l3 l4 : Option Value} {x : Int32} {st : List Value} {h : jv_H} : jv_ev call 31 162 [l0, l1, l2, l3, l4, some (.int x)] st h = jv_ev call 31 164 [l0, l1, l2, l3, l4, some (.int x)] (.int x :: st) h := je_iload D31_162 rfl rfl
theorem D31_164 : decode (jt_code 31) 164 = .ok (.ifCond .lt 18, 3) := by decide +kernel
theorem E31_164 {call : jv_F} {l0 l1 l2 l3 l4 l5 : Option Value} {x : Int32} {st : List Value} {h : jv_H} : jv_ev call 31 164 [l0, l1, l2, l3, l4, l5] (.int x :: st) h = if x < 0 then jv_ev call 31 182 [l0, l1, l2, l3, l4, l5] st h else jv_ev call 31 167 [l0, l1, l2, l3, l4, l5] st h := je_ifc D31_164 (by decide) rfl rfl
theorem D31_167 : decode (jt_code 31) 167 = .ok (.aload_n 0, 1) := by decide +kernel
theorem E31_167 {call : jv_F} {l1 l2 l3 l4 l5 : Option Value} {a : Nat} {st : List Value} {h : jv_H} : jv_ev call 31 167 [some (.ref a), l1, l2, l3, l4, l5] st h = jv_ev call 31 168 [some (.ref a), l1, l2, l3, l4, l5] (.ref a :: st) h := je_aload_n (r := some a) D31_167 rfl rfl
theorem D31_168 : decode (jt_code 31) 168 = .ok (.getfield 70, 3) := by decide +kernel
theorem E31_168 {call : jv_F} {l0 l1 l2 l3 l4 l5 : Option Value}  {st : List Value} {m : Nat} {I : Nat → Int32} {A : Nat → Nat → Int32} {L : Nat → Nat → Int64} {rest : Nat → Option jv_C} {z : Nat × Nat} : jv_ev call 31 168 [l0, l1, l2, l3, l4, l5] (.ref m :: st) (jm_H m I A L rest z) = jv_ev call 31 171 [l0, l1, l2, l3, l4, l5] (.ref (m + 19) :: st) (jm_H m I A L rest z) := je_get D31_168 rfl (by decide) jm_g23
theorem D31_171 : decode (jt_code 31) 171 = .ok (.iload 5, 2) := by decide +kernel
theorem E31_171 {call : jv_F} {l0 l1 l2 l3 l4 : Option Value} {x : Int32} {st : List Value} {h : jv_H} : jv_ev call 31 171 [l0, l1, l2, l3, l4, some (.int x)] st h = jv_ev call 31 173 [l0, l1, l2, l3, l4, some (.int x)] (.int x :: st) h := je_iload D31_171 rfl rfl
theorem D31_173 : decode (jt_code 31) 173 = .ok (.iload_n 3, 1) := by decide +kernel
theorem E31_173 {call : jv_F} {l0 l1 l2 l4 l5 : Option Value} {x : Int32} {st : List Value} {h : jv_H} : jv_ev call 31 173 [l0, l1, l2, some (.int x), l4, l5] st h = jv_ev call 31 174 [l0, l1, l2, some (.int x), l4, l5] (.int x :: st) h := je_iload_n D31_173 rfl rfl
theorem D31_174 : decode (jt_code 31) 174 = .ok (.iastore, 1) := by decide +kernel
theorem E31_174 {call : jv_F} {l0 l1 l2 l3 l4 l5 : Option Value} {i : Nat} {v : Int32} {st : List Value} {m : Nat} {I : Nat → Int32} {A : Nat → Nat → Int32} {L : Nat → Nat → Int64} {rest : Nat → Option jv_C} {z : Nat × Nat} (hi : i < 17) : jv_ev call 31 174 [l0, l1, l2, l3, l4, l5] (.int v :: .int (nI i) :: .ref (m + 19) :: st) (jm_H m I A L rest z) = jv_ev call 31 175 [l0, l1, l2, l3, l4, l5] st (jm_H m I (va_up A 23 (upd (A 23) i v)) L rest z) := je_iast D31_174 rfl (jm_s23 hi)
theorem D31_175 : decode (jt_code 31) 175 = .ok (.aload_n 0, 1) := by decide +kernel
theorem E31_175 {call : jv_F} {l1 l2 l3 l4 l5 : Option Value} {a : Nat} {st : List Value} {h : jv_H} : jv_ev call 31 175 [some (.ref a), l1, l2, l3, l4, l5] st h = jv_ev call 31 176 [some (.ref a), l1, l2, l3, l4, l5] (.ref a :: st) h := je_aload_n (r := some a) D31_175 rfl rfl
theorem D31_176 : decode (jt_code 31) 176 = .ok (.iconst 1, 1) := by decide +kernel
theorem E31_176 {call : jv_F} {l0 l1 l2 l3 l4 l5 : Option Value}  {st : List Value} {h : jv_H} : jv_ev call 31 176 [l0, l1, l2, l3, l4, l5] st h = jv_ev call 31 177 [l0, l1, l2, l3, l4, l5] (.int (nI 1) :: st) h := je_iconst D31_176 rfl (by decide)
theorem D31_177 : decode (jt_code 31) 177 = .ok (.iload 5, 2) := by decide +kernel
theorem E31_177 {call : jv_F} {l0 l1 l2 l3 l4 : Option Value} {x : Int32} {st : List Value} {h : jv_H} : jv_ev call 31 177 [l0, l1, l2, l3, l4, some (.int x)] st h = jv_ev call 31 179 [l0, l1, l2, l3, l4, some (.int x)] (.int x :: st) h := je_iload D31_177 rfl rfl
theorem D31_179 : decode (jt_code 31) 179 = .ok (.invokevirtual 197, 3) := by decide +kernel
theorem E31_179 {call : jv_F} {l0 l1 l2 l3 l4 l5 : Option Value} {v0 v1 : Value}  {st : List Value} {m : Nat} {I : Nat → Int32} {A : Nat → Nat → Int32} {L : Nat → Nat → Int64} {rest : Nat → Option jv_C} {z : Nat × Nat} (hw : jv_wide st = true) (hc : (call 25 [.ref m, v0, v1] (jm_H m I A L rest z)).isSome = true) : jv_ev call 31 179 [l0, l1, l2, l3, l4, l5] (v1 :: v0 :: .ref m :: st) (jm_H m I A L rest z) = jv_ev call 31 182 [l0, l1, l2, l3, l4, l5] ((((call 25 [.ref m, v0, v1] (jm_H m I A L rest z)).getD (none, (jm_H m I A L rest z))).1).toList ++ st) ((call 25 [.ref m, v0, v1] (jm_H m I A L rest z)).getD (none, (jm_H m I A L rest z))).2 := by
  obtain ⟨⟨r, h'⟩, hv⟩ := Option.isSome_iff_exists.mp hc
  rw [hv]
  exact je_virt (y := 25) (as := [v0, v1]) D31_179 rfl (by decide) (by decide) rfl jm_cl hw hv
theorem D31_182 : decode (jt_code 31) 182 = .ok (.iconst 0, 1) := by decide +kernel
theorem E31_182 {call : jv_F} {l0 l1 l2 l3 l4 l5 : Option Value}  {st : List Value} {h : jv_H} : jv_ev call 31 182 [l0, l1, l2, l3, l4, l5] st h = jv_ev call 31 183 [l0, l1, l2, l3, l4, l5] (.int (nI 0) :: st) h := je_iconst D31_182 rfl (by decide)
theorem D31_183 : decode (jt_code 31) 183 = .ok (.ireturn, 1) := by decide +kernel
theorem E31_183 {call : jv_F} {l0 l1 l2 l3 l4 l5 : Option Value} {v : Int32} {h : jv_H} (hn : narrow .boolean (.int v) = .int v) (hf : fits .boolean (.int v) = true) : jv_ev call 31 183 [l0, l1, l2, l3, l4, l5] [.int v] h = some (some (.int v), h) := je_iret (ty := .boolean) D31_183 rfl hn hf
/-! method 47: DrumMachineModel.round -/
theorem N47 {d : Nat} {b : Nat} {h : jv_H} : jv_run (d + 1) 47 [.ref b] h = jv_ev (jv_run d) 47 0 [some (.ref b), none] [] h := jv_run_eq (Nat.le_of_ble_eq_true rfl) rfl
theorem D47_0 : decode (jt_code 47) 0 = .ok (.aload_n 0, 1) := by decide +kernel
theorem E47_0 {call : jv_F} {l1 : Option Value} {a : Nat} {st : List Value} {h : jv_H} : jv_ev call 47 0 [some (.ref a), l1] st h = jv_ev call 47 1 [some (.ref a), l1] (.ref a :: st) h := je_aload_n (r := some a) D47_0 rfl rfl
theorem D47_1 : decode (jt_code 47) 1 = .ok (.dup, 1) := by decide +kernel
theorem E47_1 {call : jv_F} {l0 l1 : Option Value} {a : Nat} {st : List Value} {h : jv_H} : jv_ev call 47 1 [l0, l1] (.ref a :: st) h = jv_ev call 47 2 [l0, l1] (.ref a :: .ref a :: st) h := je_dup D47_1 rfl rfl
theorem E47_1i {call : jv_F} {l0 l1 : Option Value} {x : Int32} {st : List Value} {h : jv_H} : jv_ev call 47 1 [l0, l1] (.int x :: st) h = jv_ev call 47 2 [l0, l1] (.int x :: .int x :: st) h := je_dup D47_1 rfl rfl
theorem D47_2 : decode (jt_code 47) 2 = .ok (.getfield 188, 3) := by decide +kernel
theorem E47_2 {call : jv_F} {l0 l1 : Option Value}  {st : List Value} {m : Nat} {I : Nat → Int32} {A : Nat → Nat → Int32} {L : Nat → Nat → Int64} {rest : Nat → Option jv_C} {z : Nat × Nat} : jv_ev call 47 2 [l0, l1] (.ref m :: st) (jm_H m I A L rest z) = jv_ev call 47 5 [l0, l1] (.int (I 42) :: st) (jm_H m I A L rest z) := je_get D47_2 rfl (by decide) jm_g42
theorem D47_5 : decode (jt_code 47) 5 = .ok (.iconst 1, 1) := by decide +kernel
theorem E47_5 {call : jv_F} {l0 l1 : Option Value}  {st : List Value} {h : jv_H} : jv_ev call 47 5 [l0, l1] st h = jv_ev call 47 6 [l0, l1] (.int (nI 1) :: st) h := je_iconst D47_5 rfl (by decide)
theorem D47_6 : decode (jt_code 47) 6 = .ok (.iadd, 1) := by decide +kernel
theorem E47_6 {call : jv_F} {l0 l1 : Option Value} {x y : Int32} {st : List Value} {h : jv_H} : jv_ev call 47 6 [l0, l1] (.int y :: .int x :: st) h = jv_ev call 47 7 [l0, l1] (.int (x + y) :: st) h := je_b2 (f := fun x y => x + y) D47_6 rfl (fun _ => rfl)
theorem D47_7 : decode (jt_code 47) 7 = .ok (.putfield 188, 3) := by decide +kernel
theorem E47_7 {call : jv_F} {l0 l1 : Option Value} {v : Int32} {st : List Value} {m : Nat} {I : Nat → Int32} {A : Nat → Nat → Int32} {L : Nat → Nat → Int64} {rest : Nat → Option jv_C} {z : Nat × Nat} : jv_ev call 47 7 [l0, l1] (.int v :: .ref m :: st) (jm_H m I A L rest z) = jv_ev call 47 10 [l0, l1] st (jm_H m (upd I 42 v) A L rest z) := je_put D47_7 rfl (by decide) (by decide) jm_p42
theorem D47_10 : decode (jt_code 47) 10 = .ok (.iconst 0, 1) := by decide +kernel
theorem E47_10 {call : jv_F} {l0 l1 : Option Value}  {st : List Value} {h : jv_H} : jv_ev call 47 10 [l0, l1] st h = jv_ev call 47 11 [l0, l1] (.int (nI 0) :: st) h := je_iconst D47_10 rfl (by decide)
theorem D47_11 : decode (jt_code 47) 11 = .ok (.istore_n 1, 1) := by decide +kernel
theorem E47_11 {call : jv_F} {l0 l1 : Option Value} {x : Int32} {st : List Value} {h : jv_H} (hk : ¬ jv_is2 (some l0) = true) : jv_ev call 47 11 [l0, l1] (.int x :: st) h = jv_ev call 47 12 [l0, some (.int x)] st h := je_istore_n D47_11 rfl (Nat.le_of_ble_eq_true rfl) (by show jv_st1 _ 1 _ = _; simp only [jv_st1, jv_kill, List.getElem?_cons_succ, List.getElem?_cons_zero, hk, if_false]; rfl)
theorem D47_12 : decode (jt_code 47) 12 = .ok (.iload_n 1, 1) := by decide +kernel
theorem E47_12 {call : jv_F} {l0 : Option Value} {x : Int32} {st : List Value} {h : jv_H} : jv_ev call 47 12 [l0, some (.int x)] st h = jv_ev call 47 13 [l0, some (.int x)] (.int x :: st) h := je_iload_n D47_12 rfl rfl
theorem D47_13 : decode (jt_code 47) 13 = .ok (.aload_n 0, 1) := by decide +kernel
theorem E47_13 {call : jv_F} {l1 : Option Value} {a : Nat} {st : List Value} {h : jv_H} : jv_ev call 47 13 [some (.ref a), l1] st h = jv_ev call 47 14 [some (.ref a), l1] (.ref a :: st) h := je_aload_n (r := some a) D47_13 rfl rfl
theorem D47_14 : decode (jt_code 47) 14 = .ok (.getfield 7, 3) := by decide +kernel
theorem E47_14 {call : jv_F} {l0 l1 : Option Value}  {st : List Value} {m : Nat} {I : Nat → Int32} {A : Nat → Nat → Int32} {L : Nat → Nat → Int64} {rest : Nat → Option jv_C} {z : Nat × Nat} : jv_ev call 47 14 [l0, l1] (.ref m :: st) (jm_H m I A L rest z) = jv_ev call 47 17 [l0, l1] (.int (I 0) :: st) (jm_H m I A L rest z) := je_get D47_14 rfl (by decide) jm_g0
theorem D47_17 : decode (jt_code 47) 17 = .ok (.if_icmp .ge 96, 3) := by decide +kernel
theorem E47_17 {call : jv_F} {l0 l1 : Option Value} {x y : Int32} {st : List Value} {h : jv_H} : jv_ev call 47 17 [l0, l1] (.int y :: .int x :: st) h = if y ≤ x then jv_ev call 47 113 [l0, l1] st h else jv_ev call 47 20 [l0, l1] st h := je_icmp D47_17 (by decide) rfl rfl
theorem D47_20 : decode (jt_code 47) 20 = .ok (.aload_n 0, 1) := by decide +kernel
theorem E47_20 {call : jv_F} {l1 : Option Value} {a : Nat} {st : List Value} {h : jv_H} : jv_ev call 47 20 [some (.ref a), l1] st h = jv_ev call 47 21 [some (.ref a), l1] (.ref a :: st) h := je_aload_n (r := some a) D47_20 rfl rfl
theorem D47_21 : decode (jt_code 47) 21 = .ok (.getfield 70, 3) := by decide +kernel
theorem E47_21 {call : jv_F} {l0 l1 : Option Value}  {st : List Value} {m : Nat} {I : Nat → Int32} {A : Nat → Nat → Int32} {L : Nat → Nat → Int64} {rest : Nat → Option jv_C} {z : Nat × Nat} : jv_ev call 47 21 [l0, l1] (.ref m :: st) (jm_H m I A L rest z) = jv_ev call 47 24 [l0, l1] (.ref (m + 19) :: st) (jm_H m I A L rest z) := je_get D47_21 rfl (by decide) jm_g23
theorem D47_24 : decode (jt_code 47) 24 = .ok (.iload_n 1, 1) := by decide +kernel
theorem E47_24 {call : jv_F} {l0 : Option Value} {x : Int32} {st : List Value} {h : jv_H} : jv_ev call 47 24 [l0, some (.int x)] st h = jv_ev call 47 25 [l0, some (.int x)] (.int x :: st) h := je_iload_n D47_24 rfl rfl
theorem D47_25 : decode (jt_code 47) 25 = .ok (.iaload, 1) := by decide +kernel
theorem E47_25 {call : jv_F} {l0 l1 : Option Value} {i : Nat} {st : List Value} {m : Nat} {I : Nat → Int32} {A : Nat → Nat → Int32} {L : Nat → Nat → Int64} {rest : Nat → Option jv_C} {z : Nat × Nat} (hi : i < 17) : jv_ev call 47 25 [l0, l1] (.int (nI i) :: .ref (m + 19) :: st) (jm_H m I A L rest z) = jv_ev call 47 26 [l0, l1] (.int (A 23 i) :: st) (jm_H m I A L rest z) := je_iald D47_25 rfl (jm_l23 hi)
theorem D47_26 : decode (jt_code 47) 26 = .ok (.ifCond .lt 81, 3) := by decide +kernel
theorem E47_26 {call : jv_F} {l0 l1 : Option Value} {x : Int32} {st : List Value} {h : jv_H} : jv_ev call 47 26 [l0, l1] (.int x :: st) h = if x < 0 then jv_ev call 47 107 [l0, l1] st h else jv_ev call 47 29 [l0, l1] st h := je_ifc D47_26 (by decide) rfl rfl
theorem D47_29 : decode (jt_code 47) 29 = .ok (.aload_n 0, 1) := by decide +kernel
theorem E47_29 {call : jv_F} {l1 : Option Value} {a : Nat} {st : List Value} {h : jv_H} : jv_ev call 47 29 [some (.ref a), l1] st h = jv_ev call 47 30 [some (.ref a), l1] (.ref a :: st) h := je_aload_n (r := some a) D47_29 rfl rfl
theorem D47_30 : decode (jt_code 47) 30 = .ok (.getfield 79, 3) := by decide +kernel
theorem E47_30 {call : jv_F} {l0 l1 : Option Value}  {st : List Value} {m : Nat} {I : Nat → Int32} {A : Nat → Nat → Int32} {L : Nat → Nat → Int64} {rest : Nat → Option jv_C} {z : Nat × Nat} : jv_ev call 47 30 [l0, l1] (.ref m :: st) (jm_H m I A L rest z) = jv_ev call 47 33 [l0, l1] (.ref (m + 22) :: st) (jm_H m I A L rest z) := je_get D47_30 rfl (by decide) jm_g26
theorem D47_33 : decode (jt_code 47) 33 = .ok (.iload_n 1, 1) := by decide +kernel
theorem E47_33 {call : jv_F} {l0 : Option Value} {x : Int32} {st : List Value} {h : jv_H} : jv_ev call 47 33 [l0, some (.int x)] st h = jv_ev call 47 34 [l0, some (.int x)] (.int x :: st) h := je_iload_n D47_33 rfl rfl
theorem D47_34 : decode (jt_code 47) 34 = .ok (.baload, 1) := by decide +kernel
theorem E47_34 {call : jv_F} {l0 l1 : Option Value} {i : Nat} {st : List Value} {m : Nat} {I : Nat → Int32} {A : Nat → Nat → Int32} {L : Nat → Nat → Int64} {rest : Nat → Option jv_C} {z : Nat × Nat} (hi : i < 17) : jv_ev call 47 34 [l0, l1] (.int (nI i) :: .ref (m + 22) :: st) (jm_H m I A L rest z) = jv_ev call 47 35 [l0, l1] (.int (A 26 i) :: st) (jm_H m I A L rest z) := je_bald D47_34 rfl (jm_l26 hi)
theorem D47_35 : decode (jt_code 47) 35 = .ok (.ifCond .eq 6, 3) := by decide +kernel
theorem E47_35 {call : jv_F} {l0 l1 : Option Value} {x : Int32} {st : List Value} {h : jv_H} : jv_ev call 47 35 [l0, l1] (.int x :: st) h = if x = 0 then jv_ev call 47 41 [l0, l1] st h else jv_ev call 47 38 [l0, l1] st h := je_ifc D47_35 (by decide) rfl rfl
theorem D47_38 : decode (jt_code 47) 38 = .ok (.goto 69, 3) := by decide +kernel
theorem E47_38 {call : jv_F} {l0 l1 : Option Value}  {st : List Value} {h : jv_H} : jv_ev call 47 38 [l0, l1] st h = jv_ev call 47 107 [l0, l1] st h := je_goto D47_38 (by decide)
theorem D47_41 : decode (jt_code 47) 41 = .ok (.aload_n 0, 1) := by decide +kernel
theorem E47_41 {call : jv_F} {l1 : Option Value} {a : Nat} {st : List Value} {h : jv_H} : jv_ev call 47 41 [some (.ref a), l1] st h = jv_ev call 47 42 [some (.ref a), l1] (.ref a :: st) h := je_aload_n (r := some a) D47_41 rfl rfl
theorem D47_42 : decode (jt_code 47) 42 = .ok (.getfield 82, 3) := by decide +kernel
theorem E47_42 {call : jv_F} {l0 l1 : Option Value}  {st : List Value} {m : Nat} {I : Nat → Int32} {A : Nat → Nat → Int32} {L : Nat → Nat → Int64} {rest : Nat → Option jv_C} {z : Nat × Nat} : jv_ev call 47 42 [l0, l1] (.ref m :: st) (jm_H m I A L rest z) = jv_ev call 47 45 [l0, l1] (.ref (m + 23) :: st) (jm_H m I A L rest z) := je_get D47_42 rfl (by decide) jm_g27
theorem D47_45 : decode (jt_code 47) 45 = .ok (.iload_n 1, 1) := by decide +kernel
theorem E47_45 {call : jv_F} {l0 : Option Value} {x : Int32} {st : List Value} {h : jv_H} : jv_ev call 47 45 [l0, some (.int x)] st h = jv_ev call 47 46 [l0, some (.int x)] (.int x :: st) h := je_iload_n D47_45 rfl rfl
theorem D47_46 : decode (jt_code 47) 46 = .ok (.baload, 1) := by decide +kernel
theorem E47_46 {call : jv_F} {l0 l1 : Option Value} {i : Nat} {st : List Value} {m : Nat} {I : Nat → Int32} {A : Nat → Nat → Int32} {L : Nat → Nat → Int64} {rest : Nat → Option jv_C} {z : Nat × Nat} (hi : i < 17) : jv_ev call 47 46 [l0, l1] (.int (nI i) :: .ref (m + 23) :: st) (jm_H m I A L rest z) = jv_ev call 47 47 [l0, l1] (.int (A 27 i) :: st) (jm_H m I A L rest z) := je_bald D47_46 rfl (jm_l27 hi)
theorem D47_47 : decode (jt_code 47) 47 = .ok (.ifCond .eq 43, 3) := by decide +kernel
theorem E47_47 {call : jv_F} {l0 l1 : Option Value} {x : Int32} {st : List Value} {h : jv_H} : jv_ev call 47 47 [l0, l1] (.int x :: st) h = if x = 0 then jv_ev call 47 90 [l0, l1] st h else jv_ev call 47 50 [l0, l1] st h := je_ifc D47_47 (by decide) rfl rfl
theorem D47_50 : decode (jt_code 47) 50 = .ok (.aload_n 0, 1) := by decide +kernel
theorem E47_50 {call : jv_F} {l1 : Option Value} {a : Nat} {st : List Value} {h : jv_H} : jv_ev call 47 50 [some (.ref a), l1] st h = jv_ev call 47 51 [some (.ref a), l1] (.ref a :: st) h := je_aload_n (r := some a) D47_50 rfl rfl
theorem D47_51 : decode (jt_code 47) 51 = .ok (.getfield 76, 3) := by decide +kernel
theorem E47_51 {call : jv_F} {l0 l1 : Option Value}  {st : List Value} {m : Nat} {I : Nat → Int32} {A : Nat → Nat → Int32} {L : Nat → Nat → Int64} {rest : Nat → Option jv_C} {z : Nat × Nat} : jv_ev call 47 51 [l0, l1] (.ref m :: st) (jm_H m I A L rest z) = jv_ev call 47 54 [l0, l1] (.ref (m + 21) :: st) (jm_H m I A L rest z) := je_get D47_51 rfl (by decide) jm_g25
theorem D47_54 : decode (jt_code 47) 54 = .ok (.iload_n 1, 1) := by decide +kernel
theorem E47_54 {call : jv_F} {l0 : Option Value} {x : Int32} {st : List Value} {h : jv_H} : jv_ev call 47 54 [l0, some (.int x)] st h = jv_ev call 47 55 [l0, some (.int x)] (.int x :: st) h := je_iload_n D47_54 rfl rfl
theorem D47_55 : decode (jt_code 47) 55 = .ok (.aload_n 0, 1) := by decide +kernel
theorem E47_55 {call : jv_F} {l1 : Option Value} {a : Nat} {st : List Value} {h : jv_H} : jv_ev call 47 55 [some (.ref a), l1] st h = jv_ev call 47 56 [some (.ref a), l1] (.ref a :: st) h := je_aload_n (r := some a) D47_55 rfl rfl
theorem D47_56 : decode (jt_code 47) 56 = .ok (.getfield 73, 3) := by decide +kernel
theorem E47_56 {call : jv_F} {l0 l1 : Option Value}  {st : List Value} {m : Nat} {I : Nat → Int32} {A : Nat → Nat → Int32} {L : Nat → Nat → Int64} {rest : Nat → Option jv_C} {z : Nat × Nat} : jv_ev call 47 56 [l0, l1] (.ref m :: st) (jm_H m I A L rest z) = jv_ev call 47 59 [l0, l1] (.ref (m + 20) :: st) (jm_H m I A L rest z) := je_get D47_56 rfl (by decide) jm_g24
theorem D47_59 : decode (jt_code 47) 59 = .ok (.iload_n 1, 1) := by decide +kernel
theorem E47_59 {call : jv_F} {l0 : Option Value} {x : Int32} {st : List Value} {h : jv_H} : jv_ev call 47 59 [l0, some (.int x)] st h = jv_ev call 47 60 [l0, some (.int x)] (.int x :: st) h := je_iload_n D47_59 rfl rfl
theorem D47_60 : decode (jt_code 47) 60 = .ok (.iaload, 1) := by decide +kernel
theorem E47_60 {call : jv_F} {l0 l1 : Option Value} {i : Nat} {st : List Value} {m : Nat} {I : Nat → Int32} {A : Nat → Nat → Int32} {L : Nat → Nat → Int64} {rest : Nat → Option jv_C} {z : Nat × Nat} (hi : i < 17) : jv_ev call 47 60 [l0, l1] (.int (nI i) :: .ref (m + 20) :: st) (jm_H m I A L rest z) = jv_ev call 47 61 [l0, l1] (.int (A 24 i) :: st) (jm_H m I A L rest z) := je_iald D47_60 rfl (jm_l24 hi)
theorem D47_61 : decode (jt_code 47) 61 = .ok (.ifCond .le 12, 3) := by decide +kernel
theorem E47_61 {call : jv_F} {l0 l1 : Option Value} {x : Int32} {st : List Value} {h : jv_H} : jv_ev call 47 61 [l0, l1] (.int x :: st) h = if x ≤ 0 then jv_ev call 47 73 [l0, l1] st h else jv_ev call 47 64 [l0, l1] st h := je_ifc D47_61 (by decide) rfl rfl
theorem D47_64 : decode (jt_code 47) 64 = .ok (.aload_n 0, 1) := by decide +kernel
theorem E47_64 {call : jv_F} {l1 : Option Value} {a : Nat} {st : List Value} {h : jv_H} : jv_ev call 47 64 [some (.ref a), l1] st h = jv_ev call 47 65 [some (.ref a), l1] (.ref a :: st) h := je_aload_n (r := some a) D47_64 rfl rfl
theorem D47_65 : decode (jt_code 47) 65 = .ok (.getfield 73, 3) := by decide +kernel
theorem E47_65 {call : jv_F} {l0 l1 : Option Value}  {st : List Value} {m : Nat} {I : Nat → Int32} {A : Nat → Nat → Int32} {L : Nat → Nat → Int64} {rest : Nat → Option jv_C} {z : Nat × Nat} : jv_ev call 47 65 [l0, l1] (.ref m :: st) (jm_H m I A L rest z) = jv_ev call 47 68 [l0, l1] (.ref (m + 20) :: st) (jm_H m I A L rest z) := je_get D47_65 rfl (by decide) jm_g24
theorem D47_68 : decode (jt_code 47) 68 = .ok (.iload_n 1, 1) := by decide +kernel
theorem E47_68 {call : jv_F} {l0 : Option Value} {x : Int32} {st : List Value} {h : jv_H} : jv_ev call 47 68 [l0, some (.int x)] st h = jv_ev call 47 69 [l0, some (.int x)] (.int x :: st) h := je_iload_n D47_68 rfl rfl
theorem D47_69 : decode (jt_code 47) 69 = .ok (.iaload, 1) := by decide +kernel
theorem E47_69 {call : jv_F} {l0 l1 : Option Value} {i : Nat} {st : List Value} {m : Nat} {I : Nat → Int32} {A : Nat → Nat → Int32} {L : Nat → Nat → Int64} {rest : Nat → Option jv_C} {z : Nat × Nat} (hi : i < 17) : jv_ev call 47 69 [l0, l1] (.int (nI i) :: .ref (m + 20) :: st) (jm_H m I A L rest z) = jv_ev call 47 70 [l0, l1] (.int (A 24 i) :: st) (jm_H m I A L rest z) := je_iald D47_69 rfl (jm_l24 hi)
theorem D47_70 : decode (jt_code 47) 70 = .ok (.goto 9, 3) := by decide +kernel
theorem E47_70 {call : jv_F} {l0 l1 : Option Value}  {st : List Value} {h : jv_H} : jv_ev call 47 70 [l0, l1] st h = jv_ev call 47 79 [l0, l1] st h := je_goto D47_70 (by decide)
theorem D47_73 : decode (jt_code 47) 73 = .ok (.aload_n 0, 1) := by decide +kernel
theorem E47_73 {call : jv_F} {l1 : Option Value} {a : Nat} {st : List Value} {h : jv_H} : jv_ev call 47 73 [some (.ref a), l1] st h = jv_ev call 47 74 [some (.ref a), l1] (.ref a :: st) h := je_aload_n (r := some a) D47_73 rfl rfl
theorem D47_74 : decode (jt_code 47) 74 = .ok (.getfield 76, 3) := by decide +kernel
theorem E47_74 {call : jv_F} {l0 l1 : Option Value}  {st : List Value} {m : Nat} {I : Nat → Int32} {A : Nat → Nat → Int32} {L : Nat → Nat → Int64} {rest : Nat → Option jv_C} {z : Nat × Nat} : jv_ev call 47 74 [l0, l1] (.ref m :: st) (jm_H m I A L rest z) = jv_ev call 47 77 [l0, l1] (.ref (m + 21) :: st) (jm_H m I A L rest z) := je_get D47_74 rfl (by decide) jm_g25
theorem D47_77 : decode (jt_code 47) 77 = .ok (.iload_n 1, 1) := by decide +kernel
theorem E47_77 {call : jv_F} {l0 : Option Value} {x : Int32} {st : List Value} {h : jv_H} : jv_ev call 47 77 [l0, some (.int x)] st h = jv_ev call 47 78 [l0, some (.int x)] (.int x :: st) h := je_iload_n D47_77 rfl rfl
theorem D47_78 : decode (jt_code 47) 78 = .ok (.iaload, 1) := by decide +kernel
theorem E47_78 {call : jv_F} {l0 l1 : Option Value} {i : Nat} {st : List Value} {m : Nat} {I : Nat → Int32} {A : Nat → Nat → Int32} {L : Nat → Nat → Int64} {rest : Nat → Option jv_C} {z : Nat × Nat} (hi : i < 17) : jv_ev call 47 78 [l0, l1] (.int (nI i) :: .ref (m + 21) :: st) (jm_H m I A L rest z) = jv_ev call 47 79 [l0, l1] (.int (A 25 i) :: st) (jm_H m I A L rest z) := je_iald D47_78 rfl (jm_l25 hi)
theorem D47_79 : decode (jt_code 47) 79 = .ok (.iastore, 1) := by decide +kernel
theorem E47_79 {call : jv_F} {l0 l1 : Option Value} {i : Nat} {v : Int32} {st : List Value} {m : Nat} {I : Nat → Int32} {A : Nat → Nat → Int32} {L : Nat → Nat → Int64} {rest : Nat → Option jv_C} {z : Nat × Nat} (hi : i < 17) : jv_ev call 47 79 [l0, l1] (.int v :: .int (nI i) :: .ref (m + 21) :: st) (jm_H m I A L rest z) = jv_ev call 47 80 [l0, l1] st (jm_H m I (va_up A 25 (upd (A 25) i v)) L rest z) := je_iast D47_79 rfl (jm_s25 hi)
theorem D47_80 : decode (jt_code 47) 80 = .ok (.aload_n 0, 1) := by decide +kernel
theorem E47_80 {call : jv_F} {l1 : Option Value} {a : Nat} {st : List Value} {h : jv_H} : jv_ev call 47 80 [some (.ref a), l1] st h = jv_ev call 47 81 [some (.ref a), l1] (.ref a :: st) h := je_aload_n (r := some a) D47_80 rfl rfl
theorem D47_81 : decode (jt_code 47) 81 = .ok (.getfield 73, 3) := by decide +kernel
theorem E47_81 {call : jv_F} {l0 l1 : Option Value}  {st : List Value} {m : Nat} {I : Nat → Int32} {A : Nat → Nat → Int32} {L : Nat → Nat → Int64} {rest : Nat → Option jv_C} {z : Nat × Nat} : jv_ev call 47 81 [l0, l1] (.ref m :: st) (jm_H m I A L rest z) = jv_ev call 47 84 [l0, l1] (.ref (m + 20) :: st) (jm_H m I A L rest z) := je_get D47_81 rfl (by decide) jm_g24
theorem D47_84 : decode (jt_code 47) 84 = .ok (.iload_n 1, 1) := by decide +kernel
theorem E47_84 {call : jv_F} {l0 : Option Value} {x : Int32} {st : List Value} {h : jv_H} : jv_ev call 47 84 [l0, some (.int x)] st h = jv_ev call 47 85 [l0, some (.int x)] (.int x :: st) h := je_iload_n D47_84 rfl rfl
theorem D47_85 : decode (jt_code 47) 85 = .ok (.iconst 0, 1) := by decide +kernel
theorem E47_85 {call : jv_F} {l0 l1 : Option Value}  {st : List Value} {h : jv_H} : jv_ev call 47 85 [l0, l1] st h = jv_ev call 47 86 [l0, l1] (.int (nI 0) :: st) h := je_iconst D47_85 rfl (by decide)
theorem D47_86 : decode (jt_code 47) 86 = .ok (.iastore, 1) := by decide +kernel
theorem E47_86 {call : jv_F} {l0 l1 : Option Value} {i : Nat} {v : Int32} {st : List Value} {m : Nat} {I : Nat → Int32} {A : Nat → Nat → Int32} {L : Nat → Nat → Int64} {rest : Nat → Option jv_C} {z : Nat × Nat} (hi : i < 17) : jv_ev call 47 86 [l0, l1] (.int v :: .int (nI i) :: .ref (m + 20) :: st) (jm_H m I A L rest z) = jv_ev call 47 87 [l0, l1] st (jm_H m I (va_up A 24 (upd (A 24) i v)) L rest z) := je_iast D47_86 rfl (jm_s24 hi)
theorem D47_87 : decode (jt_code 47) 87 = .ok (.goto 13, 3) := by decide +kernel
theorem E47_87 {call : jv_F} {l0 l1 : Option Value}  {st : List Value} {h : jv_H} : jv_ev call 47 87 [l0, l1] st h = jv_ev call 47 100 [l0, l1] st h := je_goto D47_87 (by decide)
theorem D47_90 : decode (jt_code 47) 90 = .ok (.aload_n 0, 1) := by decide +kernel
theorem E47_90 {call : jv_F} {l1 : Option Value} {a : Nat} {st : List Value} {h : jv_H} : jv_ev call 47 90 [some (.ref a), l1] st h = jv_ev call 47 91 [some (.ref a), l1] (.ref a :: st) h := je_aload_n (r := some a) D47_90 rfl rfl
theorem D47_91 : decode (jt_code 47) 91 = .ok (.getfield 73, 3) := by decide +kernel
theorem E47_91 {call : jv_F} {l0 l1 : Option Value}  {st : List Value} {m : Nat} {I : Nat → Int32} {A : Nat → Nat → Int32} {L : Nat → Nat → Int64} {rest : Nat → Option jv_C} {z : Nat × Nat} : jv_ev call 47 91 [l0, l1] (.ref m :: st) (jm_H m I A L rest z) = jv_ev call 47 94 [l0, l1] (.ref (m + 20) :: st) (jm_H m I A L rest z) := je_get D47_91 rfl (by decide) jm_g24
theorem D47_94 : decode (jt_code 47) 94 = .ok (.iload_n 1, 1) := by decide +kernel
theorem E47_94 {call : jv_F} {l0 : Option Value} {x : Int32} {st : List Value} {h : jv_H} : jv_ev call 47 94 [l0, some (.int x)] st h = jv_ev call 47 95 [l0, some (.int x)] (.int x :: st) h := je_iload_n D47_94 rfl rfl
theorem D47_95 : decode (jt_code 47) 95 = .ok (.dup2, 1) := by decide +kernel
theorem E47_95 {call : jv_F} {l0 l1 : Option Value} {x : Int32} {a : Nat} {st : List Value} {h : jv_H} : jv_ev call 47 95 [l0, l1] (.int x :: .ref a :: st) h = jv_ev call 47 96 [l0, l1] (.int x :: .ref a :: .int x :: .ref a :: st) h := je_dup2 D47_95 rfl rfl rfl
theorem D47_96 : decode (jt_code 47) 96 = .ok (.iaload, 1) := by decide +kernel
theorem E47_96 {call : jv_F} {l0 l1 : Option Value} {i : Nat} {st : List Value} {m : Nat} {I : Nat → Int32} {A : Nat → Nat → Int32} {L : Nat → Nat → Int64} {rest : Nat → Option jv_C} {z : Nat × Nat} (hi : i < 17) : jv_ev call 47 96 [l0, l1] (.int (nI i) :: .ref (m + 20) :: st) (jm_H m I A L rest z) = jv_ev call 47 97 [l0, l1] (.int (A 24 i) :: st) (jm_H m I A L rest z) := je_iald D47_96 rfl (jm_l24 hi)
theorem D47_97 : decode (jt_code 47) 97 = .ok (.iconst 1, 1) := by decide +kernel
theorem E47_97 {call : jv_F} {l0 l1 : Option Value}  {st : List Value} {h : jv_H} : jv_ev call 47 97 [l0, l1] st h = jv_ev call 47 98 [l0, l1] (.int (nI 1) :: st) h := je_iconst D47_97 rfl (by decide)
theorem D47_98 : decode (jt_code 47) 98 = .ok (.iadd, 1) := by decide +kernel
theorem E47_98 {call : jv_F} {l0 l1 : Option Value} {x y : Int32} {st : List Value} {h : jv_H} : jv_ev call 47 98 [l0, l1] (.int y :: .int x :: st) h = jv_ev call 47 99 [l0, l1] (.int (x + y) :: st) h := je_b2 (f := fun x y => x + y) D47_98 rfl (fun _ => rfl)
theorem D47_99 : decode (jt_code 47) 99 = .ok (.iastore, 1) := by decide +kernel
theorem E47_99 {call : jv_F} {l0 l1 : Option Value} {i : Nat} {v : Int32} {st : List Value} {m : Nat} {I : Nat → Int32} {A : Nat → Nat → Int32} {L : Nat → Nat → Int64} {rest : Nat → Option jv_C} {z : Nat × Nat} (hi : i < 17) : jv_ev call 47 99 [l0, l1] (.int v :: .int (nI i) :: .ref (m + 20) :: st) (jm_H m I A L rest z) = jv_ev call 47 100 [l0, l1] st (jm_H m I (va_up A 24 (upd (A 24) i v)) L rest z) := je_iast D47_99 rfl (jm_s24 hi)
theorem D47_100 : decode (jt_code 47) 100 = .ok (.aload_n 0, 1) := by decide +kernel
theorem E47_100 {call : jv_F} {l1 : Option Value} {a : Nat} {st : List Value} {h : jv_H} : jv_ev call 47 100 [some (.ref a), l1] st h = jv_ev call 47 101 [some (.ref a), l1] (.ref a :: st) h := je_aload_n (r := some a) D47_100 rfl rfl
theorem D47_101 : decode (jt_code 47) 101 = .ok (.getfield 82, 3) := by decide +kernel
theorem E47_101 {call : jv_F} {l0 l1 : Option Value}  {st : List Value} {m : Nat} {I : Nat → Int32} {A : Nat → Nat → Int32} {L : Nat → Nat → Int64} {rest : Nat → Option jv_C} {z : Nat × Nat} : jv_ev call 47 101 [l0, l1] (.ref m :: st) (jm_H m I A L rest z) = jv_ev call 47 104 [l0, l1] (.ref (m + 23) :: st) (jm_H m I A L rest z) := je_get D47_101 rfl (by decide) jm_g27
theorem D47_104 : decode (jt_code 47) 104 = .ok (.iload_n 1, 1) := by decide +kernel
theorem E47_104 {call : jv_F} {l0 : Option Value} {x : Int32} {st : List Value} {h : jv_H} : jv_ev call 47 104 [l0, some (.int x)] st h = jv_ev call 47 105 [l0, some (.int x)] (.int x :: st) h := je_iload_n D47_104 rfl rfl
theorem D47_105 : decode (jt_code 47) 105 = .ok (.iconst 0, 1) := by decide +kernel
theorem E47_105 {call : jv_F} {l0 l1 : Option Value}  {st : List Value} {h : jv_H} : jv_ev call 47 105 [l0, l1] st h = jv_ev call 47 106 [l0, l1] (.int (nI 0) :: st) h := je_iconst D47_105 rfl (by decide)
theorem D47_106 : decode (jt_code 47) 106 = .ok (.bastore, 1) := by decide +kernel
theorem E47_106 {call : jv_F} {l0 l1 : Option Value} {i : Nat} {v : Int32} {st : List Value} {m : Nat} {I : Nat → Int32} {A : Nat → Nat → Int32} {L : Nat → Nat → Int64} {rest : Nat → Option jv_C} {z : Nat × Nat} (hi : i < 17) (hv : narrow .boolean (.int v) = .int v) : jv_ev call 47 106 [l0, l1] (.int v :: .int (nI i) :: .ref (m + 23) :: st) (jm_H m I A L rest z) = jv_ev call 47 107 [l0, l1] st (jm_H m I (va_up A 27 (upd (A 27) i v)) L rest z) := je_bast D47_106 rfl (by rw [hv]; exact jm_s27 hi)
theorem D47_107 : decode (jt_code 47) 107 = .ok (.iinc 1 1, 3) := by decide +kernel
theorem E47_107 {call : jv_F} {l0 : Option Value} {x : Int32} {st : List Value} {h : jv_H} (hk : ¬ jv_is2 (some l0) = true) : jv_ev call 47 107 [l0, some (.int x)] st h = jv_ev call 47 110 [l0, some (.int (x + (nI 1)))] st h := je_iinc D47_107 rfl rfl (v := x + (nI 1)) (by rfl) (by show jv_st1 _ 1 _ = _; simp only [jv_st1, jv_kill, List.getElem?_cons_succ, List.getElem?_cons_zero, hk, if_false]; rfl)
theorem D47_110 : decode (jt_code 47) 110 = .ok (.goto (-98), 3) := by decide +kernel
theorem E47_110 {call : jv_F} {l0 l1 : Option Value}  {st : List Value} {h : jv_H} : jv_ev call 47 110 [l0, l1] st h = jv_ev call 47 12 [l0, l1] st h := je_goto D47_110 (by decide)
theorem D47_113 : decode (jt_code 47) 113 = .ok (.return_, 1) := by decide +kernel
theorem E47_113 {call : jv_F} {l0 l1 : Option Value}  {h : jv_H} : jv_ev call 47 113 [l0, l1] [] h = some (none, h) := je_ret D47_113 rfl
/-! method 48: DrumMachineModel.isJob -/
theorem N48 {d : Nat} {b : Nat} {a0 : Int32} {h : jv_H} : jv_run (d + 1) 48 [.ref b, .int a0] h = jv_ev (jv_run d) 48 0 [some (.ref b), some (.int a0)] [] h := jv_run_eq (Nat.le_of_ble_eq_true rfl) rfl
theorem D48_0 : decode (jt_code 48) 0 = .ok (.iload_n 1, 1) := by decide +kernel
theorem E48_0 {call : jv_F} {l0 : Option Value} {x : Int32} {st : List Value} {h : jv_H} : jv_ev call 48 0 [l0, some (.int x)] st h = jv_ev call 48 1 [l0, some (.int x)] (.int x :: st) h := je_iload_n D48_0 rfl rfl
theorem D48_1 : decode (jt_code 48) 1 = .ok (.ifCond .lt 15, 3) := by decide +kernel
theorem E48_1 {call : jv_F} {l0 l1 : Option Value} {x : Int32} {st : List Value} {h : jv_H} : jv_ev call 48 1 [l0, l1] (.int x :: st) h = if x < 0 then jv_ev call 48 16 [l0, l1] st h else jv_ev call 48 4 [l0, l1] st h := je_ifc D48_1 (by decide) rfl rfl
theorem D48_4 : decode (jt_code 48) 4 = .ok (.iload_n 1, 1) := by decide +kernel
theorem E48_4 {call : jv_F} {l0 : Option Value} {x : Int32} {st : List Value} {h : jv_H} : jv_ev call 48 4 [l0, some (.int x)] st h = jv_ev call 48 5 [l0, some (.int x)] (.int x :: st) h := je_iload_n D48_4 rfl rfl
theorem D48_5 : decode (jt_code 48) 5 = .ok (.aload_n 0, 1) := by decide +kernel
theorem E48_5 {call : jv_F} {l1 : Option Value} {a : Nat} {st : List Value} {h : jv_H} : jv_ev call 48 5 [some (.ref a), l1] st h = jv_ev call 48 6 [some (.ref a), l1] (.ref a :: st) h := je_aload_n (r := some a) D48_5 rfl rfl
theorem D48_6 : decode (jt_code 48) 6 = .ok (.getfield 97, 3) := by decide +kernel
theorem E48_6 {call : jv_F} {l0 l1 : Option Value}  {st : List Value} {m : Nat} {I : Nat → Int32} {A : Nat → Nat → Int32} {L : Nat → Nat → Int64} {rest : Nat → Option jv_C} {z : Nat × Nat} : jv_ev call 48 6 [l0, l1] (.ref m :: st) (jm_H m I A L rest z) = jv_ev call 48 9 [l0, l1] (.int (I 5) :: st) (jm_H m I A L rest z) := je_get D48_6 rfl (by decide) jm_g5
theorem D48_9 : decode (jt_code 48) 9 = .ok (.if_icmp .ge 7, 3) := by decide +kernel
theorem E48_9 {call : jv_F} {l0 l1 : Option Value} {x y : Int32} {st : List Value} {h : jv_H} : jv_ev call 48 9 [l0, l1] (.int y :: .int x :: st) h = if y ≤ x then jv_ev call 48 16 [l0, l1] st h else jv_ev call 48 12 [l0, l1] st h := je_icmp D48_9 (by decide) rfl rfl
theorem D48_12 : decode (jt_code 48) 12 = .ok (.iconst 1, 1) := by decide +kernel
theorem E48_12 {call : jv_F} {l0 l1 : Option Value}  {st : List Value} {h : jv_H} : jv_ev call 48 12 [l0, l1] st h = jv_ev call 48 13 [l0, l1] (.int (nI 1) :: st) h := je_iconst D48_12 rfl (by decide)
theorem D48_13 : decode (jt_code 48) 13 = .ok (.goto 4, 3) := by decide +kernel
theorem E48_13 {call : jv_F} {l0 l1 : Option Value}  {st : List Value} {h : jv_H} : jv_ev call 48 13 [l0, l1] st h = jv_ev call 48 17 [l0, l1] st h := je_goto D48_13 (by decide)
theorem D48_16 : decode (jt_code 48) 16 = .ok (.iconst 0, 1) := by decide +kernel
theorem E48_16 {call : jv_F} {l0 l1 : Option Value}  {st : List Value} {h : jv_H} : jv_ev call 48 16 [l0, l1] st h = jv_ev call 48 17 [l0, l1] (.int (nI 0) :: st) h := je_iconst D48_16 rfl (by decide)
theorem D48_17 : decode (jt_code 48) 17 = .ok (.ireturn, 1) := by decide +kernel
theorem E48_17 {call : jv_F} {l0 l1 : Option Value} {v : Int32} {h : jv_H} (hn : narrow .boolean (.int v) = .int v) (hf : fits .boolean (.int v) = true) : jv_ev call 48 17 [l0, l1] [.int v] h = some (some (.int v), h) := je_iret (ty := .boolean) D48_17 rfl hn hf
/-! method 49: DrumMachineModel.ended -/
theorem N49 {d : Nat} {b : Nat} {a0 : Int32} {h : jv_H} : jv_run (d + 1) 49 [.ref b, .int a0] h = jv_ev (jv_run d) 49 0 [some (.ref b), some (.int a0)] [] h := jv_run_eq (Nat.le_of_ble_eq_true rfl) rfl
theorem D49_0 : decode (jt_code 49) 0 = .ok (.aload_n 0, 1) := by decide +kernel
theorem E49_0 {call : jv_F} {l1 : Option Value} {a : Nat} {st : List Value} {h : jv_H} : jv_ev call 49 0 [some (.ref a), l1] st h = jv_ev call 49 1 [some (.ref a), l1] (.ref a :: st) h := je_aload_n (r := some a) D49_0 rfl rfl
theorem D49_1 : decode (jt_code 49) 1 = .ok (.iload_n 1, 1) := by decide +kernel
theorem E49_1 {call : jv_F} {l0 : Option Value} {x : Int32} {st : List Value} {h : jv_H} : jv_ev call 49 1 [l0, some (.int x)] st h = jv_ev call 49 2 [l0, some (.int x)] (.int x :: st) h := je_iload_n D49_1 rfl rfl
theorem D49_2 : decode (jt_code 49) 2 = .ok (.invokevirtual 297, 3) := by decide +kernel
theorem E49_2 {call : jv_F} {l0 l1 : Option Value} {v0 : Value}  {st : List Value} {m : Nat} {I : Nat → Int32} {A : Nat → Nat → Int32} {L : Nat → Nat → Int64} {rest : Nat → Option jv_C} {z : Nat × Nat} (hw : jv_wide st = true) (hc : (call 48 [.ref m, v0] (jm_H m I A L rest z)).isSome = true) : jv_ev call 49 2 [l0, l1] (v0 :: .ref m :: st) (jm_H m I A L rest z) = jv_ev call 49 5 [l0, l1] ((((call 48 [.ref m, v0] (jm_H m I A L rest z)).getD (none, (jm_H m I A L rest z))).1).toList ++ st) ((call 48 [.ref m, v0] (jm_H m I A L rest z)).getD (none, (jm_H m I A L rest z))).2 := by
  obtain ⟨⟨r, h'⟩, hv⟩ := Option.isSome_iff_exists.mp hc
  rw [hv]
  exact je_virt (y := 48) (as := [v0]) D49_2 rfl (by decide) (by decide) rfl jm_cl hw hv
theorem D49_5 : decode (jt_code 49) 5 = .ok (.ifCond .eq 12, 3) := by decide +kernel
theorem E49_5 {call : jv_F} {l0 l1 : Option Value} {x : Int32} {st : List Value} {h : jv_H} : jv_ev call 49 5 [l0, l1] (.int x :: st) h = if x = 0 then jv_ev call 49 17 [l0, l1] st h else jv_ev call 49 8 [l0, l1] st h := je_ifc D49_5 (by decide) rfl rfl
theorem D49_8 : decode (jt_code 49) 8 = .ok (.aload_n 0, 1) := by decide +kernel
theorem E49_8 {call : jv_F} {l1 : Option Value} {a : Nat} {st : List Value} {h : jv_H} : jv_ev call 49 8 [some (.ref a), l1] st h = jv_ev call 49 9 [some (.ref a), l1] (.ref a :: st) h := je_aload_n (r := some a) D49_8 rfl rfl
theorem D49_9 : decode (jt_code 49) 9 = .ok (.getfield 27, 3) := by decide +kernel
theorem E49_9 {call : jv_F} {l0 l1 : Option Value}  {st : List Value} {m : Nat} {I : Nat → Int32} {A : Nat → Nat → Int32} {L : Nat → Nat → Int64} {rest : Nat → Option jv_C} {z : Nat × Nat} : jv_ev call 49 9 [l0, l1] (.ref m :: st) (jm_H m I A L rest z) = jv_ev call 49 12 [l0, l1] (.ref (m + 5) :: st) (jm_H m I A L rest z) := je_get D49_9 rfl (by decide) jm_g8
theorem D49_12 : decode (jt_code 49) 12 = .ok (.iload_n 1, 1) := by decide +kernel
theorem E49_12 {call : jv_F} {l0 : Option Value} {x : Int32} {st : List Value} {h : jv_H} : jv_ev call 49 12 [l0, some (.int x)] st h = jv_ev call 49 13 [l0, some (.int x)] (.int x :: st) h := je_iload_n D49_12 rfl rfl
theorem D49_13 : decode (jt_code 49) 13 = .ok (.iaload, 1) := by decide +kernel
theorem E49_13 {call : jv_F} {l0 l1 : Option Value} {i : Nat} {st : List Value} {m : Nat} {I : Nat → Int32} {A : Nat → Nat → Int32} {L : Nat → Nat → Int64} {rest : Nat → Option jv_C} {z : Nat × Nat} (hi : i < 12) : jv_ev call 49 13 [l0, l1] (.int (nI i) :: .ref (m + 5) :: st) (jm_H m I A L rest z) = jv_ev call 49 14 [l0, l1] (.int (A 8 i) :: st) (jm_H m I A L rest z) := je_iald D49_13 rfl (jm_l8 hi)
theorem D49_14 : decode (jt_code 49) 14 = .ok (.goto 4, 3) := by decide +kernel
theorem E49_14 {call : jv_F} {l0 l1 : Option Value}  {st : List Value} {h : jv_H} : jv_ev call 49 14 [l0, l1] st h = jv_ev call 49 18 [l0, l1] st h := je_goto D49_14 (by decide)
theorem D49_17 : decode (jt_code 49) 17 = .ok (.iconst (-1), 1) := by decide +kernel
theorem E49_17 {call : jv_F} {l0 l1 : Option Value}  {st : List Value} {h : jv_H} : jv_ev call 49 17 [l0, l1] st h = jv_ev call 49 18 [l0, l1] (.int (-1) :: st) h := je_iconst D49_17 rfl (by decide)
theorem D49_18 : decode (jt_code 49) 18 = .ok (.ireturn, 1) := by decide +kernel
theorem E49_18 {call : jv_F} {l0 l1 : Option Value} {v : Int32} {h : jv_H} : jv_ev call 49 18 [l0, l1] [.int v] h = some (some (.int v), h) := je_iret (ty := .int) D49_18 rfl rfl rfl
/-! method 50: DrumMachineModel.done -/
theorem N50 {d : Nat} {b : Nat} {a0 : Int32} {h : jv_H} : jv_run (d + 1) 50 [.ref b, .int a0] h = jv_ev (jv_run d) 50 0 [some (.ref b), some (.int a0)] [] h := jv_run_eq (Nat.le_of_ble_eq_true rfl) rfl
theorem D50_0 : decode (jt_code 50) 0 = .ok (.aload_n 0, 1) := by decide +kernel
theorem E50_0 {call : jv_F} {l1 : Option Value} {a : Nat} {st : List Value} {h : jv_H} : jv_ev call 50 0 [some (.ref a), l1] st h = jv_ev call 50 1 [some (.ref a), l1] (.ref a :: st) h := je_aload_n (r := some a) D50_0 rfl rfl
theorem D50_1 : decode (jt_code 50) 1 = .ok (.iload_n 1, 1) := by decide +kernel
theorem E50_1 {call : jv_F} {l0 : Option Value} {x : Int32} {st : List Value} {h : jv_H} : jv_ev call 50 1 [l0, some (.int x)] st h = jv_ev call 50 2 [l0, some (.int x)] (.int x :: st) h := je_iload_n D50_1 rfl rfl
theorem D50_2 : decode (jt_code 50) 2 = .ok (.invokevirtual 297, 3) := by decide +kernel
theorem E50_2 {call : jv_F} {l0 l1 : Option Value} {v0 : Value}  {st : List Value} {m : Nat} {I : Nat → Int32} {A : Nat → Nat → Int32} {L : Nat → Nat → Int64} {rest : Nat → Option jv_C} {z : Nat × Nat} (hw : jv_wide st = true) (hc : (call 48 [.ref m, v0] (jm_H m I A L rest z)).isSome = true) : jv_ev call 50 2 [l0, l1] (v0 :: .ref m :: st) (jm_H m I A L rest z) = jv_ev call 50 5 [l0, l1] ((((call 48 [.ref m, v0] (jm_H m I A L rest z)).getD (none, (jm_H m I A L rest z))).1).toList ++ st) ((call 48 [.ref m, v0] (jm_H m I A L rest z)).getD (none, (jm_H m I A L rest z))).2 := by
  obtain ⟨⟨r, h'⟩, hv⟩ := Option.isSome_iff_exists.mp hc
  rw [hv]
  exact je_virt (y := 48) (as := [v0]) D50_2 rfl (by decide) (by decide) rfl jm_cl hw hv
theorem D50_5 : decode (jt_code 50) 5 = .ok (.ifCond .eq 12, 3) := by decide +kernel
theorem E50_5 {call : jv_F} {l0 l1 : Option Value} {x : Int32} {st : List Value} {h : jv_H} : jv_ev call 50 5 [l0, l1] (.int x :: st) h = if x = 0 then jv_ev call 50 17 [l0, l1] st h else jv_ev call 50 8 [l0, l1] st h := je_ifc D50_5 (by decide) rfl rfl
theorem D50_8 : decode (jt_code 50) 8 = .ok (.aload_n 0, 1) := by decide +kernel
theorem E50_8 {call : jv_F} {l1 : Option Value} {a : Nat} {st : List Value} {h : jv_H} : jv_ev call 50 8 [some (.ref a), l1] st h = jv_ev call 50 9 [some (.ref a), l1] (.ref a :: st) h := je_aload_n (r := some a) D50_8 rfl rfl
theorem D50_9 : decode (jt_code 50) 9 = .ok (.getfield 24, 3) := by decide +kernel
theorem E50_9 {call : jv_F} {l0 l1 : Option Value}  {st : List Value} {m : Nat} {I : Nat → Int32} {A : Nat → Nat → Int32} {L : Nat → Nat → Int64} {rest : Nat → Option jv_C} {z : Nat × Nat} : jv_ev call 50 9 [l0, l1] (.ref m :: st) (jm_H m I A L rest z) = jv_ev call 50 12 [l0, l1] (.ref (m + 4) :: st) (jm_H m I A L rest z) := je_get D50_9 rfl (by decide) jm_g7
theorem D50_12 : decode (jt_code 50) 12 = .ok (.iload_n 1, 1) := by decide +kernel
theorem E50_12 {call : jv_F} {l0 : Option Value} {x : Int32} {st : List Value} {h : jv_H} : jv_ev call 50 12 [l0, some (.int x)] st h = jv_ev call 50 13 [l0, some (.int x)] (.int x :: st) h := je_iload_n D50_12 rfl rfl
theorem D50_13 : decode (jt_code 50) 13 = .ok (.iaload, 1) := by decide +kernel
theorem E50_13 {call : jv_F} {l0 l1 : Option Value} {i : Nat} {st : List Value} {m : Nat} {I : Nat → Int32} {A : Nat → Nat → Int32} {L : Nat → Nat → Int64} {rest : Nat → Option jv_C} {z : Nat × Nat} (hi : i < 12) : jv_ev call 50 13 [l0, l1] (.int (nI i) :: .ref (m + 4) :: st) (jm_H m I A L rest z) = jv_ev call 50 14 [l0, l1] (.int (A 7 i) :: st) (jm_H m I A L rest z) := je_iald D50_13 rfl (jm_l7 hi)
theorem D50_14 : decode (jt_code 50) 14 = .ok (.goto 4, 3) := by decide +kernel
theorem E50_14 {call : jv_F} {l0 l1 : Option Value}  {st : List Value} {h : jv_H} : jv_ev call 50 14 [l0, l1] st h = jv_ev call 50 18 [l0, l1] st h := je_goto D50_14 (by decide)
theorem D50_17 : decode (jt_code 50) 17 = .ok (.iconst (-1), 1) := by decide +kernel
theorem E50_17 {call : jv_F} {l0 l1 : Option Value}  {st : List Value} {h : jv_H} : jv_ev call 50 17 [l0, l1] st h = jv_ev call 50 18 [l0, l1] (.int (-1) :: st) h := je_iconst D50_17 rfl (by decide)
theorem D50_18 : decode (jt_code 50) 18 = .ok (.ireturn, 1) := by decide +kernel
theorem E50_18 {call : jv_F} {l0 l1 : Option Value} {v : Int32} {h : jv_H} : jv_ev call 50 18 [l0, l1] [.int v] h = some (some (.int v), h) := je_iret (ty := .int) D50_18 rfl rfl rfl
/-! method 51: DrumMachineModel.printed -/
theorem N51 {d : Nat} {b : Nat} {a0 : Int32} {h : jv_H} : jv_run (d + 1) 51 [.ref b, .int a0] h = jv_ev (jv_run d) 51 0 [some (.ref b), some (.int a0)] [] h := jv_run_eq (Nat.le_of_ble_eq_true rfl) rfl
theorem D51_0 : decode (jt_code 51) 0 = .ok (.aload_n 0, 1) := by decide +kernel
theorem E51_0 {call : jv_F} {l1 : Option Value} {a : Nat} {st : List Value} {h : jv_H} : jv_ev call 51 0 [some (.ref a), l1] st h = jv_ev call 51 1 [some (.ref a), l1] (.ref a :: st) h := je_aload_n (r := some a) D51_0 rfl rfl
theorem D51_1 : decode (jt_code 51) 1 = .ok (.iload_n 1, 1) := by decide +kernel
theorem E51_1 {call : jv_F} {l0 : Option Value} {x : Int32} {st : List Value} {h : jv_H} : jv_ev call 51 1 [l0, some (.int x)] st h = jv_ev call 51 2 [l0, some (.int x)] (.int x :: st) h := je_iload_n D51_1 rfl rfl
theorem D51_2 : decode (jt_code 51) 2 = .ok (.invokevirtual 297, 3) := by decide +kernel
theorem E51_2 {call : jv_F} {l0 l1 : Option Value} {v0 : Value}  {st : List Value} {m : Nat} {I : Nat → Int32} {A : Nat → Nat → Int32} {L : Nat → Nat → Int64} {rest : Nat → Option jv_C} {z : Nat × Nat} (hw : jv_wide st = true) (hc : (call 48 [.ref m, v0] (jm_H m I A L rest z)).isSome = true) : jv_ev call 51 2 [l0, l1] (v0 :: .ref m :: st) (jm_H m I A L rest z) = jv_ev call 51 5 [l0, l1] ((((call 48 [.ref m, v0] (jm_H m I A L rest z)).getD (none, (jm_H m I A L rest z))).1).toList ++ st) ((call 48 [.ref m, v0] (jm_H m I A L rest z)).getD (none, (jm_H m I A L rest z))).2 := by
  obtain ⟨⟨r, h'⟩, hv⟩ := Option.isSome_iff_exists.mp hc
  rw [hv]
  exact je_virt (y := 48) (as := [v0]) D51_2 rfl (by decide) (by decide) rfl jm_cl hw hv
theorem D51_5 : decode (jt_code 51) 5 = .ok (.ifCond .eq 12, 3) := by decide +kernel
theorem E51_5 {call : jv_F} {l0 l1 : Option Value} {x : Int32} {st : List Value} {h : jv_H} : jv_ev call 51 5 [l0, l1] (.int x :: st) h = if x = 0 then jv_ev call 51 17 [l0, l1] st h else jv_ev call 51 8 [l0, l1] st h := je_ifc D51_5 (by decide) rfl rfl
theorem D51_8 : decode (jt_code 51) 8 = .ok (.aload_n 0, 1) := by decide +kernel
theorem E51_8 {call : jv_F} {l1 : Option Value} {a : Nat} {st : List Value} {h : jv_H} : jv_ev call 51 8 [some (.ref a), l1] st h = jv_ev call 51 9 [some (.ref a), l1] (.ref a :: st) h := je_aload_n (r := some a) D51_8 rfl rfl
theorem D51_9 : decode (jt_code 51) 9 = .ok (.getfield 54, 3) := by decide +kernel
theorem E51_9 {call : jv_F} {l0 l1 : Option Value}  {st : List Value} {m : Nat} {I : Nat → Int32} {A : Nat → Nat → Int32} {L : Nat → Nat → Int64} {rest : Nat → Option jv_C} {z : Nat × Nat} : jv_ev call 51 9 [l0, l1] (.ref m :: st) (jm_H m I A L rest z) = jv_ev call 51 12 [l0, l1] (.ref (m + 14) :: st) (jm_H m I A L rest z) := je_get D51_9 rfl (by decide) jm_g17
theorem D51_12 : decode (jt_code 51) 12 = .ok (.iload_n 1, 1) := by decide +kernel
theorem E51_12 {call : jv_F} {l0 : Option Value} {x : Int32} {st : List Value} {h : jv_H} : jv_ev call 51 12 [l0, some (.int x)] st h = jv_ev call 51 13 [l0, some (.int x)] (.int x :: st) h := je_iload_n D51_12 rfl rfl
theorem D51_13 : decode (jt_code 51) 13 = .ok (.iaload, 1) := by decide +kernel
theorem E51_13 {call : jv_F} {l0 l1 : Option Value} {i : Nat} {st : List Value} {m : Nat} {I : Nat → Int32} {A : Nat → Nat → Int32} {L : Nat → Nat → Int64} {rest : Nat → Option jv_C} {z : Nat × Nat} (hi : i < 12) : jv_ev call 51 13 [l0, l1] (.int (nI i) :: .ref (m + 14) :: st) (jm_H m I A L rest z) = jv_ev call 51 14 [l0, l1] (.int (A 17 i) :: st) (jm_H m I A L rest z) := je_iald D51_13 rfl (jm_l17 hi)
theorem D51_14 : decode (jt_code 51) 14 = .ok (.goto 4, 3) := by decide +kernel
theorem E51_14 {call : jv_F} {l0 l1 : Option Value}  {st : List Value} {h : jv_H} : jv_ev call 51 14 [l0, l1] st h = jv_ev call 51 18 [l0, l1] st h := je_goto D51_14 (by decide)
theorem D51_17 : decode (jt_code 51) 17 = .ok (.iconst (-1), 1) := by decide +kernel
theorem E51_17 {call : jv_F} {l0 l1 : Option Value}  {st : List Value} {h : jv_H} : jv_ev call 51 17 [l0, l1] st h = jv_ev call 51 18 [l0, l1] (.int (-1) :: st) h := je_iconst D51_17 rfl (by decide)
theorem D51_18 : decode (jt_code 51) 18 = .ok (.ireturn, 1) := by decide +kernel
theorem E51_18 {call : jv_F} {l0 l1 : Option Value} {v : Int32} {h : jv_H} : jv_ev call 51 18 [l0, l1] [.int v] h = some (some (.int v), h) := je_iret (ty := .int) D51_18 rfl rfl rfl
/-! method 52: DrumMachineModel.out -/
theorem N52 {d : Nat} {b : Nat} {a0 : Int32} {a1 : Int32} {h : jv_H} : jv_run (d + 1) 52 [.ref b, .int a0, .int a1] h = jv_ev (jv_run d) 52 0 [some (.ref b), some (.int a0), some (.int a1)] [] h := jv_run_eq (Nat.le_of_ble_eq_true rfl) rfl
theorem D52_0 : decode (jt_code 52) 0 = .ok (.aload_n 0, 1) := by decide +kernel
theorem E52_0 {call : jv_F} {l1 l2 : Option Value} {a : Nat} {st : List Value} {h : jv_H} : jv_ev call 52 0 [some (.ref a), l1, l2] st h = jv_ev call 52 1 [some (.ref a), l1, l2] (.ref a :: st) h := je_aload_n (r := some a) D52_0 rfl rfl
theorem D52_1 : decode (jt_code 52) 1 = .ok (.iload_n 1, 1) := by decide +kernel
theorem E52_1 {call : jv_F} {l0 l2 : Option Value} {x : Int32} {st : List Value} {h : jv_H} : jv_ev call 52 1 [l0, some (.int x), l2] st h = jv_ev call 52 2 [l0, some (.int x), l2] (.int x :: st) h := je_iload_n D52_1 rfl rfl
theorem D52_2 : decode (jt_code 52) 2 = .ok (.invokevirtual 297, 3) := by decide +kernel
theorem E52_2 {call : jv_F} {l0 l1 l2 : Option Value} {v0 : Value}  {st : List Value} {m : Nat} {I : Nat → Int32} {A : Nat → Nat → Int32} {L : Nat → Nat → Int64} {rest : Nat → Option jv_C} {z : Nat × Nat} (hw : jv_wide st = true) (hc : (call 48 [.ref m, v0] (jm_H m I A L rest z)).isSome = true) : jv_ev call 52 2 [l0, l1, l2] (v0 :: .ref m :: st) (jm_H m I A L rest z) = jv_ev call 52 5 [l0, l1, l2] ((((call 48 [.ref m, v0] (jm_H m I A L rest z)).getD (none, (jm_H m I A L rest z))).1).toList ++ st) ((call 48 [.ref m, v0] (jm_H m I A L rest z)).getD (none, (jm_H m I A L rest z))).2 := by
  obtain ⟨⟨r, h'⟩, hv⟩ := Option.isSome_iff_exists.mp hc
  rw [hv]
  exact je_virt (y := 48) (as := [v0]) D52_2 rfl (by decide) (by decide) rfl jm_cl hw hv
theorem D52_5 : decode (jt_code 52) 5 = .ok (.ifCond .eq 32, 3) := by decide +kernel
theorem E52_5 {call : jv_F} {l0 l1 l2 : Option Value} {x : Int32} {st : List Value} {h : jv_H} : jv_ev call 52 5 [l0, l1, l2] (.int x :: st) h = if x = 0 then jv_ev call 52 37 [l0, l1, l2] st h else jv_ev call 52 8 [l0, l1, l2] st h := je_ifc D52_5 (by decide) rfl rfl
theorem D52_8 : decode (jt_code 52) 8 = .ok (.iload_n 2, 1) := by decide +kernel
theorem E52_8 {call : jv_F} {l0 l1 : Option Value} {x : Int32} {st : List Value} {h : jv_H} : jv_ev call 52 8 [l0, l1, some (.int x)] st h = jv_ev call 52 9 [l0, l1, some (.int x)] (.int x :: st) h := je_iload_n D52_8 rfl rfl
theorem D52_9 : decode (jt_code 52) 9 = .ok (.ifCond .lt 28, 3) := by decide +kernel
theorem E52_9 {call : jv_F} {l0 l1 l2 : Option Value} {x : Int32} {st : List Value} {h : jv_H} : jv_ev call 52 9 [l0, l1, l2] (.int x :: st) h = if x < 0 then jv_ev call 52 37 [l0, l1, l2] st h else jv_ev call 52 12 [l0, l1, l2] st h := je_ifc D52_9 (by decide) rfl rfl
theorem D52_12 : decode (jt_code 52) 12 = .ok (.iload_n 2, 1) := by decide +kernel
theorem E52_12 {call : jv_F} {l0 l1 : Option Value} {x : Int32} {st : List Value} {h : jv_H} : jv_ev call 52 12 [l0, l1, some (.int x)] st h = jv_ev call 52 13 [l0, l1, some (.int x)] (.int x :: st) h := je_iload_n D52_12 rfl rfl
theorem D52_13 : decode (jt_code 52) 13 = .ok (.aload_n 0, 1) := by decide +kernel
theorem E52_13 {call : jv_F} {l1 l2 : Option Value} {a : Nat} {st : List Value} {h : jv_H} : jv_ev call 52 13 [some (.ref a), l1, l2] st h = jv_ev call 52 14 [some (.ref a), l1, l2] (.ref a :: st) h := je_aload_n (r := some a) D52_13 rfl rfl
theorem D52_14 : decode (jt_code 52) 14 = .ok (.getfield 54, 3) := by decide +kernel
theorem E52_14 {call : jv_F} {l0 l1 l2 : Option Value}  {st : List Value} {m : Nat} {I : Nat → Int32} {A : Nat → Nat → Int32} {L : Nat → Nat → Int64} {rest : Nat → Option jv_C} {z : Nat × Nat} : jv_ev call 52 14 [l0, l1, l2] (.ref m :: st) (jm_H m I A L rest z) = jv_ev call 52 17 [l0, l1, l2] (.ref (m + 14) :: st) (jm_H m I A L rest z) := je_get D52_14 rfl (by decide) jm_g17
theorem D52_17 : decode (jt_code 52) 17 = .ok (.iload_n 1, 1) := by decide +kernel
theorem E52_17 {call : jv_F} {l0 l2 : Option Value} {x : Int32} {st : List Value} {h : jv_H} : jv_ev call 52 17 [l0, some (.int x), l2] st h = jv_ev call 52 18 [l0, some (.int x), l2] (.int x :: st) h := je_iload_n D52_17 rfl rfl
theorem D52_18 : decode (jt_code 52) 18 = .ok (.iaload, 1) := by decide +kernel
theorem E52_18 {call : jv_F} {l0 l1 l2 : Option Value} {i : Nat} {st : List Value} {m : Nat} {I : Nat → Int32} {A : Nat → Nat → Int32} {L : Nat → Nat → Int64} {rest : Nat → Option jv_C} {z : Nat × Nat} (hi : i < 12) : jv_ev call 52 18 [l0, l1, l2] (.int (nI i) :: .ref (m + 14) :: st) (jm_H m I A L rest z) = jv_ev call 52 19 [l0, l1, l2] (.int (A 17 i) :: st) (jm_H m I A L rest z) := je_iald D52_18 rfl (jm_l17 hi)
theorem D52_19 : decode (jt_code 52) 19 = .ok (.if_icmp .ge 18, 3) := by decide +kernel
theorem E52_19 {call : jv_F} {l0 l1 l2 : Option Value} {x y : Int32} {st : List Value} {h : jv_H} : jv_ev call 52 19 [l0, l1, l2] (.int y :: .int x :: st) h = if y ≤ x then jv_ev call 52 37 [l0, l1, l2] st h else jv_ev call 52 22 [l0, l1, l2] st h := je_icmp D52_19 (by decide) rfl rfl
theorem D52_22 : decode (jt_code 52) 22 = .ok (.aload_n 0, 1) := by decide +kernel
theorem E52_22 {call : jv_F} {l1 l2 : Option Value} {a : Nat} {st : List Value} {h : jv_H} : jv_ev call 52 22 [some (.ref a), l1, l2] st h = jv_ev call 52 23 [some (.ref a), l1, l2] (.ref a :: st) h := je_aload_n (r := some a) D52_22 rfl rfl
theorem D52_23 : decode (jt_code 52) 23 = .ok (.getfield 51, 3) := by decide +kernel
theorem E52_23 {call : jv_F} {l0 l1 l2 : Option Value}  {st : List Value} {m : Nat} {I : Nat → Int32} {A : Nat → Nat → Int32} {L : Nat → Nat → Int64} {rest : Nat → Option jv_C} {z : Nat × Nat} : jv_ev call 52 23 [l0, l1, l2] (.ref m :: st) (jm_H m I A L rest z) = jv_ev call 52 26 [l0, l1, l2] (.ref (m + 13) :: st) (jm_H m I A L rest z) := je_get D52_23 rfl (by decide) jm_g16
theorem D52_26 : decode (jt_code 52) 26 = .ok (.sipush 400, 3) := by decide +kernel
theorem E52_26 {call : jv_F} {l0 l1 l2 : Option Value}  {st : List Value} {h : jv_H} : jv_ev call 52 26 [l0, l1, l2] st h = jv_ev call 52 29 [l0, l1, l2] (.int (nI 400) :: st) h := je_sipush D52_26 rfl (by decide)
theorem D52_29 : decode (jt_code 52) 29 = .ok (.iload_n 1, 1) := by decide +kernel
theorem E52_29 {call : jv_F} {l0 l2 : Option Value} {x : Int32} {st : List Value} {h : jv_H} : jv_ev call 52 29 [l0, some (.int x), l2] st h = jv_ev call 52 30 [l0, some (.int x), l2] (.int x :: st) h := je_iload_n D52_29 rfl rfl
theorem D52_30 : decode (jt_code 52) 30 = .ok (.imul, 1) := by decide +kernel
theorem E52_30 {call : jv_F} {l0 l1 l2 : Option Value} {x y : Int32} {st : List Value} {h : jv_H} : jv_ev call 52 30 [l0, l1, l2] (.int y :: .int x :: st) h = jv_ev call 52 31 [l0, l1, l2] (.int (x * y) :: st) h := je_b2 (f := fun x y => x * y) D52_30 rfl (fun _ => rfl)
theorem D52_31 : decode (jt_code 52) 31 = .ok (.iload_n 2, 1) := by decide +kernel
theorem E52_31 {call : jv_F} {l0 l1 : Option Value} {x : Int32} {st : List Value} {h : jv_H} : jv_ev call 52 31 [l0, l1, some (.int x)] st h = jv_ev call 52 32 [l0, l1, some (.int x)] (.int x :: st) h := je_iload_n D52_31 rfl rfl
theorem D52_32 : decode (jt_code 52) 32 = .ok (.iadd, 1) := by decide +kernel
theorem E52_32 {call : jv_F} {l0 l1 l2 : Option Value} {x y : Int32} {st : List Value} {h : jv_H} : jv_ev call 52 32 [l0, l1, l2] (.int y :: .int x :: st) h = jv_ev call 52 33 [l0, l1, l2] (.int (x + y) :: st) h := je_b2 (f := fun x y => x + y) D52_32 rfl (fun _ => rfl)
theorem D52_33 : decode (jt_code 52) 33 = .ok (.iaload, 1) := by decide +kernel
theorem E52_33 {call : jv_F} {l0 l1 l2 : Option Value} {i : Nat} {st : List Value} {m : Nat} {I : Nat → Int32} {A : Nat → Nat → Int32} {L : Nat → Nat → Int64} {rest : Nat → Option jv_C} {z : Nat × Nat} (hi : i < 4800) : jv_ev call 52 33 [l0, l1, l2] (.int (nI i) :: .ref (m + 13) :: st) (jm_H m I A L rest z) = jv_ev call 52 34 [l0, l1, l2] (.int (A 16 i) :: st) (jm_H m I A L rest z) := je_iald D52_33 rfl (jm_l16 hi)
theorem D52_34 : decode (jt_code 52) 34 = .ok (.goto 4, 3) := by decide +kernel
theorem E52_34 {call : jv_F} {l0 l1 l2 : Option Value}  {st : List Value} {h : jv_H} : jv_ev call 52 34 [l0, l1, l2] st h = jv_ev call 52 38 [l0, l1, l2] st h := je_goto D52_34 (by decide)
theorem D52_37 : decode (jt_code 52) 37 = .ok (.iconst (-1), 1) := by decide +kernel
theorem E52_37 {call : jv_F} {l0 l1 l2 : Option Value}  {st : List Value} {h : jv_H} : jv_ev call 52 37 [l0, l1, l2] st h = jv_ev call 52 38 [l0, l1, l2] (.int (-1) :: st) h := je_iconst D52_37 rfl (by decide)
theorem D52_38 : decode (jt_code 52) 38 = .ok (.ireturn, 1) := by decide +kernel
theorem E52_38 {call : jv_F} {l0 l1 l2 : Option Value} {v : Int32} {h : jv_H} : jv_ev call 52 38 [l0, l1, l2] [.int v] h = some (some (.int v), h) := je_iret (ty := .int) D52_38 rfl rfl rfl
/-! method 53: DrumMachineModel.register -/
theorem N53 {d : Nat} {b : Nat} {a0 : Int32} {a1 : Int32} {h : jv_H} : jv_run (d + 1) 53 [.ref b, .int a0, .int a1] h = jv_ev (jv_run d) 53 0 [some (.ref b), some (.int a0), some (.int a1)] [] h := jv_run_eq (Nat.le_of_ble_eq_true rfl) rfl
theorem D53_0 : decode (jt_code 53) 0 = .ok (.aload_n 0, 1) := by decide +kernel
theorem E53_0 {call : jv_F} {l1 l2 : Option Value} {a : Nat} {st : List Value} {h : jv_H} : jv_ev call 53 0 [some (.ref a), l1, l2] st h = jv_ev call 53 1 [some (.ref a), l1, l2] (.ref a :: st) h := je_aload_n (r := some a) D53_0 rfl rfl
theorem D53_1 : decode (jt_code 53) 1 = .ok (.iload_n 1, 1) := by decide +kernel
theorem E53_1 {call : jv_F} {l0 l2 : Option Value} {x : Int32} {st : List Value} {h : jv_H} : jv_ev call 53 1 [l0, some (.int x), l2] st h = jv_ev call 53 2 [l0, some (.int x), l2] (.int x :: st) h := je_iload_n D53_1 rfl rfl
theorem D53_2 : decode (jt_code 53) 2 = .ok (.invokevirtual 297, 3) := by decide +kernel
theorem E53_2 {call : jv_F} {l0 l1 l2 : Option Value} {v0 : Value}  {st : List Value} {m : Nat} {I : Nat → Int32} {A : Nat → Nat → Int32} {L : Nat → Nat → Int64} {rest : Nat → Option jv_C} {z : Nat × Nat} (hw : jv_wide st = true) (hc : (call 48 [.ref m, v0] (jm_H m I A L rest z)).isSome = true) : jv_ev call 53 2 [l0, l1, l2] (v0 :: .ref m :: st) (jm_H m I A L rest z) = jv_ev call 53 5 [l0, l1, l2] ((((call 48 [.ref m, v0] (jm_H m I A L rest z)).getD (none, (jm_H m I A L rest z))).1).toList ++ st) ((call 48 [.ref m, v0] (jm_H m I A L rest z)).getD (none, (jm_H m I A L rest z))).2 := by
  obtain ⟨⟨r, h'⟩, hv⟩ := Option.isSome_iff_exists.mp hc
  rw [hv]
  exact je_virt (y := 48) (as := [v0]) D53_2 rfl (by decide) (by decide) rfl jm_cl hw hv
theorem D53_5 : decode (jt_code 53) 5 = .ok (.ifCond .eq 15, 3) := by decide +kernel
theorem E53_5 {call : jv_F} {l0 l1 l2 : Option Value} {x : Int32} {st : List Value} {h : jv_H} : jv_ev call 53 5 [l0, l1, l2] (.int x :: st) h = if x = 0 then jv_ev call 53 20 [l0, l1, l2] st h else jv_ev call 53 8 [l0, l1, l2] st h := je_ifc D53_5 (by decide) rfl rfl
theorem D53_8 : decode (jt_code 53) 8 = .ok (.iload_n 2, 1) := by decide +kernel
theorem E53_8 {call : jv_F} {l0 l1 : Option Value} {x : Int32} {st : List Value} {h : jv_H} : jv_ev call 53 8 [l0, l1, some (.int x)] st h = jv_ev call 53 9 [l0, l1, some (.int x)] (.int x :: st) h := je_iload_n D53_8 rfl rfl
theorem D53_9 : decode (jt_code 53) 9 = .ok (.iconst (-1), 1) := by decide +kernel
theorem E53_9 {call : jv_F} {l0 l1 l2 : Option Value}  {st : List Value} {h : jv_H} : jv_ev call 53 9 [l0, l1, l2] st h = jv_ev call 53 10 [l0, l1, l2] (.int (-1) :: st) h := je_iconst D53_9 rfl (by decide)
theorem D53_10 : decode (jt_code 53) 10 = .ok (.if_icmp .lt 10, 3) := by decide +kernel
theorem E53_10 {call : jv_F} {l0 l1 l2 : Option Value} {x y : Int32} {st : List Value} {h : jv_H} : jv_ev call 53 10 [l0, l1, l2] (.int y :: .int x :: st) h = if x < y then jv_ev call 53 20 [l0, l1, l2] st h else jv_ev call 53 13 [l0, l1, l2] st h := je_icmp D53_10 (by decide) rfl rfl
theorem D53_13 : decode (jt_code 53) 13 = .ok (.iload_n 2, 1) := by decide +kernel
theorem E53_13 {call : jv_F} {l0 l1 : Option Value} {x : Int32} {st : List Value} {h : jv_H} : jv_ev call 53 13 [l0, l1, some (.int x)] st h = jv_ev call 53 14 [l0, l1, some (.int x)] (.int x :: st) h := je_iload_n D53_13 rfl rfl
theorem D53_14 : decode (jt_code 53) 14 = .ok (.sipush 128, 3) := by decide +kernel
theorem E53_14 {call : jv_F} {l0 l1 l2 : Option Value}  {st : List Value} {h : jv_H} : jv_ev call 53 14 [l0, l1, l2] st h = jv_ev call 53 17 [l0, l1, l2] (.int (nI 128) :: st) h := je_sipush D53_14 rfl (by decide)
theorem D53_17 : decode (jt_code 53) 17 = .ok (.if_icmp .le 5, 3) := by decide +kernel
theorem E53_17 {call : jv_F} {l0 l1 l2 : Option Value} {x y : Int32} {st : List Value} {h : jv_H} : jv_ev call 53 17 [l0, l1, l2] (.int y :: .int x :: st) h = if x ≤ y then jv_ev call 53 22 [l0, l1, l2] st h else jv_ev call 53 20 [l0, l1, l2] st h := je_icmp D53_17 (by decide) rfl rfl
theorem D53_20 : decode (jt_code 53) 20 = .ok (.lconst 0, 1) := by decide +kernel
theorem E53_20 {call : jv_F} {l0 l1 l2 : Option Value}  {st : List Value} {h : jv_H} : jv_ev call 53 20 [l0, l1, l2] st h = jv_ev call 53 21 [l0, l1, l2] (.long 0 :: st) h := je_lconst D53_20 rfl (by decide)
theorem D53_21 : decode (jt_code 53) 21 = .ok (.lreturn, 1) := by decide +kernel
theorem E53_21 {call : jv_F} {l0 l1 l2 : Option Value} {v : Int64} {h : jv_H} : jv_ev call 53 21 [l0, l1, l2] [.long v] h = some (some (.long v), h) := je_lret D53_21 rfl
theorem D53_22 : decode (jt_code 53) 22 = .ok (.iload_n 2, 1) := by decide +kernel
theorem E53_22 {call : jv_F} {l0 l1 : Option Value} {x : Int32} {st : List Value} {h : jv_H} : jv_ev call 53 22 [l0, l1, some (.int x)] st h = jv_ev call 53 23 [l0, l1, some (.int x)] (.int x :: st) h := je_iload_n D53_22 rfl rfl
theorem D53_23 : decode (jt_code 53) 23 = .ok (.ifCond .ge 12, 3) := by decide +kernel
theorem E53_23 {call : jv_F} {l0 l1 l2 : Option Value} {x : Int32} {st : List Value} {h : jv_H} : jv_ev call 53 23 [l0, l1, l2] (.int x :: st) h = if 0 ≤ x then jv_ev call 53 35 [l0, l1, l2] st h else jv_ev call 53 26 [l0, l1, l2] st h := je_ifc D53_23 (by decide) rfl rfl
theorem D53_26 : decode (jt_code 53) 26 = .ok (.aload_n 0, 1) := by decide +kernel
theorem E53_26 {call : jv_F} {l1 l2 : Option Value} {a : Nat} {st : List Value} {h : jv_H} : jv_ev call 53 26 [some (.ref a), l1, l2] st h = jv_ev call 53 27 [some (.ref a), l1, l2] (.ref a :: st) h := je_aload_n (r := some a) D53_26 rfl rfl
theorem D53_27 : decode (jt_code 53) 27 = .ok (.getfield 33, 3) := by decide +kernel
theorem E53_27 {call : jv_F} {l0 l1 l2 : Option Value}  {st : List Value} {m : Nat} {I : Nat → Int32} {A : Nat → Nat → Int32} {L : Nat → Nat → Int64} {rest : Nat → Option jv_C} {z : Nat × Nat} : jv_ev call 53 27 [l0, l1, l2] (.ref m :: st) (jm_H m I A L rest z) = jv_ev call 53 30 [l0, l1, l2] (.ref (m + 7) :: st) (jm_H m I A L rest z) := je_get D53_27 rfl (by decide) jm_g10
theorem D53_30 : decode (jt_code 53) 30 = .ok (.iload_n 1, 1) := by decide +kernel
theorem E53_30 {call : jv_F} {l0 l2 : Option Value} {x : Int32} {st : List Value} {h : jv_H} : jv_ev call 53 30 [l0, some (.int x), l2] st h = jv_ev call 53 31 [l0, some (.int x), l2] (.int x :: st) h := je_iload_n D53_30 rfl rfl
theorem D53_31 : decode (jt_code 53) 31 = .ok (.laload, 1) := by decide +kernel
theorem E53_31 {call : jv_F} {l0 l1 l2 : Option Value} {i : Nat} {st : List Value} {m : Nat} {I : Nat → Int32} {A : Nat → Nat → Int32} {L : Nat → Nat → Int64} {rest : Nat → Option jv_C} {z : Nat × Nat} (hi : i < 12) : jv_ev call 53 31 [l0, l1, l2] (.int (nI i) :: .ref (m + 7) :: st) (jm_H m I A L rest z) = jv_ev call 53 32 [l0, l1, l2] (.long (L 10 i) :: st) (jm_H m I A L rest z) := je_lald D53_31 rfl (jm_l10 hi)
theorem D53_32 : decode (jt_code 53) 32 = .ok (.goto 33, 3) := by decide +kernel
theorem E53_32 {call : jv_F} {l0 l1 l2 : Option Value}  {st : List Value} {h : jv_H} : jv_ev call 53 32 [l0, l1, l2] st h = jv_ev call 53 65 [l0, l1, l2] st h := je_goto D53_32 (by decide)
theorem D53_35 : decode (jt_code 53) 35 = .ok (.iload_n 2, 1) := by decide +kernel
theorem E53_35 {call : jv_F} {l0 l1 : Option Value} {x : Int32} {st : List Value} {h : jv_H} : jv_ev call 53 35 [l0, l1, some (.int x)] st h = jv_ev call 53 36 [l0, l1, some (.int x)] (.int x :: st) h := je_iload_n D53_35 rfl rfl
theorem D53_36 : decode (jt_code 53) 36 = .ok (.sipush 128, 3) := by decide +kernel
theorem E53_36 {call : jv_F} {l0 l1 l2 : Option Value}  {st : List Value} {h : jv_H} : jv_ev call 53 36 [l0, l1, l2] st h = jv_ev call 53 39 [l0, l1, l2] (.int (nI 128) :: st) h := je_sipush D53_36 rfl (by decide)
theorem D53_39 : decode (jt_code 53) 39 = .ok (.if_icmp .ne 13, 3) := by decide +kernel
theorem E53_39 {call : jv_F} {l0 l1 l2 : Option Value} {x y : Int32} {st : List Value} {h : jv_H} : jv_ev call 53 39 [l0, l1, l2] (.int y :: .int x :: st) h = if ¬ x = y then jv_ev call 53 52 [l0, l1, l2] st h else jv_ev call 53 42 [l0, l1, l2] st h := je_icmp D53_39 (by decide) rfl rfl
theorem D53_42 : decode (jt_code 53) 42 = .ok (.aload_n 0, 1) := by decide +kernel
theorem E53_42 {call : jv_F} {l1 l2 : Option Value} {a : Nat} {st : List Value} {h : jv_H} : jv_ev call 53 42 [some (.ref a), l1, l2] st h = jv_ev call 53 43 [some (.ref a), l1, l2] (.ref a :: st) h := je_aload_n (r := some a) D53_42 rfl rfl
theorem D53_43 : decode (jt_code 53) 43 = .ok (.getfield 30, 3) := by decide +kernel
theorem E53_43 {call : jv_F} {l0 l1 l2 : Option Value}  {st : List Value} {m : Nat} {I : Nat → Int32} {A : Nat → Nat → Int32} {L : Nat → Nat → Int64} {rest : Nat → Option jv_C} {z : Nat × Nat} : jv_ev call 53 43 [l0, l1, l2] (.ref m :: st) (jm_H m I A L rest z) = jv_ev call 53 46 [l0, l1, l2] (.ref (m + 6) :: st) (jm_H m I A L rest z) := je_get D53_43 rfl (by decide) jm_g9
theorem D53_46 : decode (jt_code 53) 46 = .ok (.iload_n 1, 1) := by decide +kernel
theorem E53_46 {call : jv_F} {l0 l2 : Option Value} {x : Int32} {st : List Value} {h : jv_H} : jv_ev call 53 46 [l0, some (.int x), l2] st h = jv_ev call 53 47 [l0, some (.int x), l2] (.int x :: st) h := je_iload_n D53_46 rfl rfl
theorem D53_47 : decode (jt_code 53) 47 = .ok (.iaload, 1) := by decide +kernel
theorem E53_47 {call : jv_F} {l0 l1 l2 : Option Value} {i : Nat} {st : List Value} {m : Nat} {I : Nat → Int32} {A : Nat → Nat → Int32} {L : Nat → Nat → Int64} {rest : Nat → Option jv_C} {z : Nat × Nat} (hi : i < 12) : jv_ev call 53 47 [l0, l1, l2] (.int (nI i) :: .ref (m + 6) :: st) (jm_H m I A L rest z) = jv_ev call 53 48 [l0, l1, l2] (.int (A 9 i) :: st) (jm_H m I A L rest z) := je_iald D53_47 rfl (jm_l9 hi)
theorem D53_48 : decode (jt_code 53) 48 = .ok (.i2l, 1) := by decide +kernel
theorem E53_48 {call : jv_F} {l0 l1 l2 : Option Value} {x : Int32} {st : List Value} {h : jv_H} : jv_ev call 53 48 [l0, l1, l2] (.int x :: st) h = jv_ev call 53 49 [l0, l1, l2] (.long x.toInt64 :: st) h := je_i2l D53_48 rfl
theorem D53_49 : decode (jt_code 53) 49 = .ok (.goto 16, 3) := by decide +kernel
theorem E53_49 {call : jv_F} {l0 l1 l2 : Option Value}  {st : List Value} {h : jv_H} : jv_ev call 53 49 [l0, l1, l2] st h = jv_ev call 53 65 [l0, l1, l2] st h := je_goto D53_49 (by decide)
theorem D53_52 : decode (jt_code 53) 52 = .ok (.aload_n 0, 1) := by decide +kernel
theorem E53_52 {call : jv_F} {l1 l2 : Option Value} {a : Nat} {st : List Value} {h : jv_H} : jv_ev call 53 52 [some (.ref a), l1, l2] st h = jv_ev call 53 53 [some (.ref a), l1, l2] (.ref a :: st) h := je_aload_n (r := some a) D53_52 rfl rfl
theorem D53_53 : decode (jt_code 53) 53 = .ok (.getfield 36, 3) := by decide +kernel
theorem E53_53 {call : jv_F} {l0 l1 l2 : Option Value}  {st : List Value} {m : Nat} {I : Nat → Int32} {A : Nat → Nat → Int32} {L : Nat → Nat → Int64} {rest : Nat → Option jv_C} {z : Nat × Nat} : jv_ev call 53 53 [l0, l1, l2] (.ref m :: st) (jm_H m I A L rest z) = jv_ev call 53 56 [l0, l1, l2] (.ref (m + 8) :: st) (jm_H m I A L rest z) := je_get D53_53 rfl (by decide) jm_g11
theorem D53_56 : decode (jt_code 53) 56 = .ok (.sipush 128, 3) := by decide +kernel
theorem E53_56 {call : jv_F} {l0 l1 l2 : Option Value}  {st : List Value} {h : jv_H} : jv_ev call 53 56 [l0, l1, l2] st h = jv_ev call 53 59 [l0, l1, l2] (.int (nI 128) :: st) h := je_sipush D53_56 rfl (by decide)
theorem D53_59 : decode (jt_code 53) 59 = .ok (.iload_n 1, 1) := by decide +kernel
theorem E53_59 {call : jv_F} {l0 l2 : Option Value} {x : Int32} {st : List Value} {h : jv_H} : jv_ev call 53 59 [l0, some (.int x), l2] st h = jv_ev call 53 60 [l0, some (.int x), l2] (.int x :: st) h := je_iload_n D53_59 rfl rfl
theorem D53_60 : decode (jt_code 53) 60 = .ok (.imul, 1) := by decide +kernel
theorem E53_60 {call : jv_F} {l0 l1 l2 : Option Value} {x y : Int32} {st : List Value} {h : jv_H} : jv_ev call 53 60 [l0, l1, l2] (.int y :: .int x :: st) h = jv_ev call 53 61 [l0, l1, l2] (.int (x * y) :: st) h := je_b2 (f := fun x y => x * y) D53_60 rfl (fun _ => rfl)
theorem D53_61 : decode (jt_code 53) 61 = .ok (.iload_n 2, 1) := by decide +kernel
theorem E53_61 {call : jv_F} {l0 l1 : Option Value} {x : Int32} {st : List Value} {h : jv_H} : jv_ev call 53 61 [l0, l1, some (.int x)] st h = jv_ev call 53 62 [l0, l1, some (.int x)] (.int x :: st) h := je_iload_n D53_61 rfl rfl
theorem D53_62 : decode (jt_code 53) 62 = .ok (.iadd, 1) := by decide +kernel
theorem E53_62 {call : jv_F} {l0 l1 l2 : Option Value} {x y : Int32} {st : List Value} {h : jv_H} : jv_ev call 53 62 [l0, l1, l2] (.int y :: .int x :: st) h = jv_ev call 53 63 [l0, l1, l2] (.int (x + y) :: st) h := je_b2 (f := fun x y => x + y) D53_62 rfl (fun _ => rfl)
theorem D53_63 : decode (jt_code 53) 63 = .ok (.iaload, 1) := by decide +kernel
theorem E53_63 {call : jv_F} {l0 l1 l2 : Option Value} {i : Nat} {st : List Value} {m : Nat} {I : Nat → Int32} {A : Nat → Nat → Int32} {L : Nat → Nat → Int64} {rest : Nat → Option jv_C} {z : Nat × Nat} (hi : i < 1536) : jv_ev call 53 63 [l0, l1, l2] (.int (nI i) :: .ref (m + 8) :: st) (jm_H m I A L rest z) = jv_ev call 53 64 [l0, l1, l2] (.int (A 11 i) :: st) (jm_H m I A L rest z) := je_iald D53_63 rfl (jm_l11 hi)
theorem D53_64 : decode (jt_code 53) 64 = .ok (.i2l, 1) := by decide +kernel
theorem E53_64 {call : jv_F} {l0 l1 l2 : Option Value} {x : Int32} {st : List Value} {h : jv_H} : jv_ev call 53 64 [l0, l1, l2] (.int x :: st) h = jv_ev call 53 65 [l0, l1, l2] (.long x.toInt64 :: st) h := je_i2l D53_64 rfl
theorem D53_65 : decode (jt_code 53) 65 = .ok (.lreturn, 1) := by decide +kernel
theorem E53_65 {call : jv_F} {l0 l1 l2 : Option Value} {v : Int64} {h : jv_H} : jv_ev call 53 65 [l0, l1, l2] [.long v] h = some (some (.long v), h) := je_lret D53_65 rfl
/-! method 54: DrumMachineModel.word -/
theorem N54 {d : Nat} {b : Nat} {a0 : Int32} {a1 : Int32} {h : jv_H} : jv_run (d + 1) 54 [.ref b, .int a0, .int a1] h = jv_ev (jv_run d) 54 0 [some (.ref b), some (.int a0), some (.int a1)] [] h := jv_run_eq (Nat.le_of_ble_eq_true rfl) rfl
theorem D54_0 : decode (jt_code 54) 0 = .ok (.aload_n 0, 1) := by decide +kernel
theorem E54_0 {call : jv_F} {l1 l2 : Option Value} {a : Nat} {st : List Value} {h : jv_H} : jv_ev call 54 0 [some (.ref a), l1, l2] st h = jv_ev call 54 1 [some (.ref a), l1, l2] (.ref a :: st) h := je_aload_n (r := some a) D54_0 rfl rfl
theorem D54_1 : decode (jt_code 54) 1 = .ok (.iload_n 1, 1) := by decide +kernel
theorem E54_1 {call : jv_F} {l0 l2 : Option Value} {x : Int32} {st : List Value} {h : jv_H} : jv_ev call 54 1 [l0, some (.int x), l2] st h = jv_ev call 54 2 [l0, some (.int x), l2] (.int x :: st) h := je_iload_n D54_1 rfl rfl
theorem D54_2 : decode (jt_code 54) 2 = .ok (.invokevirtual 297, 3) := by decide +kernel
theorem E54_2 {call : jv_F} {l0 l1 l2 : Option Value} {v0 : Value}  {st : List Value} {m : Nat} {I : Nat → Int32} {A : Nat → Nat → Int32} {L : Nat → Nat → Int64} {rest : Nat → Option jv_C} {z : Nat × Nat} (hw : jv_wide st = true) (hc : (call 48 [.ref m, v0] (jm_H m I A L rest z)).isSome = true) : jv_ev call 54 2 [l0, l1, l2] (v0 :: .ref m :: st) (jm_H m I A L rest z) = jv_ev call 54 5 [l0, l1, l2] ((((call 48 [.ref m, v0] (jm_H m I A L rest z)).getD (none, (jm_H m I A L rest z))).1).toList ++ st) ((call 48 [.ref m, v0] (jm_H m I A L rest z)).getD (none, (jm_H m I A L rest z))).2 := by
  obtain ⟨⟨r, h'⟩, hv⟩ := Option.isSome_iff_exists.mp hc
  rw [hv]
  exact je_virt (y := 48) (as := [v0]) D54_2 rfl (by decide) (by decide) rfl jm_cl hw hv
theorem D54_5 : decode (jt_code 54) 5 = .ok (.ifCond .eq 34, 3) := by decide +kernel
theorem E54_5 {call : jv_F} {l0 l1 l2 : Option Value} {x : Int32} {st : List Value} {h : jv_H} : jv_ev call 54 5 [l0, l1, l2] (.int x :: st) h = if x = 0 then jv_ev call 54 39 [l0, l1, l2] st h else jv_ev call 54 8 [l0, l1, l2] st h := je_ifc D54_5 (by decide) rfl rfl
theorem D54_8 : decode (jt_code 54) 8 = .ok (.aload_n 0, 1) := by decide +kernel
theorem E54_8 {call : jv_F} {l1 l2 : Option Value} {a : Nat} {st : List Value} {h : jv_H} : jv_ev call 54 8 [some (.ref a), l1, l2] st h = jv_ev call 54 9 [some (.ref a), l1, l2] (.ref a :: st) h := je_aload_n (r := some a) D54_8 rfl rfl
theorem D54_9 : decode (jt_code 54) 9 = .ok (.getfield 27, 3) := by decide +kernel
theorem E54_9 {call : jv_F} {l0 l1 l2 : Option Value}  {st : List Value} {m : Nat} {I : Nat → Int32} {A : Nat → Nat → Int32} {L : Nat → Nat → Int64} {rest : Nat → Option jv_C} {z : Nat × Nat} : jv_ev call 54 9 [l0, l1, l2] (.ref m :: st) (jm_H m I A L rest z) = jv_ev call 54 12 [l0, l1, l2] (.ref (m + 5) :: st) (jm_H m I A L rest z) := je_get D54_9 rfl (by decide) jm_g8
theorem D54_12 : decode (jt_code 54) 12 = .ok (.iload_n 1, 1) := by decide +kernel
theorem E54_12 {call : jv_F} {l0 l2 : Option Value} {x : Int32} {st : List Value} {h : jv_H} : jv_ev call 54 12 [l0, some (.int x), l2] st h = jv_ev call 54 13 [l0, some (.int x), l2] (.int x :: st) h := je_iload_n D54_12 rfl rfl
theorem D54_13 : decode (jt_code 54) 13 = .ok (.iaload, 1) := by decide +kernel
theorem E54_13 {call : jv_F} {l0 l1 l2 : Option Value} {i : Nat} {st : List Value} {m : Nat} {I : Nat → Int32} {A : Nat → Nat → Int32} {L : Nat → Nat → Int64} {rest : Nat → Option jv_C} {z : Nat × Nat} (hi : i < 12) : jv_ev call 54 13 [l0, l1, l2] (.int (nI i) :: .ref (m + 5) :: st) (jm_H m I A L rest z) = jv_ev call 54 14 [l0, l1, l2] (.int (A 8 i) :: st) (jm_H m I A L rest z) := je_iald D54_13 rfl (jm_l8 hi)
theorem D54_14 : decode (jt_code 54) 14 = .ok (.ifCond .ne 25, 3) := by decide +kernel
theorem E54_14 {call : jv_F} {l0 l1 l2 : Option Value} {x : Int32} {st : List Value} {h : jv_H} : jv_ev call 54 14 [l0, l1, l2] (.int x :: st) h = if ¬ x = 0 then jv_ev call 54 39 [l0, l1, l2] st h else jv_ev call 54 17 [l0, l1, l2] st h := je_ifc D54_14 (by decide) rfl rfl
theorem D54_17 : decode (jt_code 54) 17 = .ok (.iload_n 2, 1) := by decide +kernel
theorem E54_17 {call : jv_F} {l0 l1 : Option Value} {x : Int32} {st : List Value} {h : jv_H} : jv_ev call 54 17 [l0, l1, some (.int x)] st h = jv_ev call 54 18 [l0, l1, some (.int x)] (.int x :: st) h := je_iload_n D54_17 rfl rfl
theorem D54_18 : decode (jt_code 54) 18 = .ok (.invokestatic 129, 3) := by decide +kernel
theorem E54_18 {call : jv_F} {l0 l1 l2 : Option Value} {v0 : Value}  {st : List Value} {h : jv_H} (hw : jv_wide st = true) (hc : (call 14 [v0] h).isSome = true) : jv_ev call 54 18 [l0, l1, l2] (v0 :: st) h = jv_ev call 54 21 [l0, l1, l2] ((((call 14 [v0] h).getD (none, h)).1).toList ++ st) ((call 14 [v0] h).getD (none, h)).2 := by
  obtain ⟨⟨r, h'⟩, hv⟩ := Option.isSome_iff_exists.mp hc
  rw [hv]
  exact je_stat (y := 14) (as := [v0]) D54_18 rfl (by decide) (by decide) rfl hw hv
theorem D54_21 : decode (jt_code 54) 21 = .ok (.ifCond .eq 18, 3) := by decide +kernel
theorem E54_21 {call : jv_F} {l0 l1 l2 : Option Value} {x : Int32} {st : List Value} {h : jv_H} : jv_ev call 54 21 [l0, l1, l2] (.int x :: st) h = if x = 0 then jv_ev call 54 39 [l0, l1, l2] st h else jv_ev call 54 24 [l0, l1, l2] st h := je_ifc D54_21 (by decide) rfl rfl
theorem D54_24 : decode (jt_code 54) 24 = .ok (.aload_n 0, 1) := by decide +kernel
theorem E54_24 {call : jv_F} {l1 l2 : Option Value} {a : Nat} {st : List Value} {h : jv_H} : jv_ev call 54 24 [some (.ref a), l1, l2] st h = jv_ev call 54 25 [some (.ref a), l1, l2] (.ref a :: st) h := je_aload_n (r := some a) D54_24 rfl rfl
theorem D54_25 : decode (jt_code 54) 25 = .ok (.getfield 39, 3) := by decide +kernel
theorem E54_25 {call : jv_F} {l0 l1 l2 : Option Value}  {st : List Value} {m : Nat} {I : Nat → Int32} {A : Nat → Nat → Int32} {L : Nat → Nat → Int64} {rest : Nat → Option jv_C} {z : Nat × Nat} : jv_ev call 54 25 [l0, l1, l2] (.ref m :: st) (jm_H m I A L rest z) = jv_ev call 54 28 [l0, l1, l2] (.ref (m + 9) :: st) (jm_H m I A L rest z) := je_get D54_25 rfl (by decide) jm_g12
theorem D54_28 : decode (jt_code 54) 28 = .ok (.sipush 1024, 3) := by decide +kernel
theorem E54_28 {call : jv_F} {l0 l1 l2 : Option Value}  {st : List Value} {h : jv_H} : jv_ev call 54 28 [l0, l1, l2] st h = jv_ev call 54 31 [l0, l1, l2] (.int (nI 1024) :: st) h := je_sipush D54_28 rfl (by decide)
theorem D54_31 : decode (jt_code 54) 31 = .ok (.iload_n 1, 1) := by decide +kernel
theorem E54_31 {call : jv_F} {l0 l2 : Option Value} {x : Int32} {st : List Value} {h : jv_H} : jv_ev call 54 31 [l0, some (.int x), l2] st h = jv_ev call 54 32 [l0, some (.int x), l2] (.int x :: st) h := je_iload_n D54_31 rfl rfl
theorem D54_32 : decode (jt_code 54) 32 = .ok (.imul, 1) := by decide +kernel
theorem E54_32 {call : jv_F} {l0 l1 l2 : Option Value} {x y : Int32} {st : List Value} {h : jv_H} : jv_ev call 54 32 [l0, l1, l2] (.int y :: .int x :: st) h = jv_ev call 54 33 [l0, l1, l2] (.int (x * y) :: st) h := je_b2 (f := fun x y => x * y) D54_32 rfl (fun _ => rfl)
theorem D54_33 : decode (jt_code 54) 33 = .ok (.iload_n 2, 1) := by decide +kernel
theorem E54_33 {call : jv_F} {l0 l1 : Option Value} {x : Int32} {st : List Value} {h : jv_H} : jv_ev call 54 33 [l0, l1, some (.int x)] st h = jv_ev call 54 34 [l0, l1, some (.int x)] (.int x :: st) h := je_iload_n D54_33 rfl rfl
theorem D54_34 : decode (jt_code 54) 34 = .ok (.iadd, 1) := by decide +kernel
theorem E54_34 {call : jv_F} {l0 l1 l2 : Option Value} {x y : Int32} {st : List Value} {h : jv_H} : jv_ev call 54 34 [l0, l1, l2] (.int y :: .int x :: st) h = jv_ev call 54 35 [l0, l1, l2] (.int (x + y) :: st) h := je_b2 (f := fun x y => x + y) D54_34 rfl (fun _ => rfl)
theorem D54_35 : decode (jt_code 54) 35 = .ok (.laload, 1) := by decide +kernel
theorem E54_35 {call : jv_F} {l0 l1 l2 : Option Value} {i : Nat} {st : List Value} {m : Nat} {I : Nat → Int32} {A : Nat → Nat → Int32} {L : Nat → Nat → Int64} {rest : Nat → Option jv_C} {z : Nat × Nat} (hi : i < 12288) : jv_ev call 54 35 [l0, l1, l2] (.int (nI i) :: .ref (m + 9) :: st) (jm_H m I A L rest z) = jv_ev call 54 36 [l0, l1, l2] (.long (L 12 i) :: st) (jm_H m I A L rest z) := je_lald D54_35 rfl (jm_l12 hi)
theorem D54_36 : decode (jt_code 54) 36 = .ok (.goto 4, 3) := by decide +kernel
theorem E54_36 {call : jv_F} {l0 l1 l2 : Option Value}  {st : List Value} {h : jv_H} : jv_ev call 54 36 [l0, l1, l2] st h = jv_ev call 54 40 [l0, l1, l2] st h := je_goto D54_36 (by decide)
theorem D54_39 : decode (jt_code 54) 39 = .ok (.lconst 0, 1) := by decide +kernel
theorem E54_39 {call : jv_F} {l0 l1 l2 : Option Value}  {st : List Value} {h : jv_H} : jv_ev call 54 39 [l0, l1, l2] st h = jv_ev call 54 40 [l0, l1, l2] (.long 0 :: st) h := je_lconst D54_39 rfl (by decide)
theorem D54_40 : decode (jt_code 54) 40 = .ok (.lreturn, 1) := by decide +kernel
theorem E54_40 {call : jv_F} {l0 l1 l2 : Option Value} {v : Int64} {h : jv_H} : jv_ev call 54 40 [l0, l1, l2] [.long v] h = some (some (.long v), h) := je_lret D54_40 rfl
/-! method 55: DrumMachineModel.clock -/
theorem N55 {d : Nat} {b : Nat} {h : jv_H} : jv_run (d + 1) 55 [.ref b] h = jv_ev (jv_run d) 55 0 [some (.ref b)] [] h := jv_run_eq (Nat.le_of_ble_eq_true rfl) rfl
theorem D55_0 : decode (jt_code 55) 0 = .ok (.aload_n 0, 1) := by decide +kernel
theorem E55_0 {call : jv_F} {a : Nat} {st : List Value} {h : jv_H} : jv_ev call 55 0 [some (.ref a)] st h = jv_ev call 55 1 [some (.ref a)] (.ref a :: st) h := je_aload_n (r := some a) D55_0 rfl rfl
theorem D55_1 : decode (jt_code 55) 1 = .ok (.getfield 148, 3) := by decide +kernel
theorem E55_1 {call : jv_F} {l0 : Option Value}  {st : List Value} {m : Nat} {I : Nat → Int32} {A : Nat → Nat → Int32} {L : Nat → Nat → Int64} {rest : Nat → Option jv_C} {z : Nat × Nat} : jv_ev call 55 1 [l0] (.ref m :: st) (jm_H m I A L rest z) = jv_ev call 55 4 [l0] (.int (I 36) :: st) (jm_H m I A L rest z) := je_get D55_1 rfl (by decide) jm_g36
theorem D55_4 : decode (jt_code 55) 4 = .ok (.ireturn, 1) := by decide +kernel
theorem E55_4 {call : jv_F} {l0 : Option Value} {v : Int32} {h : jv_H} : jv_ev call 55 4 [l0] [.int v] h = some (some (.int v), h) := je_iret (ty := .int) D55_4 rfl rfl rfl
/-! method 58: DrumMachineModel.sector -/
theorem N58 {d : Nat} {b : Nat} {a0 : Int32} {h : jv_H} : jv_run (d + 1) 58 [.ref b, .int a0] h = jv_ev (jv_run d) 58 0 [some (.ref b), some (.int a0)] [] h := jv_run_eq (Nat.le_of_ble_eq_true rfl) rfl
theorem D58_0 : decode (jt_code 58) 0 = .ok (.iload_n 1, 1) := by decide +kernel
theorem E58_0 {call : jv_F} {l0 : Option Value} {x : Int32} {st : List Value} {h : jv_H} : jv_ev call 58 0 [l0, some (.int x)] st h = jv_ev call 58 1 [l0, some (.int x)] (.int x :: st) h := je_iload_n D58_0 rfl rfl
theorem D58_1 : decode (jt_code 58) 1 = .ok (.ifCond .lt 18, 3) := by decide +kernel
theorem E58_1 {call : jv_F} {l0 l1 : Option Value} {x : Int32} {st : List Value} {h : jv_H} : jv_ev call 58 1 [l0, l1] (.int x :: st) h = if x < 0 then jv_ev call 58 19 [l0, l1] st h else jv_ev call 58 4 [l0, l1] st h := je_ifc D58_1 (by decide) rfl rfl
theorem D58_4 : decode (jt_code 58) 4 = .ok (.iload_n 1, 1) := by decide +kernel
theorem E58_4 {call : jv_F} {l0 : Option Value} {x : Int32} {st : List Value} {h : jv_H} : jv_ev call 58 4 [l0, some (.int x)] st h = jv_ev call 58 5 [l0, some (.int x)] (.int x :: st) h := je_iload_n D58_4 rfl rfl
theorem D58_5 : decode (jt_code 58) 5 = .ok (.bipush 64, 2) := by decide +kernel
theorem E58_5 {call : jv_F} {l0 l1 : Option Value}  {st : List Value} {h : jv_H} : jv_ev call 58 5 [l0, l1] st h = jv_ev call 58 7 [l0, l1] (.int (nI 64) :: st) h := je_bipush D58_5 rfl (by decide)
theorem D58_7 : decode (jt_code 58) 7 = .ok (.if_icmp .ge 12, 3) := by decide +kernel
theorem E58_7 {call : jv_F} {l0 l1 : Option Value} {x y : Int32} {st : List Value} {h : jv_H} : jv_ev call 58 7 [l0, l1] (.int y :: .int x :: st) h = if y ≤ x then jv_ev call 58 19 [l0, l1] st h else jv_ev call 58 10 [l0, l1] st h := je_icmp D58_7 (by decide) rfl rfl
theorem D58_10 : decode (jt_code 58) 10 = .ok (.aload_n 0, 1) := by decide +kernel
theorem E58_10 {call : jv_F} {l1 : Option Value} {a : Nat} {st : List Value} {h : jv_H} : jv_ev call 58 10 [some (.ref a), l1] st h = jv_ev call 58 11 [some (.ref a), l1] (.ref a :: st) h := je_aload_n (r := some a) D58_10 rfl rfl
theorem D58_11 : decode (jt_code 58) 11 = .ok (.getfield 85, 3) := by decide +kernel
theorem E58_11 {call : jv_F} {l0 l1 : Option Value}  {st : List Value} {m : Nat} {I : Nat → Int32} {A : Nat → Nat → Int32} {L : Nat → Nat → Int64} {rest : Nat → Option jv_C} {z : Nat × Nat} : jv_ev call 58 11 [l0, l1] (.ref m :: st) (jm_H m I A L rest z) = jv_ev call 58 14 [l0, l1] (.ref (m + 24) :: st) (jm_H m I A L rest z) := je_get D58_11 rfl (by decide) jm_g28
theorem D58_14 : decode (jt_code 58) 14 = .ok (.iload_n 1, 1) := by decide +kernel
theorem E58_14 {call : jv_F} {l0 : Option Value} {x : Int32} {st : List Value} {h : jv_H} : jv_ev call 58 14 [l0, some (.int x)] st h = jv_ev call 58 15 [l0, some (.int x)] (.int x :: st) h := je_iload_n D58_14 rfl rfl
theorem D58_15 : decode (jt_code 58) 15 = .ok (.iaload, 1) := by decide +kernel
theorem E58_15 {call : jv_F} {l0 l1 : Option Value} {i : Nat} {st : List Value} {m : Nat} {I : Nat → Int32} {A : Nat → Nat → Int32} {L : Nat → Nat → Int64} {rest : Nat → Option jv_C} {z : Nat × Nat} (hi : i < 64) : jv_ev call 58 15 [l0, l1] (.int (nI i) :: .ref (m + 24) :: st) (jm_H m I A L rest z) = jv_ev call 58 16 [l0, l1] (.int (A 28 i) :: st) (jm_H m I A L rest z) := je_iald D58_15 rfl (jm_l28 hi)
theorem D58_16 : decode (jt_code 58) 16 = .ok (.ifCond .ge 5, 3) := by decide +kernel
theorem E58_16 {call : jv_F} {l0 l1 : Option Value} {x : Int32} {st : List Value} {h : jv_H} : jv_ev call 58 16 [l0, l1] (.int x :: st) h = if 0 ≤ x then jv_ev call 58 21 [l0, l1] st h else jv_ev call 58 19 [l0, l1] st h := je_ifc D58_16 (by decide) rfl rfl
theorem D58_19 : decode (jt_code 58) 19 = .ok (.iconst (-1), 1) := by decide +kernel
theorem E58_19 {call : jv_F} {l0 l1 : Option Value}  {st : List Value} {h : jv_H} : jv_ev call 58 19 [l0, l1] st h = jv_ev call 58 20 [l0, l1] (.int (-1) :: st) h := je_iconst D58_19 rfl (by decide)
theorem D58_20 : decode (jt_code 58) 20 = .ok (.ireturn, 1) := by decide +kernel
theorem E58_20 {call : jv_F} {l0 l1 : Option Value} {v : Int32} {h : jv_H} : jv_ev call 58 20 [l0, l1] [.int v] h = some (some (.int v), h) := je_iret (ty := .int) D58_20 rfl rfl rfl
theorem D58_21 : decode (jt_code 58) 21 = .ok (.sipush 1000, 3) := by decide +kernel
theorem E58_21 {call : jv_F} {l0 l1 : Option Value}  {st : List Value} {h : jv_H} : jv_ev call 58 21 [l0, l1] st h = jv_ev call 58 24 [l0, l1] (.int (nI 1000) :: st) h := je_sipush D58_21 rfl (by decide)
theorem D58_24 : decode (jt_code 58) 24 = .ok (.aload_n 0, 1) := by decide +kernel
theorem E58_24 {call : jv_F} {l1 : Option Value} {a : Nat} {st : List Value} {h : jv_H} : jv_ev call 58 24 [some (.ref a), l1] st h = jv_ev call 58 25 [some (.ref a), l1] (.ref a :: st) h := je_aload_n (r := some a) D58_24 rfl rfl
theorem D58_25 : decode (jt_code 58) 25 = .ok (.getfield 85, 3) := by decide +kernel
theorem E58_25 {call : jv_F} {l0 l1 : Option Value}  {st : List Value} {m : Nat} {I : Nat → Int32} {A : Nat → Nat → Int32} {L : Nat → Nat → Int64} {rest : Nat → Option jv_C} {z : Nat × Nat} : jv_ev call 58 25 [l0, l1] (.ref m :: st) (jm_H m I A L rest z) = jv_ev call 58 28 [l0, l1] (.ref (m + 24) :: st) (jm_H m I A L rest z) := je_get D58_25 rfl (by decide) jm_g28
theorem D58_28 : decode (jt_code 58) 28 = .ok (.iload_n 1, 1) := by decide +kernel
theorem E58_28 {call : jv_F} {l0 : Option Value} {x : Int32} {st : List Value} {h : jv_H} : jv_ev call 58 28 [l0, some (.int x)] st h = jv_ev call 58 29 [l0, some (.int x)] (.int x :: st) h := je_iload_n D58_28 rfl rfl
theorem D58_29 : decode (jt_code 58) 29 = .ok (.iaload, 1) := by decide +kernel
theorem E58_29 {call : jv_F} {l0 l1 : Option Value} {i : Nat} {st : List Value} {m : Nat} {I : Nat → Int32} {A : Nat → Nat → Int32} {L : Nat → Nat → Int64} {rest : Nat → Option jv_C} {z : Nat × Nat} (hi : i < 64) : jv_ev call 58 29 [l0, l1] (.int (nI i) :: .ref (m + 24) :: st) (jm_H m I A L rest z) = jv_ev call 58 30 [l0, l1] (.int (A 28 i) :: st) (jm_H m I A L rest z) := je_iald D58_29 rfl (jm_l28 hi)
theorem D58_30 : decode (jt_code 58) 30 = .ok (.bipush 64, 2) := by decide +kernel
theorem E58_30 {call : jv_F} {l0 l1 : Option Value}  {st : List Value} {h : jv_H} : jv_ev call 58 30 [l0, l1] st h = jv_ev call 58 32 [l0, l1] (.int (nI 64) :: st) h := je_bipush D58_30 rfl (by decide)
theorem D58_32 : decode (jt_code 58) 32 = .ok (.idiv, 1) := by decide +kernel
theorem E58_32 {call : jv_F} {l0 l1 : Option Value} {x y : Int32} {st : List Value} {h : jv_H} (hy : ¬ y = 0) : jv_ev call 58 32 [l0, l1] (.int y :: .int x :: st) h = jv_ev call 58 33 [l0, l1] (.int (x / y) :: st) h := je_idiv D58_32 rfl hy
theorem D58_33 : decode (jt_code 58) 33 = .ok (.imul, 1) := by decide +kernel
theorem E58_33 {call : jv_F} {l0 l1 : Option Value} {x y : Int32} {st : List Value} {h : jv_H} : jv_ev call 58 33 [l0, l1] (.int y :: .int x :: st) h = jv_ev call 58 34 [l0, l1] (.int (x * y) :: st) h := je_b2 (f := fun x y => x * y) D58_33 rfl (fun _ => rfl)
theorem D58_34 : decode (jt_code 58) 34 = .ok (.aload_n 0, 1) := by decide +kernel
theorem E58_34 {call : jv_F} {l1 : Option Value} {a : Nat} {st : List Value} {h : jv_H} : jv_ev call 58 34 [some (.ref a), l1] st h = jv_ev call 58 35 [some (.ref a), l1] (.ref a :: st) h := je_aload_n (r := some a) D58_34 rfl rfl
theorem D58_35 : decode (jt_code 58) 35 = .ok (.getfield 85, 3) := by decide +kernel
theorem E58_35 {call : jv_F} {l0 l1 : Option Value}  {st : List Value} {m : Nat} {I : Nat → Int32} {A : Nat → Nat → Int32} {L : Nat → Nat → Int64} {rest : Nat → Option jv_C} {z : Nat × Nat} : jv_ev call 58 35 [l0, l1] (.ref m :: st) (jm_H m I A L rest z) = jv_ev call 58 38 [l0, l1] (.ref (m + 24) :: st) (jm_H m I A L rest z) := je_get D58_35 rfl (by decide) jm_g28
theorem D58_38 : decode (jt_code 58) 38 = .ok (.iload_n 1, 1) := by decide +kernel
theorem E58_38 {call : jv_F} {l0 : Option Value} {x : Int32} {st : List Value} {h : jv_H} : jv_ev call 58 38 [l0, some (.int x)] st h = jv_ev call 58 39 [l0, some (.int x)] (.int x :: st) h := je_iload_n D58_38 rfl rfl
theorem D58_39 : decode (jt_code 58) 39 = .ok (.iaload, 1) := by decide +kernel
theorem E58_39 {call : jv_F} {l0 l1 : Option Value} {i : Nat} {st : List Value} {m : Nat} {I : Nat → Int32} {A : Nat → Nat → Int32} {L : Nat → Nat → Int64} {rest : Nat → Option jv_C} {z : Nat × Nat} (hi : i < 64) : jv_ev call 58 39 [l0, l1] (.int (nI i) :: .ref (m + 24) :: st) (jm_H m I A L rest z) = jv_ev call 58 40 [l0, l1] (.int (A 28 i) :: st) (jm_H m I A L rest z) := je_iald D58_39 rfl (jm_l28 hi)
theorem D58_40 : decode (jt_code 58) 40 = .ok (.bipush 64, 2) := by decide +kernel
theorem E58_40 {call : jv_F} {l0 l1 : Option Value}  {st : List Value} {h : jv_H} : jv_ev call 58 40 [l0, l1] st h = jv_ev call 58 42 [l0, l1] (.int (nI 64) :: st) h := je_bipush D58_40 rfl (by decide)
theorem D58_42 : decode (jt_code 58) 42 = .ok (.irem, 1) := by decide +kernel
theorem E58_42 {call : jv_F} {l0 l1 : Option Value} {x y : Int32} {st : List Value} {h : jv_H} (hy : ¬ y = 0) : jv_ev call 58 42 [l0, l1] (.int y :: .int x :: st) h = jv_ev call 58 43 [l0, l1] (.int (x - x / y * y) :: st) h := je_irem D58_42 rfl hy
theorem D58_43 : decode (jt_code 58) 43 = .ok (.iadd, 1) := by decide +kernel
theorem E58_43 {call : jv_F} {l0 l1 : Option Value} {x y : Int32} {st : List Value} {h : jv_H} : jv_ev call 58 43 [l0, l1] (.int y :: .int x :: st) h = jv_ev call 58 44 [l0, l1] (.int (x + y) :: st) h := je_b2 (f := fun x y => x + y) D58_43 rfl (fun _ => rfl)
theorem D58_44 : decode (jt_code 58) 44 = .ok (.ireturn, 1) := by decide +kernel
theorem E58_44 {call : jv_F} {l0 l1 : Option Value} {v : Int32} {h : jv_H} : jv_ev call 58 44 [l0, l1] [.int v] h = some (some (.int v), h) := je_iret (ty := .int) D58_44 rfl rfl rfl
end
section
/-! method 0: DrumMachineModel.<init> -/
theorem N0 {d : Nat} {b : Nat} {h : jv_H} : jv_run (d + 1) 0 [.ref b] h = jv_ev (jv_run d) 0 0 [some (.ref b), none] [] h := jv_run_eq (Nat.le_of_ble_eq_true rfl) rfl
theorem D0_0 : decode (jt_code 0) 0 = .ok (.aload_n 0, 1) := by decide +kernel
theorem E0_0 {call : jv_F} {l1 : Option Value} {a : Nat} {st : List Value} {h : jv_H} : jv_ev call 0 0 [some (.ref a), l1] st h = jv_ev call 0 1 [some (.ref a), l1] (.ref a :: st) h := je_aload_n (r := some a) D0_0 rfl rfl
theorem D0_1 : decode (jt_code 0) 1 = .ok (.invokespecial 1, 3) := by decide +kernel
theorem E0_1 {call : jv_F} {l0 l1 : Option Value} {b : Nat} {st : List Value} {h : jv_H} (hw : jv_wide st = true) : jv_ev call 0 1 [l0, l1] (.ref b :: st) h = jv_ev call 0 4 [l0, l1] st h := je_obj D0_1 rfl (by decide) hw
theorem D0_4 : decode (jt_code 0) 4 = .ok (.aload_n 0, 1) := by decide +kernel
theorem E0_4 {call : jv_F} {l1 : Option Value} {a : Nat} {st : List Value} {h : jv_H} : jv_ev call 0 4 [some (.ref a), l1] st h = jv_ev call 0 5 [some (.ref a), l1] (.ref a :: st) h := je_aload_n (r := some a) D0_4 rfl rfl
theorem D0_5 : decode (jt_code 0) 5 = .ok (.bipush 7, 2) := by decide +kernel
theorem E0_5 {call : jv_F} {l0 l1 : Option Value}  {st : List Value} {h : jv_H} : jv_ev call 0 5 [l0, l1] st h = jv_ev call 0 7 [l0, l1] (.int (nI 7) :: st) h := je_bipush D0_5 rfl (by decide)
theorem D0_7 : decode (jt_code 0) 7 = .ok (.putfield 7, 3) := by decide +kernel
theorem E0_7 {call : jv_F} {l0 l1 : Option Value} {a : Nat} {v : Value} {st : List Value} {h : jv_H} (hs : (jv_pf h a 0 0 v).isSome = true) : jv_ev call 0 7 [l0, l1] (v :: .ref a :: st) h = jv_ev call 0 10 [l0, l1] st ((jv_pf h a 0 0 v).getD h) := by
  obtain ⟨h', hv⟩ := Option.isSome_iff_exists.mp hs
  rw [hv]
  exact je_put D0_7 rfl (by decide) (by decide) hv
theorem D0_10 : decode (jt_code 0) 10 = .ok (.aload_n 0, 1) := by decide +kernel
theorem E0_10 {call : jv_F} {l1 : Option Value} {a : Nat} {st : List Value} {h : jv_H} : jv_ev call 0 10 [some (.ref a), l1] st h = jv_ev call 0 11 [some (.ref a), l1] (.ref a :: st) h := je_aload_n (r := some a) D0_10 rfl rfl
theorem D0_11 : decode (jt_code 0) 11 = .ok (.sipush 1000, 3) := by decide +kernel
theorem E0_11 {call : jv_F} {l0 l1 : Option Value}  {st : List Value} {h : jv_H} : jv_ev call 0 11 [l0, l1] st h = jv_ev call 0 14 [l0, l1] (.int (nI 1000) :: st) h := je_sipush D0_11 rfl (by decide)
theorem D0_14 : decode (jt_code 0) 14 = .ok (.newarray .long, 2) := by decide +kernel
theorem E0_14 {call : jv_F} {l0 l1 : Option Value} {k : Nat} {st : List Value} {h : jv_H} (hk : k ≤ 100000) : jv_ev call 0 14 [l0, l1] (.int (nI k) :: st) h = jv_ev call 0 16 [l0, l1] (.ref h.2.1 :: st) (jv_newa h 1 k (.long 0)) := je_newarray D0_14 rfl (by decide) (by decide) (nI_pos (by omega)) (nI_clamp (by omega)) hk rfl
theorem D0_16 : decode (jt_code 0) 16 = .ok (.putfield 13, 3) := by decide +kernel
theorem E0_16 {call : jv_F} {l0 l1 : Option Value} {a : Nat} {v : Value} {st : List Value} {h : jv_H} (hs : (jv_pf h a 0 1 v).isSome = true) : jv_ev call 0 16 [l0, l1] (v :: .ref a :: st) h = jv_ev call 0 19 [l0, l1] st ((jv_pf h a 0 1 v).getD h) := by
  obtain ⟨h', hv⟩ := Option.isSome_iff_exists.mp hs
  rw [hv]
  exact je_put D0_16 rfl (by decide) (by decide) hv
theorem D0_19 : decode (jt_code 0) 19 = .ok (.aload_n 0, 1) := by decide +kernel
theorem E0_19 {call : jv_F} {l1 : Option Value} {a : Nat} {st : List Value} {h : jv_H} : jv_ev call 0 19 [some (.ref a), l1] st h = jv_ev call 0 20 [some (.ref a), l1] (.ref a :: st) h := je_aload_n (r := some a) D0_19 rfl rfl
theorem D0_20 : decode (jt_code 0) 20 = .ok (.sipush 2000, 3) := by decide +kernel
theorem E0_20 {call : jv_F} {l0 l1 : Option Value}  {st : List Value} {h : jv_H} : jv_ev call 0 20 [l0, l1] st h = jv_ev call 0 23 [l0, l1] (.int (nI 2000) :: st) h := je_sipush D0_20 rfl (by decide)
theorem D0_23 : decode (jt_code 0) 23 = .ok (.newarray .int, 2) := by decide +kernel
theorem E0_23 {call : jv_F} {l0 l1 : Option Value} {k : Nat} {st : List Value} {h : jv_H} (hk : k ≤ 100000) : jv_ev call 0 23 [l0, l1] (.int (nI k) :: st) h = jv_ev call 0 25 [l0, l1] (.ref h.2.1 :: st) (jv_newa h 0 k (.int 0)) := je_newarray D0_23 rfl (by decide) (by decide) (nI_pos (by omega)) (nI_clamp (by omega)) hk rfl
theorem D0_25 : decode (jt_code 0) 25 = .ok (.putfield 17, 3) := by decide +kernel
theorem E0_25 {call : jv_F} {l0 l1 : Option Value} {a : Nat} {v : Value} {st : List Value} {h : jv_H} (hs : (jv_pf h a 0 3 v).isSome = true) : jv_ev call 0 25 [l0, l1] (v :: .ref a :: st) h = jv_ev call 0 28 [l0, l1] st ((jv_pf h a 0 3 v).getD h) := by
  obtain ⟨h', hv⟩ := Option.isSome_iff_exists.mp hs
  rw [hv]
  exact je_put D0_25 rfl (by decide) (by decide) hv
theorem D0_28 : decode (jt_code 0) 28 = .ok (.aload_n 0, 1) := by decide +kernel
theorem E0_28 {call : jv_F} {l1 : Option Value} {a : Nat} {st : List Value} {h : jv_H} : jv_ev call 0 28 [some (.ref a), l1] st h = jv_ev call 0 29 [some (.ref a), l1] (.ref a :: st) h := je_aload_n (r := some a) D0_28 rfl rfl
theorem D0_29 : decode (jt_code 0) 29 = .ok (.bipush 12, 2) := by decide +kernel
theorem E0_29 {call : jv_F} {l0 l1 : Option Value}  {st : List Value} {h : jv_H} : jv_ev call 0 29 [l0, l1] st h = jv_ev call 0 31 [l0, l1] (.int (nI 12) :: st) h := je_bipush D0_29 rfl (by decide)
theorem D0_31 : decode (jt_code 0) 31 = .ok (.newarray .int, 2) := by decide +kernel
theorem E0_31 {call : jv_F} {l0 l1 : Option Value} {k : Nat} {st : List Value} {h : jv_H} (hk : k ≤ 100000) : jv_ev call 0 31 [l0, l1] (.int (nI k) :: st) h = jv_ev call 0 33 [l0, l1] (.ref h.2.1 :: st) (jv_newa h 0 k (.int 0)) := je_newarray D0_31 rfl (by decide) (by decide) (nI_pos (by omega)) (nI_clamp (by omega)) hk rfl
theorem D0_33 : decode (jt_code 0) 33 = .ok (.putfield 21, 3) := by decide +kernel
theorem E0_33 {call : jv_F} {l0 l1 : Option Value} {a : Nat} {v : Value} {st : List Value} {h : jv_H} (hs : (jv_pf h a 0 6 v).isSome = true) : jv_ev call 0 33 [l0, l1] (v :: .ref a :: st) h = jv_ev call 0 36 [l0, l1] st ((jv_pf h a 0 6 v).getD h) := by
  obtain ⟨h', hv⟩ := Option.isSome_iff_exists.mp hs
  rw [hv]
  exact je_put D0_33 rfl (by decide) (by decide) hv
theorem D0_36 : decode (jt_code 0) 36 = .ok (.aload_n 0, 1) := by decide +kernel
theorem E0_36 {call : jv_F} {l1 : Option Value} {a : Nat} {st : List Value} {h : jv_H} : jv_ev call 0 36 [some (.ref a), l1] st h = jv_ev call 0 37 [some (.ref a), l1] (.ref a :: st) h := je_aload_n (r := some a) D0_36 rfl rfl
theorem D0_37 : decode (jt_code 0) 37 = .ok (.bipush 12, 2) := by decide +kernel
theorem E0_37 {call : jv_F} {l0 l1 : Option Value}  {st : List Value} {h : jv_H} : jv_ev call 0 37 [l0, l1] st h = jv_ev call 0 39 [l0, l1] (.int (nI 12) :: st) h := je_bipush D0_37 rfl (by decide)
theorem D0_39 : decode (jt_code 0) 39 = .ok (.newarray .int, 2) := by decide +kernel
theorem E0_39 {call : jv_F} {l0 l1 : Option Value} {k : Nat} {st : List Value} {h : jv_H} (hk : k ≤ 100000) : jv_ev call 0 39 [l0, l1] (.int (nI k) :: st) h = jv_ev call 0 41 [l0, l1] (.ref h.2.1 :: st) (jv_newa h 0 k (.int 0)) := je_newarray D0_39 rfl (by decide) (by decide) (nI_pos (by omega)) (nI_clamp (by omega)) hk rfl
theorem D0_41 : decode (jt_code 0) 41 = .ok (.putfield 24, 3) := by decide +kernel
theorem E0_41 {call : jv_F} {l0 l1 : Option Value} {a : Nat} {v : Value} {st : List Value} {h : jv_H} (hs : (jv_pf h a 0 7 v).isSome = true) : jv_ev call 0 41 [l0, l1] (v :: .ref a :: st) h = jv_ev call 0 44 [l0, l1] st ((jv_pf h a 0 7 v).getD h) := by
  obtain ⟨h', hv⟩ := Option.isSome_iff_exists.mp hs
  rw [hv]
  exact je_put D0_41 rfl (by decide) (by decide) hv
theorem D0_44 : decode (jt_code 0) 44 = .ok (.aload_n 0, 1) := by decide +kernel
theorem E0_44 {call : jv_F} {l1 : Option Value} {a : Nat} {st : List Value} {h : jv_H} : jv_ev call 0 44 [some (.ref a), l1] st h = jv_ev call 0 45 [some (.ref a), l1] (.ref a :: st) h := je_aload_n (r := some a) D0_44 rfl rfl
theorem D0_45 : decode (jt_code 0) 45 = .ok (.bipush 12, 2) := by decide +kernel
theorem E0_45 {call : jv_F} {l0 l1 : Option Value}  {st : List Value} {h : jv_H} : jv_ev call 0 45 [l0, l1] st h = jv_ev call 0 47 [l0, l1] (.int (nI 12) :: st) h := je_bipush D0_45 rfl (by decide)
theorem D0_47 : decode (jt_code 0) 47 = .ok (.newarray .int, 2) := by decide +kernel
theorem E0_47 {call : jv_F} {l0 l1 : Option Value} {k : Nat} {st : List Value} {h : jv_H} (hk : k ≤ 100000) : jv_ev call 0 47 [l0, l1] (.int (nI k) :: st) h = jv_ev call 0 49 [l0, l1] (.ref h.2.1 :: st) (jv_newa h 0 k (.int 0)) := je_newarray D0_47 rfl (by decide) (by decide) (nI_pos (by omega)) (nI_clamp (by omega)) hk rfl
theorem D0_49 : decode (jt_code 0) 49 = .ok (.putfield 27, 3) := by decide +kernel
theorem E0_49 {call : jv_F} {l0 l1 : Option Value} {a : Nat} {v : Value} {st : List Value} {h : jv_H} (hs : (jv_pf h a 0 8 v).isSome = true) : jv_ev call 0 49 [l0, l1] (v :: .ref a :: st) h = jv_ev call 0 52 [l0, l1] st ((jv_pf h a 0 8 v).getD h) := by
  obtain ⟨h', hv⟩ := Option.isSome_iff_exists.mp hs
  rw [hv]
  exact je_put D0_49 rfl (by decide) (by decide) hv
theorem D0_52 : decode (jt_code 0) 52 = .ok (.aload_n 0, 1) := by decide +kernel
theorem E0_52 {call : jv_F} {l1 : Option Value} {a : Nat} {st : List Value} {h : jv_H} : jv_ev call 0 52 [some (.ref a), l1] st h = jv_ev call 0 53 [some (.ref a), l1] (.ref a :: st) h := je_aload_n (r := some a) D0_52 rfl rfl
theorem D0_53 : decode (jt_code 0) 53 = .ok (.bipush 12, 2) := by decide +kernel
theorem E0_53 {call : jv_F} {l0 l1 : Option Value}  {st : List Value} {h : jv_H} : jv_ev call 0 53 [l0, l1] st h = jv_ev call 0 55 [l0, l1] (.int (nI 12) :: st) h := je_bipush D0_53 rfl (by decide)
theorem D0_55 : decode (jt_code 0) 55 = .ok (.newarray .int, 2) := by decide +kernel
theorem E0_55 {call : jv_F} {l0 l1 : Option Value} {k : Nat} {st : List Value} {h : jv_H} (hk : k ≤ 100000) : jv_ev call 0 55 [l0, l1] (.int (nI k) :: st) h = jv_ev call 0 57 [l0, l1] (.ref h.2.1 :: st) (jv_newa h 0 k (.int 0)) := je_newarray D0_55 rfl (by decide) (by decide) (nI_pos (by omega)) (nI_clamp (by omega)) hk rfl
theorem D0_57 : decode (jt_code 0) 57 = .ok (.putfield 30, 3) := by decide +kernel
theorem E0_57 {call : jv_F} {l0 l1 : Option Value} {a : Nat} {v : Value} {st : List Value} {h : jv_H} (hs : (jv_pf h a 0 9 v).isSome = true) : jv_ev call 0 57 [l0, l1] (v :: .ref a :: st) h = jv_ev call 0 60 [l0, l1] st ((jv_pf h a 0 9 v).getD h) := by
  obtain ⟨h', hv⟩ := Option.isSome_iff_exists.mp hs
  rw [hv]
  exact je_put D0_57 rfl (by decide) (by decide) hv
theorem D0_60 : decode (jt_code 0) 60 = .ok (.aload_n 0, 1) := by decide +kernel
theorem E0_60 {call : jv_F} {l1 : Option Value} {a : Nat} {st : List Value} {h : jv_H} : jv_ev call 0 60 [some (.ref a), l1] st h = jv_ev call 0 61 [some (.ref a), l1] (.ref a :: st) h := je_aload_n (r := some a) D0_60 rfl rfl
theorem D0_61 : decode (jt_code 0) 61 = .ok (.bipush 12, 2) := by decide +kernel
theorem E0_61 {call : jv_F} {l0 l1 : Option Value}  {st : List Value} {h : jv_H} : jv_ev call 0 61 [l0, l1] st h = jv_ev call 0 63 [l0, l1] (.int (nI 12) :: st) h := je_bipush D0_61 rfl (by decide)
theorem D0_63 : decode (jt_code 0) 63 = .ok (.newarray .long, 2) := by decide +kernel
theorem E0_63 {call : jv_F} {l0 l1 : Option Value} {k : Nat} {st : List Value} {h : jv_H} (hk : k ≤ 100000) : jv_ev call 0 63 [l0, l1] (.int (nI k) :: st) h = jv_ev call 0 65 [l0, l1] (.ref h.2.1 :: st) (jv_newa h 1 k (.long 0)) := je_newarray D0_63 rfl (by decide) (by decide) (nI_pos (by omega)) (nI_clamp (by omega)) hk rfl
theorem D0_65 : decode (jt_code 0) 65 = .ok (.putfield 33, 3) := by decide +kernel
theorem E0_65 {call : jv_F} {l0 l1 : Option Value} {a : Nat} {v : Value} {st : List Value} {h : jv_H} (hs : (jv_pf h a 0 10 v).isSome = true) : jv_ev call 0 65 [l0, l1] (v :: .ref a :: st) h = jv_ev call 0 68 [l0, l1] st ((jv_pf h a 0 10 v).getD h) := by
  obtain ⟨h', hv⟩ := Option.isSome_iff_exists.mp hs
  rw [hv]
  exact je_put D0_65 rfl (by decide) (by decide) hv
theorem D0_68 : decode (jt_code 0) 68 = .ok (.aload_n 0, 1) := by decide +kernel
theorem E0_68 {call : jv_F} {l1 : Option Value} {a : Nat} {st : List Value} {h : jv_H} : jv_ev call 0 68 [some (.ref a), l1] st h = jv_ev call 0 69 [some (.ref a), l1] (.ref a :: st) h := je_aload_n (r := some a) D0_68 rfl rfl
theorem D0_69 : decode (jt_code 0) 69 = .ok (.sipush 1536, 3) := by decide +kernel
theorem E0_69 {call : jv_F} {l0 l1 : Option Value}  {st : List Value} {h : jv_H} : jv_ev call 0 69 [l0, l1] st h = jv_ev call 0 72 [l0, l1] (.int (nI 1536) :: st) h := je_sipush D0_69 rfl (by decide)
theorem D0_72 : decode (jt_code 0) 72 = .ok (.newarray .int, 2) := by decide +kernel
theorem E0_72 {call : jv_F} {l0 l1 : Option Value} {k : Nat} {st : List Value} {h : jv_H} (hk : k ≤ 100000) : jv_ev call 0 72 [l0, l1] (.int (nI k) :: st) h = jv_ev call 0 74 [l0, l1] (.ref h.2.1 :: st) (jv_newa h 0 k (.int 0)) := je_newarray D0_72 rfl (by decide) (by decide) (nI_pos (by omega)) (nI_clamp (by omega)) hk rfl
theorem D0_74 : decode (jt_code 0) 74 = .ok (.putfield 36, 3) := by decide +kernel
theorem E0_74 {call : jv_F} {l0 l1 : Option Value} {a : Nat} {v : Value} {st : List Value} {h : jv_H} (hs : (jv_pf h a 0 11 v).isSome = true) : jv_ev call 0 74 [l0, l1] (v :: .ref a :: st) h = jv_ev call 0 77 [l0, l1] st ((jv_pf h a 0 11 v).getD h) := by
  obtain ⟨h', hv⟩ := Option.isSome_iff_exists.mp hs
  rw [hv]
  exact je_put D0_74 rfl (by decide) (by decide) hv
theorem D0_77 : decode (jt_code 0) 77 = .ok (.aload_n 0, 1) := by decide +kernel
theorem E0_77 {call : jv_F} {l1 : Option Value} {a : Nat} {st : List Value} {h : jv_H} : jv_ev call 0 77 [some (.ref a), l1] st h = jv_ev call 0 78 [some (.ref a), l1] (.ref a :: st) h := je_aload_n (r := some a) D0_77 rfl rfl
theorem D0_78 : decode (jt_code 0) 78 = .ok (.sipush 12288, 3) := by decide +kernel
theorem E0_78 {call : jv_F} {l0 l1 : Option Value}  {st : List Value} {h : jv_H} : jv_ev call 0 78 [l0, l1] st h = jv_ev call 0 81 [l0, l1] (.int (nI 12288) :: st) h := je_sipush D0_78 rfl (by decide)
theorem D0_81 : decode (jt_code 0) 81 = .ok (.newarray .long, 2) := by decide +kernel
theorem E0_81 {call : jv_F} {l0 l1 : Option Value} {k : Nat} {st : List Value} {h : jv_H} (hk : k ≤ 100000) : jv_ev call 0 81 [l0, l1] (.int (nI k) :: st) h = jv_ev call 0 83 [l0, l1] (.ref h.2.1 :: st) (jv_newa h 1 k (.long 0)) := je_newarray D0_81 rfl (by decide) (by decide) (nI_pos (by omega)) (nI_clamp (by omega)) hk rfl
theorem D0_83 : decode (jt_code 0) 83 = .ok (.putfield 39, 3) := by decide +kernel
theorem E0_83 {call : jv_F} {l0 l1 : Option Value} {a : Nat} {v : Value} {st : List Value} {h : jv_H} (hs : (jv_pf h a 0 12 v).isSome = true) : jv_ev call 0 83 [l0, l1] (v :: .ref a :: st) h = jv_ev call 0 86 [l0, l1] st ((jv_pf h a 0 12 v).getD h) := by
  obtain ⟨h', hv⟩ := Option.isSome_iff_exists.mp hs
  rw [hv]
  exact je_put D0_83 rfl (by decide) (by decide) hv
theorem D0_86 : decode (jt_code 0) 86 = .ok (.aload_n 0, 1) := by decide +kernel
theorem E0_86 {call : jv_F} {l1 : Option Value} {a : Nat} {st : List Value} {h : jv_H} : jv_ev call 0 86 [some (.ref a), l1] st h = jv_ev call 0 87 [some (.ref a), l1] (.ref a :: st) h := je_aload_n (r := some a) D0_86 rfl rfl
theorem D0_87 : decode (jt_code 0) 87 = .ok (.sipush 24000, 3) := by decide +kernel
theorem E0_87 {call : jv_F} {l0 l1 : Option Value}  {st : List Value} {h : jv_H} : jv_ev call 0 87 [l0, l1] st h = jv_ev call 0 90 [l0, l1] (.int (nI 24000) :: st) h := je_sipush D0_87 rfl (by decide)
theorem D0_90 : decode (jt_code 0) 90 = .ok (.newarray .int, 2) := by decide +kernel
theorem E0_90 {call : jv_F} {l0 l1 : Option Value} {k : Nat} {st : List Value} {h : jv_H} (hk : k ≤ 100000) : jv_ev call 0 90 [l0, l1] (.int (nI k) :: st) h = jv_ev call 0 92 [l0, l1] (.ref h.2.1 :: st) (jv_newa h 0 k (.int 0)) := je_newarray D0_90 rfl (by decide) (by decide) (nI_pos (by omega)) (nI_clamp (by omega)) hk rfl
theorem D0_92 : decode (jt_code 0) 92 = .ok (.putfield 42, 3) := by decide +kernel
theorem E0_92 {call : jv_F} {l0 l1 : Option Value} {a : Nat} {v : Value} {st : List Value} {h : jv_H} (hs : (jv_pf h a 0 13 v).isSome = true) : jv_ev call 0 92 [l0, l1] (v :: .ref a :: st) h = jv_ev call 0 95 [l0, l1] st ((jv_pf h a 0 13 v).getD h) := by
  obtain ⟨h', hv⟩ := Option.isSome_iff_exists.mp hs
  rw [hv]
  exact je_put D0_92 rfl (by decide) (by decide) hv
theorem D0_95 : decode (jt_code 0) 95 = .ok (.aload_n 0, 1) := by decide +kernel
theorem E0_95 {call : jv_F} {l1 : Option Value} {a : Nat} {st : List Value} {h : jv_H} : jv_ev call 0 95 [some (.ref a), l1] st h = jv_ev call 0 96 [some (.ref a), l1] (.ref a :: st) h := je_aload_n (r := some a) D0_95 rfl rfl
theorem D0_96 : decode (jt_code 0) 96 = .ok (.bipush 12, 2) := by decide +kernel
theorem E0_96 {call : jv_F} {l0 l1 : Option Value}  {st : List Value} {h : jv_H} : jv_ev call 0 96 [l0, l1] st h = jv_ev call 0 98 [l0, l1] (.int (nI 12) :: st) h := je_bipush D0_96 rfl (by decide)
theorem D0_98 : decode (jt_code 0) 98 = .ok (.newarray .int, 2) := by decide +kernel
theorem E0_98 {call : jv_F} {l0 l1 : Option Value} {k : Nat} {st : List Value} {h : jv_H} (hk : k ≤ 100000) : jv_ev call 0 98 [l0, l1] (.int (nI k) :: st) h = jv_ev call 0 100 [l0, l1] (.ref h.2.1 :: st) (jv_newa h 0 k (.int 0)) := je_newarray D0_98 rfl (by decide) (by decide) (nI_pos (by omega)) (nI_clamp (by omega)) hk rfl
theorem D0_100 : decode (jt_code 0) 100 = .ok (.putfield 45, 3) := by decide +kernel
theorem E0_100 {call : jv_F} {l0 l1 : Option Value} {a : Nat} {v : Value} {st : List Value} {h : jv_H} (hs : (jv_pf h a 0 14 v).isSome = true) : jv_ev call 0 100 [l0, l1] (v :: .ref a :: st) h = jv_ev call 0 103 [l0, l1] st ((jv_pf h a 0 14 v).getD h) := by
  obtain ⟨h', hv⟩ := Option.isSome_iff_exists.mp hs
  rw [hv]
  exact je_put D0_100 rfl (by decide) (by decide) hv
theorem D0_103 : decode (jt_code 0) 103 = .ok (.aload_n 0, 1) := by decide +kernel
theorem E0_103 {call : jv_F} {l1 : Option Value} {a : Nat} {st : List Value} {h : jv_H} : jv_ev call 0 103 [some (.ref a), l1] st h = jv_ev call 0 104 [some (.ref a), l1] (.ref a :: st) h := je_aload_n (r := some a) D0_103 rfl rfl
theorem D0_104 : decode (jt_code 0) 104 = .ok (.bipush 12, 2) := by decide +kernel
theorem E0_104 {call : jv_F} {l0 l1 : Option Value}  {st : List Value} {h : jv_H} : jv_ev call 0 104 [l0, l1] st h = jv_ev call 0 106 [l0, l1] (.int (nI 12) :: st) h := je_bipush D0_104 rfl (by decide)
theorem D0_106 : decode (jt_code 0) 106 = .ok (.newarray .int, 2) := by decide +kernel
theorem E0_106 {call : jv_F} {l0 l1 : Option Value} {k : Nat} {st : List Value} {h : jv_H} (hk : k ≤ 100000) : jv_ev call 0 106 [l0, l1] (.int (nI k) :: st) h = jv_ev call 0 108 [l0, l1] (.ref h.2.1 :: st) (jv_newa h 0 k (.int 0)) := je_newarray D0_106 rfl (by decide) (by decide) (nI_pos (by omega)) (nI_clamp (by omega)) hk rfl
theorem D0_108 : decode (jt_code 0) 108 = .ok (.putfield 48, 3) := by decide +kernel
theorem E0_108 {call : jv_F} {l0 l1 : Option Value} {a : Nat} {v : Value} {st : List Value} {h : jv_H} (hs : (jv_pf h a 0 15 v).isSome = true) : jv_ev call 0 108 [l0, l1] (v :: .ref a :: st) h = jv_ev call 0 111 [l0, l1] st ((jv_pf h a 0 15 v).getD h) := by
  obtain ⟨h', hv⟩ := Option.isSome_iff_exists.mp hs
  rw [hv]
  exact je_put D0_108 rfl (by decide) (by decide) hv
theorem D0_111 : decode (jt_code 0) 111 = .ok (.aload_n 0, 1) := by decide +kernel
theorem E0_111 {call : jv_F} {l1 : Option Value} {a : Nat} {st : List Value} {h : jv_H} : jv_ev call 0 111 [some (.ref a), l1] st h = jv_ev call 0 112 [some (.ref a), l1] (.ref a :: st) h := je_aload_n (r := some a) D0_111 rfl rfl
theorem D0_112 : decode (jt_code 0) 112 = .ok (.sipush 4800, 3) := by decide +kernel
theorem E0_112 {call : jv_F} {l0 l1 : Option Value}  {st : List Value} {h : jv_H} : jv_ev call 0 112 [l0, l1] st h = jv_ev call 0 115 [l0, l1] (.int (nI 4800) :: st) h := je_sipush D0_112 rfl (by decide)
theorem D0_115 : decode (jt_code 0) 115 = .ok (.newarray .int, 2) := by decide +kernel
theorem E0_115 {call : jv_F} {l0 l1 : Option Value} {k : Nat} {st : List Value} {h : jv_H} (hk : k ≤ 100000) : jv_ev call 0 115 [l0, l1] (.int (nI k) :: st) h = jv_ev call 0 117 [l0, l1] (.ref h.2.1 :: st) (jv_newa h 0 k (.int 0)) := je_newarray D0_115 rfl (by decide) (by decide) (nI_pos (by omega)) (nI_clamp (by omega)) hk rfl
theorem D0_117 : decode (jt_code 0) 117 = .ok (.putfield 51, 3) := by decide +kernel
theorem E0_117 {call : jv_F} {l0 l1 : Option Value} {a : Nat} {v : Value} {st : List Value} {h : jv_H} (hs : (jv_pf h a 0 16 v).isSome = true) : jv_ev call 0 117 [l0, l1] (v :: .ref a :: st) h = jv_ev call 0 120 [l0, l1] st ((jv_pf h a 0 16 v).getD h) := by
  obtain ⟨h', hv⟩ := Option.isSome_iff_exists.mp hs
  rw [hv]
  exact je_put D0_117 rfl (by decide) (by decide) hv
theorem D0_120 : decode (jt_code 0) 120 = .ok (.aload_n 0, 1) := by decide +kernel
theorem E0_120 {call : jv_F} {l1 : Option Value} {a : Nat} {st : List Value} {h : jv_H} : jv_ev call 0 120 [some (.ref a), l1] st h = jv_ev call 0 121 [some (.ref a), l1] (.ref a :: st) h := je_aload_n (r := some a) D0_120 rfl rfl
theorem D0_121 : decode (jt_code 0) 121 = .ok (.bipush 12, 2) := by decide +kernel
theorem E0_121 {call : jv_F} {l0 l1 : Option Value}  {st : List Value} {h : jv_H} : jv_ev call 0 121 [l0, l1] st h = jv_ev call 0 123 [l0, l1] (.int (nI 12) :: st) h := je_bipush D0_121 rfl (by decide)
theorem D0_123 : decode (jt_code 0) 123 = .ok (.newarray .int, 2) := by decide +kernel
theorem E0_123 {call : jv_F} {l0 l1 : Option Value} {k : Nat} {st : List Value} {h : jv_H} (hk : k ≤ 100000) : jv_ev call 0 123 [l0, l1] (.int (nI k) :: st) h = jv_ev call 0 125 [l0, l1] (.ref h.2.1 :: st) (jv_newa h 0 k (.int 0)) := je_newarray D0_123 rfl (by decide) (by decide) (nI_pos (by omega)) (nI_clamp (by omega)) hk rfl
theorem D0_125 : decode (jt_code 0) 125 = .ok (.putfield 54, 3) := by decide +kernel
theorem E0_125 {call : jv_F} {l0 l1 : Option Value} {a : Nat} {v : Value} {st : List Value} {h : jv_H} (hs : (jv_pf h a 0 17 v).isSome = true) : jv_ev call 0 125 [l0, l1] (v :: .ref a :: st) h = jv_ev call 0 128 [l0, l1] st ((jv_pf h a 0 17 v).getD h) := by
  obtain ⟨h', hv⟩ := Option.isSome_iff_exists.mp hs
  rw [hv]
  exact je_put D0_125 rfl (by decide) (by decide) hv
theorem D0_128 : decode (jt_code 0) 128 = .ok (.aload_n 0, 1) := by decide +kernel
theorem E0_128 {call : jv_F} {l1 : Option Value} {a : Nat} {st : List Value} {h : jv_H} : jv_ev call 0 128 [some (.ref a), l1] st h = jv_ev call 0 129 [some (.ref a), l1] (.ref a :: st) h := je_aload_n (r := some a) D0_128 rfl rfl
theorem D0_129 : decode (jt_code 0) 129 = .ok (.bipush 12, 2) := by decide +kernel
theorem E0_129 {call : jv_F} {l0 l1 : Option Value}  {st : List Value} {h : jv_H} : jv_ev call 0 129 [l0, l1] st h = jv_ev call 0 131 [l0, l1] (.int (nI 12) :: st) h := je_bipush D0_129 rfl (by decide)
theorem D0_131 : decode (jt_code 0) 131 = .ok (.newarray .int, 2) := by decide +kernel
theorem E0_131 {call : jv_F} {l0 l1 : Option Value} {k : Nat} {st : List Value} {h : jv_H} (hk : k ≤ 100000) : jv_ev call 0 131 [l0, l1] (.int (nI k) :: st) h = jv_ev call 0 133 [l0, l1] (.ref h.2.1 :: st) (jv_newa h 0 k (.int 0)) := je_newarray D0_131 rfl (by decide) (by decide) (nI_pos (by omega)) (nI_clamp (by omega)) hk rfl
theorem D0_133 : decode (jt_code 0) 133 = .ok (.putfield 57, 3) := by decide +kernel
theorem E0_133 {call : jv_F} {l0 l1 : Option Value} {a : Nat} {v : Value} {st : List Value} {h : jv_H} (hs : (jv_pf h a 0 18 v).isSome = true) : jv_ev call 0 133 [l0, l1] (v :: .ref a :: st) h = jv_ev call 0 136 [l0, l1] st ((jv_pf h a 0 18 v).getD h) := by
  obtain ⟨h', hv⟩ := Option.isSome_iff_exists.mp hs
  rw [hv]
  exact je_put D0_133 rfl (by decide) (by decide) hv
theorem D0_136 : decode (jt_code 0) 136 = .ok (.aload_n 0, 1) := by decide +kernel
theorem E0_136 {call : jv_F} {l1 : Option Value} {a : Nat} {st : List Value} {h : jv_H} : jv_ev call 0 136 [some (.ref a), l1] st h = jv_ev call 0 137 [some (.ref a), l1] (.ref a :: st) h := je_aload_n (r := some a) D0_136 rfl rfl
theorem D0_137 : decode (jt_code 0) 137 = .ok (.bipush 12, 2) := by decide +kernel
theorem E0_137 {call : jv_F} {l0 l1 : Option Value}  {st : List Value} {h : jv_H} : jv_ev call 0 137 [l0, l1] st h = jv_ev call 0 139 [l0, l1] (.int (nI 12) :: st) h := je_bipush D0_137 rfl (by decide)
theorem D0_139 : decode (jt_code 0) 139 = .ok (.newarray .int, 2) := by decide +kernel
theorem E0_139 {call : jv_F} {l0 l1 : Option Value} {k : Nat} {st : List Value} {h : jv_H} (hk : k ≤ 100000) : jv_ev call 0 139 [l0, l1] (.int (nI k) :: st) h = jv_ev call 0 141 [l0, l1] (.ref h.2.1 :: st) (jv_newa h 0 k (.int 0)) := je_newarray D0_139 rfl (by decide) (by decide) (nI_pos (by omega)) (nI_clamp (by omega)) hk rfl
theorem D0_141 : decode (jt_code 0) 141 = .ok (.putfield 60, 3) := by decide +kernel
theorem E0_141 {call : jv_F} {l0 l1 : Option Value} {a : Nat} {v : Value} {st : List Value} {h : jv_H} (hs : (jv_pf h a 0 19 v).isSome = true) : jv_ev call 0 141 [l0, l1] (v :: .ref a :: st) h = jv_ev call 0 144 [l0, l1] st ((jv_pf h a 0 19 v).getD h) := by
  obtain ⟨h', hv⟩ := Option.isSome_iff_exists.mp hs
  rw [hv]
  exact je_put D0_141 rfl (by decide) (by decide) hv
theorem D0_144 : decode (jt_code 0) 144 = .ok (.aload_n 0, 1) := by decide +kernel
theorem E0_144 {call : jv_F} {l1 : Option Value} {a : Nat} {st : List Value} {h : jv_H} : jv_ev call 0 144 [some (.ref a), l1] st h = jv_ev call 0 145 [some (.ref a), l1] (.ref a :: st) h := je_aload_n (r := some a) D0_144 rfl rfl
theorem D0_145 : decode (jt_code 0) 145 = .ok (.sipush 768, 3) := by decide +kernel
theorem E0_145 {call : jv_F} {l0 l1 : Option Value}  {st : List Value} {h : jv_H} : jv_ev call 0 145 [l0, l1] st h = jv_ev call 0 148 [l0, l1] (.int (nI 768) :: st) h := je_sipush D0_145 rfl (by decide)
theorem D0_148 : decode (jt_code 0) 148 = .ok (.newarray .boolean, 2) := by decide +kernel
theorem E0_148 {call : jv_F} {l0 l1 : Option Value} {k : Nat} {st : List Value} {h : jv_H} (hk : k ≤ 100000) : jv_ev call 0 148 [l0, l1] (.int (nI k) :: st) h = jv_ev call 0 150 [l0, l1] (.ref h.2.1 :: st) (jv_newa h 2 k (.int 0)) := je_newarray D0_148 rfl (by decide) (by decide) (nI_pos (by omega)) (nI_clamp (by omega)) hk rfl
theorem D0_150 : decode (jt_code 0) 150 = .ok (.putfield 63, 3) := by decide +kernel
theorem E0_150 {call : jv_F} {l0 l1 : Option Value} {a : Nat} {v : Value} {st : List Value} {h : jv_H} (hs : (jv_pf h a 0 20 v).isSome = true) : jv_ev call 0 150 [l0, l1] (v :: .ref a :: st) h = jv_ev call 0 153 [l0, l1] st ((jv_pf h a 0 20 v).getD h) := by
  obtain ⟨h', hv⟩ := Option.isSome_iff_exists.mp hs
  rw [hv]
  exact je_put D0_150 rfl (by decide) (by decide) hv
theorem D0_153 : decode (jt_code 0) 153 = .ok (.aload_n 0, 1) := by decide +kernel
theorem E0_153 {call : jv_F} {l1 : Option Value} {a : Nat} {st : List Value} {h : jv_H} : jv_ev call 0 153 [some (.ref a), l1] st h = jv_ev call 0 154 [some (.ref a), l1] (.ref a :: st) h := je_aload_n (r := some a) D0_153 rfl rfl
theorem D0_154 : decode (jt_code 0) 154 = .ok (.sipush 768, 3) := by decide +kernel
theorem E0_154 {call : jv_F} {l0 l1 : Option Value}  {st : List Value} {h : jv_H} : jv_ev call 0 154 [l0, l1] st h = jv_ev call 0 157 [l0, l1] (.int (nI 768) :: st) h := je_sipush D0_154 rfl (by decide)
theorem D0_157 : decode (jt_code 0) 157 = .ok (.newarray .int, 2) := by decide +kernel
theorem E0_157 {call : jv_F} {l0 l1 : Option Value} {k : Nat} {st : List Value} {h : jv_H} (hk : k ≤ 100000) : jv_ev call 0 157 [l0, l1] (.int (nI k) :: st) h = jv_ev call 0 159 [l0, l1] (.ref h.2.1 :: st) (jv_newa h 0 k (.int 0)) := je_newarray D0_157 rfl (by decide) (by decide) (nI_pos (by omega)) (nI_clamp (by omega)) hk rfl
theorem D0_159 : decode (jt_code 0) 159 = .ok (.putfield 67, 3) := by decide +kernel
theorem E0_159 {call : jv_F} {l0 l1 : Option Value} {a : Nat} {v : Value} {st : List Value} {h : jv_H} (hs : (jv_pf h a 0 21 v).isSome = true) : jv_ev call 0 159 [l0, l1] (v :: .ref a :: st) h = jv_ev call 0 162 [l0, l1] st ((jv_pf h a 0 21 v).getD h) := by
  obtain ⟨h', hv⟩ := Option.isSome_iff_exists.mp hs
  rw [hv]
  exact je_put D0_159 rfl (by decide) (by decide) hv
theorem D0_162 : decode (jt_code 0) 162 = .ok (.aload_n 0, 1) := by decide +kernel
theorem E0_162 {call : jv_F} {l1 : Option Value} {a : Nat} {st : List Value} {h : jv_H} : jv_ev call 0 162 [some (.ref a), l1] st h = jv_ev call 0 163 [some (.ref a), l1] (.ref a :: st) h := je_aload_n (r := some a) D0_162 rfl rfl
theorem D0_163 : decode (jt_code 0) 163 = .ok (.bipush 17, 2) := by decide +kernel
theorem E0_163 {call : jv_F} {l0 l1 : Option Value}  {st : List Value} {h : jv_H} : jv_ev call 0 163 [l0, l1] st h = jv_ev call 0 165 [l0, l1] (.int (nI 17) :: st) h := je_bipush D0_163 rfl (by decide)
theorem D0_165 : decode (jt_code 0) 165 = .ok (.newarray .int, 2) := by decide +kernel
theorem E0_165 {call : jv_F} {l0 l1 : Option Value} {k : Nat} {st : List Value} {h : jv_H} (hk : k ≤ 100000) : jv_ev call 0 165 [l0, l1] (.int (nI k) :: st) h = jv_ev call 0 167 [l0, l1] (.ref h.2.1 :: st) (jv_newa h 0 k (.int 0)) := je_newarray D0_165 rfl (by decide) (by decide) (nI_pos (by omega)) (nI_clamp (by omega)) hk rfl
theorem D0_167 : decode (jt_code 0) 167 = .ok (.putfield 70, 3) := by decide +kernel
theorem E0_167 {call : jv_F} {l0 l1 : Option Value} {a : Nat} {v : Value} {st : List Value} {h : jv_H} (hs : (jv_pf h a 0 23 v).isSome = true) : jv_ev call 0 167 [l0, l1] (v :: .ref a :: st) h = jv_ev call 0 170 [l0, l1] st ((jv_pf h a 0 23 v).getD h) := by
  obtain ⟨h', hv⟩ := Option.isSome_iff_exists.mp hs
  rw [hv]
  exact je_put D0_167 rfl (by decide) (by decide) hv
theorem D0_170 : decode (jt_code 0) 170 = .ok (.aload_n 0, 1) := by decide +kernel
theorem E0_170 {call : jv_F} {l1 : Option Value} {a : Nat} {st : List Value} {h : jv_H} : jv_ev call 0 170 [some (.ref a), l1] st h = jv_ev call 0 171 [some (.ref a), l1] (.ref a :: st) h := je_aload_n (r := some a) D0_170 rfl rfl
theorem D0_171 : decode (jt_code 0) 171 = .ok (.bipush 17, 2) := by decide +kernel
theorem E0_171 {call : jv_F} {l0 l1 : Option Value}  {st : List Value} {h : jv_H} : jv_ev call 0 171 [l0, l1] st h = jv_ev call 0 173 [l0, l1] (.int (nI 17) :: st) h := je_bipush D0_171 rfl (by decide)
theorem D0_173 : decode (jt_code 0) 173 = .ok (.newarray .int, 2) := by decide +kernel
theorem E0_173 {call : jv_F} {l0 l1 : Option Value} {k : Nat} {st : List Value} {h : jv_H} (hk : k ≤ 100000) : jv_ev call 0 173 [l0, l1] (.int (nI k) :: st) h = jv_ev call 0 175 [l0, l1] (.ref h.2.1 :: st) (jv_newa h 0 k (.int 0)) := je_newarray D0_173 rfl (by decide) (by decide) (nI_pos (by omega)) (nI_clamp (by omega)) hk rfl
theorem D0_175 : decode (jt_code 0) 175 = .ok (.putfield 73, 3) := by decide +kernel
theorem E0_175 {call : jv_F} {l0 l1 : Option Value} {a : Nat} {v : Value} {st : List Value} {h : jv_H} (hs : (jv_pf h a 0 24 v).isSome = true) : jv_ev call 0 175 [l0, l1] (v :: .ref a :: st) h = jv_ev call 0 178 [l0, l1] st ((jv_pf h a 0 24 v).getD h) := by
  obtain ⟨h', hv⟩ := Option.isSome_iff_exists.mp hs
  rw [hv]
  exact je_put D0_175 rfl (by decide) (by decide) hv
theorem D0_178 : decode (jt_code 0) 178 = .ok (.aload_n 0, 1) := by decide +kernel
theorem E0_178 {call : jv_F} {l1 : Option Value} {a : Nat} {st : List Value} {h : jv_H} : jv_ev call 0 178 [some (.ref a), l1] st h = jv_ev call 0 179 [some (.ref a), l1] (.ref a :: st) h := je_aload_n (r := some a) D0_178 rfl rfl
theorem D0_179 : decode (jt_code 0) 179 = .ok (.bipush 17, 2) := by decide +kernel
theorem E0_179 {call : jv_F} {l0 l1 : Option Value}  {st : List Value} {h : jv_H} : jv_ev call 0 179 [l0, l1] st h = jv_ev call 0 181 [l0, l1] (.int (nI 17) :: st) h := je_bipush D0_179 rfl (by decide)
theorem D0_181 : decode (jt_code 0) 181 = .ok (.newarray .int, 2) := by decide +kernel
theorem E0_181 {call : jv_F} {l0 l1 : Option Value} {k : Nat} {st : List Value} {h : jv_H} (hk : k ≤ 100000) : jv_ev call 0 181 [l0, l1] (.int (nI k) :: st) h = jv_ev call 0 183 [l0, l1] (.ref h.2.1 :: st) (jv_newa h 0 k (.int 0)) := je_newarray D0_181 rfl (by decide) (by decide) (nI_pos (by omega)) (nI_clamp (by omega)) hk rfl
theorem D0_183 : decode (jt_code 0) 183 = .ok (.putfield 76, 3) := by decide +kernel
theorem E0_183 {call : jv_F} {l0 l1 : Option Value} {a : Nat} {v : Value} {st : List Value} {h : jv_H} (hs : (jv_pf h a 0 25 v).isSome = true) : jv_ev call 0 183 [l0, l1] (v :: .ref a :: st) h = jv_ev call 0 186 [l0, l1] st ((jv_pf h a 0 25 v).getD h) := by
  obtain ⟨h', hv⟩ := Option.isSome_iff_exists.mp hs
  rw [hv]
  exact je_put D0_183 rfl (by decide) (by decide) hv
theorem D0_186 : decode (jt_code 0) 186 = .ok (.aload_n 0, 1) := by decide +kernel
theorem E0_186 {call : jv_F} {l1 : Option Value} {a : Nat} {st : List Value} {h : jv_H} : jv_ev call 0 186 [some (.ref a), l1] st h = jv_ev call 0 187 [some (.ref a), l1] (.ref a :: st) h := je_aload_n (r := some a) D0_186 rfl rfl
theorem D0_187 : decode (jt_code 0) 187 = .ok (.bipush 17, 2) := by decide +kernel
theorem E0_187 {call : jv_F} {l0 l1 : Option Value}  {st : List Value} {h : jv_H} : jv_ev call 0 187 [l0, l1] st h = jv_ev call 0 189 [l0, l1] (.int (nI 17) :: st) h := je_bipush D0_187 rfl (by decide)
theorem D0_189 : decode (jt_code 0) 189 = .ok (.newarray .boolean, 2) := by decide +kernel
theorem E0_189 {call : jv_F} {l0 l1 : Option Value} {k : Nat} {st : List Value} {h : jv_H} (hk : k ≤ 100000) : jv_ev call 0 189 [l0, l1] (.int (nI k) :: st) h = jv_ev call 0 191 [l0, l1] (.ref h.2.1 :: st) (jv_newa h 2 k (.int 0)) := je_newarray D0_189 rfl (by decide) (by decide) (nI_pos (by omega)) (nI_clamp (by omega)) hk rfl
theorem D0_191 : decode (jt_code 0) 191 = .ok (.putfield 79, 3) := by decide +kernel
theorem E0_191 {call : jv_F} {l0 l1 : Option Value} {a : Nat} {v : Value} {st : List Value} {h : jv_H} (hs : (jv_pf h a 0 26 v).isSome = true) : jv_ev call 0 191 [l0, l1] (v :: .ref a :: st) h = jv_ev call 0 194 [l0, l1] st ((jv_pf h a 0 26 v).getD h) := by
  obtain ⟨h', hv⟩ := Option.isSome_iff_exists.mp hs
  rw [hv]
  exact je_put D0_191 rfl (by decide) (by decide) hv
theorem D0_194 : decode (jt_code 0) 194 = .ok (.aload_n 0, 1) := by decide +kernel
theorem E0_194 {call : jv_F} {l1 : Option Value} {a : Nat} {st : List Value} {h : jv_H} : jv_ev call 0 194 [some (.ref a), l1] st h = jv_ev call 0 195 [some (.ref a), l1] (.ref a :: st) h := je_aload_n (r := some a) D0_194 rfl rfl
theorem D0_195 : decode (jt_code 0) 195 = .ok (.bipush 17, 2) := by decide +kernel
theorem E0_195 {call : jv_F} {l0 l1 : Option Value}  {st : List Value} {h : jv_H} : jv_ev call 0 195 [l0, l1] st h = jv_ev call 0 197 [l0, l1] (.int (nI 17) :: st) h := je_bipush D0_195 rfl (by decide)
theorem D0_197 : decode (jt_code 0) 197 = .ok (.newarray .boolean, 2) := by decide +kernel
theorem E0_197 {call : jv_F} {l0 l1 : Option Value} {k : Nat} {st : List Value} {h : jv_H} (hk : k ≤ 100000) : jv_ev call 0 197 [l0, l1] (.int (nI k) :: st) h = jv_ev call 0 199 [l0, l1] (.ref h.2.1 :: st) (jv_newa h 2 k (.int 0)) := je_newarray D0_197 rfl (by decide) (by decide) (nI_pos (by omega)) (nI_clamp (by omega)) hk rfl
theorem D0_199 : decode (jt_code 0) 199 = .ok (.putfield 82, 3) := by decide +kernel
theorem E0_199 {call : jv_F} {l0 l1 : Option Value} {a : Nat} {v : Value} {st : List Value} {h : jv_H} (hs : (jv_pf h a 0 27 v).isSome = true) : jv_ev call 0 199 [l0, l1] (v :: .ref a :: st) h = jv_ev call 0 202 [l0, l1] st ((jv_pf h a 0 27 v).getD h) := by
  obtain ⟨h', hv⟩ := Option.isSome_iff_exists.mp hs
  rw [hv]
  exact je_put D0_199 rfl (by decide) (by decide) hv
theorem D0_202 : decode (jt_code 0) 202 = .ok (.aload_n 0, 1) := by decide +kernel
theorem E0_202 {call : jv_F} {l1 : Option Value} {a : Nat} {st : List Value} {h : jv_H} : jv_ev call 0 202 [some (.ref a), l1] st h = jv_ev call 0 203 [some (.ref a), l1] (.ref a :: st) h := je_aload_n (r := some a) D0_202 rfl rfl
theorem D0_203 : decode (jt_code 0) 203 = .ok (.bipush 64, 2) := by decide +kernel
theorem E0_203 {call : jv_F} {l0 l1 : Option Value}  {st : List Value} {h : jv_H} : jv_ev call 0 203 [l0, l1] st h = jv_ev call 0 205 [l0, l1] (.int (nI 64) :: st) h := je_bipush D0_203 rfl (by decide)
theorem D0_205 : decode (jt_code 0) 205 = .ok (.newarray .int, 2) := by decide +kernel
theorem E0_205 {call : jv_F} {l0 l1 : Option Value} {k : Nat} {st : List Value} {h : jv_H} (hk : k ≤ 100000) : jv_ev call 0 205 [l0, l1] (.int (nI k) :: st) h = jv_ev call 0 207 [l0, l1] (.ref h.2.1 :: st) (jv_newa h 0 k (.int 0)) := je_newarray D0_205 rfl (by decide) (by decide) (nI_pos (by omega)) (nI_clamp (by omega)) hk rfl
theorem D0_207 : decode (jt_code 0) 207 = .ok (.putfield 85, 3) := by decide +kernel
theorem E0_207 {call : jv_F} {l0 l1 : Option Value} {a : Nat} {v : Value} {st : List Value} {h : jv_H} (hs : (jv_pf h a 0 28 v).isSome = true) : jv_ev call 0 207 [l0, l1] (v :: .ref a :: st) h = jv_ev call 0 210 [l0, l1] st ((jv_pf h a 0 28 v).getD h) := by
  obtain ⟨h', hv⟩ := Option.isSome_iff_exists.mp hs
  rw [hv]
  exact je_put D0_207 rfl (by decide) (by decide) hv
theorem D0_210 : decode (jt_code 0) 210 = .ok (.aload_n 0, 1) := by decide +kernel
theorem E0_210 {call : jv_F} {l1 : Option Value} {a : Nat} {st : List Value} {h : jv_H} : jv_ev call 0 210 [some (.ref a), l1] st h = jv_ev call 0 211 [some (.ref a), l1] (.ref a :: st) h := je_aload_n (r := some a) D0_210 rfl rfl
theorem D0_211 : decode (jt_code 0) 211 = .ok (.bipush 18, 2) := by decide +kernel
theorem E0_211 {call : jv_F} {l0 l1 : Option Value}  {st : List Value} {h : jv_H} : jv_ev call 0 211 [l0, l1] st h = jv_ev call 0 213 [l0, l1] (.int (nI 18) :: st) h := je_bipush D0_211 rfl (by decide)
theorem D0_213 : decode (jt_code 0) 213 = .ok (.newarray .int, 2) := by decide +kernel
theorem E0_213 {call : jv_F} {l0 l1 : Option Value} {k : Nat} {st : List Value} {h : jv_H} (hk : k ≤ 100000) : jv_ev call 0 213 [l0, l1] (.int (nI k) :: st) h = jv_ev call 0 215 [l0, l1] (.ref h.2.1 :: st) (jv_newa h 0 k (.int 0)) := je_newarray D0_213 rfl (by decide) (by decide) (nI_pos (by omega)) (nI_clamp (by omega)) hk rfl
theorem D0_215 : decode (jt_code 0) 215 = .ok (.putfield 88, 3) := by decide +kernel
theorem E0_215 {call : jv_F} {l0 l1 : Option Value} {a : Nat} {v : Value} {st : List Value} {h : jv_H} (hs : (jv_pf h a 0 29 v).isSome = true) : jv_ev call 0 215 [l0, l1] (v :: .ref a :: st) h = jv_ev call 0 218 [l0, l1] st ((jv_pf h a 0 29 v).getD h) := by
  obtain ⟨h', hv⟩ := Option.isSome_iff_exists.mp hs
  rw [hv]
  exact je_put D0_215 rfl (by decide) (by decide) hv
theorem D0_218 : decode (jt_code 0) 218 = .ok (.aload_n 0, 1) := by decide +kernel
theorem E0_218 {call : jv_F} {l1 : Option Value} {a : Nat} {st : List Value} {h : jv_H} : jv_ev call 0 218 [some (.ref a), l1] st h = jv_ev call 0 219 [some (.ref a), l1] (.ref a :: st) h := je_aload_n (r := some a) D0_218 rfl rfl
theorem D0_219 : decode (jt_code 0) 219 = .ok (.bipush 18, 2) := by decide +kernel
theorem E0_219 {call : jv_F} {l0 l1 : Option Value}  {st : List Value} {h : jv_H} : jv_ev call 0 219 [l0, l1] st h = jv_ev call 0 221 [l0, l1] (.int (nI 18) :: st) h := je_bipush D0_219 rfl (by decide)
theorem D0_221 : decode (jt_code 0) 221 = .ok (.newarray .int, 2) := by decide +kernel
theorem E0_221 {call : jv_F} {l0 l1 : Option Value} {k : Nat} {st : List Value} {h : jv_H} (hk : k ≤ 100000) : jv_ev call 0 221 [l0, l1] (.int (nI k) :: st) h = jv_ev call 0 223 [l0, l1] (.ref h.2.1 :: st) (jv_newa h 0 k (.int 0)) := je_newarray D0_221 rfl (by decide) (by decide) (nI_pos (by omega)) (nI_clamp (by omega)) hk rfl
theorem D0_223 : decode (jt_code 0) 223 = .ok (.putfield 91, 3) := by decide +kernel
theorem E0_223 {call : jv_F} {l0 l1 : Option Value} {a : Nat} {v : Value} {st : List Value} {h : jv_H} (hs : (jv_pf h a 0 30 v).isSome = true) : jv_ev call 0 223 [l0, l1] (v :: .ref a :: st) h = jv_ev call 0 226 [l0, l1] st ((jv_pf h a 0 30 v).getD h) := by
  obtain ⟨h', hv⟩ := Option.isSome_iff_exists.mp hs
  rw [hv]
  exact je_put D0_223 rfl (by decide) (by decide) hv
theorem D0_226 : decode (jt_code 0) 226 = .ok (.aload_n 0, 1) := by decide +kernel
theorem E0_226 {call : jv_F} {l1 : Option Value} {a : Nat} {st : List Value} {h : jv_H} : jv_ev call 0 226 [some (.ref a), l1] st h = jv_ev call 0 227 [some (.ref a), l1] (.ref a :: st) h := je_aload_n (r := some a) D0_226 rfl rfl
theorem D0_227 : decode (jt_code 0) 227 = .ok (.iconst (-1), 1) := by decide +kernel
theorem E0_227 {call : jv_F} {l0 l1 : Option Value}  {st : List Value} {h : jv_H} : jv_ev call 0 227 [l0, l1] st h = jv_ev call 0 228 [l0, l1] (.int (-1) :: st) h := je_iconst D0_227 rfl (by decide)
theorem D0_228 : decode (jt_code 0) 228 = .ok (.putfield 94, 3) := by decide +kernel
theorem E0_228 {call : jv_F} {l0 l1 : Option Value} {a : Nat} {v : Value} {st : List Value} {h : jv_H} (hs : (jv_pf h a 0 37 v).isSome = true) : jv_ev call 0 228 [l0, l1] (v :: .ref a :: st) h = jv_ev call 0 231 [l0, l1] st ((jv_pf h a 0 37 v).getD h) := by
  obtain ⟨h', hv⟩ := Option.isSome_iff_exists.mp hs
  rw [hv]
  exact je_put D0_228 rfl (by decide) (by decide) hv
theorem D0_231 : decode (jt_code 0) 231 = .ok (.iconst 0, 1) := by decide +kernel
theorem E0_231 {call : jv_F} {l0 l1 : Option Value}  {st : List Value} {h : jv_H} : jv_ev call 0 231 [l0, l1] st h = jv_ev call 0 232 [l0, l1] (.int (nI 0) :: st) h := je_iconst D0_231 rfl (by decide)
theorem D0_232 : decode (jt_code 0) 232 = .ok (.istore_n 1, 1) := by decide +kernel
theorem E0_232 {call : jv_F} {l0 l1 : Option Value} {x : Int32} {st : List Value} {h : jv_H} (hk : ¬ jv_is2 (some l0) = true) : jv_ev call 0 232 [l0, l1] (.int x :: st) h = jv_ev call 0 233 [l0, some (.int x)] st h := je_istore_n D0_232 rfl (Nat.le_of_ble_eq_true rfl) (by show jv_st1 _ 1 _ = _; simp only [jv_st1, jv_kill, List.getElem?_cons_succ, List.getElem?_cons_zero, hk, if_false]; rfl)
theorem D0_233 : decode (jt_code 0) 233 = .ok (.iload_n 1, 1) := by decide +kernel
theorem E0_233 {call : jv_F} {l0 : Option Value} {x : Int32} {st : List Value} {h : jv_H} : jv_ev call 0 233 [l0, some (.int x)] st h = jv_ev call 0 234 [l0, some (.int x)] (.int x :: st) h := je_iload_n D0_233 rfl rfl
theorem D0_234 : decode (jt_code 0) 234 = .ok (.bipush 17, 2) := by decide +kernel
theorem E0_234 {call : jv_F} {l0 l1 : Option Value}  {st : List Value} {h : jv_H} : jv_ev call 0 234 [l0, l1] st h = jv_ev call 0 236 [l0, l1] (.int (nI 17) :: st) h := je_bipush D0_234 rfl (by decide)
theorem D0_236 : decode (jt_code 0) 236 = .ok (.if_icmp .ge 16, 3) := by decide +kernel
theorem E0_236 {call : jv_F} {l0 l1 : Option Value} {x y : Int32} {st : List Value} {h : jv_H} : jv_ev call 0 236 [l0, l1] (.int y :: .int x :: st) h = if y ≤ x then jv_ev call 0 252 [l0, l1] st h else jv_ev call 0 239 [l0, l1] st h := je_icmp D0_236 (by decide) rfl rfl
theorem D0_239 : decode (jt_code 0) 239 = .ok (.aload_n 0, 1) := by decide +kernel
theorem E0_239 {call : jv_F} {l1 : Option Value} {a : Nat} {st : List Value} {h : jv_H} : jv_ev call 0 239 [some (.ref a), l1] st h = jv_ev call 0 240 [some (.ref a), l1] (.ref a :: st) h := je_aload_n (r := some a) D0_239 rfl rfl
theorem D0_240 : decode (jt_code 0) 240 = .ok (.getfield 70, 3) := by decide +kernel
theorem E0_240 {call : jv_F} {l0 l1 : Option Value}  {st : List Value} {m : Nat} {I : Nat → Int32} {A : Nat → Nat → Int32} {L : Nat → Nat → Int64} {rest : Nat → Option jv_C} {z : Nat × Nat} : jv_ev call 0 240 [l0, l1] (.ref m :: st) (jm_H m I A L rest z) = jv_ev call 0 243 [l0, l1] (.ref (m + 19) :: st) (jm_H m I A L rest z) := je_get D0_240 rfl (by decide) jm_g23
theorem D0_243 : decode (jt_code 0) 243 = .ok (.iload_n 1, 1) := by decide +kernel
theorem E0_243 {call : jv_F} {l0 : Option Value} {x : Int32} {st : List Value} {h : jv_H} : jv_ev call 0 243 [l0, some (.int x)] st h = jv_ev call 0 244 [l0, some (.int x)] (.int x :: st) h := je_iload_n D0_243 rfl rfl
theorem D0_244 : decode (jt_code 0) 244 = .ok (.iconst (-1), 1) := by decide +kernel
theorem E0_244 {call : jv_F} {l0 l1 : Option Value}  {st : List Value} {h : jv_H} : jv_ev call 0 244 [l0, l1] st h = jv_ev call 0 245 [l0, l1] (.int (-1) :: st) h := je_iconst D0_244 rfl (by decide)
theorem D0_245 : decode (jt_code 0) 245 = .ok (.iastore, 1) := by decide +kernel
theorem E0_245 {call : jv_F} {l0 l1 : Option Value} {i : Nat} {v : Int32} {st : List Value} {m : Nat} {I : Nat → Int32} {A : Nat → Nat → Int32} {L : Nat → Nat → Int64} {rest : Nat → Option jv_C} {z : Nat × Nat} (hi : i < 17) : jv_ev call 0 245 [l0, l1] (.int v :: .int (nI i) :: .ref (m + 19) :: st) (jm_H m I A L rest z) = jv_ev call 0 246 [l0, l1] st (jm_H m I (va_up A 23 (upd (A 23) i v)) L rest z) := je_iast D0_245 rfl (jm_s23 hi)
theorem D0_246 : decode (jt_code 0) 246 = .ok (.iinc 1 1, 3) := by decide +kernel
theorem E0_246 {call : jv_F} {l0 : Option Value} {x : Int32} {st : List Value} {h : jv_H} (hk : ¬ jv_is2 (some l0) = true) : jv_ev call 0 246 [l0, some (.int x)] st h = jv_ev call 0 249 [l0, some (.int (x + (nI 1)))] st h := je_iinc D0_246 rfl rfl (v := x + (nI 1)) (by rfl) (by show jv_st1 _ 1 _ = _; simp only [jv_st1, jv_kill, List.getElem?_cons_succ, List.getElem?_cons_zero, hk, if_false]; rfl)
theorem D0_249 : decode (jt_code 0) 249 = .ok (.goto (-16), 3) := by decide +kernel
theorem E0_249 {call : jv_F} {l0 l1 : Option Value}  {st : List Value} {h : jv_H} : jv_ev call 0 249 [l0, l1] st h = jv_ev call 0 233 [l0, l1] st h := je_goto D0_249 (by decide)
theorem D0_252 : decode (jt_code 0) 252 = .ok (.iconst 0, 1) := by decide +kernel
theorem E0_252 {call : jv_F} {l0 l1 : Option Value}  {st : List Value} {h : jv_H} : jv_ev call 0 252 [l0, l1] st h = jv_ev call 0 253 [l0, l1] (.int (nI 0) :: st) h := je_iconst D0_252 rfl (by decide)
theorem D0_253 : decode (jt_code 0) 253 = .ok (.istore_n 1, 1) := by decide +kernel
theorem E0_253 {call : jv_F} {l0 l1 : Option Value} {x : Int32} {st : List Value} {h : jv_H} (hk : ¬ jv_is2 (some l0) = true) : jv_ev call 0 253 [l0, l1] (.int x :: st) h = jv_ev call 0 254 [l0, some (.int x)] st h := je_istore_n D0_253 rfl (Nat.le_of_ble_eq_true rfl) (by show jv_st1 _ 1 _ = _; simp only [jv_st1, jv_kill, List.getElem?_cons_succ, List.getElem?_cons_zero, hk, if_false]; rfl)
theorem D0_254 : decode (jt_code 0) 254 = .ok (.iload_n 1, 1) := by decide +kernel
theorem E0_254 {call : jv_F} {l0 : Option Value} {x : Int32} {st : List Value} {h : jv_H} : jv_ev call 0 254 [l0, some (.int x)] st h = jv_ev call 0 255 [l0, some (.int x)] (.int x :: st) h := je_iload_n D0_254 rfl rfl
theorem D0_255 : decode (jt_code 0) 255 = .ok (.bipush 64, 2) := by decide +kernel
theorem E0_255 {call : jv_F} {l0 l1 : Option Value}  {st : List Value} {h : jv_H} : jv_ev call 0 255 [l0, l1] st h = jv_ev call 0 257 [l0, l1] (.int (nI 64) :: st) h := je_bipush D0_255 rfl (by decide)
theorem D0_257 : decode (jt_code 0) 257 = .ok (.if_icmp .ge 16, 3) := by decide +kernel
theorem E0_257 {call : jv_F} {l0 l1 : Option Value} {x y : Int32} {st : List Value} {h : jv_H} : jv_ev call 0 257 [l0, l1] (.int y :: .int x :: st) h = if y ≤ x then jv_ev call 0 273 [l0, l1] st h else jv_ev call 0 260 [l0, l1] st h := je_icmp D0_257 (by decide) rfl rfl
theorem D0_260 : decode (jt_code 0) 260 = .ok (.aload_n 0, 1) := by decide +kernel
theorem E0_260 {call : jv_F} {l1 : Option Value} {a : Nat} {st : List Value} {h : jv_H} : jv_ev call 0 260 [some (.ref a), l1] st h = jv_ev call 0 261 [some (.ref a), l1] (.ref a :: st) h := je_aload_n (r := some a) D0_260 rfl rfl
theorem D0_261 : decode (jt_code 0) 261 = .ok (.getfield 85, 3) := by decide +kernel
theorem E0_261 {call : jv_F} {l0 l1 : Option Value}  {st : List Value} {m : Nat} {I : Nat → Int32} {A : Nat → Nat → Int32} {L : Nat → Nat → Int64} {rest : Nat → Option jv_C} {z : Nat × Nat} : jv_ev call 0 261 [l0, l1] (.ref m :: st) (jm_H m I A L rest z) = jv_ev call 0 264 [l0, l1] (.ref (m + 24) :: st) (jm_H m I A L rest z) := je_get D0_261 rfl (by decide) jm_g28
theorem D0_264 : decode (jt_code 0) 264 = .ok (.iload_n 1, 1) := by decide +kernel
theorem E0_264 {call : jv_F} {l0 : Option Value} {x : Int32} {st : List Value} {h : jv_H} : jv_ev call 0 264 [l0, some (.int x)] st h = jv_ev call 0 265 [l0, some (.int x)] (.int x :: st) h := je_iload_n D0_264 rfl rfl
theorem D0_265 : decode (jt_code 0) 265 = .ok (.iconst (-1), 1) := by decide +kernel
theorem E0_265 {call : jv_F} {l0 l1 : Option Value}  {st : List Value} {h : jv_H} : jv_ev call 0 265 [l0, l1] st h = jv_ev call 0 266 [l0, l1] (.int (-1) :: st) h := je_iconst D0_265 rfl (by decide)
theorem D0_266 : decode (jt_code 0) 266 = .ok (.iastore, 1) := by decide +kernel
theorem E0_266 {call : jv_F} {l0 l1 : Option Value} {i : Nat} {v : Int32} {st : List Value} {m : Nat} {I : Nat → Int32} {A : Nat → Nat → Int32} {L : Nat → Nat → Int64} {rest : Nat → Option jv_C} {z : Nat × Nat} (hi : i < 64) : jv_ev call 0 266 [l0, l1] (.int v :: .int (nI i) :: .ref (m + 24) :: st) (jm_H m I A L rest z) = jv_ev call 0 267 [l0, l1] st (jm_H m I (va_up A 28 (upd (A 28) i v)) L rest z) := je_iast D0_266 rfl (jm_s28 hi)
theorem D0_267 : decode (jt_code 0) 267 = .ok (.iinc 1 1, 3) := by decide +kernel
theorem E0_267 {call : jv_F} {l0 : Option Value} {x : Int32} {st : List Value} {h : jv_H} (hk : ¬ jv_is2 (some l0) = true) : jv_ev call 0 267 [l0, some (.int x)] st h = jv_ev call 0 270 [l0, some (.int (x + (nI 1)))] st h := je_iinc D0_267 rfl rfl (v := x + (nI 1)) (by rfl) (by show jv_st1 _ 1 _ = _; simp only [jv_st1, jv_kill, List.getElem?_cons_succ, List.getElem?_cons_zero, hk, if_false]; rfl)
theorem D0_270 : decode (jt_code 0) 270 = .ok (.goto (-16), 3) := by decide +kernel
theorem E0_270 {call : jv_F} {l0 l1 : Option Value}  {st : List Value} {h : jv_H} : jv_ev call 0 270 [l0, l1] st h = jv_ev call 0 254 [l0, l1] st h := je_goto D0_270 (by decide)
theorem D0_273 : decode (jt_code 0) 273 = .ok (.return_, 1) := by decide +kernel
theorem E0_273 {call : jv_F} {l0 l1 : Option Value}  {h : jv_H} : jv_ev call 0 273 [l0, l1] [] h = some (none, h) := je_ret D0_273 rfl
end
section
/-! the reference's small methods, as functions of its numbers and rows -/
section JL
variable {d m : Nat} {I : Nat → Int32} {A : Nat → Nat → Int32} {L : Nat → Nat → Int64} {rest : Nat → Option jv_C} {z : Nat × Nat} {call : jv_F}
def jq_w48 (v : Int64) : Int64 := (v <<< ((nI 16).toInt64 &&& 63)) >>> ((nI 16).toInt64 &&& 63)
def jq_w24 (v : Int64) : Int32 := (v.toInt32 <<< (nI 8 &&& 31)) >>> (nI 8 &&& 31)
theorem jx_word48 {v : Int64} {h : jv_H} : jv_run (d + 1) 1 [.long v] h = some (some (.long (jq_w48 v)), h) := by
  rw [N1]
  simp only [E1_0, E1_1, E1_3, E1_4, E1_6, E1_7, jq_w48]
theorem jx_word24 {v : Int64} {h : jv_H} : jv_run (d + 1) 2 [.long v] h = some (some (.int (jq_w24 v)), h) := by
  rw [N2]
  simp only [E2_0, E2_1, E2_2, E2_4, E2_5, E2_7, E2_8, jq_w24]
theorem jx_frames {f : Int32} : jv_run (d + 1) 3 [.ref m, .int f] (jm_H m I A L rest z) = if f < nI 3 ∨ nI 17 < f ∨ ¬ I 5 ≤ 0 then some (some (.int (-1)), jm_H m I A L rest z) else some (some (.int f), jm_H m (upd I 0 f) A L rest z) := by
  rw [N3]
  simp only [E3_0, E3_1, E3_2, E3_5, E3_6, E3_8, E3_11, E3_12, E3_15, E3_18, E3_19, E3_20, E3_21, E3_22, E3_25, E3_26]
  by_cases h1 : f < nI 3
  · simp only [h1, if_true, true_or]
  · by_cases h2 : nI 17 < f
    · simp only [h1, h2, if_true, if_false, true_or, false_or]
    · by_cases h3 : I 5 ≤ 0
      · simp only [h1, h2, h3, if_true, if_false, not_true, or_self]
      · simp only [h1, h2, h3, if_true, if_false, not_false_eq_true, or_true]
theorem jx_exist {k : Nat} (hk : k < 768) : jv_run (d + 1) 7 [.ref m, .int (nI k)] (jm_H m I A L rest z) = some (none, jm_H m (upd I 22 (I 22 + nI 1)) (va_up A 20 (upd (A 20) k (nI 1))) L rest z) := by
  rw [N7]
  simp (disch := first | omega | exact id rfl | exact jd_i | exact jd_r | exact jd_n | exact jd_f | decide) only [E7_0, E7_1, E7_4, E7_5, E7_6, E7_7, E7_8, E7_8i, E7_9, E7_12, E7_13, E7_14, E7_17]
theorem jx_vanish {k : Nat} (hk : k < 768) : jv_run (d + 1) 22 [.ref m, .int (nI k)] (jm_H m I A L rest z) = some (none, jm_H m (upd I 22 (I 22 - nI 1)) (va_up A 20 (upd (A 20) k (nI 0))) L rest z) := by
  rw [N22]
  simp (disch := first | omega | exact id rfl | exact jd_i | exact jd_r | exact jd_n | exact jd_f | decide) only [E22_0, E22_1, E22_4, E22_5, E22_6, E22_7, E22_8, E22_8i, E22_9, E22_12, E22_13, E22_14, E22_17]
/-- the first of t places from i on that holds k -/
def jq_fi (f : Nat → Int32) (k : Int32) : Nat → Nat → Option Nat
  | _, 0 => none
  | i, t + 1 => if f i = k then some i else jq_fi f k (i + 1) t
def jq_o (o : Option Nat) : Int32 := match o with
  | none => -1
  | some q => nI q
def jq_b (b : Bool) : Int32 := if b then nI 1 else nI 0
theorem jx_frameOf_l {k : Int32} {n : Nat} (hn : n ≤ 17) (hI : I 0 = nI n) : ∀ (t i : Nat), i + t = n → jv_ev call 8 2 [some (.ref m), some (.int k), some (.int (nI i))] [] (jm_H m I A L rest z) = some (some (.int (jq_o (jq_fi (A 23) k i t))), jm_H m I A L rest z)
  | 0, i, hi => by
    rw [E8_2]
    simp (disch := first | omega | exact id rfl | exact jd_i | exact jd_r | exact jd_n | exact jd_f | decide) only [E8_0, E8_1, E8_3, E8_4, E8_7, E8_10, E8_11, E8_14, E8_15, E8_16, E8_17, E8_20, E8_21, E8_22, E8_25, E8_28, E8_29, hI, nI_leI, if_pos (show n ≤ i by omega), jq_fi, jq_o]
  | t + 1, i, hi => by
    rw [E8_2]
    simp (disch := first | omega | exact id rfl | exact jd_i | exact jd_r | exact jd_n | exact jd_f | decide) only [E8_0, E8_1, E8_3, E8_4, E8_7, E8_10, E8_11, E8_14, E8_15, E8_16, E8_17, E8_20, E8_21, E8_22, E8_25, E8_28, E8_29, hI, nI_leI, if_neg (show ¬ n ≤ i by omega), jq_fi, nI_add, jx_frameOf_l hn hI t (i + 1) (by omega), ite_not]
    by_cases h1 : A 23 i = k <;> simp only [h1, if_true, if_false, jq_o]
theorem jx_frameOf {k : Int32} {n : Nat} (hn : n ≤ 17) (hI : I 0 = nI n) : jv_run (d + 1) 8 [.ref m, .int k] (jm_H m I A L rest z) = some (some (.int (jq_o (jq_fi (A 23) k 0 n))), jm_H m I A L rest z) := by
  rw [N8]
  simp (disch := first | omega | exact id rfl | exact jd_i | exact jd_r | exact jd_n | exact jd_f | decide) only [E8_0, E8_1, jx_frameOf_l hn hI n 0 (Nat.zero_add n)]
theorem jx_sectorOf_l {k : Int32} : ∀ (t i : Nat), i + t = 64 → jv_ev call 9 2 [some (.ref m), some (.int k), some (.int (nI i))] [] (jm_H m I A L rest z) = some (some (.int (jq_o (jq_fi (A 28) k i t))), jm_H m I A L rest z)
  | 0, i, hi => by
    rw [E9_2]
    simp (disch := first | omega | exact id rfl | exact jd_i | exact jd_r | exact jd_n | exact jd_f | decide) only [E9_0, E9_1, E9_3, E9_5, E9_8, E9_9, E9_12, E9_13, E9_14, E9_15, E9_18, E9_19, E9_20, E9_23, E9_26, E9_27, nI_leI, if_pos (show 64 ≤ i by omega), jq_fi, jq_o]
  | t + 1, i, hi => by
    rw [E9_2]
    simp (disch := first | omega | exact id rfl | exact jd_i | exact jd_r | exact jd_n | exact jd_f | decide) only [E9_0, E9_1, E9_3, E9_5, E9_8, E9_9, E9_12, E9_13, E9_14, E9_15, E9_18, E9_19, E9_20, E9_23, E9_26, E9_27, nI_leI, if_neg (show ¬ 64 ≤ i by omega), jq_fi, nI_add, jx_sectorOf_l t (i + 1) (by omega), ite_not]
    by_cases h1 : A 28 i = k <;> simp only [h1, if_true, if_false, jq_o]
theorem jx_sectorOf {k : Int32} : jv_run (d + 1) 9 [.ref m, .int k] (jm_H m I A L rest z) = some (some (.int (jq_o (jq_fi (A 28) k 0 64))), jm_H m I A L rest z) := by
  rw [N9]
  simp (disch := first | omega | exact id rfl | exact jd_i | exact jd_r | exact jd_n | exact jd_f | decide) only [E9_0, E9_1, jx_sectorOf_l 64 0 rfl]
theorem jx_freeFrame {n : Nat} (hn : n ≤ 17) (hI : I 0 = nI n) : jv_run (d + 2) 10 [.ref m] (jm_H m I A L rest z) = some (some (.int (jq_o (jq_fi (A 23) (-1) 0 n))), jm_H m I A L rest z) := by
  rw [N10]
  simp (disch := first | omega | exact id rfl | exact jd_i | exact jd_r | exact jd_n | exact jd_f | decide | (simp (disch := omega) only [jx_frameOf hn hI, Option.isSome_some])) only [jx_frameOf hn hI, Option.isSome_some, Option.getD_some, Option.toList_some, Option.toList_none, List.cons_append, List.nil_append, E10_0, E10_1, E10_2, E10_5]
def jq_cnt (f : Nat → Int32) : Nat → Nat
  | 0 => 0
  | n + 1 => jq_cnt f n + if f n = 0 then 1 else 0
theorem jx_notEnded_l {n : Nat} (hn : n ≤ 12) (hI : I 5 = nI n) : ∀ (t i : Nat), i + t = n → jv_ev call 11 4 [some (.ref m), some (.int (nI (jq_cnt (A 8) i))), some (.int (nI i))] [] (jm_H m I A L rest z) = some (some (.int (nI (jq_cnt (A 8) n))), jm_H m I A L rest z)
  | 0, i, hi => by
    have e : i = n := by omega
    subst e
    rw [E11_4]
    simp (disch := first | omega | exact id rfl | exact jd_i | exact jd_r | exact jd_n | exact jd_f | decide) only [E11_0, E11_1, E11_2, E11_3, E11_5, E11_6, E11_9, E11_12, E11_13, E11_14, E11_17, E11_18, E11_19, E11_22, E11_23, E11_26, E11_27, E11_28, E11_29, E11_32, E11_35, E11_36, hI, nI_leI, if_pos (Nat.le_refl i)]
  | t + 1, i, hi => by
    have ih := jx_notEnded_l hn hI t (i + 1) (by omega)
    rw [E11_4]
    simp (disch := first | omega | exact id rfl | exact jd_i | exact jd_r | exact jd_n | exact jd_f | decide) only [E11_0, E11_1, E11_2, E11_3, E11_5, E11_6, E11_9, E11_12, E11_13, E11_14, E11_17, E11_18, E11_19, E11_22, E11_23, E11_26, E11_27, E11_28, E11_29, E11_32, E11_35, E11_36, hI, nI_leI, if_neg (show ¬ n ≤ i by omega), ite_not, nI_add]
    by_cases h1 : A 8 i = 0
    · rw [jq_cnt, if_pos h1] at ih
      rw [if_pos h1]
      exact ih
    · rw [jq_cnt, if_neg h1] at ih
      rw [if_neg h1]
      exact ih
theorem jx_notEnded {n : Nat} (hn : n ≤ 12) (hI : I 5 = nI n) : jv_run (d + 1) 11 [.ref m] (jm_H m I A L rest z) = some (some (.int (nI (jq_cnt (A 8) n))), jm_H m I A L rest z) := by
  rw [N11]
  simp (disch := first | omega | exact id rfl | exact jd_i | exact jd_r | exact jd_n | exact jd_f | decide) only [E11_0, E11_1, E11_2, E11_3]
  exact jx_notEnded_l hn hI n 0 (Nat.zero_add n)
def jq_act (A : Nat → Nat → Int32) (n j : Nat) : Bool := decide (A 8 j = 0) && decide (jq_cnt (A 8) j < (n - 1) / 2)
theorem jq_b_t : jq_b true = nI 1 := rfl
theorem jq_b_f : jq_b false = nI 0 := rfl
theorem jq_cnt_le (f : Nat → Int32) : ∀ n, jq_cnt f n ≤ n
  | 0 => Nat.le_refl 0
  | n + 1 => by have := jq_cnt_le f n; unfold jq_cnt; split <;> omega
theorem jx_isActive_l {j : Nat} {n : Nat} (hj : j < 12) (hn : 1 ≤ n ∧ n ≤ 17) (hI : I 0 = nI n) : ∀ (t i : Nat), i + t = j → jv_ev call 12 15 [some (.ref m), some (.int (nI j)), some (.int (nI (jq_cnt (A 8) i))), some (.int (nI i))] [] (jm_H m I A L rest z) = some (some (.int (jq_b (decide (jq_cnt (A 8) j < (n - 1) / 2)))), jm_H m I A L rest z)
  | 0, i, hi => by
    have e : i = j := by omega
    subst e
    have hc := jq_cnt_le (A 8) i
    rw [E12_15]
    have e2 : nI n - nI 1 = nI (n - 1) := pk_sub hn.1
    have e3 : nI (n - 1) / nI 2 = nI ((n - 1) / 2) := pk_div (by omega) (by decide) (by decide)
    simp (disch := first | omega | exact id rfl | exact jd_i | exact jd_r | exact jd_n | exact jd_f | decide) only [E12_0, E12_1, E12_4, E12_5, E12_6, E12_9, E12_10, E12_11, E12_12, E12_13, E12_14, E12_16, E12_17, E12_20, E12_21, E12_22, E12_25, E12_26, E12_27, E12_30, E12_31, E12_34, E12_35, E12_36, E12_37, E12_40, E12_43, E12_44, E12_45, E12_48, E12_49, E12_50, E12_51, E12_52, E12_55, E12_56, E12_59, E12_60, hI, nI_leI, if_pos (Nat.le_refl i), e2, e3]
    by_cases h1 : (n - 1) / 2 ≤ jq_cnt (A 8) i
    · rw [if_pos h1, decide_eq_false (by omega)]
      rfl
    · rw [if_neg h1, decide_eq_true (by omega)]
      rfl
  | t + 1, i, hi => by
    have ih := jx_isActive_l hj hn hI t (i + 1) (by omega)
    rw [E12_15]
    simp (disch := first | omega | exact id rfl | exact jd_i | exact jd_r | exact jd_n | exact jd_f | decide) only [E12_0, E12_1, E12_4, E12_5, E12_6, E12_9, E12_10, E12_11, E12_12, E12_13, E12_14, E12_16, E12_17, E12_20, E12_21, E12_22, E12_25, E12_26, E12_27, E12_30, E12_31, E12_34, E12_35, E12_36, E12_37, E12_40, E12_43, E12_44, E12_45, E12_48, E12_49, E12_50, E12_51, E12_52, E12_55, E12_56, E12_59, E12_60, nI_leI, if_neg (show ¬ j ≤ i by omega), ite_not, nI_add]
    by_cases h1 : A 8 i = 0
    · rw [jq_cnt, if_pos h1] at ih
      rw [if_pos h1]
      exact ih
    · rw [jq_cnt, if_neg h1] at ih
      rw [if_neg h1]
      exact ih
theorem jx_isActive {j : Nat} {n : Nat} (hj : j < 12) (hn : 1 ≤ n ∧ n ≤ 17) (hI : I 0 = nI n) : jv_run (d + 1) 12 [.ref m, .int (nI j)] (jm_H m I A L rest z) = some (some (.int (jq_b (jq_act A n j))), jm_H m I A L rest z) := by
  rw [N12]
  simp (disch := first | omega | exact id rfl | exact jd_i | exact jd_r | exact jd_n | exact jd_f | decide) only [E12_0, E12_1, E12_4, E12_5, E12_6, E12_9, E12_10, E12_11, E12_12, E12_13, E12_14]
  by_cases h1 : A 8 j = 0
  · rw [if_pos h1]
    have := jx_isActive_l (call := jv_run d) (m := m) (I := I) (A := A) (L := L) (rest := rest) (z := z) hj hn hI j 0 (Nat.zero_add j)
    simp only [jq_act, h1, decide_true, Bool.true_and]
    exact this
  · rw [if_neg h1]
    simp only [jq_act, h1, decide_false, Bool.false_and]
    rfl
theorem jx_isAddress {a : Int32} {h : jv_H} : jv_run (d + 1) 14 [.int a] h = some (some (.int (jq_b (decide (¬ a < 0 ∧ ¬ nI 1024 ≤ a)))), h) := by
  rw [N14]
  simp (disch := first | omega | exact id rfl | exact jd_i | exact jd_r | exact jd_n | exact jd_f | decide) only [E14_0, E14_1, E14_4, E14_5, E14_8, E14_11, E14_12, E14_15, E14_16]
  by_cases h1 : a < 0
  · simp only [h1, if_true, not_true, false_and, decide_false]
    rfl
  · by_cases h2 : nI 1024 ≤ a
    · simp only [h1, h2, if_true, if_false, not_true, and_false, decide_false]
      rfl
    · simp only [h1, h2, if_false, not_false_eq_true, and_self, decide_true]
      rfl
theorem jx_blockOf {j a : Int32} {h : jv_H} : jv_run (d + 1) 15 [.int j, .int a] h = some (some (.int (nI 64 * j + a / nI 16)), h) := by
  rw [N15]
  simp (disch := decide) only [E15_0, E15_2, E15_3, E15_4, E15_5, E15_7, E15_8, E15_9]
theorem jx_clock : jv_run (d + 1) 55 [.ref m] (jm_H m I A L rest z) = some (some (.int (I 36)), jm_H m I A L rest z) := by
  rw [N55]
  simp (disch := first | omega | exact id rfl | exact jd_i | exact jd_r | exact jd_n | exact jd_f | decide) only [E55_0, E55_1, E55_4]
def jq_isJob (n : Nat) (j : Int32) : Bool := decide (¬ j < 0 ∧ j < nI n)
theorem jx_isJob {j : Int32} {n : Nat} (hI : I 5 = nI n) : jv_run (d + 1) 48 [.ref m, .int j] (jm_H m I A L rest z) = some (some (.int (jq_b (jq_isJob n j))), jm_H m I A L rest z) := by
  rw [N48]
  simp (disch := first | omega | exact id rfl | exact jd_i | exact jd_r | exact jd_n | exact jd_f | decide) only [E48_0, E48_1, E48_4, E48_5, E48_6, E48_9, E48_12, E48_13, E48_16, E48_17, hI]
  by_cases h1 : j < 0
  · simp only [h1, if_true, not_true, false_and, decide_false, jq_isJob]
    rfl
  · by_cases h2 : j < nI n
    · have h3 : ¬ nI n ≤ j := Int32.not_le.mpr h2
      simp only [h1, h2, h3, if_false, not_false_eq_true, and_self, decide_true, jq_isJob]
      rfl
    · have h3 : nI n ≤ j := Int32.not_lt.mp h2
      simp only [h1, h2, h3, if_true, if_false, and_false, decide_false, jq_isJob]
      rfl
end JL
end
section
/-! more of the reference's small methods -/
theorem jq_b0 (b : Bool) : (jq_b b = 0) = (b = false) := by cases b <;> decide
theorem jq_o0 (o : Option Nat) (ho : ∀ q, o = some q → q < 2 ^ 31) : (jq_o o < 0) = (o = none) := by
  cases o with
  | none => decide
  | some q =>
    have h1 : ¬ jq_o (some q) < 0 := nI_pos (ho q rfl)
    simp [h1]
theorem jq_fi_some {f : Nat → Int32} {k : Int32} : ∀ {t i q : Nat}, jq_fi f k i t = some q → i ≤ q ∧ q < i + t ∧ f q = k ∧ ∀ p, i ≤ p → p < q → ¬ f p = k
  | 0, i, q, h => by cases h
  | t + 1, i, q, h => by
    unfold jq_fi at h
    split at h
    · rename_i hk
      cases h
      exact ⟨Nat.le_refl _, by omega, hk, fun p h1 h2 => by omega⟩
    · rename_i hk
      obtain ⟨h1, h2, h3, h4⟩ := jq_fi_some h
      refine ⟨by omega, by omega, h3, fun p q1 q2 => ?_⟩
      by_cases hp : p = i
      · rw [hp]; exact hk
      · exact h4 p (by omega) q2
theorem jq_fi_none {f : Nat → Int32} {k : Int32} : ∀ {t i : Nat}, jq_fi f k i t = none → ∀ p, i ≤ p → p < i + t → ¬ f p = k
  | 0, i, h, p, h1, h2 => by omega
  | t + 1, i, h, p, h1, h2 => by
    unfold jq_fi at h
    split at h
    · cases h
    · rename_i hk
      by_cases hp : p = i
      · rw [hp]; exact hk
      · exact jq_fi_none h p (by omega) (by omega)
section JL2
variable {d m : Nat} {I : Nat → Int32} {A : Nat → Nat → Int32} {L : Nat → Nat → Int64} {rest : Nat → Option jv_C} {z : Nat × Nat} {call : jv_F}
def jq_leave (A : Nat → Nat → Int32) (f : Nat) : Nat → Nat → Int32 := va_up (va_up (va_up (va_up (va_up A 23 (upd (A 23) f (-1))) 26 (upd (A 26) f (nI 0))) 27 (upd (A 27) f (nI 0))) 24 (upd (A 24) f (nI 0))) 25 (upd (A 25) f (nI 0))
theorem jx_leave {f : Nat} (hf : f < 17) : jv_run (d + 1) 20 [.ref m, .int (nI f)] (jm_H m I A L rest z) = some (none, jm_H m I (jq_leave A f) L rest z) := by
  rw [N20]
  simp (disch := first | omega | exact id rfl | exact jd_i | exact jd_r | exact jd_n | exact jd_f | decide) only [E20_0, E20_1, E20_4, E20_5, E20_6, E20_7, E20_8, E20_11, E20_12, E20_13, E20_14, E20_15, E20_18, E20_19, E20_20, E20_21, E20_22, E20_25, E20_26, E20_27, E20_28, E20_29, E20_32, E20_33, E20_34, E20_35]
  rfl
def jq_ask (A : Nat → Nat → Int32) (n : Nat) (what : Int32) (f : Nat) : Nat → Nat → Int32 := va_up (va_up (va_up A 26 (upd (A 26) f (nI 1))) 29 (upd (A 29) n what)) 30 (upd (A 30) n (nI f))
theorem jx_ask {what : Int32} {f n : Nat} (hf : f < 17) (hn : n < 18) (hI : I 31 = nI n) : jv_run (d + 1) 25 [.ref m, .int what, .int (nI f)] (jm_H m I A L rest z) = some (none, jm_H m (upd I 31 (nI (n + 1))) (jq_ask A n what f) L rest z) := by
  rw [N25]
  simp (disch := first | omega | exact id rfl | exact jd_i | exact jd_r | exact jd_n | exact jd_f | decide) only [E25_0, E25_1, E25_4, E25_5, E25_6, E25_7, E25_8, E25_11, E25_12, E25_15, E25_16, E25_17, E25_18, E25_21, E25_22, E25_25, E25_26, E25_27, E25_28, E25_28i, E25_29, E25_32, E25_33, E25_34, E25_37, hI, nI_add]
  rfl
def jq_sh (f : Nat → Int32) (k n : Nat) : Nat → Int32 := fun i => if k ≤ i ∧ i < n then f (i + 1) else f i
theorem jq_sh_0 (f : Nat → Int32) (k : Nat) : jq_sh f k k = f := by funext i; unfold jq_sh; rw [if_neg (by omega)]
theorem jq_sh_s (f : Nat → Int32) {k i : Nat} (h : k ≤ i) : upd (jq_sh f k i) i (jq_sh f k i (i + 1)) = jq_sh f k (i + 1) := by
  funext j
  unfold upd jq_sh
  by_cases hj : j = i
  · subst hj; rw [if_pos rfl, if_neg (by omega), if_pos (by omega)]
  · rw [if_neg hj]
    by_cases h1 : k ≤ j ∧ j < i
    · rw [if_pos h1, if_pos (by omega)]
    · rw [if_neg h1, if_neg (by omega)]
def jq_drop (A : Nat → Nat → Int32) (k n : Nat) : Nat → Nat → Int32 := va_up (va_up A 29 (jq_sh (A 29) k n)) 30 (jq_sh (A 30) k n)
theorem jx_drop_l {k n : Nat} (hn : n < 17) (hI : I 31 = nI n) : ∀ (t i : Nat), k ≤ i → i + t = n → jv_ev call 26 12 [some (.ref m), some (.int (nI k)), some (.int (nI i))] [] (jm_H m I (jq_drop A k i) L rest z) = some (none, jm_H m I (jq_drop A k n) L rest z)
  | 0, i, hk, hi => by
    have e : i = n := by omega
    subst e
    rw [E26_12]
    simp (disch := first | omega | exact id rfl | exact jd_i | exact jd_r | exact jd_n | exact jd_f | decide) only [E26_0, E26_1, E26_1i, E26_2, E26_5, E26_6, E26_7, E26_10, E26_11, E26_13, E26_14, E26_17, E26_20, E26_21, E26_24, E26_25, E26_26, E26_29, E26_30, E26_31, E26_32, E26_33, E26_34, E26_35, E26_38, E26_39, E26_40, E26_43, E26_44, E26_45, E26_46, E26_47, E26_48, E26_51, E26_54, hI, nI_leI, if_pos (Nat.le_refl i)]
  | t + 1, i, hk, hi => by
    have ih := jx_drop_l (k := k) hn hI t (i + 1) (by omega) (by omega)
    rw [E26_12]
    simp (disch := first | omega | exact id rfl | exact jd_i | exact jd_r | exact jd_n | exact jd_f | decide) only [E26_0, E26_1, E26_1i, E26_2, E26_5, E26_6, E26_7, E26_10, E26_11, E26_13, E26_14, E26_17, E26_20, E26_21, E26_24, E26_25, E26_26, E26_29, E26_30, E26_31, E26_32, E26_33, E26_34, E26_35, E26_38, E26_39, E26_40, E26_43, E26_44, E26_45, E26_46, E26_47, E26_48, E26_51, E26_54, hI, nI_leI, if_neg (show ¬ n ≤ i by omega), nI_add]
    have e : (va_up (va_up (jq_drop A k i) 29 (upd (jq_drop A k i 29) i (jq_drop A k i 29 (i + 1)))) 30 (upd (va_up (jq_drop A k i) 29 (upd (jq_drop A k i 29) i (jq_drop A k i 29 (i + 1))) 30) i (va_up (jq_drop A k i) 29 (upd (jq_drop A k i 29) i (jq_drop A k i 29 (i + 1))) 30 (i + 1)))) = jq_drop A k (i + 1) := by
      funext q
      unfold jq_drop va_up
      by_cases h1 : q = 30
      · subst h1
        simp only [if_true, show ¬ (30 : Nat) = 29 by decide, if_false]
        exact jq_sh_s (A 30) hk
      · by_cases h2 : q = 29
        · subst h2
          simp only [if_true, show ¬ (29 : Nat) = 30 by decide, if_false]
          exact jq_sh_s (A 29) hk
        · simp only [h1, h2, if_false]
    rw [e]
    exact ih
theorem jx_drop {k n : Nat} (hk : k ≤ n) (hn : n < 17) (hI : I 31 = nI (n + 1)) : jv_run (d + 1) 26 [.ref m, .int (nI k)] (jm_H m I A L rest z) = some (none, jm_H m (upd I 31 (nI n)) (jq_drop A k n) L rest z) := by
  rw [N26]
  have e1 : nI (n + 1) - nI 1 = nI n := by rw [pk_sub (by omega)]; rfl
  simp (disch := first | omega | exact id rfl | exact jd_i | exact jd_r | exact jd_n | exact jd_f | decide) only [E26_0, E26_1, E26_2, E26_5, E26_6, E26_7, E26_10, E26_11, hI, e1]
  have e2 : jq_drop A k k = A := by
    funext q
    unfold jq_drop va_up
    by_cases h1 : q = 30
    · subst h1; simp only [if_true, jq_sh_0]
    · by_cases h2 : q = 29
      · subst h2; simp only [if_true, show ¬ (29 : Nat) = 30 by decide, if_false, jq_sh_0]
      · simp only [h1, h2, if_false]
  have := jx_drop_l (call := jv_run d) (m := m) (I := upd I 31 (nI n)) (A := A) (L := L) (rest := rest) (z := z) (k := k) hn rfl (n - k) k (Nat.le_refl k) (by omega)
  rw [e2] at this
  exact this
theorem jx_writeAsked_l {n : Nat} (hn : n ≤ 18) (hI : I 31 = nI n) : ∀ (t i : Nat), i + t = n → jv_ev call 19 2 [some (.ref m), some (.int (nI i))] [] (jm_H m I A L rest z) = some (some (.int (jq_b (jq_fi (A 29) (nI 2) i t).isSome)), jm_H m I A L rest z)
  | 0, i, hi => by
    rw [E19_2]
    simp (disch := first | omega | exact id rfl | exact jd_i | exact jd_r | exact jd_n | exact jd_f | decide) only [E19_0, E19_1, E19_3, E19_4, E19_7, E19_10, E19_11, E19_14, E19_15, E19_16, E19_17, E19_20, E19_21, E19_22, E19_25, E19_28, E19_29, hI, nI_leI, if_pos (show n ≤ i by omega), jq_fi, Option.isSome_none]
    rfl
  | t + 1, i, hi => by
    rw [E19_2]
    simp (disch := first | omega | exact id rfl | exact jd_i | exact jd_r | exact jd_n | exact jd_f | decide) only [E19_0, E19_1, E19_3, E19_4, E19_7, E19_10, E19_11, E19_14, E19_15, E19_16, E19_17, E19_20, E19_21, E19_22, E19_25, E19_28, E19_29, hI, nI_leI, if_neg (show ¬ n ≤ i by omega), jq_fi, nI_add, jx_writeAsked_l hn hI t (i + 1) (by omega), ite_not]
    by_cases h1 : A 29 i = nI 2 <;> simp only [h1, if_true, if_false, Option.isSome_some]
    rfl
theorem jx_writeAsked {n : Nat} (hn : n ≤ 18) (hI : I 31 = nI n) : jv_run (d + 1) 19 [.ref m] (jm_H m I A L rest z) = some (some (.int (jq_b (jq_fi (A 29) (nI 2) 0 n).isSome)), jm_H m I A L rest z) := by
  rw [N19]
  simp (disch := first | omega | exact id rfl | exact jd_i | exact jd_r | exact jd_n | exact jd_f | decide) only [E19_0, E19_1, jx_writeAsked_l hn hI n 0 (Nat.zero_add n)]
def jq_rdy (A : Nat → Nat → Int32) (n j : Nat) : Bool := if A 18 j = 0 then true else if A 18 j = nI 2 then (jq_fi (A 23) (-1) 0 n).isSome else match jq_fi (A 23) (A 19 j) 0 n with
  | none => true
  | some q => decide (A 26 q = 0)
theorem jx_isReady {j n : Nat} (hj : j < 12) (hn : n ≤ 17) (hI : I 0 = nI n) : jv_run (d + 3) 13 [.ref m, .int (nI j)] (jm_H m I A L rest z) = some (some (.int (jq_b (jq_rdy A n j))), jm_H m I A L rest z) := by
  rw [N13]
  simp (disch := first | omega | exact id rfl | exact jd_i | exact jd_r | exact jd_n | exact jd_f | decide | (simp (disch := omega) only [jx_frameOf hn hI, jx_freeFrame hn hI, Option.isSome_some])) only [jx_frameOf hn hI, jx_freeFrame hn hI, Option.isSome_some, Option.getD_some, Option.toList_some, Option.toList_none, List.cons_append, List.nil_append, E13_0, E13_1, E13_4, E13_5, E13_6, E13_9, E13_10, E13_11, E13_12, E13_15, E13_16, E13_17, E13_18, E13_21, E13_22, E13_25, E13_28, E13_29, E13_32, E13_33, E13_34, E13_35, E13_36, E13_39, E13_40, E13_41, E13_44, E13_45, E13_46, E13_49, E13_50, ite_not]
  unfold jq_rdy
  by_cases h1 : A 18 j = 0
  · rw [if_pos h1, if_pos h1]; rfl
  · rw [if_neg h1, if_neg h1]
    by_cases h2 : A 18 j = nI 2
    · rw [if_pos h2, if_pos h2]
      cases ho : jq_fi (A 23) (-1) 0 n with
      | none => rfl
      | some q =>
        have h3 := (jq_fi_some ho).2.1
        rw [if_neg (show ¬ jq_o (some q) < 0 from nI_pos (by omega))]
        rfl
    · rw [if_neg h2, if_neg h2]
      cases ho : jq_fi (A 23) (A 19 j) 0 n with
      | none =>
        rw [if_pos (show jq_o none < 0 by decide)]
        simp (disch := first | omega | exact id rfl | exact jd_i | exact jd_r | exact jd_n | exact jd_f | decide) only [E13_58, E13_59, E13_63]
        rfl
      | some q =>
        have h3 := (jq_fi_some ho).2.1
        rw [if_neg (show ¬ jq_o (some q) < 0 from nI_pos (by omega))]
        simp only [jq_o]
        simp (disch := first | omega | exact id rfl | exact jd_i | exact jd_r | exact jd_n | exact jd_f | decide) only [E13_53, E13_54, E13_55, E13_58, E13_59, E13_62, E13_63, ite_not]
        by_cases h4 : A 26 q = 0
        · rw [if_pos h4, decide_eq_true h4]; rfl
        · rw [if_neg h4, decide_eq_false h4]; rfl
end JL2
end
section
/-! the reference's choice of jobs and frames -/
section JL3
variable {d m : Nat} {I : Nat → Int32} {A : Nat → Nat → Int32} {L : Nat → Nat → Int64} {rest : Nat → Option jv_C} {z : Nat × Nat} {call : jv_F}
def jq_addr (a : Int32) : Bool := decide (¬ a < 0 ∧ ¬ nI 1024 ≤ a)
def jq_want (A : Nat → Nat → Int32) (n k : Nat) : Bool := jq_act A n (k / 64) && ((jq_addr (A 9 (k / 64)) && decide (nI 64 * nI (k / 64) + A 9 (k / 64) / nI 16 = nI k)) || (decide (¬ A 18 (k / 64) = 0) && decide (A 19 (k / 64) = nI k)))
theorem jx_isWanted {k n : Nat} (hk : k < 768) (hn : 1 ≤ n ∧ n ≤ 17) (hI : I 0 = nI n) : jv_run (d + 2) 16 [.ref m, .int (nI k)] (jm_H m I A L rest z) = some (some (.int (jq_b (jq_want A n k))), jm_H m I A L rest z) := by
  have hj : k / 64 < 12 := by omega
  have e1 : nI k / nI 64 = nI (k / 64) := pk_div (by omega) (by decide) (by decide)
  rw [N16]
  simp (disch := first | omega | exact id rfl | exact jd_i | exact jd_r | exact jd_n | exact jd_f | decide | (simp (disch := omega) only [jx_isActive hj hn hI, jx_isAddress, jx_blockOf, Option.isSome_some])) only [jx_isActive hj hn hI, jx_isAddress, jx_blockOf, Option.isSome_some, Option.getD_some, Option.toList_some, Option.toList_none, List.cons_append, List.nil_append, E16_0, E16_1, E16_3, E16_4, E16_5, E16_6, E16_7, E16_10, E16_13, E16_14, E16_15, E16_16, E16_19, E16_20, E16_21, E16_24, E16_27, E16_28, E16_29, E16_32, E16_33, E16_34, E16_37, E16_38, E16_41, E16_42, E16_45, E16_46, E16_47, E16_50, E16_51, E16_54, E16_55, E16_56, E16_57, E16_60, E16_61, E16_64, E16_65, e1, jq_b0, ite_not]
  unfold jq_want jq_addr
  cases h1 : jq_act A n (k / 64)
  · rfl
  · rw [if_neg (by decide)]
    by_cases h2 : decide (¬ A 9 (k / 64) < 0 ∧ ¬ nI 1024 ≤ A 9 (k / 64)) = false
    · rw [if_pos h2, h2]
      by_cases h3 : A 18 (k / 64) = 0
      · rw [if_pos h3]; simp only [h3, not_true, decide_false, Bool.false_and, Bool.or_self, Bool.and_false]; rfl
      · rw [if_neg h3]
        by_cases h4 : A 19 (k / 64) = nI k
        · rw [if_pos h4]; simp only [h3, h4, not_false_eq_true, decide_true, Bool.and_self, Bool.or_true, Bool.false_and]; rfl
        · rw [if_neg h4]; simp only [h4, decide_false, Bool.and_false, Bool.or_self, Bool.false_and]; rfl
    · rw [if_neg h2]
      have h2' : decide (¬ A 9 (k / 64) < 0 ∧ ¬ nI 1024 ≤ A 9 (k / 64)) = true := by simpa using h2
      rw [h2']
      by_cases h5 : nI 64 * nI (k / 64) + A 9 (k / 64) / nI 16 = nI k
      · rw [if_pos h5]; simp only [h5, decide_true, Bool.and_self, Bool.true_or]; rfl
      · rw [if_neg h5]
        by_cases h3 : A 18 (k / 64) = 0
        · rw [if_pos h3]; simp only [h3, h5, not_true, decide_false, Bool.false_and, Bool.or_self, Bool.and_false]; rfl
        · rw [if_neg h3]
          by_cases h4 : A 19 (k / 64) = nI k
          · rw [if_pos h4]; simp only [h3, h4, h5, not_false_eq_true, decide_true, decide_false, Bool.and_self, Bool.or_true, Bool.and_false]; rfl
          · rw [if_neg h4]; simp only [h4, h5, decide_false, Bool.and_false, Bool.or_self]; rfl
def jq_go (A : Nat → Nat → Int32) (n : Nat) (FR : Nat → Option Nat) (f : Nat) : Bool := match FR f with
  | none => false
  | some k => decide (A 26 f = 0) && !jq_want A n k
theorem jx_mayGo {f n : Nat} {FR : Nat → Option Nat} (hf : f < 17) (hF : A 23 f = jq_o (FR f)) (hk : ∀ k, FR f = some k → k < 768) (hn : 1 ≤ n ∧ n ≤ 17) (hI : I 0 = nI n) : jv_run (d + 3) 23 [.ref m, .int (nI f)] (jm_H m I A L rest z) = some (some (.int (jq_b (jq_go A n FR f))), jm_H m I A L rest z) := by
  rw [N23]
  unfold jq_go
  cases h1 : FR f with
  | none =>
    rw [h1] at hF
    simp (disch := first | omega | exact id rfl | exact jd_i | exact jd_r | exact jd_n | exact jd_f | decide) only [E23_0, E23_1, E23_4, E23_5, E23_6, hF, if_pos (show jq_o none < 0 by decide), E23_35, E23_36]
    rfl
  | some k =>
    rw [h1] at hF
    have hkk := hk k h1
    have h2 : ¬ jq_o (some k) < 0 := nI_pos (by omega)
    have h3 : jq_o (some k) = nI k := rfl
    rw [h3] at hF h2
    simp (disch := first | omega | exact id rfl | exact jd_i | exact jd_r | exact jd_n | exact jd_f | decide | (simp (disch := omega) only [jx_isWanted hkk hn hI, Option.isSome_some])) only [jx_isWanted hkk hn hI, Option.isSome_some, Option.getD_some, Option.toList_some, Option.toList_none, List.cons_append, List.nil_append, E23_0, E23_1, E23_4, E23_5, E23_6, E23_9, E23_10, E23_13, E23_14, E23_15, E23_18, E23_19, E23_20, E23_23, E23_24, E23_25, E23_28, E23_31, E23_32, E23_35, E23_36, hF, if_neg h2, jq_b0, ite_not]
    by_cases h4 : A 26 f = 0
    · rw [if_pos h4]
      cases h5 : jq_want A n k
      · simp only [h4, decide_true, Bool.not_false, Bool.and_self, if_true]; rfl
      · simp only [h4, decide_true, Bool.not_true, Bool.and_false, Bool.true_eq_false, if_false]; rfl
    · rw [if_neg h4]
      simp only [h4, decide_false, Bool.false_and]
      rfl
def jq_pass (c s : Nat) : Nat := c + (2 * (s % 16) + 32 - c % 32) % 32
theorem jx_passes {c s : Nat} (hc : c < 2 ^ 30) (hs : s < 64) (hI : I 36 = nI c) : jv_run (d + 1) 27 [.ref m, .int (nI s)] (jm_H m I A L rest z) = some (some (.int (nI (jq_pass c s))), jm_H m I A L rest z) := by
  have e1 : nI s - nI s / nI 16 * nI 16 = nI (s % 16) := pk_rem (by omega) (by decide) (by decide)
  have e2 : nI c - nI c / nI 32 * nI 32 = nI (c % 32) := pk_rem (by omega) (by decide) (by decide)
  have e3 : nI 2 * nI (s % 16) = nI (2 * (s % 16)) := pk_mul _ _
  have e4 : nI (2 * (s % 16)) - nI (c % 32) + nI 32 = nI (2 * (s % 16) + 32 - c % 32) := by
    have h1 : nI (2 * (s % 16) + 32) - nI (c % 32) = nI (2 * (s % 16) + 32 - c % 32) := pk_sub (by omega)
    rw [← h1, ← nI_add]
    rw [Int32.sub_eq_add_neg, Int32.sub_eq_add_neg, Int32.add_assoc, Int32.add_assoc, Int32.add_comm (-nI (c % 32))]
  have e5 : nI (2 * (s % 16) + 32 - c % 32) - nI (2 * (s % 16) + 32 - c % 32) / nI 32 * nI 32 = nI ((2 * (s % 16) + 32 - c % 32) % 32) := pk_rem (by omega) (by decide) (by decide)
  rw [N27]
  simp (disch := first | omega | exact id rfl | exact jd_i | exact jd_r | exact jd_n | exact jd_f | decide) only [E27_0, E27_1, E27_2, E27_4, E27_5, E27_6, E27_7, E27_8, E27_11, E27_12, E27_13, E27_16, E27_18, E27_19, E27_20, E27_22, E27_23, E27_25, E27_26, E27_27, hI, e1, e2, e3, e4, e5, nI_add]
  rfl
end JL3
end
section
/-! finish, next, choose -/
section JL4
variable {d m : Nat} {I : Nat → Int32} {A : Nat → Nat → Int32} {L : Nat → Nat → Int64} {rest : Nat → Option jv_C} {z : Nat × Nat} {call : jv_F}
def jq_fin (I : Nat → Int32) (A : Nat → Nat → Int32) (f k s : Nat) : (Nat → Int32) × (Nat → Nat → Int32) :=
  if I 32 = nI 2 then
    if A 8 (k / 64) = 0 then (upd I 32 (nI 0), jq_leave A f)
    else (upd (upd I 22 (I 22 - nI 1)) 32 (nI 0), va_up (va_up (jq_leave A f) 28 (upd (jq_leave A f 28) s (-1))) 20 (upd (jq_leave A f 20) k (nI 0)))
  else (upd I 32 (nI 0), va_up (va_up (va_up (va_up A 26 (upd (A 26) f (nI 0))) 27 (upd (A 27) f (nI 0))) 24 (upd (A 24) f (nI 0))) 25 (upd (A 25) f (if 0 ≤ A 21 k then I 42 - A 21 k else nI 0)))
theorem jx_finish {f k s : Nat} (hf : f < 17) (hk : k < 768) (hs : s < 64) (h33 : I 33 = nI f) (h34 : I 34 = nI s) (hF : A 23 f = nI k) : jv_run (d + 2) 21 [.ref m] (jm_H m I A L rest z) = some (none, jm_H m (jq_fin I A f k s).1 (jq_fin I A f k s).2 L rest z) := by
  have hj : k / 64 < 12 := by omega
  have e1 : nI k / nI 64 = nI (k / 64) := pk_div (by omega) (by decide) (by decide)
  rw [N21]
  simp (disch := first | omega | exact id rfl | exact jd_i | exact jd_r | exact jd_n | exact jd_f | decide | (simp (disch := omega) only [jx_leave hf, jx_vanish hk, Option.isSome_some])) only [jx_leave hf, jx_vanish hk, Option.isSome_some, Option.getD_some, Option.toList_some, Option.toList_none, List.cons_append, List.nil_append, E21_0, E21_1, E21_4, E21_5, E21_8, E21_9, E21_10, E21_11, E21_14, E21_15, E21_18, E21_19, E21_20, E21_23, E21_26, E21_27, E21_30, E21_31, E21_33, E21_34, E21_35, E21_38, E21_39, E21_42, E21_43, E21_46, E21_47, E21_48, E21_49, E21_50, E21_53, E21_56, E21_57, E21_60, E21_61, E21_64, E21_65, E21_66, E21_67, E21_70, E21_71, E21_74, E21_75, E21_76, E21_77, E21_80, E21_81, E21_84, E21_85, E21_86, E21_87, E21_90, E21_91, E21_94, E21_95, E21_98, E21_99, E21_100, E21_103, E21_104, E21_107, E21_108, E21_111, E21_112, E21_115, E21_116, E21_117, E21_118, E21_119, E21_120, E21_121, E21_124, h33, h34, hF, e1, ite_not]
  unfold jq_fin
  by_cases h1 : I 32 = nI 2
  · rw [if_pos h1, if_pos h1]
    by_cases h2 : A 8 (k / 64) = 0
    · rw [if_pos h2, if_pos (show jq_leave A f 8 (k / 64) = 0 from h2)]
    · rw [if_neg h2, if_neg (show ¬ jq_leave A f 8 (k / 64) = 0 from h2)]
      rfl
  · rw [if_neg h1, if_neg h1]
    simp (disch := first | omega | exact id rfl | exact jd_i | exact jd_r | exact jd_n | exact jd_f | decide) only [pk_us, pk_un, va_up_self, va_up_ne]
    by_cases h3 : 0 ≤ A 21 k
    · rw [if_pos h3, if_pos h3]
    · rw [if_neg h3, if_neg h3]
/-- the first of t places from i on with p -/
def jq_fp (p : Nat → Bool) : Nat → Nat → Option Nat
  | _, 0 => none
  | i, t + 1 => if p i then some i else jq_fp p (i + 1) t
/-- of t places from i on with p the one of the greatest v, the first of alike ones; b: the best so far -/
def jq_mx (p : Nat → Bool) (v : Nat → Int32) : Nat → Nat → Option Nat → Option Nat
  | _, 0, b => b
  | i, t + 1, b => jq_mx p v (i + 1) t (if p i && (match b with | none => true | some q => decide (¬ v i ≤ v q)) then some i else b)
def jq_c1 (A : Nat → Nat → Int32) (n : Nat) (FR : Nat → Option Nat) (f : Nat) : Bool := jq_go A n FR f && decide (¬ A 24 f ≤ A 25 f + nI 1)
def jq_c2 (A : Nat → Nat → Int32) (n : Nat) (FR : Nat → Option Nat) (f : Nat) : Bool := jq_go A n FR f && decide (¬ A 24 f ≤ 0)
def jq_or (a b : Option Nat) : Option Nat := match a with
  | some q => some q
  | none => b
def jq_vic (A : Nat → Nat → Int32) (n : Nat) (FR : Nat → Option Nat) : Option Nat :=
  jq_or (jq_fp (jq_c1 A n FR) 0 n) (jq_or (jq_mx (jq_c2 A n FR) (fun f => A 25 f - A 24 f) 0 n none) (jq_mx (jq_go A n FR) (A 25) 0 n none))
def jq_chs (I : Nat → Int32) (A : Nat → Nat → Int32) (FR : Nat → Option Nat) (c : Nat) (b : Option Nat) : (Nat → Int32) × (Nat → Nat → Int32) := match b with
  | none => (I, A)
  | some f => match FR f with
    | none => (I, A)
    | some k => (upd I 31 (nI (c + 1)), jq_ask (va_up A 21 (upd (A 21) k (I 42))) c (nI 2) f)
theorem jq_mx_s {p : Nat → Bool} {v : Nat → Int32} {i t : Nat} {b : Option Nat} : jq_mx p v i (t + 1) b = jq_mx p v (i + 1) t (if p i && (match b with | none => true | some q => decide (¬ v i ≤ v q)) then some i else b) := rfl
theorem jq_fp_s {p : Nat → Bool} {i t : Nat} : jq_fp p i (t + 1) = if p i then some i else jq_fp p (i + 1) t := rfl
theorem jq_fp_some {p : Nat → Bool} : ∀ {t i q : Nat}, jq_fp p i t = some q → i ≤ q ∧ q < i + t ∧ p q = true
  | 0, i, q, h => by cases h
  | t + 1, i, q, h => by
    unfold jq_fp at h
    split at h
    · rename_i hk
      cases h
      exact ⟨Nat.le_refl _, by omega, hk⟩
    · obtain ⟨h1, h2, h3⟩ := jq_fp_some h
      exact ⟨by omega, by omega, h3⟩
theorem jq_mx_ok {p : Nat → Bool} {v : Nat → Int32} (P : Nat → Prop) : ∀ {t i : Nat} {b : Option Nat} {q : Nat}, (∀ q, b = some q → P q) → (∀ q, i ≤ q → q < i + t → p q = true → P q) → jq_mx p v i t b = some q → P q
  | 0, i, b, q, hb, hp, h => hb q h
  | t + 1, i, b, q, hb, hp, h => by
    unfold jq_mx at h
    refine jq_mx_ok P ?_ (fun q h1 h2 h3 => hp q (by omega) (by omega) h3) h
    intro q' hq'
    cases hpi : p i
    · rw [hpi, Bool.false_and, if_neg (by decide)] at hq'
      exact hb q' hq'
    · rw [hpi, Bool.true_and] at hq'
      generalize (match b with | none => true | some q => decide (¬ v i ≤ v q)) = x at hq'
      cases x
      · rw [if_neg (by decide)] at hq'
        exact hb q' hq'
      · rw [if_pos rfl] at hq'
        cases hq'
        exact hp _ (Nat.le_refl _) (by omega) hpi
theorem jx_choose {n c : Nat} {FR : Nat → Option Nat} (hn : 1 ≤ n ∧ n ≤ 17) (hI : I 0 = nI n) (hc : c < 18) (hI31 : I 31 = nI c) (hF : ∀ f, f < n → A 23 f = jq_o (FR f) ∧ ∀ k, FR f = some k → k < 768) : jv_run (d + 4) 24 [.ref m] (jm_H m I A L rest z) = some (none, jm_H m (jq_chs I A FR c (jq_vic A n FR)).1 (jq_chs I A FR c (jq_vic A n FR)).2 L rest z) := by
  have hgo : ∀ f, f < n → jv_run (d + 3) 23 [.ref m, .int (nI f)] (jm_H m I A L rest z) = some (some (.int (jq_b (jq_go A n FR f))), jm_H m I A L rest z) := fun f hf => jx_mayGo (by omega) (hF f hf).1 (hF f hf).2 hn hI
  have hgk : ∀ f, f < n → jq_go A n FR f = true → ∃ k, FR f = some k := fun f hf h => by
    unfold jq_go at h
    cases h1 : FR f with
    | none => rw [h1] at h; cases h
    | some k => exact ⟨k, rfl⟩
  -- the end
  have l170 : ∀ (x : Int32) (b : Option Nat), (∀ q, b = some q → q < n ∧ ∃ k, FR q = some k) → jv_ev (jv_run (d + 3)) 24 170 [some (.ref m), some (.int (jq_o b)), some (.int x)] [] (jm_H m I A L rest z) = some (none, jm_H m (jq_chs I A FR c b).1 (jq_chs I A FR c b).2 L rest z) := by
    intro x b hb
    cases b with
    | none =>
      simp (disch := first | omega | exact id rfl | exact jd_i | exact jd_r | exact jd_n | exact jd_f | decide) only [E24_170, E24_171, if_neg (show ¬ 0 ≤ jq_o none by decide), E24_174]
      rfl
    | some q =>
      obtain ⟨hq, k, hk⟩ := hb q rfl
      have h1 := (hF q hq).1
      have hk2 := (hF q hq).2 k hk
      rw [hk] at h1
      have h2 : A 23 q = nI k := h1
      have h3 : jq_o (some q) = nI q := rfl
      rw [h3]
      have h4 := jx_ask (d := d + 2) (m := m) (I := I) (A := va_up A 21 (upd (A 21) k (I 42))) (L := L) (rest := rest) (z := z) (what := nI 2) (show q < 17 by omega) hc hI31
      simp (disch := first | omega | exact id rfl | exact jd_i | exact jd_r | exact jd_n | exact jd_f | decide | (simp (disch := omega) only [h4, Option.isSome_some])) only [h4, Option.isSome_some, Option.getD_some, Option.toList_some, Option.toList_none, List.cons_append, List.nil_append, E24_0, E24_1, E24_2, E24_3, E24_5, E24_6, E24_9, E24_12, E24_13, E24_16, E24_17, E24_18, E24_21, E24_24, E24_25, E24_28, E24_29, E24_30, E24_31, E24_34, E24_35, E24_36, E24_37, E24_38, E24_41, E24_42, E24_43, E24_46, E24_49, E24_50, E24_53, E24_54, E24_56, E24_57, E24_60, E24_63, E24_64, E24_65, E24_68, E24_71, E24_72, E24_75, E24_76, E24_77, E24_80, E24_81, E24_84, E24_85, E24_88, E24_89, E24_90, E24_91, E24_94, E24_95, E24_96, E24_97, E24_98, E24_101, E24_102, E24_103, E24_104, E24_107, E24_108, E24_109, E24_110, E24_113, E24_114, E24_115, E24_118, E24_121, E24_122, E24_125, E24_126, E24_128, E24_129, E24_132, E24_135, E24_136, E24_137, E24_140, E24_143, E24_144, E24_147, E24_148, E24_151, E24_152, E24_153, E24_154, E24_157, E24_158, E24_159, E24_162, E24_163, E24_164, E24_167, E24_170, E24_171, E24_174, E24_175, E24_176, E24_179, E24_180, E24_183, E24_184, E24_185, E24_186, E24_189, E24_190, E24_191, E24_192, E24_193, E24_196, if_pos (nI_pos' (show q < 2 ^ 31 by omega)), h2]
      simp only [jq_chs, hk]
  -- the third loop
  have l127 : ∀ (t i : Nat) (b : Option Nat), i + t = n → (∀ q, b = some q → q < n ∧ ∃ k, FR q = some k) → jv_ev (jv_run (d + 3)) 24 127 [some (.ref m), some (.int (jq_o b)), some (.int (nI i))] [] (jm_H m I A L rest z) = some (none, jm_H m (jq_chs I A FR c (jq_mx (jq_go A n FR) (A 25) i t b)).1 (jq_chs I A FR c (jq_mx (jq_go A n FR) (A 25) i t b)).2 L rest z) := by
    intro t
    induction t with
    | zero =>
      intro i b hi hb
      rw [E24_127]
      simp (disch := first | omega | exact id rfl | exact jd_i | exact jd_r | exact jd_n | exact jd_f | decide) only [E24_128, E24_129, E24_132, hI, nI_leI, if_pos (show n ≤ i by omega), l170 _ b hb]
      rfl
    | succ t ih =>
      intro i b hi hb
      have hi2 : i < n := by omega
      rw [E24_127]
      simp (disch := first | omega | exact id rfl | exact jd_i | exact jd_r | exact jd_n | exact jd_f | decide | (simp (disch := omega) only [hgo i hi2, Option.isSome_some])) only [hgo i hi2, Option.isSome_some, Option.getD_some, Option.toList_some, Option.toList_none, List.cons_append, List.nil_append, E24_128, E24_129, E24_132, E24_135, E24_136, E24_137, E24_140, E24_143, E24_144, hI, nI_leI, if_neg (show ¬ n ≤ i by omega), jq_b0, ite_not]
      simp only [jq_mx_s]
      cases h1 : jq_go A n FR i
      · rw [if_pos rfl]
        simp (disch := first | omega | exact id rfl | exact jd_i | exact jd_r | exact jd_n | exact jd_f | decide) only [E24_164, E24_167, nI_add]
        exact ih (i + 1) b (by omega) hb
      · rw [if_neg (by decide)]
        have hnew : ∀ q, some i = some q → q < n ∧ ∃ k, FR q = some k := fun q hq => by cases hq; exact ⟨hi2, hgk i hi2 h1⟩
        cases b with
        | none =>
          rw [if_pos (show jq_o none < 0 by decide)]
          simp (disch := first | omega | exact id rfl | exact jd_i | exact jd_r | exact jd_n | exact jd_f | decide) only [E24_162, E24_163, E24_164, E24_167, nI_add]
          exact ih (i + 1) (some i) (by omega) hnew
        | some q =>
          have hq := (hb q rfl).1
          have h3 : jq_o (some q) = nI q := rfl
          rw [h3, if_neg (nI_pos (show q < 2 ^ 31 by omega))]
          simp (disch := first | omega | exact id rfl | exact jd_i | exact jd_r | exact jd_n | exact jd_f | decide) only [E24_147, E24_148, E24_151, E24_152, E24_153, E24_154, E24_157, E24_158, E24_159, E24_162, E24_163, E24_164, E24_167, nI_add]
          by_cases h4 : A 25 i ≤ A 25 q
          · rw [if_pos h4]
            simp only [h4, not_true, decide_false, Bool.and_false, Bool.false_eq_true, if_false]
            exact ih (i + 1) (some q) (by omega) hb
          · rw [if_neg h4]
            simp only [h4, not_false_eq_true, decide_true, Bool.and_self, if_true]
            exact ih (i + 1) (some i) (by omega) hnew
  have l121 : ∀ (x : Int32) (b : Option Nat), (∀ q, b = some q → q < n ∧ ∃ k, FR q = some k) → jv_ev (jv_run (d + 3)) 24 121 [some (.ref m), some (.int (jq_o b)), some (.int x)] [] (jm_H m I A L rest z) = some (none, jm_H m (jq_chs I A FR c (jq_or b (jq_mx (jq_go A n FR) (A 25) 0 n none))).1 (jq_chs I A FR c (jq_or b (jq_mx (jq_go A n FR) (A 25) 0 n none))).2 L rest z) := by
    intro x b hb
    cases b with
    | none =>
      simp (disch := first | omega | exact id rfl | exact jd_i | exact jd_r | exact jd_n | exact jd_f | decide) only [E24_121, E24_122, if_neg (show ¬ 0 ≤ jq_o none by decide), E24_125, E24_126]
      exact l127 n 0 none (Nat.zero_add n) (fun q h => by cases h)
    | some q =>
      have hq := (hb q rfl).1
      simp (disch := first | omega | exact id rfl | exact jd_i | exact jd_r | exact jd_n | exact jd_f | decide) only [E24_121, E24_122, if_pos (show 0 ≤ jq_o (some q) from nI_pos' (show q < 2 ^ 31 by omega))]
      exact l170 x (some q) hb
  -- the second loop
  have l55 : ∀ (t i : Nat) (b : Option Nat), i + t = n → (∀ q, b = some q → q < n ∧ ∃ k, FR q = some k) → jv_ev (jv_run (d + 3)) 24 55 [some (.ref m), some (.int (jq_o b)), some (.int (nI i))] [] (jm_H m I A L rest z) = some (none, jm_H m (jq_chs I A FR c (jq_or (jq_mx (jq_c2 A n FR) (fun f => A 25 f - A 24 f) i t b) (jq_mx (jq_go A n FR) (A 25) 0 n none))).1 (jq_chs I A FR c (jq_or (jq_mx (jq_c2 A n FR) (fun f => A 25 f - A 24 f) i t b) (jq_mx (jq_go A n FR) (A 25) 0 n none))).2 L rest z) := by
    intro t
    induction t with
    | zero =>
      intro i b hi hb
      rw [E24_55]
      simp (disch := first | omega | exact id rfl | exact jd_i | exact jd_r | exact jd_n | exact jd_f | decide) only [E24_56, E24_57, E24_60, hI, nI_leI, if_pos (show n ≤ i by omega), l121 _ b hb]
      rfl
    | succ t ih =>
      intro i b hi hb
      have hi2 : i < n := by omega
      rw [E24_55]
      simp (disch := first | omega | exact id rfl | exact jd_i | exact jd_r | exact jd_n | exact jd_f | decide | (simp (disch := omega) only [hgo i hi2, Option.isSome_some])) only [hgo i hi2, Option.isSome_some, Option.getD_some, Option.toList_some, Option.toList_none, List.cons_append, List.nil_append, E24_56, E24_57, E24_60, E24_63, E24_64, E24_65, E24_68, E24_71, E24_72, E24_75, E24_76, E24_77, E24_80, E24_81, hI, nI_leI, if_neg (show ¬ n ≤ i by omega), jq_b0, ite_not]
      simp only [jq_mx_s]
      cases h1 : jq_go A n FR i
      · rw [if_pos rfl]
        simp (disch := first | omega | exact id rfl | exact jd_i | exact jd_r | exact jd_n | exact jd_f | decide) only [E24_115, E24_118, nI_add]
        simp only [jq_c2, h1, Bool.false_and, Bool.false_eq_true, if_false]
        exact ih (i + 1) b (by omega) hb
      · rw [if_neg (by decide)]
        by_cases h5 : A 24 i ≤ 0
        · rw [if_pos h5]
          simp (disch := first | omega | exact id rfl | exact jd_i | exact jd_r | exact jd_n | exact jd_f | decide) only [E24_115, E24_118, nI_add]
          simp only [jq_c2, h1, h5, not_true, decide_false, Bool.and_false, Bool.false_and, Bool.false_eq_true, if_false]
          exact ih (i + 1) b (by omega) hb
        · rw [if_neg h5]
          have hnew : ∀ q, some i = some q → q < n ∧ ∃ k, FR q = some k := fun q hq => by cases hq; exact ⟨hi2, hgk i hi2 h1⟩
          have hc2 : jq_c2 A n FR i = true := by simp only [jq_c2, h1, h5, not_false_eq_true, decide_true, Bool.and_self]
          rw [hc2]
          cases b with
          | none =>
            rw [if_pos (show jq_o none < 0 by decide)]
            simp (disch := first | omega | exact id rfl | exact jd_i | exact jd_r | exact jd_n | exact jd_f | decide) only [E24_113, E24_114, E24_115, E24_118, nI_add]
            exact ih (i + 1) (some i) (by omega) hnew
          | some q =>
            have hq := (hb q rfl).1
            have h3 : jq_o (some q) = nI q := rfl
            rw [h3, if_neg (nI_pos (show q < 2 ^ 31 by omega))]
            simp (disch := first | omega | exact id rfl | exact jd_i | exact jd_r | exact jd_n | exact jd_f | decide) only [E24_84, E24_85, E24_88, E24_89, E24_90, E24_91, E24_94, E24_95, E24_96, E24_97, E24_98, E24_101, E24_102, E24_103, E24_104, E24_107, E24_108, E24_109, E24_110, E24_113, E24_114, E24_115, E24_118, nI_add]
            by_cases h4 : A 25 i - A 24 i ≤ A 25 q - A 24 q
            · rw [if_pos h4]
              simp only [h4, not_true, decide_false, Bool.and_false, Bool.false_eq_true, if_false]
              exact ih (i + 1) (some q) (by omega) hb
            · rw [if_neg h4]
              simp only [h4, not_false_eq_true, decide_true, Bool.and_self, if_true]
              exact ih (i + 1) (some i) (by omega) hnew
  have l49 : ∀ (x : Int32) (b : Option Nat), (∀ q, b = some q → q < n ∧ ∃ k, FR q = some k) → jv_ev (jv_run (d + 3)) 24 49 [some (.ref m), some (.int (jq_o b)), some (.int x)] [] (jm_H m I A L rest z) = some (none, jm_H m (jq_chs I A FR c (jq_or b (jq_or (jq_mx (jq_c2 A n FR) (fun f => A 25 f - A 24 f) 0 n none) (jq_mx (jq_go A n FR) (A 25) 0 n none)))).1 (jq_chs I A FR c (jq_or b (jq_or (jq_mx (jq_c2 A n FR) (fun f => A 25 f - A 24 f) 0 n none) (jq_mx (jq_go A n FR) (A 25) 0 n none)))).2 L rest z) := by
    intro x b hb
    cases b with
    | none =>
      simp (disch := first | omega | exact id rfl | exact jd_i | exact jd_r | exact jd_n | exact jd_f | decide) only [E24_49, E24_50, if_neg (show ¬ 0 ≤ jq_o none by decide), E24_53, E24_54]
      exact l55 n 0 none (Nat.zero_add n) (fun q h => by cases h)
    | some q =>
      have hq := (hb q rfl).1
      simp (disch := first | omega | exact id rfl | exact jd_i | exact jd_r | exact jd_n | exact jd_f | decide) only [E24_49, E24_50, if_pos (show 0 ≤ jq_o (some q) from nI_pos' (show q < 2 ^ 31 by omega))]
      exact l121 x (some q) hb
  -- the first loop
  have l4 : ∀ (t i : Nat), i + t = n → jv_ev (jv_run (d + 3)) 24 4 [some (.ref m), some (.int (-1)), some (.int (nI i))] [] (jm_H m I A L rest z) = some (none, jm_H m (jq_chs I A FR c (jq_or (jq_fp (jq_c1 A n FR) i t) (jq_or (jq_mx (jq_c2 A n FR) (fun f => A 25 f - A 24 f) 0 n none) (jq_mx (jq_go A n FR) (A 25) 0 n none)))).1 (jq_chs I A FR c (jq_or (jq_fp (jq_c1 A n FR) i t) (jq_or (jq_mx (jq_c2 A n FR) (fun f => A 25 f - A 24 f) 0 n none) (jq_mx (jq_go A n FR) (A 25) 0 n none)))).2 L rest z) := by
    intro t
    induction t with
    | zero =>
      intro i hi
      rw [E24_4]
      simp (disch := first | omega | exact id rfl | exact jd_i | exact jd_r | exact jd_n | exact jd_f | decide) only [E24_5, E24_6, E24_9, hI, nI_leI, if_pos (show n ≤ i by omega)]
      exact l49 (nI i) none (fun q h => by cases h)
    | succ t ih =>
      intro i hi
      have hi2 : i < n := by omega
      rw [E24_4]
      simp (disch := first | omega | exact id rfl | exact jd_i | exact jd_r | exact jd_n | exact jd_f | decide | (simp (disch := omega) only [hgo i hi2, Option.isSome_some])) only [hgo i hi2, Option.isSome_some, Option.getD_some, Option.toList_some, Option.toList_none, List.cons_append, List.nil_append, E24_5, E24_6, E24_9, E24_12, E24_13, E24_16, E24_17, E24_18, E24_21, E24_24, E24_25, E24_28, E24_29, E24_30, E24_31, E24_34, E24_35, E24_36, E24_37, E24_38, hI, nI_leI, if_neg (show ¬ n ≤ i by omega), if_neg (show ¬ (0 : Int32) ≤ -1 by decide), jq_b0, ite_not]
      simp only [jq_fp_s]
      cases h1 : jq_go A n FR i
      · rw [if_pos rfl]
        simp (disch := first | omega | exact id rfl | exact jd_i | exact jd_r | exact jd_n | exact jd_f | decide) only [E24_43, E24_46, nI_add]
        simp only [jq_c1, h1, Bool.false_and, Bool.false_eq_true, if_false]
        exact ih (i + 1) (by omega)
      · rw [if_neg (by decide)]
        by_cases h5 : A 24 i ≤ A 25 i + nI 1
        · rw [if_pos h5]
          simp (disch := first | omega | exact id rfl | exact jd_i | exact jd_r | exact jd_n | exact jd_f | decide) only [E24_43, E24_46, nI_add]
          simp only [jq_c1, h1, h5, not_true, decide_false, Bool.and_false, Bool.false_eq_true, if_false]
          exact ih (i + 1) (by omega)
        · rw [if_neg h5]
          have hc1 : jq_c1 A n FR i = true := by simp only [jq_c1, h1, h5, not_false_eq_true, decide_true, Bool.and_self]
          rw [hc1]
          simp (disch := first | omega | exact id rfl | exact jd_i | exact jd_r | exact jd_n | exact jd_f | decide) only [E24_41, E24_42, E24_43, E24_46, nI_add, if_true]
          have hb : ∀ q, some i = some q → q < n ∧ ∃ k, FR q = some k := fun q hq => by cases hq; exact ⟨hi2, hgk i hi2 h1⟩
          rw [E24_4]
          simp (disch := first | omega | exact id rfl | exact jd_i | exact jd_r | exact jd_n | exact jd_f | decide) only [E24_5, E24_6, E24_9, E24_12, E24_13, hI, nI_leI, if_pos (nI_pos' (show i < 2 ^ 31 by omega))]
          have := l49 (nI (i + 1)) (some i) hb
          split
          · exact this
          · exact this
  rw [N24]
  simp (disch := first | omega | exact id rfl | exact jd_i | exact jd_r | exact jd_n | exact jd_f | decide) only [E24_0, E24_1, E24_2, E24_3]
  exact l4 n 0 (Nat.zero_add n)
end JL4
end
section
/-! cells laid one behind another from a place on -/
def jv_ups (f : Nat → Option jv_C) (b : Nat) (cs : List jv_C) : Nat → Option jv_C := fun q => if q < b then f q else match cs[q - b]? with
  | some c => some c
  | none => f q
theorem jv_ups_nil (f : Nat → Option jv_C) (b : Nat) : jv_ups f b [] = f := by
  funext q
  unfold jv_ups
  split <;> rfl
theorem jv_ups_at {f : Nat → Option jv_C} {b k : Nat} {cs : List jv_C} {c : jv_C} (h : cs[k]? = some c) : jv_ups f b cs (b + k) = some c := by
  unfold jv_ups
  rw [if_neg (by omega), Nat.add_sub_cancel_left, h]
theorem jv_ups_push (f : Nat → Option jv_C) (b : Nat) (cs : List jv_C) (c : jv_C) {k : Nat} (hk : cs.length = k) : jv_up (jv_ups f b cs) (b + k) c = jv_ups f b (cs ++ [c]) := by
  subst hk
  funext q
  unfold jv_up jv_ups
  by_cases h1 : q = b + cs.length
  · subst h1
    rw [if_pos rfl, if_neg (by omega), Nat.add_sub_cancel_left, List.getElem?_append_right (Nat.le_refl _), Nat.sub_self]
    rfl
  · rw [if_neg h1]
    by_cases h2 : q < b
    · rw [if_pos h2, if_pos h2]
    · rw [if_neg h2, if_neg h2]
      by_cases h3 : q - b < cs.length
      · rw [List.getElem?_append_left h3]
      · rw [List.getElem?_append_right (by omega), List.getElem?_eq_none (show cs.length ≤ q - b by omega), List.getElem?_eq_none (by simp; omega)]
theorem jv_ups_set (f : Nat → Option jv_C) (b : Nat) (cs : List jv_C) (c : jv_C) {k : Nat} (hk : k < cs.length) : jv_up (jv_ups f b cs) (b + k) c = jv_ups f b (cs.set k c) := by
  funext q
  unfold jv_up jv_ups
  by_cases h1 : q = b + k
  · subst h1
    rw [if_pos rfl, if_neg (by omega), Nat.add_sub_cancel_left, List.getElem?_set_self hk]
  · rw [if_neg h1]
    by_cases h2 : q < b
    · rw [if_pos h2, if_pos h2]
    · rw [if_neg h2, if_neg h2, List.getElem?_set_ne (by omega)]
/-- a heap with such cells as its last ones -/
def jv_U (f : Nat → Option jv_C) (b : Nat) (cs : List jv_C) (y : Nat) : jv_H := (jv_ups f b cs, b + cs.length, y)
theorem jv_U_new {f : Nat → Option jv_C} {b y ci : Nat} {cs : List jv_C} : jv_new (jv_U f b cs y) ci = jv_U f b (cs ++ [.inl (ci, jt_dfl ci)]) (y + (jt_dfl ci).length) := by
  unfold jv_new jv_U
  simp only [jv_ups_push f b cs _ rfl, List.length_append, List.length_cons, List.length_nil]
  rfl
theorem jv_U_newa {f : Nat → Option jv_C} {b y k n : Nat} {cs : List jv_C} {v : Value} : jv_newa (jv_U f b cs y) k n v = jv_U f b (cs ++ [.inr (k, n, fun _ => v)]) (y + n) := by
  unfold jv_newa jv_U
  simp only [jv_ups_push f b cs _ rfl, List.length_append, List.length_cons, List.length_nil]
  rfl
theorem jv_U_sz {f : Nat → Option jv_C} {b y : Nat} {cs : List jv_C} : (jv_U f b cs y).2.1 = b + cs.length := rfl
theorem jv_U_pf {f : Nat → Option jv_C} {b y k ci j : Nat} {cs : List jv_C} {fs : List Value} {v : Value} (h1 : cs[k]? = some (.inl (ci, fs))) (h2 : j < fs.length) (h3 : narrow (jt_fty ci j) v = v) (h4 : fits (jt_fty ci j) v = true) : jv_pf (jv_U f b cs y) (b + k) ci j v = some (jv_U f b (cs.set k (.inl (ci, fs.set j v))) y) := by
  refine (jv_pf_of (jv_ups_at h1) h2 h3 h4).trans (congrArg some ?_)
  unfold jv_U
  simp only [jv_ups_set f b cs _ (List.getElem?_eq_some_iff.mp h1).1, List.length_set]
theorem jv_U_cl {f : Nat → Option jv_C} {b y k ci : Nat} {cs : List jv_C} {fs : List Value} (h1 : cs[k]? = some (.inl (ci, fs))) : jv_cl (jv_U f b cs y) (b + k) = some ci := by
  unfold jv_cl
  rw [show (jv_U f b cs y).1 (b + k) = some (.inl (ci, fs)) from jv_ups_at h1]
def jv_isO (cs : List jv_C) (k ci : Nat) : Bool := match cs[k]? with
  | some (.inl (c, _)) => decide (c = ci)
  | _ => false
def jv_fl (cs : List jv_C) (k : Nat) : List Value := match cs[k]? with
  | some (.inl (_, fs)) => fs
  | _ => []
theorem jv_isO_at {cs : List jv_C} {k ci : Nat} (h : jv_isO cs k ci = true) : cs[k]? = some (.inl (ci, jv_fl cs k)) := by
  unfold jv_isO at h
  split at h
  · rename_i c fs hc
    have := of_decide_eq_true h
    subst this
    rw [hc]
    unfold jv_fl
    rw [hc]
  · cases h
theorem jv_U_pf0 {f : Nat → Option jv_C} {b y ci j : Nat} {cs : List jv_C} {v : Value} (h1 : jv_isO cs 0 ci = true) (h2 : j < (jv_fl cs 0).length) (h3 : narrow (jt_fty ci j) v = v) (h4 : fits (jt_fty ci j) v = true) : jv_pf (jv_U f b cs y) b ci j v = some (jv_U f b (cs.set 0 (.inl (ci, (jv_fl cs 0).set j v))) y) := jv_U_pf (k := 0) (jv_isO_at h1) h2 h3 h4
theorem jv_U_base {f : Nat → Option jv_C} {b y : Nat} {cs cs' : List jv_C} : jv_U f b (cs ++ cs') y = jv_U (jv_ups f b cs) (b + cs.length) cs' y := by
  unfold jv_U
  have e : b + (cs ++ cs').length = b + cs.length + cs'.length := by rw [List.length_append, Nat.add_assoc]
  rw [e]
  congr 1
  funext q
  unfold jv_ups
  by_cases h1 : q < b
  · rw [if_pos h1, if_pos (by omega), if_pos h1]
  · rw [if_neg h1]
    by_cases h2 : q - b < cs.length
    · rw [List.getElem?_append_left h2, if_pos (show q < b + cs.length by omega), if_neg h1]
    · rw [List.getElem?_append_right (by omega), if_neg (show ¬ q < b + cs.length by omega), if_neg h1, List.getElem?_eq_none (show cs.length ≤ q - b by omega), show q - (b + cs.length) = q - b - cs.length by omega]
end
section
/-! the constructors -/
section JI
variable {d b y : Nat} {f : Nat → Option jv_C} {cs : List jv_C}
def jc_tray (b : Nat) : List jv_C := [.inl (5, [.ref (b + 1), .ref (b + 2), .int (nI 0), .int (nI 0)]), .inr (1, 1000, fun _ => .long 0), .inr (0, 2000, fun _ => .int 0)]
theorem jx_Tray_init : jv_run (d + 1) 116 [.ref b] (jv_U f b [.inl (5, jt_dfl 5)] y) = some (none, jv_U f b (jc_tray b) (y + 3000)) := by
  rw [N116]
  simp (disch := first | omega | exact id rfl | exact id (Nat.le_of_ble_eq_true rfl) | (simp (disch := first | exact id rfl | exact id (Nat.le_of_ble_eq_true rfl)) only [jv_U_pf0, Option.isSome_some])) only [E116_0, E116_1, E116_4, E116_5, E116_8, E116_10, E116_13, E116_14, E116_17, E116_19, E116_22, E116_23, E116_24, E116_27, E116_28, E116_29, E116_32, jv_U_newa, jv_U_sz, jv_U_pf0, Option.getD_some]
  rfl
def jc_core (b : Nat) : List jv_C := [.inl (2, [.ref (b + 1), .int (nI 7), .int (nI 7), .int (nI 0)]), .inr (3, 17, fun _ => .null)]
theorem jx_Core_init : jv_run (d + 1) 66 [.ref b] (jv_U f b [.inl (2, jt_dfl 2)] y) = some (none, jv_U f b (jc_core b) (y + 17)) := by
  rw [N66]
  simp (disch := first | omega | exact id rfl | exact id (Nat.le_of_ble_eq_true rfl) | (simp (disch := first | exact id rfl | exact id (Nat.le_of_ble_eq_true rfl)) only [jv_U_pf0, Option.isSome_some])) only [E66_0, E66_1, E66_4, E66_5, E66_7, E66_10, E66_13, E66_14, E66_16, E66_19, E66_20, E66_22, E66_25, E66_26, E66_27, E66_30, jv_U_newa, jv_U_sz, jv_U_pf0, Option.getD_some]
  rfl
def jc_drum (b : Nat) : List jv_C := [.inl (3, [.ref (b + 1), .ref (b + 2), .int (nI 0), .null, .int (nI 0), .int (nI 0), .int (nI 0), .int (nI 0)]), .inr (3, 64, fun _ => .null), .inr (3, 17, fun _ => .null)]
theorem jx_Drum_init : jv_run (d + 1) 76 [.ref b] (jv_U f b [.inl (3, jt_dfl 3)] y) = some (none, jv_U f b (jc_drum b) (y + 64 + 17)) := by
  rw [N76]
  simp (disch := first | omega | exact id rfl | exact id (Nat.le_of_ble_eq_true rfl) | (simp (disch := first | exact id rfl | exact id (Nat.le_of_ble_eq_true rfl)) only [jv_U_pf0, Option.isSome_some])) only [E76_0, E76_1, E76_4, E76_5, E76_7, E76_10, E76_13, E76_14, E76_16, E76_19, E76_22, E76_23, E76_24, E76_27, E76_28, E76_29, E76_32, E76_33, E76_34, E76_37, E76_38, E76_39, E76_42, E76_43, E76_44, E76_47, E76_48, E76_49, E76_52, jv_U_newa, jv_U_sz, jv_U_pf0, Option.getD_some]
  rfl
theorem jx_Tray_init' : jv_run (d + 1) 116 [.ref (b + cs.length)] (jv_U f b (cs ++ [.inl (5, jt_dfl 5)]) y) = some (none, jv_U f b (cs ++ jc_tray (b + cs.length)) (y + 3000)) := by
  rw [jv_U_base, jx_Tray_init, ← jv_U_base]
theorem jx_Core_init' : jv_run (d + 1) 66 [.ref (b + cs.length)] (jv_U f b (cs ++ [.inl (2, jt_dfl 2)]) y) = some (none, jv_U f b (cs ++ jc_core (b + cs.length)) (y + 17)) := by
  rw [jv_U_base, jx_Core_init, ← jv_U_base]
theorem jx_Drum_init' : jv_run (d + 1) 76 [.ref (b + cs.length)] (jv_U f b (cs ++ [.inl (3, jt_dfl 3)]) y) = some (none, jv_U f b (cs ++ jc_drum (b + cs.length)) (y + 64 + 17)) := by
  rw [jv_U_base, jx_Drum_init, ← jv_U_base]
def jc_ob (a0 a1 a2 a3 : Value) : jv_C := .inl (6, [a0, a1, a2, a3, .int 0, .int 0, .int 0, .int 0, .int 0, .int 0, .int 0, .int 0])
def jc_mach (b : Nat) : List jv_C := .inl (6, [.ref (b + 1), .ref (b + 4), .ref (b + 6), .ref (b + 9), .int (nI 0), .int (nI 0), .int (nI 0), .int (-1), .int (nI 0), .int (nI 0), .int (nI 0), .int (nI 0)]) :: (jc_tray (b + 1) ++ (jc_core (b + 4) ++ (jc_drum (b + 6) ++ [.inr (4, 12, fun _ => .null)])))
theorem jt_dl0 : (jt_dfl 0).length = 44 := rfl
theorem jt_dl2 : (jt_dfl 2).length = 4 := rfl
theorem jt_dl3 : (jt_dfl 3).length = 8 := rfl
theorem jt_dl5 : (jt_dfl 5).length = 4 := rfl
theorem jt_dl6 : (jt_dfl 6).length = 12 := rfl
theorem jx_Mach_1 : jv_ev (jv_run (d + 1)) 122 0 [some (.ref b)] [] (jv_U f b [.inl (6, jt_dfl 6)] y) = jv_ev (jv_run (d + 1)) 122 15 [some (.ref b)] [] (jv_U f b (jc_ob (.ref (b + 1)) .null .null .null :: jc_tray (b + 1)) (y + 4 + 3000)) := by
  have e := jx_Tray_init' (d := d) (b := b) (y := y + 4) (f := f) (cs := [.inl (6, jt_dfl 6)])
  simp (disch := first | omega | exact id rfl | exact id (Nat.le_of_ble_eq_true rfl) | (simp (disch := first | exact id rfl | exact id (Nat.le_of_ble_eq_true rfl)) only [jv_U_pf0, Option.isSome_some])) only [E122_0, E122_1, E122_4, E122_5, jv_U_new, jv_U_sz, E122_8, jt_dl5]
  rw [E122_9 rfl (by rw [e]; rfl), e]
  simp (disch := first | omega | exact id rfl | exact id (Nat.le_of_ble_eq_true rfl) | (simp (disch := first | exact id rfl | exact id (Nat.le_of_ble_eq_true rfl)) only [jv_U_pf0, Option.isSome_some])) only [Option.getD_some, Option.toList_none, List.nil_append, E122_12, jv_U_pf0]
  rfl
theorem jx_Mach_2 {a0 : Value} {cs : List jv_C} (hc : cs.length = 3) : jv_ev (jv_run (d + 1)) 122 15 [some (.ref b)] [] (jv_U f b (jc_ob a0 .null .null .null :: cs) y) = jv_ev (jv_run (d + 1)) 122 26 [some (.ref b)] [] (jv_U f b (jc_ob a0 (.ref (b + 4)) .null .null :: (cs ++ jc_core (b + 4))) (y + 4 + 17)) := by
  have e := jx_Core_init' (d := d) (b := b) (y := y + 4) (f := f) (cs := jc_ob a0 .null .null .null :: cs)
  simp (disch := first | omega | exact id rfl | exact id (Nat.le_of_ble_eq_true rfl) | (simp (disch := first | exact id rfl | exact id (Nat.le_of_ble_eq_true rfl)) only [jv_U_pf0, Option.isSome_some])) only [E122_15, E122_16, jv_U_new, jv_U_sz, E122_19, jt_dl2]
  rw [E122_20 rfl (by rw [e]; rfl), e]
  simp only [List.length_cons, hc]
  simp (disch := first | omega | exact id rfl | exact id (Nat.le_of_ble_eq_true rfl) | (simp (disch := first | exact id rfl | exact id (Nat.le_of_ble_eq_true rfl)) only [jv_U_pf0, Option.isSome_some])) only [Option.getD_some, Option.toList_none, List.nil_append, E122_23, jv_U_pf0]
  rfl
theorem jx_Mach_3 {a0 a1 : Value} {cs : List jv_C} (hc : cs.length = 5) : jv_ev (jv_run (d + 1)) 122 26 [some (.ref b)] [] (jv_U f b (jc_ob a0 a1 .null .null :: cs) y) = jv_ev (jv_run (d + 1)) 122 37 [some (.ref b)] [] (jv_U f b (jc_ob a0 a1 (.ref (b + 6)) .null :: (cs ++ jc_drum (b + 6))) (y + 8 + 64 + 17)) := by
  have e := jx_Drum_init' (d := d) (b := b) (y := y + 8) (f := f) (cs := jc_ob a0 a1 .null .null :: cs)
  simp (disch := first | omega | exact id rfl | exact id (Nat.le_of_ble_eq_true rfl) | (simp (disch := first | exact id rfl | exact id (Nat.le_of_ble_eq_true rfl)) only [jv_U_pf0, Option.isSome_some])) only [E122_26, E122_27, jv_U_new, jv_U_sz, E122_30, jt_dl3]
  rw [E122_31 rfl (by rw [e]; rfl), e]
  simp only [List.length_cons, hc]
  simp (disch := first | omega | exact id rfl | exact id (Nat.le_of_ble_eq_true rfl) | (simp (disch := first | exact id rfl | exact id (Nat.le_of_ble_eq_true rfl)) only [jv_U_pf0, Option.isSome_some])) only [Option.getD_some, Option.toList_none, List.nil_append, E122_34, jv_U_pf0]
  rfl
theorem jx_Mach_4 {a0 a1 a2 : Value} {cs : List jv_C} (hc : cs.length = 8) : jv_ev (jv_run (d + 1)) 122 37 [some (.ref b)] [] (jv_U f b (jc_ob a0 a1 a2 .null :: cs) y) = some (none, jv_U f b (.inl (6, [a0, a1, a2, .ref (b + 9), .int (nI 0), .int (nI 0), .int (nI 0), .int (-1), .int (nI 0), .int (nI 0), .int (nI 0), .int (nI 0)]) :: (cs ++ [.inr (4, 12, fun _ => .null)])) (y + 12)) := by
  simp (disch := first | omega | exact id rfl | exact id (Nat.le_of_ble_eq_true rfl) | (simp (disch := first | exact id rfl | exact id (Nat.le_of_ble_eq_true rfl)) only [jv_U_pf0, Option.isSome_some])) only [E122_37, E122_38, E122_40, jv_U_newa, jv_U_sz, List.length_cons, hc, E122_43, jv_U_pf0, Option.getD_some]
  have e : ([jc_ob a0 a1 a2 Value.null] ++ cs ++ [Sum.inr (4, 12, fun _ => Value.null)]).length = 10 := by simp [hc]
  simp (disch := first | omega | exact id rfl | exact id (Nat.le_of_ble_eq_true rfl) | (simp (disch := first | exact id rfl | exact id (Nat.le_of_ble_eq_true rfl)) only [jv_U_pf0, Option.isSome_some])) only [E122_46, E122_47, E122_48, E122_51, E122_52, E122_53, E122_56, E122_57, E122_58, E122_61, E122_62, E122_63, E122_66, E122_67, E122_68, E122_71, E122_72, E122_73, E122_76, E122_77, E122_78, E122_81, E122_82, E122_83, E122_86, jv_U_pf0, Option.getD_some]
  rfl
theorem jx_Mach_init : jv_run (d + 2) 122 [.ref b] (jv_U f b [.inl (6, jt_dfl 6)] y) = some (none, jv_U f b (jc_mach b) (y + 4 + 3000 + 4 + 17 + 8 + 64 + 17 + 12)) := by
  rw [N122, jx_Mach_1, jx_Mach_2 rfl, jx_Mach_3 rfl, jx_Mach_4 rfl]
  rfl
end JI
end
section
/-! the reference's constructor -/
section JMI
variable {d m y : Nat} {f : Nat → Option jv_C} {cs : List jv_C} {call : jv_F} {l1 : Option Value}
theorem jx_mi_0 : jv_ev call 0 4 [some (.ref m), l1] [] (jv_U f m (.inl (0, [.int 0, .null, .int 0, .null, .int 0, .int 0, .null, .null, .null, .null, .null, .null, .null, .null, .null, .null, .null, .null, .null, .null, .null, .null, .int 0, .null, .null, .null, .null, .null, .null, .null, .null, .int 0, .int 0, .int 0, .int 0, .int 0, .int 0, .int 0, .int 0, .int 0, .int 0, .int 0, .int 0, .int 0]) :: cs) y) = jv_ev call 0 10 [some (.ref m), l1] [] (jv_U f m (.inl (0, [.int (nI 7), .null, .int 0, .null, .int 0, .int 0, .null, .null, .null, .null, .null, .null, .null, .null, .null, .null, .null, .null, .null, .null, .null, .null, .int 0, .null, .null, .null, .null, .null, .null, .null, .null, .int 0, .int 0, .int 0, .int 0, .int 0, .int 0, .int 0, .int 0, .int 0, .int 0, .int 0, .int 0, .int 0]) :: cs) y) := by
  simp (disch := first | omega | exact id rfl | exact id (Nat.le_of_ble_eq_true rfl) | (simp (disch := first | exact id rfl | exact id (Nat.le_of_ble_eq_true rfl)) only [jv_U_pf0, Option.isSome_some])) only [E0_4, E0_5, E0_7, jv_U_pf0, Option.getD_some]
  rfl
theorem jx_mi_1 (hc : cs.length = 0) : jv_ev call 0 10 [some (.ref m), l1] [] (jv_U f m (.inl (0, [.int (nI 7), .null, .int 0, .null, .int 0, .int 0, .null, .null, .null, .null, .null, .null, .null, .null, .null, .null, .null, .null, .null, .null, .null, .null, .int 0, .null, .null, .null, .null, .null, .null, .null, .null, .int 0, .int 0, .int 0, .int 0, .int 0, .int 0, .int 0, .int 0, .int 0, .int 0, .int 0, .int 0, .int 0]) :: cs) y) = jv_ev call 0 19 [some (.ref m), l1] [] (jv_U f m (.inl (0, [.int (nI 7), .ref (m + 1), .int 0, .null, .int 0, .int 0, .null, .null, .null, .null, .null, .null, .null, .null, .null, .null, .null, .null, .null, .null, .null, .null, .int 0, .null, .null, .null, .null, .null, .null, .null, .null, .int 0, .int 0, .int 0, .int 0, .int 0, .int 0, .int 0, .int 0, .int 0, .int 0, .int 0, .int 0, .int 0]) :: (cs ++ [.inr (1, 1000, fun _ => .long 0)])) (y + 1000)) := by
  simp (disch := first | omega | exact id rfl | exact id (Nat.le_of_ble_eq_true rfl) | (simp (disch := first | exact id rfl | exact id (Nat.le_of_ble_eq_true rfl)) only [jv_U_pf0, Option.isSome_some])) only [E0_10, E0_11, E0_14, E0_16, jv_U_newa, jv_U_sz, List.length_cons, hc, jv_U_pf0, Option.getD_some]
  rfl
theorem jx_mi_2 (hc : cs.length = 1) : jv_ev call 0 19 [some (.ref m), l1] [] (jv_U f m (.inl (0, [.int (nI 7), .ref (m + 1), .int 0, .null, .int 0, .int 0, .null, .null, .null, .null, .null, .null, .null, .null, .null, .null, .null, .null, .null, .null, .null, .null, .int 0, .null, .null, .null, .null, .null, .null, .null, .null, .int 0, .int 0, .int 0, .int 0, .int 0, .int 0, .int 0, .int 0, .int 0, .int 0, .int 0, .int 0, .int 0]) :: cs) y) = jv_ev call 0 28 [some (.ref m), l1] [] (jv_U f m (.inl (0, [.int (nI 7), .ref (m + 1), .int 0, .ref (m + 2), .int 0, .int 0, .null, .null, .null, .null, .null, .null, .null, .null, .null, .null, .null, .null, .null, .null, .null, .null, .int 0, .null, .null, .null, .null, .null, .null, .null, .null, .int 0, .int 0, .int 0, .int 0, .int 0, .int 0, .int 0, .int 0, .int 0, .int 0, .int 0, .int 0, .int 0]) :: (cs ++ [.inr (0, 2000, fun _ => .int 0)])) (y + 2000)) := by
  simp (disch := first | omega | exact id rfl | exact id (Nat.le_of_ble_eq_true rfl) | (simp (disch := first | exact id rfl | exact id (Nat.le_of_ble_eq_true rfl)) only [jv_U_pf0, Option.isSome_some])) only [E0_19, E0_20, E0_23, E0_25, jv_U_newa, jv_U_sz, List.length_cons, hc, jv_U_pf0, Option.getD_some]
  rfl
theorem jx_mi_3 (hc : cs.length = 2) : jv_ev call 0 28 [some (.ref m), l1] [] (jv_U f m (.inl (0, [.int (nI 7), .ref (m + 1), .int 0, .ref (m + 2), .int 0, .int 0, .null, .null, .null, .null, .null, .null, .null, .null, .null, .null, .null, .null, .null, .null, .null, .null, .int 0, .null, .null, .null, .null, .null, .null, .null, .null, .int 0, .int 0, .int 0, .int 0, .int 0, .int 0, .int 0, .int 0, .int 0, .int 0, .int 0, .int 0, .int 0]) :: cs) y) = jv_ev call 0 36 [some (.ref m), l1] [] (jv_U f m (.inl (0, [.int (nI 7), .ref (m + 1), .int 0, .ref (m + 2), .int 0, .int 0, .ref (m + 3), .null, .null, .null, .null, .null, .null, .null, .null, .null, .null, .null, .null, .null, .null, .null, .int 0, .null, .null, .null, .null, .null, .null, .null, .null, .int 0, .int 0, .int 0, .int 0, .int 0, .int 0, .int 0, .int 0, .int 0, .int 0, .int 0, .int 0, .int 0]) :: (cs ++ [.inr (0, 12, fun _ => .int 0)])) (y + 12)) := by
  simp (disch := first | omega | exact id rfl | exact id (Nat.le_of_ble_eq_true rfl) | (simp (disch := first | exact id rfl | exact id (Nat.le_of_ble_eq_true rfl)) only [jv_U_pf0, Option.isSome_some])) only [E0_28, E0_29, E0_31, E0_33, jv_U_newa, jv_U_sz, List.length_cons, hc, jv_U_pf0, Option.getD_some]
  rfl
theorem jx_mi_4 (hc : cs.length = 3) : jv_ev call 0 36 [some (.ref m), l1] [] (jv_U f m (.inl (0, [.int (nI 7), .ref (m + 1), .int 0, .ref (m + 2), .int 0, .int 0, .ref (m + 3), .null, .null, .null, .null, .null, .null, .null, .null, .null, .null, .null, .null, .null, .null, .null, .int 0, .null, .null, .null, .null, .null, .null, .null, .null, .int 0, .int 0, .int 0, .int 0, .int 0, .int 0, .int 0, .int 0, .int 0, .int 0, .int 0, .int 0, .int 0]) :: cs) y) = jv_ev call 0 44 [some (.ref m), l1] [] (jv_U f m (.inl (0, [.int (nI 7), .ref (m + 1), .int 0, .ref (m + 2), .int 0, .int 0, .ref (m + 3), .ref (m + 4), .null, .null, .null, .null, .null, .null, .null, .null, .null, .null, .null, .null, .null, .null, .int 0, .null, .null, .null, .null, .null, .null, .null, .null, .int 0, .int 0, .int 0, .int 0, .int 0, .int 0, .int 0, .int 0, .int 0, .int 0, .int 0, .int 0, .int 0]) :: (cs ++ [.inr (0, 12, fun _ => .int 0)])) (y + 12)) := by
  simp (disch := first | omega | exact id rfl | exact id (Nat.le_of_ble_eq_true rfl) | (simp (disch := first | exact id rfl | exact id (Nat.le_of_ble_eq_true rfl)) only [jv_U_pf0, Option.isSome_some])) only [E0_36, E0_37, E0_39, E0_41, jv_U_newa, jv_U_sz, List.length_cons, hc, jv_U_pf0, Option.getD_some]
  rfl
theorem jx_mi_5 (hc : cs.length = 4) : jv_ev call 0 44 [some (.ref m), l1] [] (jv_U f m (.inl (0, [.int (nI 7), .ref (m + 1), .int 0, .ref (m + 2), .int 0, .int 0, .ref (m + 3), .ref (m + 4), .null, .null, .null, .null, .null, .null, .null, .null, .null, .null, .null, .null, .null, .null, .int 0, .null, .null, .null, .null, .null, .null, .null, .null, .int 0, .int 0, .int 0, .int 0, .int 0, .int 0, .int 0, .int 0, .int 0, .int 0, .int 0, .int 0, .int 0]) :: cs) y) = jv_ev call 0 52 [some (.ref m), l1] [] (jv_U f m (.inl (0, [.int (nI 7), .ref (m + 1), .int 0, .ref (m + 2), .int 0, .int 0, .ref (m + 3), .ref (m + 4), .ref (m + 5), .null, .null, .null, .null, .null, .null, .null, .null, .null, .null, .null, .null, .null, .int 0, .null, .null, .null, .null, .null, .null, .null, .null, .int 0, .int 0, .int 0, .int 0, .int 0, .int 0, .int 0, .int 0, .int 0, .int 0, .int 0, .int 0, .int 0]) :: (cs ++ [.inr (0, 12, fun _ => .int 0)])) (y + 12)) := by
  simp (disch := first | omega | exact id rfl | exact id (Nat.le_of_ble_eq_true rfl) | (simp (disch := first | exact id rfl | exact id (Nat.le_of_ble_eq_true rfl)) only [jv_U_pf0, Option.isSome_some])) only [E0_44, E0_45, E0_47, E0_49, jv_U_newa, jv_U_sz, List.length_cons, hc, jv_U_pf0, Option.getD_some]
  rfl
theorem jx_mi_6 (hc : cs.length = 5) : jv_ev call 0 52 [some (.ref m), l1] [] (jv_U f m (.inl (0, [.int (nI 7), .ref (m + 1), .int 0, .ref (m + 2), .int 0, .int 0, .ref (m + 3), .ref (m + 4), .ref (m + 5), .null, .null, .null, .null, .null, .null, .null, .null, .null, .null, .null, .null, .null, .int 0, .null, .null, .null, .null, .null, .null, .null, .null, .int 0, .int 0, .int 0, .int 0, .int 0, .int 0, .int 0, .int 0, .int 0, .int 0, .int 0, .int 0, .int 0]) :: cs) y) = jv_ev call 0 60 [some (.ref m), l1] [] (jv_U f m (.inl (0, [.int (nI 7), .ref (m + 1), .int 0, .ref (m + 2), .int 0, .int 0, .ref (m + 3), .ref (m + 4), .ref (m + 5), .ref (m + 6), .null, .null, .null, .null, .null, .null, .null, .null, .null, .null, .null, .null, .int 0, .null, .null, .null, .null, .null, .null, .null, .null, .int 0, .int 0, .int 0, .int 0, .int 0, .int 0, .int 0, .int 0, .int 0, .int 0, .int 0, .int 0, .int 0]) :: (cs ++ [.inr (0, 12, fun _ => .int 0)])) (y + 12)) := by
  simp (disch := first | omega | exact id rfl | exact id (Nat.le_of_ble_eq_true rfl) | (simp (disch := first | exact id rfl | exact id (Nat.le_of_ble_eq_true rfl)) only [jv_U_pf0, Option.isSome_some])) only [E0_52, E0_53, E0_55, E0_57, jv_U_newa, jv_U_sz, List.length_cons, hc, jv_U_pf0, Option.getD_some]
  rfl
theorem jx_mi_7 (hc : cs.length = 6) : jv_ev call 0 60 [some (.ref m), l1] [] (jv_U f m (.inl (0, [.int (nI 7), .ref (m + 1), .int 0, .ref (m + 2), .int 0, .int 0, .ref (m + 3), .ref (m + 4), .ref (m + 5), .ref (m + 6), .null, .null, .null, .null, .null, .null, .null, .null, .null, .null, .null, .null, .int 0, .null, .null, .null, .null, .null, .null, .null, .null, .int 0, .int 0, .int 0, .int 0, .int 0, .int 0, .int 0, .int 0, .int 0, .int 0, .int 0, .int 0, .int 0]) :: cs) y) = jv_ev call 0 68 [some (.ref m), l1] [] (jv_U f m (.inl (0, [.int (nI 7), .ref (m + 1), .int 0, .ref (m + 2), .int 0, .int 0, .ref (m + 3), .ref (m + 4), .ref (m + 5), .ref (m + 6), .ref (m + 7), .null, .null, .null, .null, .null, .null, .null, .null, .null, .null, .null, .int 0, .null, .null, .null, .null, .null, .null, .null, .null, .int 0, .int 0, .int 0, .int 0, .int 0, .int 0, .int 0, .int 0, .int 0, .int 0, .int 0, .int 0, .int 0]) :: (cs ++ [.inr (1, 12, fun _ => .long 0)])) (y + 12)) := by
  simp (disch := first | omega | exact id rfl | exact id (Nat.le_of_ble_eq_true rfl) | (simp (disch := first | exact id rfl | exact id (Nat.le_of_ble_eq_true rfl)) only [jv_U_pf0, Option.isSome_some])) only [E0_60, E0_61, E0_63, E0_65, jv_U_newa, jv_U_sz, List.length_cons, hc, jv_U_pf0, Option.getD_some]
  rfl
theorem jx_mi_8 (hc : cs.length = 7) : jv_ev call 0 68 [some (.ref m), l1] [] (jv_U f m (.inl (0, [.int (nI 7), .ref (m + 1), .int 0, .ref (m + 2), .int 0, .int 0, .ref (m + 3), .ref (m + 4), .ref (m + 5), .ref (m + 6), .ref (m + 7), .null, .null, .null, .null, .null, .null, .null, .null, .null, .null, .null, .int 0, .null, .null, .null, .null, .null, .null, .null, .null, .int 0, .int 0, .int 0, .int 0, .int 0, .int 0, .int 0, .int 0, .int 0, .int 0, .int 0, .int 0, .int 0]) :: cs) y) = jv_ev call 0 77 [some (.ref m), l1] [] (jv_U f m (.inl (0, [.int (nI 7), .ref (m + 1), .int 0, .ref (m + 2), .int 0, .int 0, .ref (m + 3), .ref (m + 4), .ref (m + 5), .ref (m + 6), .ref (m + 7), .ref (m + 8), .null, .null, .null, .null, .null, .null, .null, .null, .null, .null, .int 0, .null, .null, .null, .null, .null, .null, .null, .null, .int 0, .int 0, .int 0, .int 0, .int 0, .int 0, .int 0, .int 0, .int 0, .int 0, .int 0, .int 0, .int 0]) :: (cs ++ [.inr (0, 1536, fun _ => .int 0)])) (y + 1536)) := by
  simp (disch := first | omega | exact id rfl | exact id (Nat.le_of_ble_eq_true rfl) | (simp (disch := first | exact id rfl | exact id (Nat.le_of_ble_eq_true rfl)) only [jv_U_pf0, Option.isSome_some])) only [E0_68, E0_69, E0_72, E0_74, jv_U_newa, jv_U_sz, List.length_cons, hc, jv_U_pf0, Option.getD_some]
  rfl
theorem jx_mi_9 (hc : cs.length = 8) : jv_ev call 0 77 [some (.ref m), l1] [] (jv_U f m (.inl (0, [.int (nI 7), .ref (m + 1), .int 0, .ref (m + 2), .int 0, .int 0, .ref (m + 3), .ref (m + 4), .ref (m + 5), .ref (m + 6), .ref (m + 7), .ref (m + 8), .null, .null, .null, .null, .null, .null, .null, .null, .null, .null, .int 0, .null, .null, .null, .null, .null, .null, .null, .null, .int 0, .int 0, .int 0, .int 0, .int 0, .int 0, .int 0, .int 0, .int 0, .int 0, .int 0, .int 0, .int 0]) :: cs) y) = jv_ev call 0 86 [some (.ref m), l1] [] (jv_U f m (.inl (0, [.int (nI 7), .ref (m + 1), .int 0, .ref (m + 2), .int 0, .int 0, .ref (m + 3), .ref (m + 4), .ref (m + 5), .ref (m + 6), .ref (m + 7), .ref (m + 8), .ref (m + 9), .null, .null, .null, .null, .null, .null, .null, .null, .null, .int 0, .null, .null, .null, .null, .null, .null, .null, .null, .int 0, .int 0, .int 0, .int 0, .int 0, .int 0, .int 0, .int 0, .int 0, .int 0, .int 0, .int 0, .int 0]) :: (cs ++ [.inr (1, 12288, fun _ => .long 0)])) (y + 12288)) := by
  simp (disch := first | omega | exact id rfl | exact id (Nat.le_of_ble_eq_true rfl) | (simp (disch := first | exact id rfl | exact id (Nat.le_of_ble_eq_true rfl)) only [jv_U_pf0, Option.isSome_some])) only [E0_77, E0_78, E0_81, E0_83, jv_U_newa, jv_U_sz, List.length_cons, hc, jv_U_pf0, Option.getD_some]
  rfl
theorem jx_mi_10 (hc : cs.length = 9) : jv_ev call 0 86 [some (.ref m), l1] [] (jv_U f m (.inl (0, [.int (nI 7), .ref (m + 1), .int 0, .ref (m + 2), .int 0, .int 0, .ref (m + 3), .ref (m + 4), .ref (m + 5), .ref (m + 6), .ref (m + 7), .ref (m + 8), .ref (m + 9), .null, .null, .null, .null, .null, .null, .null, .null, .null, .int 0, .null, .null, .null, .null, .null, .null, .null, .null, .int 0, .int 0, .int 0, .int 0, .int 0, .int 0, .int 0, .int 0, .int 0, .int 0, .int 0, .int 0, .int 0]) :: cs) y) = jv_ev call 0 95 [some (.ref m), l1] [] (jv_U f m (.inl (0, [.int (nI 7), .ref (m + 1), .int 0, .ref (m + 2), .int 0, .int 0, .ref (m + 3), .ref (m + 4), .ref (m + 5), .ref (m + 6), .ref (m + 7), .ref (m + 8), .ref (m + 9), .ref (m + 10), .null, .null, .null, .null, .null, .null, .null, .null, .int 0, .null, .null, .null, .null, .null, .null, .null, .null, .int 0, .int 0, .int 0, .int 0, .int 0, .int 0, .int 0, .int 0, .int 0, .int 0, .int 0, .int 0, .int 0]) :: (cs ++ [.inr (0, 24000, fun _ => .int 0)])) (y + 24000)) := by
  simp (disch := first | omega | exact id rfl | exact id (Nat.le_of_ble_eq_true rfl) | (simp (disch := first | exact id rfl | exact id (Nat.le_of_ble_eq_true rfl)) only [jv_U_pf0, Option.isSome_some])) only [E0_86, E0_87, E0_90, E0_92, jv_U_newa, jv_U_sz, List.length_cons, hc, jv_U_pf0, Option.getD_some]
  rfl
theorem jx_mi_11 (hc : cs.length = 10) : jv_ev call 0 95 [some (.ref m), l1] [] (jv_U f m (.inl (0, [.int (nI 7), .ref (m + 1), .int 0, .ref (m + 2), .int 0, .int 0, .ref (m + 3), .ref (m + 4), .ref (m + 5), .ref (m + 6), .ref (m + 7), .ref (m + 8), .ref (m + 9), .ref (m + 10), .null, .null, .null, .null, .null, .null, .null, .null, .int 0, .null, .null, .null, .null, .null, .null, .null, .null, .int 0, .int 0, .int 0, .int 0, .int 0, .int 0, .int 0, .int 0, .int 0, .int 0, .int 0, .int 0, .int 0]) :: cs) y) = jv_ev call 0 103 [some (.ref m), l1] [] (jv_U f m (.inl (0, [.int (nI 7), .ref (m + 1), .int 0, .ref (m + 2), .int 0, .int 0, .ref (m + 3), .ref (m + 4), .ref (m + 5), .ref (m + 6), .ref (m + 7), .ref (m + 8), .ref (m + 9), .ref (m + 10), .ref (m + 11), .null, .null, .null, .null, .null, .null, .null, .int 0, .null, .null, .null, .null, .null, .null, .null, .null, .int 0, .int 0, .int 0, .int 0, .int 0, .int 0, .int 0, .int 0, .int 0, .int 0, .int 0, .int 0, .int 0]) :: (cs ++ [.inr (0, 12, fun _ => .int 0)])) (y + 12)) := by
  simp (disch := first | omega | exact id rfl | exact id (Nat.le_of_ble_eq_true rfl) | (simp (disch := first | exact id rfl | exact id (Nat.le_of_ble_eq_true rfl)) only [jv_U_pf0, Option.isSome_some])) only [E0_95, E0_96, E0_98, E0_100, jv_U_newa, jv_U_sz, List.length_cons, hc, jv_U_pf0, Option.getD_some]
  rfl
theorem jx_mi_12 (hc : cs.length = 11) : jv_ev call 0 103 [some (.ref m), l1] [] (jv_U f m (.inl (0, [.int (nI 7), .ref (m + 1), .int 0, .ref (m + 2), .int 0, .int 0, .ref (m + 3), .ref (m + 4), .ref (m + 5), .ref (m + 6), .ref (m + 7), .ref (m + 8), .ref (m + 9), .ref (m + 10), .ref (m + 11), .null, .null, .null, .null, .null, .null, .null, .int 0, .null, .null, .null, .null, .null, .null, .null, .null, .int 0, .int 0, .int 0, .int 0, .int 0, .int 0, .int 0, .int 0, .int 0, .int 0, .int 0, .int 0, .int 0]) :: cs) y) = jv_ev call 0 111 [some (.ref m), l1] [] (jv_U f m (.inl (0, [.int (nI 7), .ref (m + 1), .int 0, .ref (m + 2), .int 0, .int 0, .ref (m + 3), .ref (m + 4), .ref (m + 5), .ref (m + 6), .ref (m + 7), .ref (m + 8), .ref (m + 9), .ref (m + 10), .ref (m + 11), .ref (m + 12), .null, .null, .null, .null, .null, .null, .int 0, .null, .null, .null, .null, .null, .null, .null, .null, .int 0, .int 0, .int 0, .int 0, .int 0, .int 0, .int 0, .int 0, .int 0, .int 0, .int 0, .int 0, .int 0]) :: (cs ++ [.inr (0, 12, fun _ => .int 0)])) (y + 12)) := by
  simp (disch := first | omega | exact id rfl | exact id (Nat.le_of_ble_eq_true rfl) | (simp (disch := first | exact id rfl | exact id (Nat.le_of_ble_eq_true rfl)) only [jv_U_pf0, Option.isSome_some])) only [E0_103, E0_104, E0_106, E0_108, jv_U_newa, jv_U_sz, List.length_cons, hc, jv_U_pf0, Option.getD_some]
  rfl
theorem jx_mi_13 (hc : cs.length = 12) : jv_ev call 0 111 [some (.ref m), l1] [] (jv_U f m (.inl (0, [.int (nI 7), .ref (m + 1), .int 0, .ref (m + 2), .int 0, .int 0, .ref (m + 3), .ref (m + 4), .ref (m + 5), .ref (m + 6), .ref (m + 7), .ref (m + 8), .ref (m + 9), .ref (m + 10), .ref (m + 11), .ref (m + 12), .null, .null, .null, .null, .null, .null, .int 0, .null, .null, .null, .null, .null, .null, .null, .null, .int 0, .int 0, .int 0, .int 0, .int 0, .int 0, .int 0, .int 0, .int 0, .int 0, .int 0, .int 0, .int 0]) :: cs) y) = jv_ev call 0 120 [some (.ref m), l1] [] (jv_U f m (.inl (0, [.int (nI 7), .ref (m + 1), .int 0, .ref (m + 2), .int 0, .int 0, .ref (m + 3), .ref (m + 4), .ref (m + 5), .ref (m + 6), .ref (m + 7), .ref (m + 8), .ref (m + 9), .ref (m + 10), .ref (m + 11), .ref (m + 12), .ref (m + 13), .null, .null, .null, .null, .null, .int 0, .null, .null, .null, .null, .null, .null, .null, .null, .int 0, .int 0, .int 0, .int 0, .int 0, .int 0, .int 0, .int 0, .int 0, .int 0, .int 0, .int 0, .int 0]) :: (cs ++ [.inr (0, 4800, fun _ => .int 0)])) (y + 4800)) := by
  simp (disch := first | omega | exact id rfl | exact id (Nat.le_of_ble_eq_true rfl) | (simp (disch := first | exact id rfl | exact id (Nat.le_of_ble_eq_true rfl)) only [jv_U_pf0, Option.isSome_some])) only [E0_111, E0_112, E0_115, E0_117, jv_U_newa, jv_U_sz, List.length_cons, hc, jv_U_pf0, Option.getD_some]
  rfl
theorem jx_mi_14 (hc : cs.length = 13) : jv_ev call 0 120 [some (.ref m), l1] [] (jv_U f m (.inl (0, [.int (nI 7), .ref (m + 1), .int 0, .ref (m + 2), .int 0, .int 0, .ref (m + 3), .ref (m + 4), .ref (m + 5), .ref (m + 6), .ref (m + 7), .ref (m + 8), .ref (m + 9), .ref (m + 10), .ref (m + 11), .ref (m + 12), .ref (m + 13), .null, .null, .null, .null, .null, .int 0, .null, .null, .null, .null, .null, .null, .null, .null, .int 0, .int 0, .int 0, .int 0, .int 0, .int 0, .int 0, .int 0, .int 0, .int 0, .int 0, .int 0, .int 0]) :: cs) y) = jv_ev call 0 128 [some (.ref m), l1] [] (jv_U f m (.inl (0, [.int (nI 7), .ref (m + 1), .int 0, .ref (m + 2), .int 0, .int 0, .ref (m + 3), .ref (m + 4), .ref (m + 5), .ref (m + 6), .ref (m + 7), .ref (m + 8), .ref (m + 9), .ref (m + 10), .ref (m + 11), .ref (m + 12), .ref (m + 13), .ref (m + 14), .null, .null, .null, .null, .int 0, .null, .null, .null, .null, .null, .null, .null, .null, .int 0, .int 0, .int 0, .int 0, .int 0, .int 0, .int 0, .int 0, .int 0, .int 0, .int 0, .int 0, .int 0]) :: (cs ++ [.inr (0, 12, fun _ => .int 0)])) (y + 12)) := by
  simp (disch := first | omega | exact id rfl | exact id (Nat.le_of_ble_eq_true rfl) | (simp (disch := first | exact id rfl | exact id (Nat.le_of_ble_eq_true rfl)) only [jv_U_pf0, Option.isSome_some])) only [E0_120, E0_121, E0_123, E0_125, jv_U_newa, jv_U_sz, List.length_cons, hc, jv_U_pf0, Option.getD_some]
  rfl
theorem jx_mi_15 (hc : cs.length = 14) : jv_ev call 0 128 [some (.ref m), l1] [] (jv_U f m (.inl (0, [.int (nI 7), .ref (m + 1), .int 0, .ref (m + 2), .int 0, .int 0, .ref (m + 3), .ref (m + 4), .ref (m + 5), .ref (m + 6), .ref (m + 7), .ref (m + 8), .ref (m + 9), .ref (m + 10), .ref (m + 11), .ref (m + 12), .ref (m + 13), .ref (m + 14), .null, .null, .null, .null, .int 0, .null, .null, .null, .null, .null, .null, .null, .null, .int 0, .int 0, .int 0, .int 0, .int 0, .int 0, .int 0, .int 0, .int 0, .int 0, .int 0, .int 0, .int 0]) :: cs) y) = jv_ev call 0 136 [some (.ref m), l1] [] (jv_U f m (.inl (0, [.int (nI 7), .ref (m + 1), .int 0, .ref (m + 2), .int 0, .int 0, .ref (m + 3), .ref (m + 4), .ref (m + 5), .ref (m + 6), .ref (m + 7), .ref (m + 8), .ref (m + 9), .ref (m + 10), .ref (m + 11), .ref (m + 12), .ref (m + 13), .ref (m + 14), .ref (m + 15), .null, .null, .null, .int 0, .null, .null, .null, .null, .null, .null, .null, .null, .int 0, .int 0, .int 0, .int 0, .int 0, .int 0, .int 0, .int 0, .int 0, .int 0, .int 0, .int 0, .int 0]) :: (cs ++ [.inr (0, 12, fun _ => .int 0)])) (y + 12)) := by
  simp (disch := first | omega | exact id rfl | exact id (Nat.le_of_ble_eq_true rfl) | (simp (disch := first | exact id rfl | exact id (Nat.le_of_ble_eq_true rfl)) only [jv_U_pf0, Option.isSome_some])) only [E0_128, E0_129, E0_131, E0_133, jv_U_newa, jv_U_sz, List.length_cons, hc, jv_U_pf0, Option.getD_some]
  rfl
theorem jx_mi_16 (hc : cs.length = 15) : jv_ev call 0 136 [some (.ref m), l1] [] (jv_U f m (.inl (0, [.int (nI 7), .ref (m + 1), .int 0, .ref (m + 2), .int 0, .int 0, .ref (m + 3), .ref (m + 4), .ref (m + 5), .ref (m + 6), .ref (m + 7), .ref (m + 8), .ref (m + 9), .ref (m + 10), .ref (m + 11), .ref (m + 12), .ref (m + 13), .ref (m + 14), .ref (m + 15), .null, .null, .null, .int 0, .null, .null, .null, .null, .null, .null, .null, .null, .int 0, .int 0, .int 0, .int 0, .int 0, .int 0, .int 0, .int 0, .int 0, .int 0, .int 0, .int 0, .int 0]) :: cs) y) = jv_ev call 0 144 [some (.ref m), l1] [] (jv_U f m (.inl (0, [.int (nI 7), .ref (m + 1), .int 0, .ref (m + 2), .int 0, .int 0, .ref (m + 3), .ref (m + 4), .ref (m + 5), .ref (m + 6), .ref (m + 7), .ref (m + 8), .ref (m + 9), .ref (m + 10), .ref (m + 11), .ref (m + 12), .ref (m + 13), .ref (m + 14), .ref (m + 15), .ref (m + 16), .null, .null, .int 0, .null, .null, .null, .null, .null, .null, .null, .null, .int 0, .int 0, .int 0, .int 0, .int 0, .int 0, .int 0, .int 0, .int 0, .int 0, .int 0, .int 0, .int 0]) :: (cs ++ [.inr (0, 12, fun _ => .int 0)])) (y + 12)) := by
  simp (disch := first | omega | exact id rfl | exact id (Nat.le_of_ble_eq_true rfl) | (simp (disch := first | exact id rfl | exact id (Nat.le_of_ble_eq_true rfl)) only [jv_U_pf0, Option.isSome_some])) only [E0_136, E0_137, E0_139, E0_141, jv_U_newa, jv_U_sz, List.length_cons, hc, jv_U_pf0, Option.getD_some]
  rfl
theorem jx_mi_17 (hc : cs.length = 16) : jv_ev call 0 144 [some (.ref m), l1] [] (jv_U f m (.inl (0, [.int (nI 7), .ref (m + 1), .int 0, .ref (m + 2), .int 0, .int 0, .ref (m + 3), .ref (m + 4), .ref (m + 5), .ref (m + 6), .ref (m + 7), .ref (m + 8), .ref (m + 9), .ref (m + 10), .ref (m + 11), .ref (m + 12), .ref (m + 13), .ref (m + 14), .ref (m + 15), .ref (m + 16), .null, .null, .int 0, .null, .null, .null, .null, .null, .null, .null, .null, .int 0, .int 0, .int 0, .int 0, .int 0, .int 0, .int 0, .int 0, .int 0, .int 0, .int 0, .int 0, .int 0]) :: cs) y) = jv_ev call 0 153 [some (.ref m), l1] [] (jv_U f m (.inl (0, [.int (nI 7), .ref (m + 1), .int 0, .ref (m + 2), .int 0, .int 0, .ref (m + 3), .ref (m + 4), .ref (m + 5), .ref (m + 6), .ref (m + 7), .ref (m + 8), .ref (m + 9), .ref (m + 10), .ref (m + 11), .ref (m + 12), .ref (m + 13), .ref (m + 14), .ref (m + 15), .ref (m + 16), .ref (m + 17), .null, .int 0, .null, .null, .null, .null, .null, .null, .null, .null, .int 0, .int 0, .int 0, .int 0, .int 0, .int 0, .int 0, .int 0, .int 0, .int 0, .int 0, .int 0, .int 0]) :: (cs ++ [.inr (2, 768, fun _ => .int 0)])) (y + 768)) := by
  simp (disch := first | omega | exact id rfl | exact id (Nat.le_of_ble_eq_true rfl) | (simp (disch := first | exact id rfl | exact id (Nat.le_of_ble_eq_true rfl)) only [jv_U_pf0, Option.isSome_some])) only [E0_144, E0_145, E0_148, E0_150, jv_U_newa, jv_U_sz, List.length_cons, hc, jv_U_pf0, Option.getD_some]
  rfl
theorem jx_mi_18 (hc : cs.length = 17) : jv_ev call 0 153 [some (.ref m), l1] [] (jv_U f m (.inl (0, [.int (nI 7), .ref (m + 1), .int 0, .ref (m + 2), .int 0, .int 0, .ref (m + 3), .ref (m + 4), .ref (m + 5), .ref (m + 6), .ref (m + 7), .ref (m + 8), .ref (m + 9), .ref (m + 10), .ref (m + 11), .ref (m + 12), .ref (m + 13), .ref (m + 14), .ref (m + 15), .ref (m + 16), .ref (m + 17), .null, .int 0, .null, .null, .null, .null, .null, .null, .null, .null, .int 0, .int 0, .int 0, .int 0, .int 0, .int 0, .int 0, .int 0, .int 0, .int 0, .int 0, .int 0, .int 0]) :: cs) y) = jv_ev call 0 162 [some (.ref m), l1] [] (jv_U f m (.inl (0, [.int (nI 7), .ref (m + 1), .int 0, .ref (m + 2), .int 0, .int 0, .ref (m + 3), .ref (m + 4), .ref (m + 5), .ref (m + 6), .ref (m + 7), .ref (m + 8), .ref (m + 9), .ref (m + 10), .ref (m + 11), .ref (m + 12), .ref (m + 13), .ref (m + 14), .ref (m + 15), .ref (m + 16), .ref (m + 17), .ref (m + 18), .int 0, .null, .null, .null, .null, .null, .null, .null, .null, .int 0, .int 0, .int 0, .int 0, .int 0, .int 0, .int 0, .int 0, .int 0, .int 0, .int 0, .int 0, .int 0]) :: (cs ++ [.inr (0, 768, fun _ => .int 0)])) (y + 768)) := by
  simp (disch := first | omega | exact id rfl | exact id (Nat.le_of_ble_eq_true rfl) | (simp (disch := first | exact id rfl | exact id (Nat.le_of_ble_eq_true rfl)) only [jv_U_pf0, Option.isSome_some])) only [E0_153, E0_154, E0_157, E0_159, jv_U_newa, jv_U_sz, List.length_cons, hc, jv_U_pf0, Option.getD_some]
  rfl
theorem jx_mi_19 (hc : cs.length = 18) : jv_ev call 0 162 [some (.ref m), l1] [] (jv_U f m (.inl (0, [.int (nI 7), .ref (m + 1), .int 0, .ref (m + 2), .int 0, .int 0, .ref (m + 3), .ref (m + 4), .ref (m + 5), .ref (m + 6), .ref (m + 7), .ref (m + 8), .ref (m + 9), .ref (m + 10), .ref (m + 11), .ref (m + 12), .ref (m + 13), .ref (m + 14), .ref (m + 15), .ref (m + 16), .ref (m + 17), .ref (m + 18), .int 0, .null, .null, .null, .null, .null, .null, .null, .null, .int 0, .int 0, .int 0, .int 0, .int 0, .int 0, .int 0, .int 0, .int 0, .int 0, .int 0, .int 0, .int 0]) :: cs) y) = jv_ev call 0 170 [some (.ref m), l1] [] (jv_U f m (.inl (0, [.int (nI 7), .ref (m + 1), .int 0, .ref (m + 2), .int 0, .int 0, .ref (m + 3), .ref (m + 4), .ref (m + 5), .ref (m + 6), .ref (m + 7), .ref (m + 8), .ref (m + 9), .ref (m + 10), .ref (m + 11), .ref (m + 12), .ref (m + 13), .ref (m + 14), .ref (m + 15), .ref (m + 16), .ref (m + 17), .ref (m + 18), .int 0, .ref (m + 19), .null, .null, .null, .null, .null, .null, .null, .int 0, .int 0, .int 0, .int 0, .int 0, .int 0, .int 0, .int 0, .int 0, .int 0, .int 0, .int 0, .int 0]) :: (cs ++ [.inr (0, 17, fun _ => .int 0)])) (y + 17)) := by
  simp (disch := first | omega | exact id rfl | exact id (Nat.le_of_ble_eq_true rfl) | (simp (disch := first | exact id rfl | exact id (Nat.le_of_ble_eq_true rfl)) only [jv_U_pf0, Option.isSome_some])) only [E0_162, E0_163, E0_165, E0_167, jv_U_newa, jv_U_sz, List.length_cons, hc, jv_U_pf0, Option.getD_some]
  rfl
theorem jx_mi_20 (hc : cs.length = 19) : jv_ev call 0 170 [some (.ref m), l1] [] (jv_U f m (.inl (0, [.int (nI 7), .ref (m + 1), .int 0, .ref (m + 2), .int 0, .int 0, .ref (m + 3), .ref (m + 4), .ref (m + 5), .ref (m + 6), .ref (m + 7), .ref (m + 8), .ref (m + 9), .ref (m + 10), .ref (m + 11), .ref (m + 12), .ref (m + 13), .ref (m + 14), .ref (m + 15), .ref (m + 16), .ref (m + 17), .ref (m + 18), .int 0, .ref (m + 19), .null, .null, .null, .null, .null, .null, .null, .int 0, .int 0, .int 0, .int 0, .int 0, .int 0, .int 0, .int 0, .int 0, .int 0, .int 0, .int 0, .int 0]) :: cs) y) = jv_ev call 0 178 [some (.ref m), l1] [] (jv_U f m (.inl (0, [.int (nI 7), .ref (m + 1), .int 0, .ref (m + 2), .int 0, .int 0, .ref (m + 3), .ref (m + 4), .ref (m + 5), .ref (m + 6), .ref (m + 7), .ref (m + 8), .ref (m + 9), .ref (m + 10), .ref (m + 11), .ref (m + 12), .ref (m + 13), .ref (m + 14), .ref (m + 15), .ref (m + 16), .ref (m + 17), .ref (m + 18), .int 0, .ref (m + 19), .ref (m + 20), .null, .null, .null, .null, .null, .null, .int 0, .int 0, .int 0, .int 0, .int 0, .int 0, .int 0, .int 0, .int 0, .int 0, .int 0, .int 0, .int 0]) :: (cs ++ [.inr (0, 17, fun _ => .int 0)])) (y + 17)) := by
  simp (disch := first | omega | exact id rfl | exact id (Nat.le_of_ble_eq_true rfl) | (simp (disch := first | exact id rfl | exact id (Nat.le_of_ble_eq_true rfl)) only [jv_U_pf0, Option.isSome_some])) only [E0_170, E0_171, E0_173, E0_175, jv_U_newa, jv_U_sz, List.length_cons, hc, jv_U_pf0, Option.getD_some]
  rfl
theorem jx_mi_21 (hc : cs.length = 20) : jv_ev call 0 178 [some (.ref m), l1] [] (jv_U f m (.inl (0, [.int (nI 7), .ref (m + 1), .int 0, .ref (m + 2), .int 0, .int 0, .ref (m + 3), .ref (m + 4), .ref (m + 5), .ref (m + 6), .ref (m + 7), .ref (m + 8), .ref (m + 9), .ref (m + 10), .ref (m + 11), .ref (m + 12), .ref (m + 13), .ref (m + 14), .ref (m + 15), .ref (m + 16), .ref (m + 17), .ref (m + 18), .int 0, .ref (m + 19), .ref (m + 20), .null, .null, .null, .null, .null, .null, .int 0, .int 0, .int 0, .int 0, .int 0, .int 0, .int 0, .int 0, .int 0, .int 0, .int 0, .int 0, .int 0]) :: cs) y) = jv_ev call 0 186 [some (.ref m), l1] [] (jv_U f m (.inl (0, [.int (nI 7), .ref (m + 1), .int 0, .ref (m + 2), .int 0, .int 0, .ref (m + 3), .ref (m + 4), .ref (m + 5), .ref (m + 6), .ref (m + 7), .ref (m + 8), .ref (m + 9), .ref (m + 10), .ref (m + 11), .ref (m + 12), .ref (m + 13), .ref (m + 14), .ref (m + 15), .ref (m + 16), .ref (m + 17), .ref (m + 18), .int 0, .ref (m + 19), .ref (m + 20), .ref (m + 21), .null, .null, .null, .null, .null, .int 0, .int 0, .int 0, .int 0, .int 0, .int 0, .int 0, .int 0, .int 0, .int 0, .int 0, .int 0, .int 0]) :: (cs ++ [.inr (0, 17, fun _ => .int 0)])) (y + 17)) := by
  simp (disch := first | omega | exact id rfl | exact id (Nat.le_of_ble_eq_true rfl) | (simp (disch := first | exact id rfl | exact id (Nat.le_of_ble_eq_true rfl)) only [jv_U_pf0, Option.isSome_some])) only [E0_178, E0_179, E0_181, E0_183, jv_U_newa, jv_U_sz, List.length_cons, hc, jv_U_pf0, Option.getD_some]
  rfl
theorem jx_mi_22 (hc : cs.length = 21) : jv_ev call 0 186 [some (.ref m), l1] [] (jv_U f m (.inl (0, [.int (nI 7), .ref (m + 1), .int 0, .ref (m + 2), .int 0, .int 0, .ref (m + 3), .ref (m + 4), .ref (m + 5), .ref (m + 6), .ref (m + 7), .ref (m + 8), .ref (m + 9), .ref (m + 10), .ref (m + 11), .ref (m + 12), .ref (m + 13), .ref (m + 14), .ref (m + 15), .ref (m + 16), .ref (m + 17), .ref (m + 18), .int 0, .ref (m + 19), .ref (m + 20), .ref (m + 21), .null, .null, .null, .null, .null, .int 0, .int 0, .int 0, .int 0, .int 0, .int 0, .int 0, .int 0, .int 0, .int 0, .int 0, .int 0, .int 0]) :: cs) y) = jv_ev call 0 194 [some (.ref m), l1] [] (jv_U f m (.inl (0, [.int (nI 7), .ref (m + 1), .int 0, .ref (m + 2), .int 0, .int 0, .ref (m + 3), .ref (m + 4), .ref (m + 5), .ref (m + 6), .ref (m + 7), .ref (m + 8), .ref (m + 9), .ref (m + 10), .ref (m + 11), .ref (m + 12), .ref (m + 13), .ref (m + 14), .ref (m + 15), .ref (m + 16), .ref (m + 17), .ref (m + 18), .int 0, .ref (m + 19), .ref (m + 20), .ref (m + 21), .ref (m + 22), .null, .null, .null, .null, .int 0, .int 0, .int 0, .int 0, .int 0, .int 0, .int 0, .int 0, .int 0, .int 0, .int 0, .int 0, .int 0]) :: (cs ++ [.inr (2, 17, fun _ => .int 0)])) (y + 17)) := by
  simp (disch := first | omega | exact id rfl | exact id (Nat.le_of_ble_eq_true rfl) | (simp (disch := first | exact id rfl | exact id (Nat.le_of_ble_eq_true rfl)) only [jv_U_pf0, Option.isSome_some])) only [E0_186, E0_187, E0_189, E0_191, jv_U_newa, jv_U_sz, List.length_cons, hc, jv_U_pf0, Option.getD_some]
  rfl
theorem jx_mi_23 (hc : cs.length = 22) : jv_ev call 0 194 [some (.ref m), l1] [] (jv_U f m (.inl (0, [.int (nI 7), .ref (m + 1), .int 0, .ref (m + 2), .int 0, .int 0, .ref (m + 3), .ref (m + 4), .ref (m + 5), .ref (m + 6), .ref (m + 7), .ref (m + 8), .ref (m + 9), .ref (m + 10), .ref (m + 11), .ref (m + 12), .ref (m + 13), .ref (m + 14), .ref (m + 15), .ref (m + 16), .ref (m + 17), .ref (m + 18), .int 0, .ref (m + 19), .ref (m + 20), .ref (m + 21), .ref (m + 22), .null, .null, .null, .null, .int 0, .int 0, .int 0, .int 0, .int 0, .int 0, .int 0, .int 0, .int 0, .int 0, .int 0, .int 0, .int 0]) :: cs) y) = jv_ev call 0 202 [some (.ref m), l1] [] (jv_U f m (.inl (0, [.int (nI 7), .ref (m + 1), .int 0, .ref (m + 2), .int 0, .int 0, .ref (m + 3), .ref (m + 4), .ref (m + 5), .ref (m + 6), .ref (m + 7), .ref (m + 8), .ref (m + 9), .ref (m + 10), .ref (m + 11), .ref (m + 12), .ref (m + 13), .ref (m + 14), .ref (m + 15), .ref (m + 16), .ref (m + 17), .ref (m + 18), .int 0, .ref (m + 19), .ref (m + 20), .ref (m + 21), .ref (m + 22), .ref (m + 23), .null, .null, .null, .int 0, .int 0, .int 0, .int 0, .int 0, .int 0, .int 0, .int 0, .int 0, .int 0, .int 0, .int 0, .int 0]) :: (cs ++ [.inr (2, 17, fun _ => .int 0)])) (y + 17)) := by
  simp (disch := first | omega | exact id rfl | exact id (Nat.le_of_ble_eq_true rfl) | (simp (disch := first | exact id rfl | exact id (Nat.le_of_ble_eq_true rfl)) only [jv_U_pf0, Option.isSome_some])) only [E0_194, E0_195, E0_197, E0_199, jv_U_newa, jv_U_sz, List.length_cons, hc, jv_U_pf0, Option.getD_some]
  rfl
theorem jx_mi_24 (hc : cs.length = 23) : jv_ev call 0 202 [some (.ref m), l1] [] (jv_U f m (.inl (0, [.int (nI 7), .ref (m + 1), .int 0, .ref (m + 2), .int 0, .int 0, .ref (m + 3), .ref (m + 4), .ref (m + 5), .ref (m + 6), .ref (m + 7), .ref (m + 8), .ref (m + 9), .ref (m + 10), .ref (m + 11), .ref (m + 12), .ref (m + 13), .ref (m + 14), .ref (m + 15), .ref (m + 16), .ref (m + 17), .ref (m + 18), .int 0, .ref (m + 19), .ref (m + 20), .ref (m + 21), .ref (m + 22), .ref (m + 23), .null, .null, .null, .int 0, .int 0, .int 0, .int 0, .int 0, .int 0, .int 0, .int 0, .int 0, .int 0, .int 0, .int 0, .int 0]) :: cs) y) = jv_ev call 0 210 [some (.ref m), l1] [] (jv_U f m (.inl (0, [.int (nI 7), .ref (m + 1), .int 0, .ref (m + 2), .int 0, .int 0, .ref (m + 3), .ref (m + 4), .ref (m + 5), .ref (m + 6), .ref (m + 7), .ref (m + 8), .ref (m + 9), .ref (m + 10), .ref (m + 11), .ref (m + 12), .ref (m + 13), .ref (m + 14), .ref (m + 15), .ref (m + 16), .ref (m + 17), .ref (m + 18), .int 0, .ref (m + 19), .ref (m + 20), .ref (m + 21), .ref (m + 22), .ref (m + 23), .ref (m + 24), .null, .null, .int 0, .int 0, .int 0, .int 0, .int 0, .int 0, .int 0, .int 0, .int 0, .int 0, .int 0, .int 0, .int 0]) :: (cs ++ [.inr (0, 64, fun _ => .int 0)])) (y + 64)) := by
  simp (disch := first | omega | exact id rfl | exact id (Nat.le_of_ble_eq_true rfl) | (simp (disch := first | exact id rfl | exact id (Nat.le_of_ble_eq_true rfl)) only [jv_U_pf0, Option.isSome_some])) only [E0_202, E0_203, E0_205, E0_207, jv_U_newa, jv_U_sz, List.length_cons, hc, jv_U_pf0, Option.getD_some]
  rfl
theorem jx_mi_25 (hc : cs.length = 24) : jv_ev call 0 210 [some (.ref m), l1] [] (jv_U f m (.inl (0, [.int (nI 7), .ref (m + 1), .int 0, .ref (m + 2), .int 0, .int 0, .ref (m + 3), .ref (m + 4), .ref (m + 5), .ref (m + 6), .ref (m + 7), .ref (m + 8), .ref (m + 9), .ref (m + 10), .ref (m + 11), .ref (m + 12), .ref (m + 13), .ref (m + 14), .ref (m + 15), .ref (m + 16), .ref (m + 17), .ref (m + 18), .int 0, .ref (m + 19), .ref (m + 20), .ref (m + 21), .ref (m + 22), .ref (m + 23), .ref (m + 24), .null, .null, .int 0, .int 0, .int 0, .int 0, .int 0, .int 0, .int 0, .int 0, .int 0, .int 0, .int 0, .int 0, .int 0]) :: cs) y) = jv_ev call 0 218 [some (.ref m), l1] [] (jv_U f m (.inl (0, [.int (nI 7), .ref (m + 1), .int 0, .ref (m + 2), .int 0, .int 0, .ref (m + 3), .ref (m + 4), .ref (m + 5), .ref (m + 6), .ref (m + 7), .ref (m + 8), .ref (m + 9), .ref (m + 10), .ref (m + 11), .ref (m + 12), .ref (m + 13), .ref (m + 14), .ref (m + 15), .ref (m + 16), .ref (m + 17), .ref (m + 18), .int 0, .ref (m + 19), .ref (m + 20), .ref (m + 21), .ref (m + 22), .ref (m + 23), .ref (m + 24), .ref (m + 25), .null, .int 0, .int 0, .int 0, .int 0, .int 0, .int 0, .int 0, .int 0, .int 0, .int 0, .int 0, .int 0, .int 0]) :: (cs ++ [.inr (0, 18, fun _ => .int 0)])) (y + 18)) := by
  simp (disch := first | omega | exact id rfl | exact id (Nat.le_of_ble_eq_true rfl) | (simp (disch := first | exact id rfl | exact id (Nat.le_of_ble_eq_true rfl)) only [jv_U_pf0, Option.isSome_some])) only [E0_210, E0_211, E0_213, E0_215, jv_U_newa, jv_U_sz, List.length_cons, hc, jv_U_pf0, Option.getD_some]
  rfl
theorem jx_mi_26 (hc : cs.length = 25) : jv_ev call 0 218 [some (.ref m), l1] [] (jv_U f m (.inl (0, [.int (nI 7), .ref (m + 1), .int 0, .ref (m + 2), .int 0, .int 0, .ref (m + 3), .ref (m + 4), .ref (m + 5), .ref (m + 6), .ref (m + 7), .ref (m + 8), .ref (m + 9), .ref (m + 10), .ref (m + 11), .ref (m + 12), .ref (m + 13), .ref (m + 14), .ref (m + 15), .ref (m + 16), .ref (m + 17), .ref (m + 18), .int 0, .ref (m + 19), .ref (m + 20), .ref (m + 21), .ref (m + 22), .ref (m + 23), .ref (m + 24), .ref (m + 25), .null, .int 0, .int 0, .int 0, .int 0, .int 0, .int 0, .int 0, .int 0, .int 0, .int 0, .int 0, .int 0, .int 0]) :: cs) y) = jv_ev call 0 226 [some (.ref m), l1] [] (jv_U f m (.inl (0, [.int (nI 7), .ref (m + 1), .int 0, .ref (m + 2), .int 0, .int 0, .ref (m + 3), .ref (m + 4), .ref (m + 5), .ref (m + 6), .ref (m + 7), .ref (m + 8), .ref (m + 9), .ref (m + 10), .ref (m + 11), .ref (m + 12), .ref (m + 13), .ref (m + 14), .ref (m + 15), .ref (m + 16), .ref (m + 17), .ref (m + 18), .int 0, .ref (m + 19), .ref (m + 20), .ref (m + 21), .ref (m + 22), .ref (m + 23), .ref (m + 24), .ref (m + 25), .ref (m + 26), .int 0, .int 0, .int 0, .int 0, .int 0, .int 0, .int 0, .int 0, .int 0, .int 0, .int 0, .int 0, .int 0]) :: (cs ++ [.inr (0, 18, fun _ => .int 0)])) (y + 18)) := by
  simp (disch := first | omega | exact id rfl | exact id (Nat.le_of_ble_eq_true rfl) | (simp (disch := first | exact id rfl | exact id (Nat.le_of_ble_eq_true rfl)) only [jv_U_pf0, Option.isSome_some])) only [E0_218, E0_219, E0_221, E0_223, jv_U_newa, jv_U_sz, List.length_cons, hc, jv_U_pf0, Option.getD_some]
  rfl
theorem jx_mi_27 : jv_ev call 0 226 [some (.ref m), l1] [] (jv_U f m (.inl (0, [.int (nI 7), .ref (m + 1), .int 0, .ref (m + 2), .int 0, .int 0, .ref (m + 3), .ref (m + 4), .ref (m + 5), .ref (m + 6), .ref (m + 7), .ref (m + 8), .ref (m + 9), .ref (m + 10), .ref (m + 11), .ref (m + 12), .ref (m + 13), .ref (m + 14), .ref (m + 15), .ref (m + 16), .ref (m + 17), .ref (m + 18), .int 0, .ref (m + 19), .ref (m + 20), .ref (m + 21), .ref (m + 22), .ref (m + 23), .ref (m + 24), .ref (m + 25), .ref (m + 26), .int 0, .int 0, .int 0, .int 0, .int 0, .int 0, .int 0, .int 0, .int 0, .int 0, .int 0, .int 0, .int 0]) :: cs) y) = jv_ev call 0 231 [some (.ref m), l1] [] (jv_U f m (.inl (0, [.int (nI 7), .ref (m + 1), .int 0, .ref (m + 2), .int 0, .int 0, .ref (m + 3), .ref (m + 4), .ref (m + 5), .ref (m + 6), .ref (m + 7), .ref (m + 8), .ref (m + 9), .ref (m + 10), .ref (m + 11), .ref (m + 12), .ref (m + 13), .ref (m + 14), .ref (m + 15), .ref (m + 16), .ref (m + 17), .ref (m + 18), .int 0, .ref (m + 19), .ref (m + 20), .ref (m + 21), .ref (m + 22), .ref (m + 23), .ref (m + 24), .ref (m + 25), .ref (m + 26), .int 0, .int 0, .int 0, .int 0, .int 0, .int 0, .int (-1), .int 0, .int 0, .int 0, .int 0, .int 0, .int 0]) :: cs) y) := by
  simp (disch := first | omega | exact id rfl | exact id (Nat.le_of_ble_eq_true rfl) | (simp (disch := first | exact id rfl | exact id (Nat.le_of_ble_eq_true rfl)) only [jv_U_pf0, Option.isSome_some])) only [E0_226, E0_227, E0_228, jv_U_pf0, Option.getD_some]
  rfl
def jm_I0 : Nat → Int32 := fun k => if k = 0 then nI 7 else if k = 37 then -1 else 0
def jm_A0 : Nat → Nat → Int32 := fun _ _ => 0
def jm_L0 : Nat → Nat → Int64 := fun _ _ => 0
theorem jm_ofU : jv_U f m [.inl (0, [.int (nI 7), .ref (m + 1), .int 0, .ref (m + 2), .int 0, .int 0, .ref (m + 3), .ref (m + 4), .ref (m + 5), .ref (m + 6), .ref (m + 7), .ref (m + 8), .ref (m + 9), .ref (m + 10), .ref (m + 11), .ref (m + 12), .ref (m + 13), .ref (m + 14), .ref (m + 15), .ref (m + 16), .ref (m + 17), .ref (m + 18), .int 0, .ref (m + 19), .ref (m + 20), .ref (m + 21), .ref (m + 22), .ref (m + 23), .ref (m + 24), .ref (m + 25), .ref (m + 26), .int 0, .int 0, .int 0, .int 0, .int 0, .int 0, .int (-1), .int 0, .int 0, .int 0, .int 0, .int 0, .int 0]),
    .inr (1, 1000, fun _ => .long 0),
    .inr (0, 2000, fun _ => .int 0),
    .inr (0, 12, fun _ => .int 0),
    .inr (0, 12, fun _ => .int 0),
    .inr (0, 12, fun _ => .int 0),
    .inr (0, 12, fun _ => .int 0),
    .inr (1, 12, fun _ => .long 0),
    .inr (0, 1536, fun _ => .int 0),
    .inr (1, 12288, fun _ => .long 0),
    .inr (0, 24000, fun _ => .int 0),
    .inr (0, 12, fun _ => .int 0),
    .inr (0, 12, fun _ => .int 0),
    .inr (0, 4800, fun _ => .int 0),
    .inr (0, 12, fun _ => .int 0),
    .inr (0, 12, fun _ => .int 0),
    .inr (0, 12, fun _ => .int 0),
    .inr (2, 768, fun _ => .int 0),
    .inr (0, 768, fun _ => .int 0),
    .inr (0, 17, fun _ => .int 0),
    .inr (0, 17, fun _ => .int 0),
    .inr (0, 17, fun _ => .int 0),
    .inr (2, 17, fun _ => .int 0),
    .inr (2, 17, fun _ => .int 0),
    .inr (0, 64, fun _ => .int 0),
    .inr (0, 18, fun _ => .int 0),
    .inr (0, 18, fun _ => .int 0)] y = jm_H m jm_I0 jm_A0 jm_L0 f (m + 27, y) := by
  unfold jv_U jm_H
  congr 1
  funext q
  unfold jv_ups jm_map jm_in
  by_cases h : q < m
  · rw [if_pos h, if_pos h]
  · rw [if_neg h, if_neg h]
    generalize q - m = j
    match j with
    | 0 => rfl
    | 1 => rfl
    | 2 => rfl
    | 3 => rfl
    | 4 => rfl
    | 5 => rfl
    | 6 => rfl
    | 7 => rfl
    | 8 => rfl
    | 9 => rfl
    | 10 => rfl
    | 11 => rfl
    | 12 => rfl
    | 13 => rfl
    | 14 => rfl
    | 15 => rfl
    | 16 => rfl
    | 17 => rfl
    | 18 => rfl
    | 19 => rfl
    | 20 => rfl
    | 21 => rfl
    | 22 => rfl
    | 23 => rfl
    | 24 => rfl
    | 25 => rfl
    | 26 => rfl
    | j + 27 => rfl
def jm_A1 (i : Nat) : Nat → Nat → Int32 := va_up jm_A0 23 (fun q => if q < i then -1 else 0)
def jm_A2 (i : Nat) : Nat → Nat → Int32 := va_up (jm_A1 17) 28 (fun q => if q < i then -1 else 0)
theorem jx_mi_l1 {I : Nat → Int32} {L : Nat → Nat → Int64} {rest : Nat → Option jv_C} {z : Nat × Nat} : ∀ (t i : Nat), i + t = 17 → jv_ev call 0 233 [some (.ref m), some (.int (nI i))] [] (jm_H m I (jm_A1 i) L rest z) = jv_ev call 0 252 [some (.ref m), some (.int (nI 17))] [] (jm_H m I (jm_A1 17) L rest z)
  | 0, i, hi => by
    have e : i = 17 := by omega
    subst e
    rw [E0_233]
    simp (disch := first | omega | exact id rfl | exact jd_i | exact jd_r | exact jd_n | exact jd_f | decide) only [E0_0, E0_1, E0_4, E0_5, E0_7, E0_10, E0_11, E0_14, E0_16, E0_19, E0_20, E0_23, E0_25, E0_28, E0_29, E0_31, E0_33, E0_36, E0_37, E0_39, E0_41, E0_44, E0_45, E0_47, E0_49, E0_52, E0_53, E0_55, E0_57, E0_60, E0_61, E0_63, E0_65, E0_68, E0_69, E0_72, E0_74, E0_77, E0_78, E0_81, E0_83, E0_86, E0_87, E0_90, E0_92, E0_95, E0_96, E0_98, E0_100, E0_103, E0_104, E0_106, E0_108, E0_111, E0_112, E0_115, E0_117, E0_120, E0_121, E0_123, E0_125, E0_128, E0_129, E0_131, E0_133, E0_136, E0_137, E0_139, E0_141, E0_144, E0_145, E0_148, E0_150, E0_153, E0_154, E0_157, E0_159, E0_162, E0_163, E0_165, E0_167, E0_170, E0_171, E0_173, E0_175, E0_178, E0_179, E0_181, E0_183, E0_186, E0_187, E0_189, E0_191, E0_194, E0_195, E0_197, E0_199, E0_202, E0_203, E0_205, E0_207, E0_210, E0_211, E0_213, E0_215, E0_218, E0_219, E0_221, E0_223, E0_226, E0_227, E0_228, E0_231, E0_232, E0_234, E0_236, E0_239, E0_240, E0_243, E0_244, E0_245, E0_246, E0_249, E0_255, E0_257, E0_260, E0_261, E0_264, E0_265, E0_266, E0_267, E0_270, nI_leI, if_pos (Nat.le_refl 17)]
  | t + 1, i, hi => by
    have ih := jx_mi_l1 (I := I) (L := L) (rest := rest) (z := z) t (i + 1) (by omega)
    rw [E0_233]
    simp (disch := first | omega | exact id rfl | exact jd_i | exact jd_r | exact jd_n | exact jd_f | decide) only [E0_0, E0_1, E0_4, E0_5, E0_7, E0_10, E0_11, E0_14, E0_16, E0_19, E0_20, E0_23, E0_25, E0_28, E0_29, E0_31, E0_33, E0_36, E0_37, E0_39, E0_41, E0_44, E0_45, E0_47, E0_49, E0_52, E0_53, E0_55, E0_57, E0_60, E0_61, E0_63, E0_65, E0_68, E0_69, E0_72, E0_74, E0_77, E0_78, E0_81, E0_83, E0_86, E0_87, E0_90, E0_92, E0_95, E0_96, E0_98, E0_100, E0_103, E0_104, E0_106, E0_108, E0_111, E0_112, E0_115, E0_117, E0_120, E0_121, E0_123, E0_125, E0_128, E0_129, E0_131, E0_133, E0_136, E0_137, E0_139, E0_141, E0_144, E0_145, E0_148, E0_150, E0_153, E0_154, E0_157, E0_159, E0_162, E0_163, E0_165, E0_167, E0_170, E0_171, E0_173, E0_175, E0_178, E0_179, E0_181, E0_183, E0_186, E0_187, E0_189, E0_191, E0_194, E0_195, E0_197, E0_199, E0_202, E0_203, E0_205, E0_207, E0_210, E0_211, E0_213, E0_215, E0_218, E0_219, E0_221, E0_223, E0_226, E0_227, E0_228, E0_231, E0_232, E0_234, E0_236, E0_239, E0_240, E0_243, E0_244, E0_245, E0_246, E0_249, E0_255, E0_257, E0_260, E0_261, E0_264, E0_265, E0_266, E0_267, E0_270, nI_leI, if_neg (show ¬ 17 ≤ i by omega), nI_add]
    have e : va_up (jm_A1 i) 23 (upd (jm_A1 i 23) i (-1)) = jm_A1 (i + 1) := by
      funext k
      unfold jm_A1
      by_cases hk : k = 23
      · subst hk
        rw [va_up_self, va_up_self, va_up_self]
        funext q
        unfold upd
        by_cases h1 : q = i
        · subst h1; rw [if_pos rfl, if_pos (by omega)]
        · rw [if_neg h1]
          show (if q < i then -1 else 0) = if q < i + 1 then -1 else 0
          by_cases h2 : q < i
          · rw [if_pos h2, if_pos (by omega)]
          · rw [if_neg h2, if_neg (by omega)]
      · rw [va_up_ne _ _ hk, va_up_ne _ _ hk, va_up_ne _ _ hk]
    rw [e]
    exact ih
theorem jx_mi_l2 {I : Nat → Int32} {L : Nat → Nat → Int64} {rest : Nat → Option jv_C} {z : Nat × Nat} : ∀ (t i : Nat), i + t = 64 → jv_ev call 0 254 [some (.ref m), some (.int (nI i))] [] (jm_H m I (jm_A2 i) L rest z) = jv_ev call 0 273 [some (.ref m), some (.int (nI 64))] [] (jm_H m I (jm_A2 64) L rest z)
  | 0, i, hi => by
    have e : i = 64 := by omega
    subst e
    rw [E0_254]
    simp (disch := first | omega | exact id rfl | exact jd_i | exact jd_r | exact jd_n | exact jd_f | decide) only [E0_0, E0_1, E0_4, E0_5, E0_7, E0_10, E0_11, E0_14, E0_16, E0_19, E0_20, E0_23, E0_25, E0_28, E0_29, E0_31, E0_33, E0_36, E0_37, E0_39, E0_41, E0_44, E0_45, E0_47, E0_49, E0_52, E0_53, E0_55, E0_57, E0_60, E0_61, E0_63, E0_65, E0_68, E0_69, E0_72, E0_74, E0_77, E0_78, E0_81, E0_83, E0_86, E0_87, E0_90, E0_92, E0_95, E0_96, E0_98, E0_100, E0_103, E0_104, E0_106, E0_108, E0_111, E0_112, E0_115, E0_117, E0_120, E0_121, E0_123, E0_125, E0_128, E0_129, E0_131, E0_133, E0_136, E0_137, E0_139, E0_141, E0_144, E0_145, E0_148, E0_150, E0_153, E0_154, E0_157, E0_159, E0_162, E0_163, E0_165, E0_167, E0_170, E0_171, E0_173, E0_175, E0_178, E0_179, E0_181, E0_183, E0_186, E0_187, E0_189, E0_191, E0_194, E0_195, E0_197, E0_199, E0_202, E0_203, E0_205, E0_207, E0_210, E0_211, E0_213, E0_215, E0_218, E0_219, E0_221, E0_223, E0_226, E0_227, E0_228, E0_231, E0_232, E0_234, E0_236, E0_239, E0_240, E0_243, E0_244, E0_245, E0_246, E0_249, E0_255, E0_257, E0_260, E0_261, E0_264, E0_265, E0_266, E0_267, E0_270, nI_leI, if_pos (Nat.le_refl 64)]
  | t + 1, i, hi => by
    have ih := jx_mi_l2 (I := I) (L := L) (rest := rest) (z := z) t (i + 1) (by omega)
    rw [E0_254]
    simp (disch := first | omega | exact id rfl | exact jd_i | exact jd_r | exact jd_n | exact jd_f | decide) only [E0_0, E0_1, E0_4, E0_5, E0_7, E0_10, E0_11, E0_14, E0_16, E0_19, E0_20, E0_23, E0_25, E0_28, E0_29, E0_31, E0_33, E0_36, E0_37, E0_39, E0_41, E0_44, E0_45, E0_47, E0_49, E0_52, E0_53, E0_55, E0_57, E0_60, E0_61, E0_63, E0_65, E0_68, E0_69, E0_72, E0_74, E0_77, E0_78, E0_81, E0_83, E0_86, E0_87, E0_90, E0_92, E0_95, E0_96, E0_98, E0_100, E0_103, E0_104, E0_106, E0_108, E0_111, E0_112, E0_115, E0_117, E0_120, E0_121, E0_123, E0_125, E0_128, E0_129, E0_131, E0_133, E0_136, E0_137, E0_139, E0_141, E0_144, E0_145, E0_148, E0_150, E0_153, E0_154, E0_157, E0_159, E0_162, E0_163, E0_165, E0_167, E0_170, E0_171, E0_173, E0_175, E0_178, E0_179, E0_181, E0_183, E0_186, E0_187, E0_189, E0_191, E0_194, E0_195, E0_197, E0_199, E0_202, E0_203, E0_205, E0_207, E0_210, E0_211, E0_213, E0_215, E0_218, E0_219, E0_221, E0_223, E0_226, E0_227, E0_228, E0_231, E0_232, E0_234, E0_236, E0_239, E0_240, E0_243, E0_244, E0_245, E0_246, E0_249, E0_255, E0_257, E0_260, E0_261, E0_264, E0_265, E0_266, E0_267, E0_270, nI_leI, if_neg (show ¬ 64 ≤ i by omega), nI_add]
    have e : va_up (jm_A2 i) 28 (upd (jm_A2 i 28) i (-1)) = jm_A2 (i + 1) := by
      funext k
      unfold jm_A2
      by_cases hk : k = 28
      · subst hk
        rw [va_up_self, va_up_self, va_up_self]
        funext q
        unfold upd
        by_cases h1 : q = i
        · subst h1; rw [if_pos rfl, if_pos (by omega)]
        · rw [if_neg h1]
          show (if q < i then -1 else 0) = if q < i + 1 then -1 else 0
          by_cases h2 : q < i
          · rw [if_pos h2, if_pos (by omega)]
          · rw [if_neg h2, if_neg (by omega)]
      · rw [va_up_ne _ _ hk, va_up_ne _ _ hk, va_up_ne _ _ hk]
    rw [e]
    exact ih
theorem jx_Model_init : jv_run (d + 1) 0 [.ref m] (jv_U f m [.inl (0, jt_dfl 0)] y) = some (none, jm_H m jm_I0 (jm_A2 64) jm_L0 f (m + 27, y + 1000 + 2000 + 12 + 12 + 12 + 12 + 12 + 1536 + 12288 + 24000 + 12 + 12 + 4800 + 12 + 12 + 12 + 768 + 768 + 17 + 17 + 17 + 17 + 17 + 64 + 18 + 18)) := by
  rw [N0]
  simp (disch := first | omega | exact id rfl | exact id (Nat.le_of_ble_eq_true rfl) | (simp (disch := first | exact id rfl | exact id (Nat.le_of_ble_eq_true rfl)) only [jv_U_pf0, Option.isSome_some])) only [E0_0, E0_1]
  rw [show (jt_dfl 0) = [.int 0, .null, .int 0, .null, .int 0, .int 0, .null, .null, .null, .null, .null, .null, .null, .null, .null, .null, .null, .null, .null, .null, .null, .null, .int 0, .null, .null, .null, .null, .null, .null, .null, .null, .int 0, .int 0, .int 0, .int 0, .int 0, .int 0, .int 0, .int 0, .int 0, .int 0, .int 0, .int 0, .int 0] from rfl]
  rw [jx_mi_0, jx_mi_1 rfl, jx_mi_2 rfl, jx_mi_3 rfl, jx_mi_4 rfl, jx_mi_5 rfl, jx_mi_6 rfl, jx_mi_7 rfl, jx_mi_8 rfl, jx_mi_9 rfl, jx_mi_10 rfl, jx_mi_11 rfl, jx_mi_12 rfl, jx_mi_13 rfl, jx_mi_14 rfl, jx_mi_15 rfl, jx_mi_16 rfl, jx_mi_17 rfl, jx_mi_18 rfl, jx_mi_19 rfl, jx_mi_20 rfl, jx_mi_21 rfl, jx_mi_22 rfl, jx_mi_23 rfl, jx_mi_24 rfl, jx_mi_25 rfl, jx_mi_26 rfl, jx_mi_27]
  refine (congrArg (fun h => jv_ev (jv_run d) 0 231 [some (.ref m), none] [] h) (show _ = jm_H m jm_I0 jm_A0 jm_L0 f (m + 27, y + 1000 + 2000 + 12 + 12 + 12 + 12 + 12 + 1536 + 12288 + 24000 + 12 + 12 + 4800 + 12 + 12 + 12 + 768 + 768 + 17 + 17 + 17 + 17 + 17 + 64 + 18 + 18) from jm_ofU)).trans ?_
  simp (disch := first | omega | exact id rfl | exact jd_i | exact jd_r | exact jd_n | exact jd_f | decide) only [E0_231, E0_232]
  have e0 : jm_A0 = jm_A1 0 := by funext k q; unfold jm_A1 va_up; by_cases h : k = 23 <;> simp [h, jm_A0]
  rw [e0, jx_mi_l1 17 0 rfl]
  simp (disch := first | omega | exact id rfl | exact jd_i | exact jd_r | exact jd_n | exact jd_f | decide) only [E0_252, E0_253]
  have e1 : jm_A1 17 = jm_A2 0 := by funext k q; unfold jm_A2 va_up; by_cases h : k = 28 <;> simp [h, jm_A1, jm_A0, va_up]
  rw [e1, jx_mi_l2 64 0 rfl]
  simp (disch := first | omega | exact id rfl | exact jd_i | exact jd_r | exact jd_n | exact jd_f | decide) only [E0_273]
end JMI
end
