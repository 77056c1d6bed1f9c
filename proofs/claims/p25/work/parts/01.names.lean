-- ===== PART A: goes FIRST, ahead of the names: the tables' words, and 'selects' of the private methods out of them =====
/-- a private method of a class that the tables say can be made, by its rows of tables_1 -/
def lw_okq (q : MethodName × Nat) : Prop := (q.1.cls ≠ "java/lang/invoke/MethodHandle" ∧ q.1.cls ≠ "java/lang/invoke/VarHandle") ∧ Cond.instantiable q.1.cls q.2 ∈ tables_1 ∧ Cond.privateMethod q.1 ∈ tables_1 ∧ Cond.instanceMethod q.1 ∈ tables_1
theorem lw_p0 : lw_okq (⟨"WindowTaken", "refuse", "(I)I"⟩, 11) := ⟨⟨by decide +kernel, by decide +kernel⟩, List.mem_of_getElem? (i := 10) (by decide +kernel), List.mem_of_getElem? (i := 156) (by decide +kernel), List.mem_of_getElem? (i := 157) (by decide +kernel)⟩
theorem lw_p1 : lw_okq (⟨"WindowTaken", "tellTerrace", "()I"⟩, 11) := ⟨⟨by decide +kernel, by decide +kernel⟩, List.mem_of_getElem? (i := 10) (by decide +kernel), List.mem_of_getElem? (i := 168) (by decide +kernel), List.mem_of_getElem? (i := 169) (by decide +kernel)⟩
theorem lw_p2 : lw_okq (⟨"WindowTaken$Letters", "isDigit", "(I)Z"⟩, 2) := ⟨⟨by decide +kernel, by decide +kernel⟩, List.mem_of_getElem? (i := 100) (by decide +kernel), List.mem_of_getElem? (i := 179) (by decide +kernel), List.mem_of_getElem? (i := 180) (by decide +kernel)⟩
theorem lw_p3 : lw_okq (⟨"WindowTaken$Letters", "number", "(II)I"⟩, 2) := ⟨⟨by decide +kernel, by decide +kernel⟩, List.mem_of_getElem? (i := 100) (by decide +kernel), List.mem_of_getElem? (i := 194) (by decide +kernel), List.mem_of_getElem? (i := 195) (by decide +kernel)⟩
theorem lw_p4 : lw_okq (⟨"WindowTaken$House", "sight", "(III)I"⟩, 11) := ⟨⟨by decide +kernel, by decide +kernel⟩, List.mem_of_getElem? (i := 18) (by decide +kernel), List.mem_of_getElem? (i := 259) (by decide +kernel), List.mem_of_getElem? (i := 260) (by decide +kernel)⟩
theorem lw_p5 : lw_okq (⟨"WindowTaken$House", "gain", "(III)V"⟩, 11) := ⟨⟨by decide +kernel, by decide +kernel⟩, List.mem_of_getElem? (i := 18) (by decide +kernel), List.mem_of_getElem? (i := 263) (by decide +kernel), List.mem_of_getElem? (i := 264) (by decide +kernel)⟩
theorem lw_p6 : lw_okq (⟨"WindowTaken", "noPane", "(I)I"⟩, 11) := ⟨⟨by decide +kernel, by decide +kernel⟩, List.mem_of_getElem? (i := 10) (by decide +kernel), List.mem_of_getElem? (i := 290) (by decide +kernel), List.mem_of_getElem? (i := 291) (by decide +kernel)⟩
theorem lw_p7 : lw_okq (⟨"WindowTaken", "noLooker", "(I)I"⟩, 11) := ⟨⟨by decide +kernel, by decide +kernel⟩, List.mem_of_getElem? (i := 10) (by decide +kernel), List.mem_of_getElem? (i := 309) (by decide +kernel), List.mem_of_getElem? (i := 310) (by decide +kernel)⟩
theorem lw_p8 : lw_okq (⟨"WindowTaken$Steps", "nextSlot", "()I"⟩, 6) := ⟨⟨by decide +kernel, by decide +kernel⟩, List.mem_of_getElem? (i := 73) (by decide +kernel), List.mem_of_getElem? (i := 349) (by decide +kernel), List.mem_of_getElem? (i := 350) (by decide +kernel)⟩
theorem lw_p9 : lw_okq (⟨"WindowTaken", "noLookerFar", "(II)I"⟩, 11) := ⟨⟨by decide +kernel, by decide +kernel⟩, List.mem_of_getElem? (i := 10) (by decide +kernel), List.mem_of_getElem? (i := 426) (by decide +kernel), List.mem_of_getElem? (i := 427) (by decide +kernel)⟩
theorem lw_p10 : lw_okq (⟨"WindowTaken", "noPairFar", "(III)I"⟩, 11) := ⟨⟨by decide +kernel, by decide +kernel⟩, List.mem_of_getElem? (i := 10) (by decide +kernel), List.mem_of_getElem? (i := 459) (by decide +kernel), List.mem_of_getElem? (i := 460) (by decide +kernel)⟩
theorem lw_p11 : lw_okq (⟨"WindowTaken", "noPair", "(II)I"⟩, 11) := ⟨⟨by decide +kernel, by decide +kernel⟩, List.mem_of_getElem? (i := 10) (by decide +kernel), List.mem_of_getElem? (i := 463) (by decide +kernel), List.mem_of_getElem? (i := 464) (by decide +kernel)⟩
theorem lw_p12 : lw_okq (⟨"WindowTaken", "hoursUntilOwned", "(III)I"⟩, 11) := ⟨⟨by decide +kernel, by decide +kernel⟩, List.mem_of_getElem? (i := 10) (by decide +kernel), List.mem_of_getElem? (i := 476) (by decide +kernel), List.mem_of_getElem? (i := 477) (by decide +kernel)⟩
theorem lw_p13 : lw_okq (⟨"WindowTaken", "wealthAt", "(IIII)I"⟩, 11) := ⟨⟨by decide +kernel, by decide +kernel⟩, List.mem_of_getElem? (i := 10) (by decide +kernel), List.mem_of_getElem? (i := 485) (by decide +kernel), List.mem_of_getElem? (i := 486) (by decide +kernel)⟩
theorem lw_p14 : lw_okq (⟨"WindowTaken", "wealthWalled", "(IIII)I"⟩, 11) := ⟨⟨by decide +kernel, by decide +kernel⟩, List.mem_of_getElem? (i := 10) (by decide +kernel), List.mem_of_getElem? (i := 507) (by decide +kernel), List.mem_of_getElem? (i := 508) (by decide +kernel)⟩
theorem lw_p15 : lw_okq (⟨"WindowTaken", "refuseLong", "(I)J"⟩, 11) := ⟨⟨by decide +kernel, by decide +kernel⟩, List.mem_of_getElem? (i := 10) (by decide +kernel), List.mem_of_getElem? (i := 515) (by decide +kernel), List.mem_of_getElem? (i := 516) (by decide +kernel)⟩
def lw_privs_1 : List (MethodName × Nat) := [(⟨"WindowTaken", "refuse", "(I)I"⟩, 11), (⟨"WindowTaken", "tellTerrace", "()I"⟩, 11), (⟨"WindowTaken$Letters", "isDigit", "(I)Z"⟩, 2), (⟨"WindowTaken$Letters", "number", "(II)I"⟩, 2), (⟨"WindowTaken$House", "sight", "(III)I"⟩, 11), (⟨"WindowTaken$House", "gain", "(III)V"⟩, 11), (⟨"WindowTaken", "noPane", "(I)I"⟩, 11), (⟨"WindowTaken", "noLooker", "(I)I"⟩, 11), (⟨"WindowTaken$Steps", "nextSlot", "()I"⟩, 6), (⟨"WindowTaken", "noLookerFar", "(II)I"⟩, 11), (⟨"WindowTaken", "noPairFar", "(III)I"⟩, 11), (⟨"WindowTaken", "noPair", "(II)I"⟩, 11), (⟨"WindowTaken", "hoursUntilOwned", "(III)I"⟩, 11), (⟨"WindowTaken", "wealthAt", "(IIII)I"⟩, 11), (⟨"WindowTaken", "wealthWalled", "(IIII)I"⟩, 11), (⟨"WindowTaken", "refuseLong", "(I)J"⟩, 11)]
theorem lw_r1 : ∀ q ∈ lw_privs_1, lw_okq q := List.forall_mem_cons.mpr ⟨lw_p0, List.forall_mem_cons.mpr ⟨lw_p1, List.forall_mem_cons.mpr ⟨lw_p2, List.forall_mem_cons.mpr ⟨lw_p3, List.forall_mem_cons.mpr ⟨lw_p4, List.forall_mem_cons.mpr ⟨lw_p5, List.forall_mem_cons.mpr ⟨lw_p6, List.forall_mem_cons.mpr ⟨lw_p7, List.forall_mem_cons.mpr ⟨lw_p8, List.forall_mem_cons.mpr ⟨lw_p9, List.forall_mem_cons.mpr ⟨lw_p10, List.forall_mem_cons.mpr ⟨lw_p11, List.forall_mem_cons.mpr ⟨lw_p12, List.forall_mem_cons.mpr ⟨lw_p13, List.forall_mem_cons.mpr ⟨lw_p14, List.forall_mem_cons.mpr ⟨lw_p15, fun _ h => absurd h List.not_mem_nil⟩⟩⟩⟩⟩⟩⟩⟩⟩⟩⟩⟩⟩⟩⟩⟩
theorem lw_p16 : lw_okq (⟨"WindowTaken", "fillPays", "(IIII)V"⟩, 11) := ⟨⟨by decide +kernel, by decide +kernel⟩, List.mem_of_getElem? (i := 10) (by decide +kernel), List.mem_of_getElem? (i := 530) (by decide +kernel), List.mem_of_getElem? (i := 531) (by decide +kernel)⟩
theorem lw_p17 : lw_okq (⟨"WindowTaken", "bothContent", "(II)Z"⟩, 11) := ⟨⟨by decide +kernel, by decide +kernel⟩, List.mem_of_getElem? (i := 10) (by decide +kernel), List.mem_of_getElem? (i := 534) (by decide +kernel), List.mem_of_getElem? (i := 535) (by decide +kernel)⟩
theorem lw_p18 : lw_okq (⟨"WindowTaken", "longRow", "()I"⟩, 11) := ⟨⟨by decide +kernel, by decide +kernel⟩, List.mem_of_getElem? (i := 10) (by decide +kernel), List.mem_of_getElem? (i := 542) (by decide +kernel), List.mem_of_getElem? (i := 543) (by decide +kernel)⟩
theorem lw_p19 : lw_okq (⟨"WindowTaken", "rowTells", "(I)Z"⟩, 11) := ⟨⟨by decide +kernel, by decide +kernel⟩, List.mem_of_getElem? (i := 10) (by decide +kernel), List.mem_of_getElem? (i := 546) (by decide +kernel), List.mem_of_getElem? (i := 547) (by decide +kernel)⟩
theorem lw_p20 : lw_okq (⟨"WindowTaken", "ownsWell", "(IIII)Z"⟩, 11) := ⟨⟨by decide +kernel, by decide +kernel⟩, List.mem_of_getElem? (i := 10) (by decide +kernel), List.mem_of_getElem? (i := 561) (by decide +kernel), List.mem_of_getElem? (i := 562) (by decide +kernel)⟩
theorem lw_p21 : lw_okq (⟨"WindowTaken", "wealthSwapped", "(III)I"⟩, 11) := ⟨⟨by decide +kernel, by decide +kernel⟩, List.mem_of_getElem? (i := 10) (by decide +kernel), List.mem_of_getElem? (i := 582) (by decide +kernel), List.mem_of_getElem? (i := 583) (by decide +kernel)⟩
theorem lw_p22 : lw_okq (⟨"WindowTaken", "castRosters", "(I)I"⟩, 11) := ⟨⟨by decide +kernel, by decide +kernel⟩, List.mem_of_getElem? (i := 10) (by decide +kernel), List.mem_of_getElem? (i := 674) (by decide +kernel), List.mem_of_getElem? (i := 675) (by decide +kernel)⟩
theorem lw_p23 : lw_okq (⟨"WindowTakenModel", "refuse", "(I)I"⟩, 36) := ⟨⟨by decide +kernel, by decide +kernel⟩, List.mem_of_getElem? (i := 705) (by decide +kernel), List.mem_of_getElem? (i := 824) (by decide +kernel), List.mem_of_getElem? (i := 825) (by decide +kernel)⟩
theorem lw_p24 : lw_okq (⟨"WindowTakenModel", "readStatement", "()V"⟩, 36) := ⟨⟨by decide +kernel, by decide +kernel⟩, List.mem_of_getElem? (i := 705) (by decide +kernel), List.mem_of_getElem? (i := 832) (by decide +kernel), List.mem_of_getElem? (i := 833) (by decide +kernel)⟩
theorem lw_p25 : lw_okq (⟨"WindowTakenModel", "here", "()I"⟩, 36) := ⟨⟨by decide +kernel, by decide +kernel⟩, List.mem_of_getElem? (i := 705) (by decide +kernel), List.mem_of_getElem? (i := 836) (by decide +kernel), List.mem_of_getElem? (i := 837) (by decide +kernel)⟩
theorem lw_p26 : lw_okq (⟨"WindowTakenModel", "readNumbers", "(II)V"⟩, 36) := ⟨⟨by decide +kernel, by decide +kernel⟩, List.mem_of_getElem? (i := 705) (by decide +kernel), List.mem_of_getElem? (i := 843) (by decide +kernel), List.mem_of_getElem? (i := 844) (by decide +kernel)⟩
theorem lw_p27 : lw_okq (⟨"WindowTakenModel", "readDigits", "(I)I"⟩, 36) := ⟨⟨by decide +kernel, by decide +kernel⟩, List.mem_of_getElem? (i := 705) (by decide +kernel), List.mem_of_getElem? (i := 847) (by decide +kernel), List.mem_of_getElem? (i := 848) (by decide +kernel)⟩
theorem lw_p28 : lw_okq (⟨"WindowTakenModel", "think", "()V"⟩, 36) := ⟨⟨by decide +kernel, by decide +kernel⟩, List.mem_of_getElem? (i := 705) (by decide +kernel), List.mem_of_getElem? (i := 856) (by decide +kernel), List.mem_of_getElem? (i := 857) (by decide +kernel)⟩
theorem lw_p29 : lw_okq (⟨"WindowTakenModel", "carryAll", "([IZ)V"⟩, 36) := ⟨⟨by decide +kernel, by decide +kernel⟩, List.mem_of_getElem? (i := 705) (by decide +kernel), List.mem_of_getElem? (i := 860) (by decide +kernel), List.mem_of_getElem? (i := 861) (by decide +kernel)⟩
theorem lw_p30 : lw_okq (⟨"WindowTakenModel", "carry", "(I)I"⟩, 36) := ⟨⟨by decide +kernel, by decide +kernel⟩, List.mem_of_getElem? (i := 705) (by decide +kernel), List.mem_of_getElem? (i := 864) (by decide +kernel), List.mem_of_getElem? (i := 865) (by decide +kernel)⟩
theorem lw_p31 : lw_okq (⟨"WindowTakenModel", "comesTold", "(I)Z"⟩, 36) := ⟨⟨by decide +kernel, by decide +kernel⟩, List.mem_of_getElem? (i := 705) (by decide +kernel), List.mem_of_getElem? (i := 868) (by decide +kernel), List.mem_of_getElem? (i := 869) (by decide +kernel)⟩
def lw_privs_2 : List (MethodName × Nat) := [(⟨"WindowTaken", "fillPays", "(IIII)V"⟩, 11), (⟨"WindowTaken", "bothContent", "(II)Z"⟩, 11), (⟨"WindowTaken", "longRow", "()I"⟩, 11), (⟨"WindowTaken", "rowTells", "(I)Z"⟩, 11), (⟨"WindowTaken", "ownsWell", "(IIII)Z"⟩, 11), (⟨"WindowTaken", "wealthSwapped", "(III)I"⟩, 11), (⟨"WindowTaken", "castRosters", "(I)I"⟩, 11), (⟨"WindowTakenModel", "refuse", "(I)I"⟩, 36), (⟨"WindowTakenModel", "readStatement", "()V"⟩, 36), (⟨"WindowTakenModel", "here", "()I"⟩, 36), (⟨"WindowTakenModel", "readNumbers", "(II)V"⟩, 36), (⟨"WindowTakenModel", "readDigits", "(I)I"⟩, 36), (⟨"WindowTakenModel", "think", "()V"⟩, 36), (⟨"WindowTakenModel", "carryAll", "([IZ)V"⟩, 36), (⟨"WindowTakenModel", "carry", "(I)I"⟩, 36), (⟨"WindowTakenModel", "comesTold", "(I)Z"⟩, 36)]
theorem lw_r2 : ∀ q ∈ lw_privs_2, lw_okq q := List.forall_mem_cons.mpr ⟨lw_p16, List.forall_mem_cons.mpr ⟨lw_p17, List.forall_mem_cons.mpr ⟨lw_p18, List.forall_mem_cons.mpr ⟨lw_p19, List.forall_mem_cons.mpr ⟨lw_p20, List.forall_mem_cons.mpr ⟨lw_p21, List.forall_mem_cons.mpr ⟨lw_p22, List.forall_mem_cons.mpr ⟨lw_p23, List.forall_mem_cons.mpr ⟨lw_p24, List.forall_mem_cons.mpr ⟨lw_p25, List.forall_mem_cons.mpr ⟨lw_p26, List.forall_mem_cons.mpr ⟨lw_p27, List.forall_mem_cons.mpr ⟨lw_p28, List.forall_mem_cons.mpr ⟨lw_p29, List.forall_mem_cons.mpr ⟨lw_p30, List.forall_mem_cons.mpr ⟨lw_p31, fun _ h => absurd h List.not_mem_nil⟩⟩⟩⟩⟩⟩⟩⟩⟩⟩⟩⟩⟩⟩⟩⟩
theorem lw_p32 : lw_okq (⟨"WindowTakenModel", "lookerComes", "(II)V"⟩, 36) := ⟨⟨by decide +kernel, by decide +kernel⟩, List.mem_of_getElem? (i := 705) (by decide +kernel), List.mem_of_getElem? (i := 872) (by decide +kernel), List.mem_of_getElem? (i := 873) (by decide +kernel)⟩
theorem lw_p33 : lw_okq (⟨"WindowTakenModel", "isLooker", "(I)Z"⟩, 36) := ⟨⟨by decide +kernel, by decide +kernel⟩, List.mem_of_getElem? (i := 705) (by decide +kernel), List.mem_of_getElem? (i := 876) (by decide +kernel), List.mem_of_getElem? (i := 877) (by decide +kernel)⟩
theorem lw_p34 : lw_okq (⟨"WindowTakenModel", "isPane", "(I)Z"⟩, 36) := ⟨⟨by decide +kernel, by decide +kernel⟩, List.mem_of_getElem? (i := 705) (by decide +kernel), List.mem_of_getElem? (i := 880) (by decide +kernel), List.mem_of_getElem? (i := 881) (by decide +kernel)⟩
theorem lw_p35 : lw_okq (⟨"WindowTakenModel", "stand", "(IIII)V"⟩, 36) := ⟨⟨by decide +kernel, by decide +kernel⟩, List.mem_of_getElem? (i := 705) (by decide +kernel), List.mem_of_getElem? (i := 884) (by decide +kernel), List.mem_of_getElem? (i := 885) (by decide +kernel)⟩
theorem lw_p36 : lw_okq (⟨"WindowTakenModel", "goDays", "(I)V"⟩, 36) := ⟨⟨by decide +kernel, by decide +kernel⟩, List.mem_of_getElem? (i := 705) (by decide +kernel), List.mem_of_getElem? (i := 889) (by decide +kernel), List.mem_of_getElem? (i := 890) (by decide +kernel)⟩
theorem lw_p37 : lw_okq (⟨"WindowTakenModel", "layBrings", "()V"⟩, 36) := ⟨⟨by decide +kernel, by decide +kernel⟩, List.mem_of_getElem? (i := 705) (by decide +kernel), List.mem_of_getElem? (i := 893) (by decide +kernel), List.mem_of_getElem? (i := 894) (by decide +kernel)⟩
theorem lw_p38 : lw_okq (⟨"WindowTakenModel", "bringsOf", "(II)I"⟩, 36) := ⟨⟨by decide +kernel, by decide +kernel⟩, List.mem_of_getElem? (i := 705) (by decide +kernel), List.mem_of_getElem? (i := 897) (by decide +kernel), List.mem_of_getElem? (i := 898) (by decide +kernel)⟩
theorem lw_p39 : lw_okq (⟨"WindowTakenModel", "seesIn", "(II)I"⟩, 36) := ⟨⟨by decide +kernel, by decide +kernel⟩, List.mem_of_getElem? (i := 705) (by decide +kernel), List.mem_of_getElem? (i := 901) (by decide +kernel), List.mem_of_getElem? (i := 902) (by decide +kernel)⟩
theorem lw_p40 : lw_okq (⟨"WindowTakenModel", "allShown", "()I"⟩, 36) := ⟨⟨by decide +kernel, by decide +kernel⟩, List.mem_of_getElem? (i := 705) (by decide +kernel), List.mem_of_getElem? (i := 905) (by decide +kernel), List.mem_of_getElem? (i := 906) (by decide +kernel)⟩
theorem lw_p41 : lw_okq (⟨"WindowTakenModel", "pullOf", "(II)I"⟩, 36) := ⟨⟨by decide +kernel, by decide +kernel⟩, List.mem_of_getElem? (i := 705) (by decide +kernel), List.mem_of_getElem? (i := 912) (by decide +kernel), List.mem_of_getElem? (i := 913) (by decide +kernel)⟩
theorem lw_p42 : lw_okq (⟨"WindowTakenModel", "again", "()V"⟩, 36) := ⟨⟨by decide +kernel, by decide +kernel⟩, List.mem_of_getElem? (i := 705) (by decide +kernel), List.mem_of_getElem? (i := 922) (by decide +kernel), List.mem_of_getElem? (i := 923) (by decide +kernel)⟩
theorem lw_p43 : lw_okq (⟨"WindowTakenModel", "hoursOf", "(I)I"⟩, 36) := ⟨⟨by decide +kernel, by decide +kernel⟩, List.mem_of_getElem? (i := 705) (by decide +kernel), List.mem_of_getElem? (i := 947) (by decide +kernel), List.mem_of_getElem? (i := 948) (by decide +kernel)⟩
theorem lw_p44 : lw_okq (⟨"WindowTakenModel", "viewsIn", "(II)I"⟩, 36) := ⟨⟨by decide +kernel, by decide +kernel⟩, List.mem_of_getElem? (i := 705) (by decide +kernel), List.mem_of_getElem? (i := 951) (by decide +kernel), List.mem_of_getElem? (i := 952) (by decide +kernel)⟩
theorem lw_p45 : lw_okq (⟨"WindowTakenModel", "ownerIn", "(II)I"⟩, 36) := ⟨⟨by decide +kernel, by decide +kernel⟩, List.mem_of_getElem? (i := 705) (by decide +kernel), List.mem_of_getElem? (i := 955) (by decide +kernel), List.mem_of_getElem? (i := 956) (by decide +kernel)⟩
theorem lw_p46 : lw_okq (⟨"WindowTakenModel", "ownerLooked", "()I"⟩, 36) := ⟨⟨by decide +kernel, by decide +kernel⟩, List.mem_of_getElem? (i := 705) (by decide +kernel), List.mem_of_getElem? (i := 959) (by decide +kernel), List.mem_of_getElem? (i := 960) (by decide +kernel)⟩
theorem lw_p47 : lw_okq (⟨"WindowTakenModel", "keepTurn", "()V"⟩, 36) := ⟨⟨by decide +kernel, by decide +kernel⟩, List.mem_of_getElem? (i := 705) (by decide +kernel), List.mem_of_getElem? (i := 983) (by decide +kernel), List.mem_of_getElem? (i := 984) (by decide +kernel)⟩
def lw_privs_3 : List (MethodName × Nat) := [(⟨"WindowTakenModel", "lookerComes", "(II)V"⟩, 36), (⟨"WindowTakenModel", "isLooker", "(I)Z"⟩, 36), (⟨"WindowTakenModel", "isPane", "(I)Z"⟩, 36), (⟨"WindowTakenModel", "stand", "(IIII)V"⟩, 36), (⟨"WindowTakenModel", "goDays", "(I)V"⟩, 36), (⟨"WindowTakenModel", "layBrings", "()V"⟩, 36), (⟨"WindowTakenModel", "bringsOf", "(II)I"⟩, 36), (⟨"WindowTakenModel", "seesIn", "(II)I"⟩, 36), (⟨"WindowTakenModel", "allShown", "()I"⟩, 36), (⟨"WindowTakenModel", "pullOf", "(II)I"⟩, 36), (⟨"WindowTakenModel", "again", "()V"⟩, 36), (⟨"WindowTakenModel", "hoursOf", "(I)I"⟩, 36), (⟨"WindowTakenModel", "viewsIn", "(II)I"⟩, 36), (⟨"WindowTakenModel", "ownerIn", "(II)I"⟩, 36), (⟨"WindowTakenModel", "ownerLooked", "()I"⟩, 36), (⟨"WindowTakenModel", "keepTurn", "()V"⟩, 36)]
theorem lw_r3 : ∀ q ∈ lw_privs_3, lw_okq q := List.forall_mem_cons.mpr ⟨lw_p32, List.forall_mem_cons.mpr ⟨lw_p33, List.forall_mem_cons.mpr ⟨lw_p34, List.forall_mem_cons.mpr ⟨lw_p35, List.forall_mem_cons.mpr ⟨lw_p36, List.forall_mem_cons.mpr ⟨lw_p37, List.forall_mem_cons.mpr ⟨lw_p38, List.forall_mem_cons.mpr ⟨lw_p39, List.forall_mem_cons.mpr ⟨lw_p40, List.forall_mem_cons.mpr ⟨lw_p41, List.forall_mem_cons.mpr ⟨lw_p42, List.forall_mem_cons.mpr ⟨lw_p43, List.forall_mem_cons.mpr ⟨lw_p44, List.forall_mem_cons.mpr ⟨lw_p45, List.forall_mem_cons.mpr ⟨lw_p46, List.forall_mem_cons.mpr ⟨lw_p47, fun _ h => absurd h List.not_mem_nil⟩⟩⟩⟩⟩⟩⟩⟩⟩⟩⟩⟩⟩⟩⟩⟩
theorem lw_p48 : lw_okq (⟨"WindowTakenModel", "owned", "()I"⟩, 36) := ⟨⟨by decide +kernel, by decide +kernel⟩, List.mem_of_getElem? (i := 705) (by decide +kernel), List.mem_of_getElem? (i := 1012) (by decide +kernel), List.mem_of_getElem? (i := 1013) (by decide +kernel)⟩
theorem lw_p49 : lw_okq (⟨"WindowTakenModel", "worthIn", "(II)I"⟩, 36) := ⟨⟨by decide +kernel, by decide +kernel⟩, List.mem_of_getElem? (i := 705) (by decide +kernel), List.mem_of_getElem? (i := 1031) (by decide +kernel), List.mem_of_getElem? (i := 1032) (by decide +kernel)⟩
theorem lw_p50 : lw_okq (⟨"WindowTakenModel", "worthBy", "(I)I"⟩, 36) := ⟨⟨by decide +kernel, by decide +kernel⟩, List.mem_of_getElem? (i := 705) (by decide +kernel), List.mem_of_getElem? (i := 1035) (by decide +kernel), List.mem_of_getElem? (i := 1036) (by decide +kernel)⟩
theorem lw_p51 : lw_okq (⟨"WindowTakenModel", "richestIn", "(I)I"⟩, 36) := ⟨⟨by decide +kernel, by decide +kernel⟩, List.mem_of_getElem? (i := 705) (by decide +kernel), List.mem_of_getElem? (i := 1055) (by decide +kernel), List.mem_of_getElem? (i := 1056) (by decide +kernel)⟩
theorem lw_p52 : lw_okq (⟨"WindowTakenModel", "areTwo", "(II)Z"⟩, 36) := ⟨⟨by decide +kernel, by decide +kernel⟩, List.mem_of_getElem? (i := 705) (by decide +kernel), List.mem_of_getElem? (i := 1063) (by decide +kernel), List.mem_of_getElem? (i := 1064) (by decide +kernel)⟩
theorem lw_p53 : lw_okq (⟨"WindowTakenModel", "worthAnew", "(II)I"⟩, 36) := ⟨⟨by decide +kernel, by decide +kernel⟩, List.mem_of_getElem? (i := 705) (by decide +kernel), List.mem_of_getElem? (i := 1075) (by decide +kernel), List.mem_of_getElem? (i := 1076) (by decide +kernel)⟩
theorem lw_p54 : lw_okq (⟨"WindowTakenModel", "areResting", "(I)Z"⟩, 36) := ⟨⟨by decide +kernel, by decide +kernel⟩, List.mem_of_getElem? (i := 705) (by decide +kernel), List.mem_of_getElem? (i := 1113) (by decide +kernel), List.mem_of_getElem? (i := 1114) (by decide +kernel)⟩
theorem lw_p55 : lw_okq (⟨"WindowTakenModel", "isRow", "(I)Z"⟩, 36) := ⟨⟨by decide +kernel, by decide +kernel⟩, List.mem_of_getElem? (i := 705) (by decide +kernel), List.mem_of_getElem? (i := 1121) (by decide +kernel), List.mem_of_getElem? (i := 1122) (by decide +kernel)⟩
theorem lw_p56 : lw_okq (⟨"WindowTakenModel", "standing", "(I)I"⟩, 36) := ⟨⟨by decide +kernel, by decide +kernel⟩, List.mem_of_getElem? (i := 705) (by decide +kernel), List.mem_of_getElem? (i := 1137) (by decide +kernel), List.mem_of_getElem? (i := 1138) (by decide +kernel)⟩
theorem lw_p57 : lw_okq (⟨"WindowTakenModel", "swapRosters", "(II)V"⟩, 36) := ⟨⟨by decide +kernel, by decide +kernel⟩, List.mem_of_getElem? (i := 705) (by decide +kernel), List.mem_of_getElem? (i := 1149) (by decide +kernel), List.mem_of_getElem? (i := 1150) (by decide +kernel)⟩
theorem lw_p58 : lw_okq (⟨"WindowTakenModel", "countIn", "(III)I"⟩, 36) := ⟨⟨by decide +kernel, by decide +kernel⟩, List.mem_of_getElem? (i := 705) (by decide +kernel), List.mem_of_getElem? (i := 1169) (by decide +kernel), List.mem_of_getElem? (i := 1170) (by decide +kernel)⟩
theorem lw_p59 : lw_okq (⟨"WindowTakenModel", "broughtToAll", "(I)I"⟩, 36) := ⟨⟨by decide +kernel, by decide +kernel⟩, List.mem_of_getElem? (i := 705) (by decide +kernel), List.mem_of_getElem? (i := 1201) (by decide +kernel), List.mem_of_getElem? (i := 1202) (by decide +kernel)⟩
theorem lw_p60 : lw_okq (⟨"WindowTakenModel", "drawBelow", "(I)I"⟩, 36) := ⟨⟨by decide +kernel, by decide +kernel⟩, List.mem_of_getElem? (i := 705) (by decide +kernel), List.mem_of_getElem? (i := 1225) (by decide +kernel), List.mem_of_getElem? (i := 1226) (by decide +kernel)⟩
def lw_privs_4 : List (MethodName × Nat) := [(⟨"WindowTakenModel", "owned", "()I"⟩, 36), (⟨"WindowTakenModel", "worthIn", "(II)I"⟩, 36), (⟨"WindowTakenModel", "worthBy", "(I)I"⟩, 36), (⟨"WindowTakenModel", "richestIn", "(I)I"⟩, 36), (⟨"WindowTakenModel", "areTwo", "(II)Z"⟩, 36), (⟨"WindowTakenModel", "worthAnew", "(II)I"⟩, 36), (⟨"WindowTakenModel", "areResting", "(I)Z"⟩, 36), (⟨"WindowTakenModel", "isRow", "(I)Z"⟩, 36), (⟨"WindowTakenModel", "standing", "(I)I"⟩, 36), (⟨"WindowTakenModel", "swapRosters", "(II)V"⟩, 36), (⟨"WindowTakenModel", "countIn", "(III)I"⟩, 36), (⟨"WindowTakenModel", "broughtToAll", "(I)I"⟩, 36), (⟨"WindowTakenModel", "drawBelow", "(I)I"⟩, 36)]
theorem lw_r4 : ∀ q ∈ lw_privs_4, lw_okq q := List.forall_mem_cons.mpr ⟨lw_p48, List.forall_mem_cons.mpr ⟨lw_p49, List.forall_mem_cons.mpr ⟨lw_p50, List.forall_mem_cons.mpr ⟨lw_p51, List.forall_mem_cons.mpr ⟨lw_p52, List.forall_mem_cons.mpr ⟨lw_p53, List.forall_mem_cons.mpr ⟨lw_p54, List.forall_mem_cons.mpr ⟨lw_p55, List.forall_mem_cons.mpr ⟨lw_p56, List.forall_mem_cons.mpr ⟨lw_p57, List.forall_mem_cons.mpr ⟨lw_p58, List.forall_mem_cons.mpr ⟨lw_p59, List.forall_mem_cons.mpr ⟨lw_p60, fun _ h => absurd h List.not_mem_nil⟩⟩⟩⟩⟩⟩⟩⟩⟩⟩⟩⟩⟩
def lw_privs : List (MethodName × Nat) := lw_privs_1 ++ (lw_privs_2 ++ (lw_privs_3 ++ (lw_privs_4)))
def lw_tbl : List Cond := k2_sels lw_privs ++ tables_1
theorem lw_privs_ok : ∀ q ∈ lw_privs, lw_okq q := by
  show ∀ q ∈ lw_privs_1 ++ (lw_privs_2 ++ (lw_privs_3 ++ (lw_privs_4))), lw_okq q
  exact List.forall_mem_append.mpr ⟨lw_r1, List.forall_mem_append.mpr ⟨lw_r2, List.forall_mem_append.mpr ⟨lw_r3, lw_r4⟩⟩⟩

theorem goodIn_r {big : List Cond} (ws : List Cond) (ps : List Nat) (hp : ws = ps.filterMap (fun i => big[i]?)) (h : ws.all goodWord = true) : GoodIn big ws := by
  intro w hw
  have h1 := List.all_eq_true.mp h w hw
  rw [hp] at hw
  obtain ⟨i, -, hi⟩ := List.mem_filterMap.mp hw
  have hm : w ∈ big := by first | exact List.mem_of_getElem? hi | exact List.getElem?_mem hi
  exact ⟨hm, good_of_word h1⟩

def RX0 : String := "WindowTaken$House"
def TX0 : u_T := fun k => match k with
  | 0 => ("WindowTaken$House", "paneCount", "I", false)
  | 1 => ("WindowTaken$House", "paneViews", "[I", true)
  | 2 => ("WindowTaken$House", "lookerCount", "I", false)
  | 3 => ("WindowTaken$House", "kinds", "[I", true)
  | 4 => ("WindowTaken$House", "figures", "[I", true)
  | 5 => ("WindowTaken$House", "rosters", "[[I", true)
  | 6 => ("WindowTaken$House", "counts", "[[I", true)
  | 7 => ("WindowTaken$House", "worths", "[I", true)
  | 8 => ("WindowTaken$House", "law", "I", false)
  | 9 => ("WindowTaken$House", "day", "I", false)
  | _ => ("WindowTaken$House", "gains", "[[I", true)
def tyX0 : Nat → FieldType := fun k => match k with
  | 0 => .int
  | 1 => .array .int
  | 2 => .int
  | 3 => .array .int
  | 4 => .array .int
  | 5 => .array (.array .int)
  | 6 => .array (.array .int)
  | 7 => .array .int
  | 8 => .int
  | 9 => .int
  | _ => .array (.array .int)
abbrev wsX00 : List Cond := u_ws RX0 TX0 11
theorem nmX0 : ∀ a, a < 11 → ∀ b, b < 11 → a ≠ b → (TX0 a).2.1 ≠ (TX0 b).2.1 := by decide +kernel
theorem tyX0_ok : ∀ k, k < 11 → parseFieldDescriptor (TX0 k).2.2.1 = some (tyX0 k) := by decide +kernel
abbrev cX0_init : ByteArray := prog_2_method_1_code
def yX0_init : MethodName := ⟨RX0, "<init>", "()V"⟩
abbrev cX0_takeFrom : ByteArray := prog_2_method_2_code
def yX0_takeFrom : MethodName := ⟨RX0, "takeFrom", "(LWindowTaken$House;)V"⟩
abbrev cX0_isView : ByteArray := prog_2_method_3_code
def yX0_isView : MethodName := ⟨RX0, "isView", "(I)Z"⟩
abbrev cX0_isHour : ByteArray := prog_2_method_4_code
def yX0_isHour : MethodName := ⟨RX0, "isHour", "(I)Z"⟩
abbrev cX0_isPane : ByteArray := prog_2_method_5_code
def yX0_isPane : MethodName := ⟨RX0, "isPane", "(I)Z"⟩
abbrev cX0_isLooker : ByteArray := prog_2_method_6_code
def yX0_isLooker : MethodName := ⟨RX0, "isLooker", "(I)Z"⟩
abbrev cX0_addPane : ByteArray := prog_2_method_7_code
def yX0_addPane : MethodName := ⟨RX0, "addPane", "(I)Z"⟩
abbrev cX0_addLooker : ByteArray := prog_2_method_8_code
def yX0_addLooker : MethodName := ⟨RX0, "addLooker", "(II)Z"⟩
abbrev cX0_post : ByteArray := prog_2_method_9_code
def yX0_post : MethodName := ⟨RX0, "post", "(IIII)Z"⟩
abbrev cX0_flip : ByteArray := prog_2_method_10_code
def yX0_flip : MethodName := ⟨RX0, "flip", "(II)Z"⟩
abbrev cX0_price : ByteArray := prog_2_method_11_code
def yX0_price : MethodName := ⟨RX0, "price", "(II)Z"⟩
abbrev cX0_rule : ByteArray := prog_2_method_12_code
def yX0_rule : MethodName := ⟨RX0, "rule", "(I)Z"⟩
abbrev cX0_pass : ByteArray := prog_2_method_13_code
def yX0_pass : MethodName := ⟨RX0, "pass", "(I)Z"⟩
abbrev cX0_tradeRosters : ByteArray := prog_2_method_14_code
def yX0_tradeRosters : MethodName := ⟨RX0, "tradeRosters", "(II)V"⟩
abbrev cX0_shows : ByteArray := prog_2_method_15_code
def yX0_shows : MethodName := ⟨RX0, "shows", "(II)Z"⟩
abbrev cX0_shownBy : ByteArray := prog_2_method_16_code
def yX0_shownBy : MethodName := ⟨RX0, "shownBy", "(I)I"⟩
abbrev cX0_allShown : ByteArray := prog_2_method_17_code
def yX0_allShown : MethodName := ⟨RX0, "allShown", "()I"⟩
abbrev cX0_timesShown : ByteArray := prog_2_method_18_code
def yX0_timesShown : MethodName := ⟨RX0, "timesShown", "(I)I"⟩
abbrev cX0_hoursAt : ByteArray := prog_2_method_19_code
def yX0_hoursAt : MethodName := ⟨RX0, "hoursAt", "(I)I"⟩
abbrev cX0_hoursOf : ByteArray := prog_2_method_20_code
def yX0_hoursOf : MethodName := ⟨RX0, "hoursOf", "(I)I"⟩
abbrev cX0_hoursOfAll : ByteArray := prog_2_method_21_code
def yX0_hoursOfAll : MethodName := ⟨RX0, "hoursOfAll", "()I"⟩
abbrev cX0_standingIn : ByteArray := prog_2_method_22_code
def yX0_standingIn : MethodName := ⟨RX0, "standingIn", "(I)I"⟩
abbrev cX0_pull : ByteArray := prog_2_method_23_code
def yX0_pull : MethodName := ⟨RX0, "pull", "(II)I"⟩
abbrev cX0_invalidsPull : ByteArray := prog_2_method_24_code
def yX0_invalidsPull : MethodName := ⟨RX0, "invalidsPull", "(I)I"⟩
abbrev cX0_sight : ByteArray := prog_2_method_25_code
def yX0_sight : MethodName := ⟨RX0, "sight", "(III)I"⟩
abbrev cX0_reckon : ByteArray := prog_2_method_26_code
def yX0_reckon : MethodName := ⟨RX0, "reckon", "()V"⟩
abbrev cX0_gain : ByteArray := prog_2_method_27_code
def yX0_gain : MethodName := ⟨RX0, "gain", "(III)V"⟩
abbrev cX0_gainOfAll : ByteArray := prog_2_method_28_code
def yX0_gainOfAll : MethodName := ⟨RX0, "gainOfAll", "(I)I"⟩
abbrev cX0_behind : ByteArray := prog_2_method_29_code
def yX0_behind : MethodName := ⟨RX0, "behind", "(III)I"⟩
abbrev cX0_holder : ByteArray := prog_2_method_30_code
def yX0_holder : MethodName := ⟨RX0, "holder", "(II)I"⟩
abbrev cX0_holdings : ByteArray := prog_2_method_31_code
def yX0_holdings : MethodName := ⟨RX0, "holdings", "(II)I"⟩
abbrev cX0_firstHolding : ByteArray := prog_2_method_32_code
def yX0_firstHolding : MethodName := ⟨RX0, "firstHolding", "(II)I"⟩
abbrev cX0_held : ByteArray := prog_2_method_33_code
def yX0_held : MethodName := ⟨RX0, "held", "(I)I"⟩
abbrev cX0_wealth : ByteArray := prog_2_method_34_code
def yX0_wealth : MethodName := ⟨RX0, "wealth", "(II)I"⟩
abbrev cX0_wealthiest : ByteArray := prog_2_method_35_code
def yX0_wealthiest : MethodName := ⟨RX0, "wealthiest", "(I)I"⟩
abbrev cX0_lead : ByteArray := prog_2_method_36_code
def yX0_lead : MethodName := ⟨RX0, "lead", "(III)I"⟩
abbrev cX0_outdo : ByteArray := prog_2_method_37_code
def yX0_outdo : MethodName := ⟨RX0, "outdo", "(IIII)Z"⟩
abbrev cX0_placeOf : ByteArray := prog_2_method_38_code
def yX0_placeOf : MethodName := ⟨RX0, "placeOf", "(II)I"⟩
def RX1 : String := "WindowTaken$Letters"
def TX1 : u_T := fun k => match k with
  | 0 => ("WindowTaken$Letters", "signs", "[I", true)
  | _ => ("WindowTaken$Letters", "size", "I", false)
def tyX1 : Nat → FieldType := fun k => match k with
  | 0 => .array .int
  | _ => .int
abbrev wsX10 : List Cond := u_ws RX1 TX1 2
theorem nmX1 : ∀ a, a < 2 → ∀ b, b < 2 → a ≠ b → (TX1 a).2.1 ≠ (TX1 b).2.1 := by decide +kernel
theorem tyX1_ok : ∀ k, k < 2 → parseFieldDescriptor (TX1 k).2.2.1 = some (tyX1 k) := by decide +kernel
abbrev cX1_init : ByteArray := prog_3_method_1_code
def yX1_init : MethodName := ⟨RX1, "<init>", "()V"⟩
abbrev cX1_add : ByteArray := prog_3_method_2_code
def yX1_add : MethodName := ⟨RX1, "add", "(I)V"⟩
abbrev cX1_digitsOf : ByteArray := prog_3_method_3_code
def yX1_digitsOf : MethodName := ⟨RX1, "digitsOf", "(I)I"⟩
abbrev cX1_isDigit : ByteArray := prog_3_method_4_code
def yX1_isDigit : MethodName := ⟨RX1, "isDigit", "(I)Z"⟩
abbrev cX1_behind : ByteArray := prog_3_method_5_code
def yX1_behind : MethodName := ⟨RX1, "behind", "(I)I"⟩
abbrev cX1_faultOfForm : ByteArray := prog_3_method_6_code
def yX1_faultOfForm : MethodName := ⟨RX1, "faultOfForm", "()I"⟩
abbrev cX1_number : ByteArray := prog_3_method_7_code
def yX1_number : MethodName := ⟨RX1, "number", "(II)I"⟩
abbrev cX1_tell : ByteArray := prog_3_method_8_code
def yX1_tell : MethodName := ⟨RX1, "tell", "(LWindowTaken$House;I)Z"⟩
def RX2 : String := "WindowTaken$Steps"
def TX2 : u_T := fun k => match k with
  | 0 => ("WindowTaken$Steps", "whats", "[I", true)
  | 1 => ("WindowTaken$Steps", "places", "[I", true)
  | 2 => ("WindowTaken$Steps", "olds", "[I", true)
  | 3 => ("WindowTaken$Steps", "oldRosters", "[[I", true)
  | 4 => ("WindowTaken$Steps", "first", "I", false)
  | _ => ("WindowTaken$Steps", "size", "I", false)
def tyX2 : Nat → FieldType := fun k => match k with
  | 0 => .array .int
  | 1 => .array .int
  | 2 => .array .int
  | 3 => .array (.array .int)
  | 4 => .int
  | _ => .int
abbrev wsX20 : List Cond := u_ws RX2 TX2 6
theorem nmX2 : ∀ a, a < 6 → ∀ b, b < 6 → a ≠ b → (TX2 a).2.1 ≠ (TX2 b).2.1 := by decide +kernel
theorem tyX2_ok : ∀ k, k < 6 → parseFieldDescriptor (TX2 k).2.2.1 = some (tyX2 k) := by decide +kernel
abbrev cX2_init : ByteArray := prog_4_method_1_code
def yX2_init : MethodName := ⟨RX2, "<init>", "()V"⟩
abbrev cX2_forget : ByteArray := prog_4_method_2_code
def yX2_forget : MethodName := ⟨RX2, "forget", "()V"⟩
abbrev cX2_nextSlot : ByteArray := prog_4_method_3_code
def yX2_nextSlot : MethodName := ⟨RX2, "nextSlot", "()I"⟩
abbrev cX2_keep : ByteArray := prog_4_method_4_code
def yX2_keep : MethodName := ⟨RX2, "keep", "(III)V"⟩
abbrev cX2_keepRoster : ByteArray := prog_4_method_5_code
def yX2_keepRoster : MethodName := ⟨RX2, "keepRoster", "(I[I)V"⟩
abbrev cX2_undoLatest : ByteArray := prog_4_method_6_code
def yX2_undoLatest : MethodName := ⟨RX2, "undoLatest", "(LWindowTaken$House;)V"⟩
def RX3 : String := "WindowTaken"
def TX3 : u_T := fun k => match k with
  | 0 => ("WindowTaken", "house", "LWindowTaken$House;", true)
  | 1 => ("WindowTaken", "mind", "LWindowTaken$House;", true)
  | 2 => ("WindowTaken", "kept", "LWindowTaken$House;", true)
  | 3 => ("WindowTaken", "imageTaken", "Z", false)
  | 4 => ("WindowTaken", "steps", "LWindowTaken$Steps;", true)
  | 5 => ("WindowTaken", "letters", "LWindowTaken$Letters;", true)
  | 6 => ("WindowTaken", "rowNumbers", "[I", true)
  | 7 => ("WindowTaken", "rowSize", "I", false)
  | 8 => ("WindowTaken", "refusals", "[I", true)
  | 9 => ("WindowTaken", "firstPays", "[[I", true)
  | _ => ("WindowTaken", "otherPays", "[[I", true)
def tyX3 : Nat → FieldType := fun k => match k with
  | 0 => .object "WindowTaken$House"
  | 1 => .object "WindowTaken$House"
  | 2 => .object "WindowTaken$House"
  | 3 => .boolean
  | 4 => .object "WindowTaken$Steps"
  | 5 => .object "WindowTaken$Letters"
  | 6 => .array .int
  | 7 => .int
  | 8 => .array .int
  | 9 => .array (.array .int)
  | _ => .array (.array .int)
abbrev wsX30 : List Cond := u_ws RX3 TX3 11
theorem nmX3 : ∀ a, a < 11 → ∀ b, b < 11 → a ≠ b → (TX3 a).2.1 ≠ (TX3 b).2.1 := by decide +kernel
theorem tyX3_ok : ∀ k, k < 11 → parseFieldDescriptor (TX3 k).2.2.1 = some (tyX3 k) := by decide +kernel
abbrev cX3_init : ByteArray := prog_1_method_1_code
def yX3_init : MethodName := ⟨RX3, "<init>", "()V"⟩
abbrev cX3_refuse : ByteArray := prog_1_method_2_code
def yX3_refuse : MethodName := ⟨RX3, "refuse", "(I)I"⟩
abbrev cX3_refuseLong : ByteArray := prog_1_method_3_code
def yX3_refuseLong : MethodName := ⟨RX3, "refuseLong", "(I)J"⟩
abbrev cX3_firstOf : ByteArray := prog_1_method_4_code
def yX3_firstOf : MethodName := ⟨RX3, "firstOf", "(II)I"⟩
abbrev cX3_noView : ByteArray := prog_1_method_5_code
def yX3_noView : MethodName := ⟨RX3, "noView", "(I)I"⟩
abbrev cX3_noHour : ByteArray := prog_1_method_6_code
def yX3_noHour : MethodName := ⟨RX3, "noHour", "(I)I"⟩
abbrev cX3_noPane : ByteArray := prog_1_method_7_code
def yX3_noPane : MethodName := ⟨RX3, "noPane", "(I)I"⟩
abbrev cX3_noLooker : ByteArray := prog_1_method_8_code
def yX3_noLooker : MethodName := ⟨RX3, "noLooker", "(I)I"⟩
abbrev cX3_noPair : ByteArray := prog_1_method_9_code
def yX3_noPair : MethodName := ⟨RX3, "noPair", "(II)I"⟩
abbrev cX3_notBelow : ByteArray := prog_1_method_10_code
def yX3_notBelow : MethodName := ⟨RX3, "notBelow", "(II)I"⟩
abbrev cX3_outside : ByteArray := prog_1_method_11_code
def yX3_outside : MethodName := ⟨RX3, "outside", "(III)I"⟩
abbrev cX3_noLookerFar : ByteArray := prog_1_method_12_code
def yX3_noLookerFar : MethodName := ⟨RX3, "noLookerFar", "(II)I"⟩
abbrev cX3_noPairFar : ByteArray := prog_1_method_13_code
def yX3_noPairFar : MethodName := ⟨RX3, "noPairFar", "(III)I"⟩
abbrev cX3_longRow : ByteArray := prog_1_method_14_code
def yX3_longRow : MethodName := ⟨RX3, "longRow", "()I"⟩
abbrev cX3_feed : ByteArray := prog_1_method_15_code
def yX3_feed : MethodName := ⟨RX3, "feed", "(I)I"⟩
abbrev cX3_terrace : ByteArray := prog_1_method_16_code
def yX3_terrace : MethodName := ⟨RX3, "terrace", "()I"⟩
abbrev cX3_tellTerrace : ByteArray := prog_1_method_17_code
def yX3_tellTerrace : MethodName := ⟨RX3, "tellTerrace", "()I"⟩
abbrev cX3_paneOf : ByteArray := prog_1_method_18_code
def yX3_paneOf : MethodName := ⟨RX3, "paneOf", "(II)I"⟩
abbrev cX3_lookerOf : ByteArray := prog_1_method_19_code
def yX3_lookerOf : MethodName := ⟨RX3, "lookerOf", "(II)I"⟩
abbrev cX3_pane : ByteArray := prog_1_method_20_code
def yX3_pane : MethodName := ⟨RX3, "pane", "(I)I"⟩
abbrev cX3_looker : ByteArray := prog_1_method_21_code
def yX3_looker : MethodName := ⟨RX3, "looker", "(II)I"⟩
abbrev cX3_stands : ByteArray := prog_1_method_22_code
def yX3_stands : MethodName := ⟨RX3, "stands", "(IIII)I"⟩
abbrev cX3_roster : ByteArray := prog_1_method_23_code
def yX3_roster : MethodName := ⟨RX3, "roster", "(II)I"⟩
abbrev cX3_wall : ByteArray := prog_1_method_24_code
def yX3_wall : MethodName := ⟨RX3, "wall", "(II)I"⟩
abbrev cX3_worth : ByteArray := prog_1_method_25_code
def yX3_worth : MethodName := ⟨RX3, "worth", "(II)I"⟩
abbrev cX3_law : ByteArray := prog_1_method_26_code
def yX3_law : MethodName := ⟨RX3, "law", "(I)I"⟩
abbrev cX3_days : ByteArray := prog_1_method_27_code
def yX3_days : MethodName := ⟨RX3, "days", "(I)I"⟩
abbrev cX3_back : ByteArray := prog_1_method_28_code
def yX3_back : MethodName := ⟨RX3, "back", "()I"⟩
abbrev cX3_counts : ByteArray := prog_1_method_29_code
def yX3_counts : MethodName := ⟨RX3, "counts", "(III)I"⟩
abbrev cX3_owner : ByteArray := prog_1_method_30_code
def yX3_owner : MethodName := ⟨RX3, "owner", "(II)I"⟩
abbrev cX3_owns : ByteArray := prog_1_method_31_code
def yX3_owns : MethodName := ⟨RX3, "owns", "(III)I"⟩
abbrev cX3_nobodys : ByteArray := prog_1_method_32_code
def yX3_nobodys : MethodName := ⟨RX3, "nobodys", "(I)I"⟩
abbrev cX3_from : ByteArray := prog_1_method_33_code
def yX3_from : MethodName := ⟨RX3, "from", "(II)I"⟩
abbrev cX3_lost : ByteArray := prog_1_method_34_code
def yX3_lost : MethodName := ⟨RX3, "lost", "(I)I"⟩
abbrev cX3_richest : ByteArray := prog_1_method_35_code
def yX3_richest : MethodName := ⟨RX3, "richest", "(II)I"⟩
abbrev cX3_staredOut : ByteArray := prog_1_method_36_code
def yX3_staredOut : MethodName := ⟨RX3, "staredOut", "(III)I"⟩
abbrev cX3_moreHours : ByteArray := prog_1_method_37_code
def yX3_moreHours : MethodName := ⟨RX3, "moreHours", "(III)I"⟩
abbrev cX3_hoursUntilOwned : ByteArray := prog_1_method_38_code
def yX3_hoursUntilOwned : MethodName := ⟨RX3, "hoursUntilOwned", "(III)I"⟩
abbrev cX3_bestPane : ByteArray := prog_1_method_39_code
def yX3_bestPane : MethodName := ⟨RX3, "bestPane", "(IIII)I"⟩
abbrev cX3_wealthAt : ByteArray := prog_1_method_40_code
def yX3_wealthAt : MethodName := ⟨RX3, "wealthAt", "(IIII)I"⟩
abbrev cX3_freeHours : ByteArray := prog_1_method_41_code
def yX3_freeHours : MethodName := ⟨RX3, "freeHours", "(II)I"⟩
abbrev cX3_cover : ByteArray := prog_1_method_42_code
def yX3_cover : MethodName := ⟨RX3, "cover", "()I"⟩
abbrev cX3_shown : ByteArray := prog_1_method_43_code
def yX3_shown : MethodName := ⟨RX3, "shown", "(I)I"⟩
abbrev cX3_walls : ByteArray := prog_1_method_44_code
def yX3_walls : MethodName := ⟨RX3, "walls", "(III)I"⟩
abbrev cX3_wealthWalled : ByteArray := prog_1_method_45_code
def yX3_wealthWalled : MethodName := ⟨RX3, "wealthWalled", "(IIII)I"⟩
abbrev cX3_share : ByteArray := prog_1_method_46_code
def yX3_share : MethodName := ⟨RX3, "share", "(III)J"⟩
abbrev cX3_two : ByteArray := prog_1_method_47_code
def yX3_two : MethodName := ⟨RX3, "two", "(IIII)I"⟩
abbrev cX3_fillPays : ByteArray := prog_1_method_48_code
def yX3_fillPays : MethodName := ⟨RX3, "fillPays", "(IIII)V"⟩
abbrev cX3_bothContent : ByteArray := prog_1_method_49_code
def yX3_bothContent : MethodName := ⟨RX3, "bothContent", "(II)Z"⟩
abbrev cX3_whichLaw : ByteArray := prog_1_method_50_code
def yX3_whichLaw : MethodName := ⟨RX3, "whichLaw", "()I"⟩
abbrev cX3_rowTells : ByteArray := prog_1_method_51_code
def yX3_rowTells : MethodName := ⟨RX3, "rowTells", "(I)Z"⟩
abbrev cX3_inRow : ByteArray := prog_1_method_52_code
def yX3_inRow : MethodName := ⟨RX3, "inRow", "(I)I"⟩
abbrev cX3_whichKind : ByteArray := prog_1_method_53_code
def yX3_whichKind : MethodName := ⟨RX3, "whichKind", "(III)I"⟩
abbrev cX3_ill : ByteArray := prog_1_method_54_code
def yX3_ill : MethodName := ⟨RX3, "ill", "(IIIII)J"⟩
abbrev cX3_ownsWell : ByteArray := prog_1_method_55_code
def yX3_ownsWell : MethodName := ⟨RX3, "ownsWell", "(IIII)Z"⟩
abbrev cX3_fraction : ByteArray := prog_1_method_56_code
def yX3_fraction : MethodName := ⟨RX3, "fraction", "(JJI)J"⟩
abbrev cX3_commonDivisor : ByteArray := prog_1_method_57_code
def yX3_commonDivisor : MethodName := ⟨RX3, "commonDivisor", "(JJ)J"⟩
abbrev cX3_busy : ByteArray := prog_1_method_58_code
def yX3_busy : MethodName := ⟨RX3, "busy", "(I)I"⟩
abbrev cX3_together : ByteArray := prog_1_method_59_code
def yX3_together : MethodName := ⟨RX3, "together", "(II)I"⟩
abbrev cX3_swap : ByteArray := prog_1_method_60_code
def yX3_swap : MethodName := ⟨RX3, "swap", "(I)I"⟩
abbrev cX3_wealthSwapped : ByteArray := prog_1_method_61_code
def yX3_wealthSwapped : MethodName := ⟨RX3, "wealthSwapped", "(III)I"⟩
abbrev cX3_heir : ByteArray := prog_1_method_62_code
def yX3_heir : MethodName := ⟨RX3, "heir", "(III)I"⟩
abbrev cX3_even : ByteArray := prog_1_method_63_code
def yX3_even : MethodName := ⟨RX3, "even", "(I)I"⟩
abbrev cX3_last : ByteArray := prog_1_method_64_code
def yX3_last : MethodName := ⟨RX3, "last", "()I"⟩
abbrev cX3_joint : ByteArray := prog_1_method_65_code
def yX3_joint : MethodName := ⟨RX3, "joint", "(III)I"⟩
abbrev cX3_rank : ByteArray := prog_1_method_66_code
def yX3_rank : MethodName := ⟨RX3, "rank", "(II)I"⟩
abbrev cX3_gap : ByteArray := prog_1_method_67_code
def yX3_gap : MethodName := ⟨RX3, "gap", "(II)I"⟩
abbrev cX3_wasted : ByteArray := prog_1_method_68_code
def yX3_wasted : MethodName := ⟨RX3, "wasted", "(II)I"⟩
abbrev cX3_ahead : ByteArray := prog_1_method_69_code
def yX3_ahead : MethodName := ⟨RX3, "ahead", "(II)I"⟩
abbrev cX3_bestLaw : ByteArray := prog_1_method_70_code
def yX3_bestLaw : MethodName := ⟨RX3, "bestLaw", "(II)I"⟩
abbrev cX3_newcomer : ByteArray := prog_1_method_71_code
def yX3_newcomer : MethodName := ⟨RX3, "newcomer", "(III)I"⟩
abbrev cX3_mostSeen : ByteArray := prog_1_method_72_code
def yX3_mostSeen : MethodName := ⟨RX3, "mostSeen", "(I)I"⟩
abbrev cX3_duels : ByteArray := prog_1_method_73_code
def yX3_duels : MethodName := ⟨RX3, "duels", "(II)I"⟩
abbrev cX3_row : ByteArray := prog_1_method_74_code
def yX3_row : MethodName := ⟨RX3, "row", "(I)I"⟩
abbrev cX3_judge : ByteArray := prog_1_method_75_code
def yX3_judge : MethodName := ⟨RX3, "judge", "(I)I"⟩
abbrev cX3_clear : ByteArray := prog_1_method_76_code
def yX3_clear : MethodName := ⟨RX3, "clear", "()I"⟩
abbrev cX3_lots : ByteArray := prog_1_method_77_code
def yX3_lots : MethodName := ⟨RX3, "lots", "(III)I"⟩
abbrev cX3_castRosters : ByteArray := prog_1_method_78_code
def yX3_castRosters : MethodName := ⟨RX3, "castRosters", "(I)I"⟩
abbrev cX3_nextSeed : ByteArray := prog_1_method_79_code
def yX3_nextSeed : MethodName := ⟨RX3, "nextSeed", "(I)I"⟩
abbrev cX3_drawBelow : ByteArray := prog_1_method_80_code
def yX3_drawBelow : MethodName := ⟨RX3, "drawBelow", "(II)I"⟩
abbrev cX3_image : ByteArray := prog_1_method_81_code
def yX3_image : MethodName := ⟨RX3, "image", "()I"⟩
abbrev cX3_restore : ByteArray := prog_1_method_82_code
def yX3_restore : MethodName := ⟨RX3, "restore", "()I"⟩
abbrev cX3_count : ByteArray := prog_1_method_83_code
def yX3_count : MethodName := ⟨RX3, "count", "(I)I"⟩
def RX4 : String := "WindowTakenModel"
def TX4 : u_T := fun k => match k with
  | 0 => ("WindowTakenModel", "worths", "[I", true)
  | 1 => ("WindowTakenModel", "panes", "I", false)
  | 2 => ("WindowTakenModel", "shows", "[I", true)
  | 3 => ("WindowTakenModel", "lookers", "I", false)
  | 4 => ("WindowTakenModel", "kinds", "[I", true)
  | 5 => ("WindowTakenModel", "figures", "[I", true)
  | 6 => ("WindowTakenModel", "rosters", "[I", true)
  | 7 => ("WindowTakenModel", "counted", "[I", true)
  | 8 => ("WindowTakenModel", "law0", "I", false)
  | 9 => ("WindowTakenModel", "today", "I", false)
  | 10 => ("WindowTakenModel", "thrown", "I", false)
  | 11 => ("WindowTakenModel", "refusals", "[I", true)
  | 12 => ("WindowTakenModel", "brings", "[I", true)
  | 13 => ("WindowTakenModel", "looked", "[I", true)
  | 14 => ("WindowTakenModel", "letters", "[I", true)
  | 15 => ("WindowTakenModel", "letterMany", "I", false)
  | 16 => ("WindowTakenModel", "at", "I", false)
  | 17 => ("WindowTakenModel", "isBad", "Z", false)
  | 18 => ("WindowTakenModel", "statements", "I", false)
  | 19 => ("WindowTakenModel", "placeIn", "[I", true)
  | 20 => ("WindowTakenModel", "letterOf", "[I", true)
  | 21 => ("WindowTakenModel", "told", "[I", true)
  | 22 => ("WindowTakenModel", "kept", "[I", true)
  | 23 => ("WindowTakenModel", "imaged", "[I", true)
  | 24 => ("WindowTakenModel", "hasImage", "Z", false)
  | 25 => ("WindowTakenModel", "place0", "I", false)
  | 26 => ("WindowTakenModel", "isTaking", "Z", false)
  | 27 => ("WindowTakenModel", "keptIn", "[I", false)
  | 28 => ("WindowTakenModel", "turns", "[I", true)
  | 29 => ("WindowTakenModel", "turnOf", "[I", true)
  | 30 => ("WindowTakenModel", "turned", "I", false)
  | 31 => ("WindowTakenModel", "oneHas", "[I", true)
  | 32 => ("WindowTakenModel", "otherHas", "[I", true)
  | 33 => ("WindowTakenModel", "row", "[I", true)
  | 34 => ("WindowTakenModel", "rowMany", "I", false)
  | _ => ("WindowTakenModel", "seed", "I", false)
def tyX4 : Nat → FieldType := fun k => match k with
  | 0 => .array .int
  | 1 => .int
  | 2 => .array .int
  | 3 => .int
  | 4 => .array .int
  | 5 => .array .int
  | 6 => .array .int
  | 7 => .array .int
  | 8 => .int
  | 9 => .int
  | 10 => .int
  | 11 => .array .int
  | 12 => .array .int
  | 13 => .array .int
  | 14 => .array .int
  | 15 => .int
  | 16 => .int
  | 17 => .boolean
  | 18 => .int
  | 19 => .array .int
  | 20 => .array .int
  | 21 => .array .int
  | 22 => .array .int
  | 23 => .array .int
  | 24 => .boolean
  | 25 => .int
  | 26 => .boolean
  | 27 => .array .int
  | 28 => .array .int
  | 29 => .array .int
  | 30 => .int
  | 31 => .array .int
  | 32 => .array .int
  | 33 => .array .int
  | 34 => .int
  | _ => .int
abbrev wsX40 : List Cond := u_ws RX4 TX4 36
theorem nmX4 : ∀ a, a < 36 → ∀ b, b < 36 → a ≠ b → (TX4 a).2.1 ≠ (TX4 b).2.1 := by decide +kernel
theorem tyX4_ok : ∀ k, k < 36 → parseFieldDescriptor (TX4 k).2.2.1 = some (tyX4 k) := by decide +kernel
abbrev cX4_init : ByteArray := prog_6_method_1_code
def yX4_init : MethodName := ⟨RX4, "<init>", "()V"⟩
abbrev cX4_in : ByteArray := prog_6_method_3_code
def yX4_in : MethodName := ⟨RX4, "in", "(JJJ)Z"⟩
abbrev cX4_refuse : ByteArray := prog_6_method_4_code
def yX4_refuse : MethodName := ⟨RX4, "refuse", "(I)I"⟩
abbrev cX4_isLooker : ByteArray := prog_6_method_5_code
def yX4_isLooker : MethodName := ⟨RX4, "isLooker", "(I)Z"⟩
abbrev cX4_isPane : ByteArray := prog_6_method_6_code
def yX4_isPane : MethodName := ⟨RX4, "isPane", "(I)Z"⟩
abbrev cX4_isView : ByteArray := prog_6_method_7_code
def yX4_isView : MethodName := ⟨RX4, "isView", "(I)Z"⟩
abbrev cX4_isHour : ByteArray := prog_6_method_8_code
def yX4_isHour : MethodName := ⟨RX4, "isHour", "(I)Z"⟩
abbrev cX4_areTwo : ByteArray := prog_6_method_9_code
def yX4_areTwo : MethodName := ⟨RX4, "areTwo", "(II)Z"⟩
abbrev cX4_wrongNumber : ByteArray := prog_6_method_10_code
def yX4_wrongNumber : MethodName := ⟨RX4, "wrongNumber", "(III)I"⟩
abbrev cX4_wrongBit : ByteArray := prog_6_method_11_code
def yX4_wrongBit : MethodName := ⟨RX4, "wrongBit", "(III)I"⟩
abbrev cX4_hasBit : ByteArray := prog_6_method_12_code
def yX4_hasBit : MethodName := ⟨RX4, "hasBit", "(II)Z"⟩
abbrev cX4_onesOf : ByteArray := prog_6_method_13_code
def yX4_onesOf : MethodName := ⟨RX4, "onesOf", "(I)I"⟩
abbrev cX4_pullOf : ByteArray := prog_6_method_14_code
def yX4_pullOf : MethodName := ⟨RX4, "pullOf", "(II)I"⟩
abbrev cX4_allShown : ByteArray := prog_6_method_15_code
def yX4_allShown : MethodName := ⟨RX4, "allShown", "()I"⟩
abbrev cX4_seesIn : ByteArray := prog_6_method_16_code
def yX4_seesIn : MethodName := ⟨RX4, "seesIn", "(II)I"⟩
abbrev cX4_bringsOf : ByteArray := prog_6_method_17_code
def yX4_bringsOf : MethodName := ⟨RX4, "bringsOf", "(II)I"⟩
abbrev cX4_layBrings : ByteArray := prog_6_method_18_code
def yX4_layBrings : MethodName := ⟨RX4, "layBrings", "()V"⟩
abbrev cX4_held : ByteArray := prog_6_method_19_code
def yX4_held : MethodName := ⟨RX4, "held", "(I)I"⟩
abbrev cX4_ownerLooked : ByteArray := prog_6_method_20_code
def yX4_ownerLooked : MethodName := ⟨RX4, "ownerLooked", "()I"⟩
abbrev cX4_ownerIn : ByteArray := prog_6_method_21_code
def yX4_ownerIn : MethodName := ⟨RX4, "ownerIn", "(II)I"⟩
abbrev cX4_viewsIn : ByteArray := prog_6_method_22_code
def yX4_viewsIn : MethodName := ⟨RX4, "viewsIn", "(II)I"⟩
abbrev cX4_worthBy : ByteArray := prog_6_method_23_code
def yX4_worthBy : MethodName := ⟨RX4, "worthBy", "(I)I"⟩
abbrev cX4_worthIn : ByteArray := prog_6_method_24_code
def yX4_worthIn : MethodName := ⟨RX4, "worthIn", "(II)I"⟩
abbrev cX4_worthAnew : ByteArray := prog_6_method_25_code
def yX4_worthAnew : MethodName := ⟨RX4, "worthAnew", "(II)I"⟩
abbrev cX4_hoursOf : ByteArray := prog_6_method_26_code
def yX4_hoursOf : MethodName := ⟨RX4, "hoursOf", "(I)I"⟩
abbrev cX4_goDays : ByteArray := prog_6_method_27_code
def yX4_goDays : MethodName := ⟨RX4, "goDays", "(I)V"⟩
abbrev cX4_owned : ByteArray := prog_6_method_28_code
def yX4_owned : MethodName := ⟨RX4, "owned", "()I"⟩
abbrev cX4_feed : ByteArray := prog_6_method_29_code
def yX4_feed : MethodName := ⟨RX4, "feed", "(I)I"⟩
abbrev cX4_here : ByteArray := prog_6_method_30_code
def yX4_here : MethodName := ⟨RX4, "here", "()I"⟩
abbrev cX4_readDigits : ByteArray := prog_6_method_31_code
def yX4_readDigits : MethodName := ⟨RX4, "readDigits", "(I)I"⟩
abbrev cX4_isLetter : ByteArray := prog_6_method_32_code
def yX4_isLetter : MethodName := ⟨RX4, "isLetter", "(I)Z"⟩
abbrev cX4_readNumbers : ByteArray := prog_6_method_33_code
def yX4_readNumbers : MethodName := ⟨RX4, "readNumbers", "(II)V"⟩
abbrev cX4_readStatement : ByteArray := prog_6_method_34_code
def yX4_readStatement : MethodName := ⟨RX4, "readStatement", "()V"⟩
abbrev cX4_lookerComes : ByteArray := prog_6_method_35_code
def yX4_lookerComes : MethodName := ⟨RX4, "lookerComes", "(II)V"⟩
abbrev cX4_stand : ByteArray := prog_6_method_36_code
def yX4_stand : MethodName := ⟨RX4, "stand", "(IIII)V"⟩
abbrev cX4_comesTold : ByteArray := prog_6_method_37_code
def yX4_comesTold : MethodName := ⟨RX4, "comesTold", "(I)Z"⟩
abbrev cX4_terrace : ByteArray := prog_6_method_38_code
def yX4_terrace : MethodName := ⟨RX4, "terrace", "()I"⟩
abbrev cX4_carry : ByteArray := prog_6_method_39_code
def yX4_carry : MethodName := ⟨RX4, "carry", "(I)I"⟩
abbrev cX4_carryAll : ByteArray := prog_6_method_40_code
def yX4_carryAll : MethodName := ⟨RX4, "carryAll", "([IZ)V"⟩
abbrev cX4_think : ByteArray := prog_6_method_41_code
def yX4_think : MethodName := ⟨RX4, "think", "()V"⟩
abbrev cX4_again : ByteArray := prog_6_method_42_code
def yX4_again : MethodName := ⟨RX4, "again", "()V"⟩
abbrev cX4_image : ByteArray := prog_6_method_43_code
def yX4_image : MethodName := ⟨RX4, "image", "()I"⟩
abbrev cX4_restore : ByteArray := prog_6_method_44_code
def yX4_restore : MethodName := ⟨RX4, "restore", "()I"⟩
abbrev cX4_keepTurn : ByteArray := prog_6_method_45_code
def yX4_keepTurn : MethodName := ⟨RX4, "keepTurn", "()V"⟩
abbrev cX4_back : ByteArray := prog_6_method_46_code
def yX4_back : MethodName := ⟨RX4, "back", "()I"⟩
abbrev cX4_paneOf : ByteArray := prog_6_method_47_code
def yX4_paneOf : MethodName := ⟨RX4, "paneOf", "(II)I"⟩
abbrev cX4_lookerOf : ByteArray := prog_6_method_48_code
def yX4_lookerOf : MethodName := ⟨RX4, "lookerOf", "(II)I"⟩
abbrev cX4_pane : ByteArray := prog_6_method_49_code
def yX4_pane : MethodName := ⟨RX4, "pane", "(I)I"⟩
abbrev cX4_looker : ByteArray := prog_6_method_50_code
def yX4_looker : MethodName := ⟨RX4, "looker", "(II)I"⟩
abbrev cX4_stands : ByteArray := prog_6_method_51_code
def yX4_stands : MethodName := ⟨RX4, "stands", "(IIII)I"⟩
abbrev cX4_roster : ByteArray := prog_6_method_52_code
def yX4_roster : MethodName := ⟨RX4, "roster", "(II)I"⟩
abbrev cX4_wall : ByteArray := prog_6_method_53_code
def yX4_wall : MethodName := ⟨RX4, "wall", "(II)I"⟩
abbrev cX4_worth : ByteArray := prog_6_method_54_code
def yX4_worth : MethodName := ⟨RX4, "worth", "(II)I"⟩
abbrev cX4_law : ByteArray := prog_6_method_55_code
def yX4_law : MethodName := ⟨RX4, "law", "(I)I"⟩
abbrev cX4_days : ByteArray := prog_6_method_56_code
def yX4_days : MethodName := ⟨RX4, "days", "(I)I"⟩
abbrev cX4_counts : ByteArray := prog_6_method_57_code
def yX4_counts : MethodName := ⟨RX4, "counts", "(III)I"⟩
abbrev cX4_owner : ByteArray := prog_6_method_58_code
def yX4_owner : MethodName := ⟨RX4, "owner", "(II)I"⟩
abbrev cX4_owns : ByteArray := prog_6_method_59_code
def yX4_owns : MethodName := ⟨RX4, "owns", "(III)I"⟩
abbrev cX4_nobodys : ByteArray := prog_6_method_60_code
def yX4_nobodys : MethodName := ⟨RX4, "nobodys", "(I)I"⟩
abbrev cX4_from : ByteArray := prog_6_method_61_code
def yX4_from : MethodName := ⟨RX4, "from", "(II)I"⟩
abbrev cX4_lost : ByteArray := prog_6_method_62_code
def yX4_lost : MethodName := ⟨RX4, "lost", "(I)I"⟩
abbrev cX4_richestIn : ByteArray := prog_6_method_63_code
def yX4_richestIn : MethodName := ⟨RX4, "richestIn", "(I)I"⟩
abbrev cX4_richest : ByteArray := prog_6_method_64_code
def yX4_richest : MethodName := ⟨RX4, "richest", "(II)I"⟩
abbrev cX4_staredOut : ByteArray := prog_6_method_65_code
def yX4_staredOut : MethodName := ⟨RX4, "staredOut", "(III)I"⟩
abbrev cX4_moreHours : ByteArray := prog_6_method_66_code
def yX4_moreHours : MethodName := ⟨RX4, "moreHours", "(III)I"⟩
abbrev cX4_bestPane : ByteArray := prog_6_method_67_code
def yX4_bestPane : MethodName := ⟨RX4, "bestPane", "(IIII)I"⟩
abbrev cX4_freeHours : ByteArray := prog_6_method_68_code
def yX4_freeHours : MethodName := ⟨RX4, "freeHours", "(II)I"⟩
abbrev cX4_cover : ByteArray := prog_6_method_69_code
def yX4_cover : MethodName := ⟨RX4, "cover", "()I"⟩
abbrev cX4_shown : ByteArray := prog_6_method_70_code
def yX4_shown : MethodName := ⟨RX4, "shown", "(I)I"⟩
abbrev cX4_walls : ByteArray := prog_6_method_71_code
def yX4_walls : MethodName := ⟨RX4, "walls", "(III)I"⟩
abbrev cX4_divisor : ByteArray := prog_6_method_72_code
def yX4_divisor : MethodName := ⟨RX4, "divisor", "(JJ)J"⟩
abbrev cX4_partOf : ByteArray := prog_6_method_73_code
def yX4_partOf : MethodName := ⟨RX4, "partOf", "(JJI)J"⟩
abbrev cX4_share : ByteArray := prog_6_method_74_code
def yX4_share : MethodName := ⟨RX4, "share", "(III)J"⟩
abbrev cX4_areResting : ByteArray := prog_6_method_75_code
def yX4_areResting : MethodName := ⟨RX4, "areResting", "(I)Z"⟩
abbrev cX4_two : ByteArray := prog_6_method_76_code
def yX4_two : MethodName := ⟨RX4, "two", "(IIII)I"⟩
abbrev cX4_isRow : ByteArray := prog_6_method_77_code
def yX4_isRow : MethodName := ⟨RX4, "isRow", "(I)Z"⟩
abbrev cX4_whichLaw : ByteArray := prog_6_method_78_code
def yX4_whichLaw : MethodName := ⟨RX4, "whichLaw", "()I"⟩
abbrev cX4_whichKind : ByteArray := prog_6_method_79_code
def yX4_whichKind : MethodName := ⟨RX4, "whichKind", "(III)I"⟩
abbrev cX4_ill : ByteArray := prog_6_method_80_code
def yX4_ill : MethodName := ⟨RX4, "ill", "(IIIII)J"⟩
abbrev cX4_standing : ByteArray := prog_6_method_81_code
def yX4_standing : MethodName := ⟨RX4, "standing", "(I)I"⟩
abbrev cX4_busy : ByteArray := prog_6_method_82_code
def yX4_busy : MethodName := ⟨RX4, "busy", "(I)I"⟩
abbrev cX4_together : ByteArray := prog_6_method_83_code
def yX4_together : MethodName := ⟨RX4, "together", "(II)I"⟩
abbrev cX4_swapRosters : ByteArray := prog_6_method_84_code
def yX4_swapRosters : MethodName := ⟨RX4, "swapRosters", "(II)V"⟩
abbrev cX4_swap : ByteArray := prog_6_method_85_code
def yX4_swap : MethodName := ⟨RX4, "swap", "(I)I"⟩
abbrev cX4_heir : ByteArray := prog_6_method_86_code
def yX4_heir : MethodName := ⟨RX4, "heir", "(III)I"⟩
abbrev cX4_even : ByteArray := prog_6_method_87_code
def yX4_even : MethodName := ⟨RX4, "even", "(I)I"⟩
abbrev cX4_last : ByteArray := prog_6_method_88_code
def yX4_last : MethodName := ⟨RX4, "last", "()I"⟩
abbrev cX4_countIn : ByteArray := prog_6_method_89_code
def yX4_countIn : MethodName := ⟨RX4, "countIn", "(III)I"⟩
abbrev cX4_joint : ByteArray := prog_6_method_90_code
def yX4_joint : MethodName := ⟨RX4, "joint", "(III)I"⟩
abbrev cX4_rank : ByteArray := prog_6_method_91_code
def yX4_rank : MethodName := ⟨RX4, "rank", "(II)I"⟩
abbrev cX4_gap : ByteArray := prog_6_method_92_code
def yX4_gap : MethodName := ⟨RX4, "gap", "(II)I"⟩
abbrev cX4_wasted : ByteArray := prog_6_method_93_code
def yX4_wasted : MethodName := ⟨RX4, "wasted", "(II)I"⟩
abbrev cX4_ahead : ByteArray := prog_6_method_94_code
def yX4_ahead : MethodName := ⟨RX4, "ahead", "(II)I"⟩
abbrev cX4_bestLaw : ByteArray := prog_6_method_95_code
def yX4_bestLaw : MethodName := ⟨RX4, "bestLaw", "(II)I"⟩
abbrev cX4_newcomer : ByteArray := prog_6_method_96_code
def yX4_newcomer : MethodName := ⟨RX4, "newcomer", "(III)I"⟩
abbrev cX4_broughtToAll : ByteArray := prog_6_method_97_code
def yX4_broughtToAll : MethodName := ⟨RX4, "broughtToAll", "(I)I"⟩
abbrev cX4_mostSeen : ByteArray := prog_6_method_98_code
def yX4_mostSeen : MethodName := ⟨RX4, "mostSeen", "(I)I"⟩
abbrev cX4_duels : ByteArray := prog_6_method_99_code
def yX4_duels : MethodName := ⟨RX4, "duels", "(II)I"⟩
abbrev cX4_row : ByteArray := prog_6_method_100_code
def yX4_row : MethodName := ⟨RX4, "row", "(I)I"⟩
abbrev cX4_judge : ByteArray := prog_6_method_101_code
def yX4_judge : MethodName := ⟨RX4, "judge", "(I)I"⟩
abbrev cX4_clear : ByteArray := prog_6_method_102_code
def yX4_clear : MethodName := ⟨RX4, "clear", "()I"⟩
abbrev cX4_drawBelow : ByteArray := prog_6_method_103_code
def yX4_drawBelow : MethodName := ⟨RX4, "drawBelow", "(I)I"⟩
abbrev cX4_lots : ByteArray := prog_6_method_104_code
def yX4_lots : MethodName := ⟨RX4, "lots", "(III)I"⟩
abbrev cX4_count : ByteArray := prog_6_method_105_code
def yX4_count : MethodName := ⟨RX4, "count", "(I)I"⟩
def RJ6 : String := "java/lang/Integer"
abbrev cJ6_bitCount_0f7a4 : ByteArray := prog_7_method_49_code
def yJ6_bitCount_0f7a4 : MethodName := ⟨RJ6, "bitCount", "(I)I"⟩
def RJ9 : String := "java/lang/Math"
abbrev cJ9_max_7cf53 : ByteArray := prog_8_method_65_code
def yJ9_max_7cf53 : MethodName := ⟨RJ9, "max", "(II)I"⟩
abbrev cJ9_min_7cf53 : ByteArray := prog_8_method_69_code
def yJ9_min_7cf53 : MethodName := ⟨RJ9, "min", "(II)I"⟩
def RJ10 : String := "java/lang/System"
def RL : String := "WindowTakenLaw"
abbrev cL_law : ByteArray := code
def yL_law : MethodName := ⟨RL, "law", "([I)Z"⟩
abbrev vwCl : List vw_C := [(RX0, TX0, 11), (RX1, TX1, 2), (RX2, TX2, 6), (RX3, TX3, 11), (RX4, TX4, 36)]
