-- ===== PART A: goes FIRST, ahead of the names: the tables' words, and 'selects' of the private methods out of them =====
/-- a private method of a class that the tables say can be made, by its rows of tables_1 -/
def lw_okq (q : MethodName × Nat) : Prop := (q.1.cls ≠ "java/lang/invoke/MethodHandle" ∧ q.1.cls ≠ "java/lang/invoke/VarHandle") ∧ Cond.instantiable q.1.cls q.2 ∈ tables_1 ∧ Cond.privateMethod q.1 ∈ tables_1 ∧ Cond.instanceMethod q.1 ∈ tables_1
theorem lw_p0 : lw_okq (⟨"GroupJournal", "refuse", "(I)I"⟩, 20) := ⟨⟨by decide +kernel, by decide +kernel⟩, List.mem_of_getElem? (i := 22) (by decide +kernel), List.mem_of_getElem? (i := 547) (by decide +kernel), List.mem_of_getElem? (i := 548) (by decide +kernel)⟩
theorem lw_p1 : lw_okq (⟨"GroupJournal", "feedNumber", "(I)V"⟩, 20) := ⟨⟨by decide +kernel, by decide +kernel⟩, List.mem_of_getElem? (i := 22) (by decide +kernel), List.mem_of_getElem? (i := 557) (by decide +kernel), List.mem_of_getElem? (i := 558) (by decide +kernel)⟩
theorem lw_p2 : lw_okq (⟨"GroupJournal", "deny", "(I)Z"⟩, 20) := ⟨⟨by decide +kernel, by decide +kernel⟩, List.mem_of_getElem? (i := 22) (by decide +kernel), List.mem_of_getElem? (i := 565) (by decide +kernel), List.mem_of_getElem? (i := 566) (by decide +kernel)⟩
theorem lw_p3 : lw_okq (⟨"GroupJournal", "takeTape", "()I"⟩, 20) := ⟨⟨by decide +kernel, by decide +kernel⟩, List.mem_of_getElem? (i := 22) (by decide +kernel), List.mem_of_getElem? (i := 573) (by decide +kernel), List.mem_of_getElem? (i := 574) (by decide +kernel)⟩
theorem lw_p4 : lw_okq (⟨"GroupJournal$Parser", "begin", "([II)V"⟩, 12) := ⟨⟨by decide +kernel, by decide +kernel⟩, List.mem_of_getElem? (i := 117) (by decide +kernel), List.mem_of_getElem? (i := 581) (by decide +kernel), List.mem_of_getElem? (i := 582) (by decide +kernel)⟩
theorem lw_p5 : lw_okq (⟨"GroupJournal$Parser", "shape", "()Z"⟩, 12) := ⟨⟨by decide +kernel, by decide +kernel⟩, List.mem_of_getElem? (i := 117) (by decide +kernel), List.mem_of_getElem? (i := 605) (by decide +kernel), List.mem_of_getElem? (i := 606) (by decide +kernel)⟩
theorem lw_p6 : lw_okq (⟨"GroupJournal$Parser", "expectWord", "(Ljava/lang/String;)Z"⟩, 12) := ⟨⟨by decide +kernel, by decide +kernel⟩, List.mem_of_getElem? (i := 117) (by decide +kernel), List.mem_of_getElem? (i := 610) (by decide +kernel), List.mem_of_getElem? (i := 611) (by decide +kernel)⟩
theorem lw_p7 : lw_okq (⟨"GroupJournal$Parser", "word", "(Ljava/lang/String;)Z"⟩, 12) := ⟨⟨by decide +kernel, by decide +kernel⟩, List.mem_of_getElem? (i := 117) (by decide +kernel), List.mem_of_getElem? (i := 614) (by decide +kernel), List.mem_of_getElem? (i := 615) (by decide +kernel)⟩
theorem lw_p8 : lw_okq (⟨"GroupJournal$Parser", "peek", "()I"⟩, 12) := ⟨⟨by decide +kernel, by decide +kernel⟩, List.mem_of_getElem? (i := 117) (by decide +kernel), List.mem_of_getElem? (i := 618) (by decide +kernel), List.mem_of_getElem? (i := 619) (by decide +kernel)⟩
theorem lw_p9 : lw_okq (⟨"GroupJournal$Parser", "octetAt", "(I)I"⟩, 12) := ⟨⟨by decide +kernel, by decide +kernel⟩, List.mem_of_getElem? (i := 117) (by decide +kernel), List.mem_of_getElem? (i := 622) (by decide +kernel), List.mem_of_getElem? (i := 623) (by decide +kernel)⟩
theorem lw_p10 : lw_okq (⟨"GroupJournal$Parser", "fail", "(II)Z"⟩, 12) := ⟨⟨by decide +kernel, by decide +kernel⟩, List.mem_of_getElem? (i := 117) (by decide +kernel), List.mem_of_getElem? (i := 674) (by decide +kernel), List.mem_of_getElem? (i := 675) (by decide +kernel)⟩
theorem lw_p11 : lw_okq (⟨"GroupJournal$Parser", "number", "(II)I"⟩, 12) := ⟨⟨by decide +kernel, by decide +kernel⟩, List.mem_of_getElem? (i := 117) (by decide +kernel), List.mem_of_getElem? (i := 678) (by decide +kernel), List.mem_of_getElem? (i := 679) (by decide +kernel)⟩
theorem lw_p12 : lw_okq (⟨"GroupJournal$Parser", "expect", "(C)Z"⟩, 12) := ⟨⟨by decide +kernel, by decide +kernel⟩, List.mem_of_getElem? (i := 117) (by decide +kernel), List.mem_of_getElem? (i := 687) (by decide +kernel), List.mem_of_getElem? (i := 688) (by decide +kernel)⟩
theorem lw_p13 : lw_okq (⟨"GroupJournal$Parser", "sign", "(C)Z"⟩, 12) := ⟨⟨by decide +kernel, by decide +kernel⟩, List.mem_of_getElem? (i := 117) (by decide +kernel), List.mem_of_getElem? (i := 691) (by decide +kernel), List.mem_of_getElem? (i := 692) (by decide +kernel)⟩
theorem lw_p14 : lw_okq (⟨"GroupJournal$Parser", "statement", "()Z"⟩, 12) := ⟨⟨by decide +kernel, by decide +kernel⟩, List.mem_of_getElem? (i := 117) (by decide +kernel), List.mem_of_getElem? (i := 695) (by decide +kernel), List.mem_of_getElem? (i := 696) (by decide +kernel)⟩
theorem lw_p15 : lw_okq (⟨"GroupJournal$Parser", "record", "()Z"⟩, 12) := ⟨⟨by decide +kernel, by decide +kernel⟩, List.mem_of_getElem? (i := 117) (by decide +kernel), List.mem_of_getElem? (i := 700) (by decide +kernel), List.mem_of_getElem? (i := 701) (by decide +kernel)⟩
def lw_privs_1 : List (MethodName × Nat) := [(⟨"GroupJournal", "refuse", "(I)I"⟩, 20), (⟨"GroupJournal", "feedNumber", "(I)V"⟩, 20), (⟨"GroupJournal", "deny", "(I)Z"⟩, 20), (⟨"GroupJournal", "takeTape", "()I"⟩, 20), (⟨"GroupJournal$Parser", "begin", "([II)V"⟩, 12), (⟨"GroupJournal$Parser", "shape", "()Z"⟩, 12), (⟨"GroupJournal$Parser", "expectWord", "(Ljava/lang/String;)Z"⟩, 12), (⟨"GroupJournal$Parser", "word", "(Ljava/lang/String;)Z"⟩, 12), (⟨"GroupJournal$Parser", "peek", "()I"⟩, 12), (⟨"GroupJournal$Parser", "octetAt", "(I)I"⟩, 12), (⟨"GroupJournal$Parser", "fail", "(II)Z"⟩, 12), (⟨"GroupJournal$Parser", "number", "(II)I"⟩, 12), (⟨"GroupJournal$Parser", "expect", "(C)Z"⟩, 12), (⟨"GroupJournal$Parser", "sign", "(C)Z"⟩, 12), (⟨"GroupJournal$Parser", "statement", "()Z"⟩, 12), (⟨"GroupJournal$Parser", "record", "()Z"⟩, 12)]
theorem lw_r1 : ∀ q ∈ lw_privs_1, lw_okq q := List.forall_mem_cons.mpr ⟨lw_p0, List.forall_mem_cons.mpr ⟨lw_p1, List.forall_mem_cons.mpr ⟨lw_p2, List.forall_mem_cons.mpr ⟨lw_p3, List.forall_mem_cons.mpr ⟨lw_p4, List.forall_mem_cons.mpr ⟨lw_p5, List.forall_mem_cons.mpr ⟨lw_p6, List.forall_mem_cons.mpr ⟨lw_p7, List.forall_mem_cons.mpr ⟨lw_p8, List.forall_mem_cons.mpr ⟨lw_p9, List.forall_mem_cons.mpr ⟨lw_p10, List.forall_mem_cons.mpr ⟨lw_p11, List.forall_mem_cons.mpr ⟨lw_p12, List.forall_mem_cons.mpr ⟨lw_p13, List.forall_mem_cons.mpr ⟨lw_p14, List.forall_mem_cons.mpr ⟨lw_p15, fun _ h => absurd h List.not_mem_nil⟩⟩⟩⟩⟩⟩⟩⟩⟩⟩⟩⟩⟩⟩⟩⟩
theorem lw_p16 : lw_okq (⟨"GroupJournal$Parser", "aim", "(LGroupJournal$Formula;I)V"⟩, 12) := ⟨⟨by decide +kernel, by decide +kernel⟩, List.mem_of_getElem? (i := 117) (by decide +kernel), List.mem_of_getElem? (i := 712) (by decide +kernel), List.mem_of_getElem? (i := 713) (by decide +kernel)⟩
theorem lw_p17 : lw_okq (⟨"GroupJournal$Parser", "test", "()Z"⟩, 12) := ⟨⟨by decide +kernel, by decide +kernel⟩, List.mem_of_getElem? (i := 117) (by decide +kernel), List.mem_of_getElem? (i := 720) (by decide +kernel), List.mem_of_getElem? (i := 721) (by decide +kernel)⟩
theorem lw_p18 : lw_okq (⟨"GroupJournal$Parser", "both", "()Z"⟩, 12) := ⟨⟨by decide +kernel, by decide +kernel⟩, List.mem_of_getElem? (i := 117) (by decide +kernel), List.mem_of_getElem? (i := 724) (by decide +kernel), List.mem_of_getElem? (i := 725) (by decide +kernel)⟩
theorem lw_p19 : lw_okq (⟨"GroupJournal$Parser", "fact", "()Z"⟩, 12) := ⟨⟨by decide +kernel, by decide +kernel⟩, List.mem_of_getElem? (i := 117) (by decide +kernel), List.mem_of_getElem? (i := 728) (by decide +kernel), List.mem_of_getElem? (i := 729) (by decide +kernel)⟩
theorem lw_p20 : lw_okq (⟨"GroupJournal$Parser", "negation", "(I)Z"⟩, 12) := ⟨⟨by decide +kernel, by decide +kernel⟩, List.mem_of_getElem? (i := 117) (by decide +kernel), List.mem_of_getElem? (i := 733) (by decide +kernel), List.mem_of_getElem? (i := 734) (by decide +kernel)⟩
theorem lw_p21 : lw_okq (⟨"GroupJournal$Parser", "opens", "(I)Z"⟩, 12) := ⟨⟨by decide +kernel, by decide +kernel⟩, List.mem_of_getElem? (i := 117) (by decide +kernel), List.mem_of_getElem? (i := 737) (by decide +kernel), List.mem_of_getElem? (i := 738) (by decide +kernel)⟩
theorem lw_p22 : lw_okq (⟨"GroupJournal$Parser", "ends", "()Z"⟩, 12) := ⟨⟨by decide +kernel, by decide +kernel⟩, List.mem_of_getElem? (i := 117) (by decide +kernel), List.mem_of_getElem? (i := 741) (by decide +kernel), List.mem_of_getElem? (i := 742) (by decide +kernel)⟩
theorem lw_p23 : lw_okq (⟨"GroupJournal$Parser", "sum", "()Z"⟩, 12) := ⟨⟨by decide +kernel, by decide +kernel⟩, List.mem_of_getElem? (i := 117) (by decide +kernel), List.mem_of_getElem? (i := 747) (by decide +kernel), List.mem_of_getElem? (i := 748) (by decide +kernel)⟩
theorem lw_p24 : lw_okq (⟨"GroupJournal$Parser", "product", "()Z"⟩, 12) := ⟨⟨by decide +kernel, by decide +kernel⟩, List.mem_of_getElem? (i := 117) (by decide +kernel), List.mem_of_getElem? (i := 751) (by decide +kernel), List.mem_of_getElem? (i := 752) (by decide +kernel)⟩
theorem lw_p25 : lw_okq (⟨"GroupJournal$Parser", "part", "()Z"⟩, 12) := ⟨⟨by decide +kernel, by decide +kernel⟩, List.mem_of_getElem? (i := 117) (by decide +kernel), List.mem_of_getElem? (i := 755) (by decide +kernel), List.mem_of_getElem? (i := 756) (by decide +kernel)⟩
theorem lw_p26 : lw_okq (⟨"GroupJournal$Parser", "ofPair", "(I)Z"⟩, 12) := ⟨⟨by decide +kernel, by decide +kernel⟩, List.mem_of_getElem? (i := 117) (by decide +kernel), List.mem_of_getElem? (i := 760) (by decide +kernel), List.mem_of_getElem? (i := 761) (by decide +kernel)⟩
theorem lw_p27 : lw_okq (⟨"GroupJournal$Parser", "ofPart", "(II)Z"⟩, 12) := ⟨⟨by decide +kernel, by decide +kernel⟩, List.mem_of_getElem? (i := 117) (by decide +kernel), List.mem_of_getElem? (i := 766) (by decide +kernel), List.mem_of_getElem? (i := 767) (by decide +kernel)⟩
theorem lw_p28 : lw_okq (⟨"GroupJournal$Parser", "factNamed", "()I"⟩, 12) := ⟨⟨by decide +kernel, by decide +kernel⟩, List.mem_of_getElem? (i := 117) (by decide +kernel), List.mem_of_getElem? (i := 771) (by decide +kernel), List.mem_of_getElem? (i := 772) (by decide +kernel)⟩
theorem lw_p29 : lw_okq (⟨"GroupJournal", "begin", "()V"⟩, 20) := ⟨⟨by decide +kernel, by decide +kernel⟩, List.mem_of_getElem? (i := 22) (by decide +kernel), List.mem_of_getElem? (i := 787) (by decide +kernel), List.mem_of_getElem? (i := 788) (by decide +kernel)⟩
theorem lw_p30 : lw_okq (⟨"GroupJournal$Disk", "blockEnd", "(I)I"⟩, 5) := ⟨⟨by decide +kernel, by decide +kernel⟩, List.mem_of_getElem? (i := 175) (by decide +kernel), List.mem_of_getElem? (i := 848) (by decide +kernel), List.mem_of_getElem? (i := 849) (by decide +kernel)⟩
theorem lw_p31 : lw_okq (⟨"GroupJournal$FrameReader", "canBe", "(I)Z"⟩, 10) := ⟨⟨by decide +kernel, by decide +kernel⟩, List.mem_of_getElem? (i := 401) (by decide +kernel), List.mem_of_getElem? (i := 927) (by decide +kernel), List.mem_of_getElem? (i := 928) (by decide +kernel)⟩
def lw_privs_2 : List (MethodName × Nat) := [(⟨"GroupJournal$Parser", "aim", "(LGroupJournal$Formula;I)V"⟩, 12), (⟨"GroupJournal$Parser", "test", "()Z"⟩, 12), (⟨"GroupJournal$Parser", "both", "()Z"⟩, 12), (⟨"GroupJournal$Parser", "fact", "()Z"⟩, 12), (⟨"GroupJournal$Parser", "negation", "(I)Z"⟩, 12), (⟨"GroupJournal$Parser", "opens", "(I)Z"⟩, 12), (⟨"GroupJournal$Parser", "ends", "()Z"⟩, 12), (⟨"GroupJournal$Parser", "sum", "()Z"⟩, 12), (⟨"GroupJournal$Parser", "product", "()Z"⟩, 12), (⟨"GroupJournal$Parser", "part", "()Z"⟩, 12), (⟨"GroupJournal$Parser", "ofPair", "(I)Z"⟩, 12), (⟨"GroupJournal$Parser", "ofPart", "(II)Z"⟩, 12), (⟨"GroupJournal$Parser", "factNamed", "()I"⟩, 12), (⟨"GroupJournal", "begin", "()V"⟩, 20), (⟨"GroupJournal$Disk", "blockEnd", "(I)I"⟩, 5), (⟨"GroupJournal$FrameReader", "canBe", "(I)Z"⟩, 10)]
theorem lw_r2 : ∀ q ∈ lw_privs_2, lw_okq q := List.forall_mem_cons.mpr ⟨lw_p16, List.forall_mem_cons.mpr ⟨lw_p17, List.forall_mem_cons.mpr ⟨lw_p18, List.forall_mem_cons.mpr ⟨lw_p19, List.forall_mem_cons.mpr ⟨lw_p20, List.forall_mem_cons.mpr ⟨lw_p21, List.forall_mem_cons.mpr ⟨lw_p22, List.forall_mem_cons.mpr ⟨lw_p23, List.forall_mem_cons.mpr ⟨lw_p24, List.forall_mem_cons.mpr ⟨lw_p25, List.forall_mem_cons.mpr ⟨lw_p26, List.forall_mem_cons.mpr ⟨lw_p27, List.forall_mem_cons.mpr ⟨lw_p28, List.forall_mem_cons.mpr ⟨lw_p29, List.forall_mem_cons.mpr ⟨lw_p30, List.forall_mem_cons.mpr ⟨lw_p31, fun _ h => absurd h List.not_mem_nil⟩⟩⟩⟩⟩⟩⟩⟩⟩⟩⟩⟩⟩⟩⟩⟩
theorem lw_p32 : lw_okq (⟨"GroupJournal$FrameReader", "takeOctet", "(II)V"⟩, 10) := ⟨⟨by decide +kernel, by decide +kernel⟩, List.mem_of_getElem? (i := 401) (by decide +kernel), List.mem_of_getElem? (i := 931) (by decide +kernel), List.mem_of_getElem? (i := 932) (by decide +kernel)⟩
theorem lw_p33 : lw_okq (⟨"GroupJournal$FrameReader", "recordStands", "(I)Z"⟩, 10) := ⟨⟨by decide +kernel, by decide +kernel⟩, List.mem_of_getElem? (i := 401) (by decide +kernel), List.mem_of_getElem? (i := 940) (by decide +kernel), List.mem_of_getElem? (i := 941) (by decide +kernel)⟩
theorem lw_p34 : lw_okq (⟨"GroupJournal", "isTold", "()Z"⟩, 20) := ⟨⟨by decide +kernel, by decide +kernel⟩, List.mem_of_getElem? (i := 22) (by decide +kernel), List.mem_of_getElem? (i := 965) (by decide +kernel), List.mem_of_getElem? (i := 966) (by decide +kernel)⟩
theorem lw_p35 : lw_okq (⟨"GroupJournal$State", "acknowledge", "()I"⟩, 15) := ⟨⟨by decide +kernel, by decide +kernel⟩, List.mem_of_getElem? (i := 169) (by decide +kernel), List.mem_of_getElem? (i := 1043) (by decide +kernel), List.mem_of_getElem? (i := 1044) (by decide +kernel)⟩
theorem lw_p36 : lw_okq (⟨"GroupJournal$Waiters", "keep", "(III)V"⟩, 7) := ⟨⟨by decide +kernel, by decide +kernel⟩, List.mem_of_getElem? (i := 272) (by decide +kernel), List.mem_of_getElem? (i := 1059) (by decide +kernel), List.mem_of_getElem? (i := 1060) (by decide +kernel)⟩
theorem lw_p37 : lw_okq (⟨"GroupJournal$State", "testHolds", "()Z"⟩, 15) := ⟨⟨by decide +kernel, by decide +kernel⟩, List.mem_of_getElem? (i := 169) (by decide +kernel), List.mem_of_getElem? (i := 1068) (by decide +kernel), List.mem_of_getElem? (i := 1069) (by decide +kernel)⟩
theorem lw_p38 : lw_okq (⟨"GroupJournal$State", "tellGroup", "(LGroupJournal$Formula;I)V"⟩, 15) := ⟨⟨by decide +kernel, by decide +kernel⟩, List.mem_of_getElem? (i := 169) (by decide +kernel), List.mem_of_getElem? (i := 1072) (by decide +kernel), List.mem_of_getElem? (i := 1073) (by decide +kernel)⟩
theorem lw_p39 : lw_okq (⟨"GroupJournal$Formula", "push", "(I)V"⟩, 5) := ⟨⟨by decide +kernel, by decide +kernel⟩, List.mem_of_getElem? (i := 36) (by decide +kernel), List.mem_of_getElem? (i := 1097) (by decide +kernel), List.mem_of_getElem? (i := 1098) (by decide +kernel)⟩
theorem lw_p40 : lw_okq (⟨"GroupJournal$Formula", "pop", "()I"⟩, 5) := ⟨⟨by decide +kernel, by decide +kernel⟩, List.mem_of_getElem? (i := 36) (by decide +kernel), List.mem_of_getElem? (i := 1101) (by decide +kernel), List.mem_of_getElem? (i := 1102) (by decide +kernel)⟩
theorem lw_p41 : lw_okq (⟨"GroupJournal$Formula", "ofOne", "(II)I"⟩, 5) := ⟨⟨by decide +kernel, by decide +kernel⟩, List.mem_of_getElem? (i := 36) (by decide +kernel), List.mem_of_getElem? (i := 1105) (by decide +kernel), List.mem_of_getElem? (i := 1106) (by decide +kernel)⟩
theorem lw_p42 : lw_okq (⟨"GroupJournal$Formula", "ofTwo", "(III)I"⟩, 5) := ⟨⟨by decide +kernel, by decide +kernel⟩, List.mem_of_getElem? (i := 36) (by decide +kernel), List.mem_of_getElem? (i := 1109) (by decide +kernel), List.mem_of_getElem? (i := 1110) (by decide +kernel)⟩
theorem lw_p43 : lw_okq (⟨"GroupJournal$Formula", "held", "(J)I"⟩, 5) := ⟨⟨by decide +kernel, by decide +kernel⟩, List.mem_of_getElem? (i := 36) (by decide +kernel), List.mem_of_getElem? (i := 1113) (by decide +kernel), List.mem_of_getElem? (i := 1114) (by decide +kernel)⟩
theorem lw_p44 : lw_okq (⟨"GroupJournal$State", "close", "(LGroupJournal$Pen;I)V"⟩, 15) := ⟨⟨by decide +kernel, by decide +kernel⟩, List.mem_of_getElem? (i := 169) (by decide +kernel), List.mem_of_getElem? (i := 1133) (by decide +kernel), List.mem_of_getElem? (i := 1134) (by decide +kernel)⟩
theorem lw_p45 : lw_okq (⟨"GroupJournal$Pen", "start", "(LGroupJournal$State;)V"⟩, 5) := ⟨⟨by decide +kernel, by decide +kernel⟩, List.mem_of_getElem? (i := 373) (by decide +kernel), List.mem_of_getElem? (i := 1141) (by decide +kernel), List.mem_of_getElem? (i := 1142) (by decide +kernel)⟩
theorem lw_p46 : lw_okq (⟨"GroupJournal$Pen", "goesTo", "(LGroupJournal$State;I)Z"⟩, 5) := ⟨⟨by decide +kernel, by decide +kernel⟩, List.mem_of_getElem? (i := 373) (by decide +kernel), List.mem_of_getElem? (i := 1146) (by decide +kernel), List.mem_of_getElem? (i := 1147) (by decide +kernel)⟩
theorem lw_p47 : lw_okq (⟨"GroupJournal$Pen", "freeSegment", "(LGroupJournal$State;)I"⟩, 5) := ⟨⟨by decide +kernel, by decide +kernel⟩, List.mem_of_getElem? (i := 373) (by decide +kernel), List.mem_of_getElem? (i := 1151) (by decide +kernel), List.mem_of_getElem? (i := 1152) (by decide +kernel)⟩
def lw_privs_3 : List (MethodName × Nat) := [(⟨"GroupJournal$FrameReader", "takeOctet", "(II)V"⟩, 10), (⟨"GroupJournal$FrameReader", "recordStands", "(I)Z"⟩, 10), (⟨"GroupJournal", "isTold", "()Z"⟩, 20), (⟨"GroupJournal$State", "acknowledge", "()I"⟩, 15), (⟨"GroupJournal$Waiters", "keep", "(III)V"⟩, 7), (⟨"GroupJournal$State", "testHolds", "()Z"⟩, 15), (⟨"GroupJournal$State", "tellGroup", "(LGroupJournal$Formula;I)V"⟩, 15), (⟨"GroupJournal$Formula", "push", "(I)V"⟩, 5), (⟨"GroupJournal$Formula", "pop", "()I"⟩, 5), (⟨"GroupJournal$Formula", "ofOne", "(II)I"⟩, 5), (⟨"GroupJournal$Formula", "ofTwo", "(III)I"⟩, 5), (⟨"GroupJournal$Formula", "held", "(J)I"⟩, 5), (⟨"GroupJournal$State", "close", "(LGroupJournal$Pen;I)V"⟩, 15), (⟨"GroupJournal$Pen", "start", "(LGroupJournal$State;)V"⟩, 5), (⟨"GroupJournal$Pen", "goesTo", "(LGroupJournal$State;I)Z"⟩, 5), (⟨"GroupJournal$Pen", "freeSegment", "(LGroupJournal$State;)I"⟩, 5)]
theorem lw_r3 : ∀ q ∈ lw_privs_3, lw_okq q := List.forall_mem_cons.mpr ⟨lw_p32, List.forall_mem_cons.mpr ⟨lw_p33, List.forall_mem_cons.mpr ⟨lw_p34, List.forall_mem_cons.mpr ⟨lw_p35, List.forall_mem_cons.mpr ⟨lw_p36, List.forall_mem_cons.mpr ⟨lw_p37, List.forall_mem_cons.mpr ⟨lw_p38, List.forall_mem_cons.mpr ⟨lw_p39, List.forall_mem_cons.mpr ⟨lw_p40, List.forall_mem_cons.mpr ⟨lw_p41, List.forall_mem_cons.mpr ⟨lw_p42, List.forall_mem_cons.mpr ⟨lw_p43, List.forall_mem_cons.mpr ⟨lw_p44, List.forall_mem_cons.mpr ⟨lw_p45, List.forall_mem_cons.mpr ⟨lw_p46, List.forall_mem_cons.mpr ⟨lw_p47, fun _ h => absurd h List.not_mem_nil⟩⟩⟩⟩⟩⟩⟩⟩⟩⟩⟩⟩⟩⟩⟩⟩
theorem lw_p48 : lw_okq (⟨"GroupJournal$Pen", "writeHead", "(LGroupJournal$State;I)V"⟩, 5) := ⟨⟨by decide +kernel, by decide +kernel⟩, List.mem_of_getElem? (i := 373) (by decide +kernel), List.mem_of_getElem? (i := 1160) (by decide +kernel), List.mem_of_getElem? (i := 1161) (by decide +kernel)⟩
theorem lw_p49 : lw_okq (⟨"GroupJournal$Pen", "writeRecord", "(LGroupJournal$State;I)V"⟩, 5) := ⟨⟨by decide +kernel, by decide +kernel⟩, List.mem_of_getElem? (i := 373) (by decide +kernel), List.mem_of_getElem? (i := 1169) (by decide +kernel), List.mem_of_getElem? (i := 1170) (by decide +kernel)⟩
theorem lw_p50 : lw_okq (⟨"GroupJournal$Pen", "writeFrame", "(LGroupJournal$State;IIII)V"⟩, 5) := ⟨⟨by decide +kernel, by decide +kernel⟩, List.mem_of_getElem? (i := 373) (by decide +kernel), List.mem_of_getElem? (i := 1178) (by decide +kernel), List.mem_of_getElem? (i := 1179) (by decide +kernel)⟩
theorem lw_p51 : lw_okq (⟨"GroupJournal", "runByRule", "(IZ)I"⟩, 20) := ⟨⟨by decide +kernel, by decide +kernel⟩, List.mem_of_getElem? (i := 22) (by decide +kernel), List.mem_of_getElem? (i := 1197) (by decide +kernel), List.mem_of_getElem? (i := 1198) (by decide +kernel)⟩
theorem lw_p52 : lw_okq (⟨"GroupJournal$Recovery", "beginning", "(LGroupJournal$Disk;I)I"⟩, 8) := ⟨⟨by decide +kernel, by decide +kernel⟩, List.mem_of_getElem? (i := 395) (by decide +kernel), List.mem_of_getElem? (i := 1225) (by decide +kernel), List.mem_of_getElem? (i := 1226) (by decide +kernel)⟩
theorem lw_p53 : lw_okq (⟨"GroupJournal$Recovery", "readSegment", "(LGroupJournal$Disk;II)V"⟩, 8) := ⟨⟨by decide +kernel, by decide +kernel⟩, List.mem_of_getElem? (i := 395) (by decide +kernel), List.mem_of_getElem? (i := 1232) (by decide +kernel), List.mem_of_getElem? (i := 1233) (by decide +kernel)⟩
theorem lw_p54 : lw_okq (⟨"GroupJournal$Recovery", "following", "(LGroupJournal$Disk;)I"⟩, 8) := ⟨⟨by decide +kernel, by decide +kernel⟩, List.mem_of_getElem? (i := 395) (by decide +kernel), List.mem_of_getElem? (i := 1240) (by decide +kernel), List.mem_of_getElem? (i := 1241) (by decide +kernel)⟩
theorem lw_p55 : lw_okq (⟨"GroupJournal$Recovery", "withoutGround", "(I)V"⟩, 8) := ⟨⟨by decide +kernel, by decide +kernel⟩, List.mem_of_getElem? (i := 395) (by decide +kernel), List.mem_of_getElem? (i := 1244) (by decide +kernel), List.mem_of_getElem? (i := 1245) (by decide +kernel)⟩
theorem lw_p56 : lw_okq (⟨"GroupJournal", "rowsStand", "(I)Z"⟩, 20) := ⟨⟨by decide +kernel, by decide +kernel⟩, List.mem_of_getElem? (i := 22) (by decide +kernel), List.mem_of_getElem? (i := 1279) (by decide +kernel), List.mem_of_getElem? (i := 1280) (by decide +kernel)⟩
theorem lw_p57 : lw_okq (⟨"GroupJournal", "tapePair", "(I)I"⟩, 20) := ⟨⟨by decide +kernel, by decide +kernel⟩, List.mem_of_getElem? (i := 22) (by decide +kernel), List.mem_of_getElem? (i := 1283) (by decide +kernel), List.mem_of_getElem? (i := 1284) (by decide +kernel)⟩
theorem lw_p58 : lw_okq (⟨"GroupJournal", "gatherArrived", "()V"⟩, 20) := ⟨⟨by decide +kernel, by decide +kernel⟩, List.mem_of_getElem? (i := 22) (by decide +kernel), List.mem_of_getElem? (i := 1291) (by decide +kernel), List.mem_of_getElem? (i := 1292) (by decide +kernel)⟩
theorem lw_p59 : lw_okq (⟨"GroupJournal", "isSeen", "([I)Z"⟩, 20) := ⟨⟨by decide +kernel, by decide +kernel⟩, List.mem_of_getElem? (i := 22) (by decide +kernel), List.mem_of_getElem? (i := 1296) (by decide +kernel), List.mem_of_getElem? (i := 1297) (by decide +kernel)⟩
theorem lw_p60 : lw_okq (⟨"GroupJournal", "addArrival", "(I[I)V"⟩, 20) := ⟨⟨by decide +kernel, by decide +kernel⟩, List.mem_of_getElem? (i := 22) (by decide +kernel), List.mem_of_getElem? (i := 1300) (by decide +kernel), List.mem_of_getElem? (i := 1301) (by decide +kernel)⟩
theorem lw_p61 : lw_okq (⟨"GroupJournal", "mostLeft", "(I)I"⟩, 20) := ⟨⟨by decide +kernel, by decide +kernel⟩, List.mem_of_getElem? (i := 22) (by decide +kernel), List.mem_of_getElem? (i := 1308) (by decide +kernel), List.mem_of_getElem? (i := 1309) (by decide +kernel)⟩
theorem lw_p62 : lw_okq (⟨"GroupJournal", "remember", "()V"⟩, 20) := ⟨⟨by decide +kernel, by decide +kernel⟩, List.mem_of_getElem? (i := 22) (by decide +kernel), List.mem_of_getElem? (i := 1317) (by decide +kernel), List.mem_of_getElem? (i := 1318) (by decide +kernel)⟩
theorem lw_p63 : lw_okq (⟨"GroupJournal", "pastAt", "(I)LGroupJournal$State;"⟩, 20) := ⟨⟨by decide +kernel, by decide +kernel⟩, List.mem_of_getElem? (i := 22) (by decide +kernel), List.mem_of_getElem? (i := 1321) (by decide +kernel), List.mem_of_getElem? (i := 1322) (by decide +kernel)⟩
def lw_privs_4 : List (MethodName × Nat) := [(⟨"GroupJournal$Pen", "writeHead", "(LGroupJournal$State;I)V"⟩, 5), (⟨"GroupJournal$Pen", "writeRecord", "(LGroupJournal$State;I)V"⟩, 5), (⟨"GroupJournal$Pen", "writeFrame", "(LGroupJournal$State;IIII)V"⟩, 5), (⟨"GroupJournal", "runByRule", "(IZ)I"⟩, 20), (⟨"GroupJournal$Recovery", "beginning", "(LGroupJournal$Disk;I)I"⟩, 8), (⟨"GroupJournal$Recovery", "readSegment", "(LGroupJournal$Disk;II)V"⟩, 8), (⟨"GroupJournal$Recovery", "following", "(LGroupJournal$Disk;)I"⟩, 8), (⟨"GroupJournal$Recovery", "withoutGround", "(I)V"⟩, 8), (⟨"GroupJournal", "rowsStand", "(I)Z"⟩, 20), (⟨"GroupJournal", "tapePair", "(I)I"⟩, 20), (⟨"GroupJournal", "gatherArrived", "()V"⟩, 20), (⟨"GroupJournal", "isSeen", "([I)Z"⟩, 20), (⟨"GroupJournal", "addArrival", "(I[I)V"⟩, 20), (⟨"GroupJournal", "mostLeft", "(I)I"⟩, 20), (⟨"GroupJournal", "remember", "()V"⟩, 20), (⟨"GroupJournal", "pastAt", "(I)LGroupJournal$State;"⟩, 20)]
theorem lw_r4 : ∀ q ∈ lw_privs_4, lw_okq q := List.forall_mem_cons.mpr ⟨lw_p48, List.forall_mem_cons.mpr ⟨lw_p49, List.forall_mem_cons.mpr ⟨lw_p50, List.forall_mem_cons.mpr ⟨lw_p51, List.forall_mem_cons.mpr ⟨lw_p52, List.forall_mem_cons.mpr ⟨lw_p53, List.forall_mem_cons.mpr ⟨lw_p54, List.forall_mem_cons.mpr ⟨lw_p55, List.forall_mem_cons.mpr ⟨lw_p56, List.forall_mem_cons.mpr ⟨lw_p57, List.forall_mem_cons.mpr ⟨lw_p58, List.forall_mem_cons.mpr ⟨lw_p59, List.forall_mem_cons.mpr ⟨lw_p60, List.forall_mem_cons.mpr ⟨lw_p61, List.forall_mem_cons.mpr ⟨lw_p62, List.forall_mem_cons.mpr ⟨lw_p63, fun _ h => absurd h List.not_mem_nil⟩⟩⟩⟩⟩⟩⟩⟩⟩⟩⟩⟩⟩⟩⟩⟩
theorem lw_p64 : lw_okq (⟨"GroupJournal", "canPass", "(I)Z"⟩, 20) := ⟨⟨by decide +kernel, by decide +kernel⟩, List.mem_of_getElem? (i := 22) (by decide +kernel), List.mem_of_getElem? (i := 1337) (by decide +kernel), List.mem_of_getElem? (i := 1338) (by decide +kernel)⟩
theorem lw_p65 : lw_okq (⟨"GroupJournal", "draw", "(I)I"⟩, 20) := ⟨⟨by decide +kernel, by decide +kernel⟩, List.mem_of_getElem? (i := 22) (by decide +kernel), List.mem_of_getElem? (i := 1345) (by decide +kernel), List.mem_of_getElem? (i := 1346) (by decide +kernel)⟩
theorem lw_p66 : lw_okq (⟨"GroupJournal$Parser", "command", "()I"⟩, 12) := ⟨⟨by decide +kernel, by decide +kernel⟩, List.mem_of_getElem? (i := 117) (by decide +kernel), List.mem_of_getElem? (i := 1411) (by decide +kernel), List.mem_of_getElem? (i := 1412) (by decide +kernel)⟩
theorem lw_p67 : lw_okq (⟨"GroupJournal", "answer", "(ILGroupJournal$Formula;)J"⟩, 20) := ⟨⟨by decide +kernel, by decide +kernel⟩, List.mem_of_getElem? (i := 22) (by decide +kernel), List.mem_of_getElem? (i := 1420) (by decide +kernel), List.mem_of_getElem? (i := 1421) (by decide +kernel)⟩
theorem lw_p68 : lw_okq (⟨"GroupJournal", "tellSegment", "(LGroupJournal$Formula;I)V"⟩, 20) := ⟨⟨by decide +kernel, by decide +kernel⟩, List.mem_of_getElem? (i := 22) (by decide +kernel), List.mem_of_getElem? (i := 1426) (by decide +kernel), List.mem_of_getElem? (i := 1427) (by decide +kernel)⟩
theorem lw_p69 : lw_okq (⟨"GroupJournal", "addPair", "(I)V"⟩, 20) := ⟨⟨by decide +kernel, by decide +kernel⟩, List.mem_of_getElem? (i := 22) (by decide +kernel), List.mem_of_getElem? (i := 1441) (by decide +kernel), List.mem_of_getElem? (i := 1442) (by decide +kernel)⟩
theorem lw_p70 : lw_okq (⟨"GroupJournal", "addOctet", "(I)V"⟩, 20) := ⟨⟨by decide +kernel, by decide +kernel⟩, List.mem_of_getElem? (i := 22) (by decide +kernel), List.mem_of_getElem? (i := 1445) (by decide +kernel), List.mem_of_getElem? (i := 1446) (by decide +kernel)⟩
theorem lw_p71 : lw_okq (⟨"GroupJournal", "isImage", "(I)Z"⟩, 20) := ⟨⟨by decide +kernel, by decide +kernel⟩, List.mem_of_getElem? (i := 22) (by decide +kernel), List.mem_of_getElem? (i := 1459) (by decide +kernel), List.mem_of_getElem? (i := 1460) (by decide +kernel)⟩
theorem lw_p72 : lw_okq (⟨"GroupJournalModel", "journalTold", "()V"⟩, 110) := ⟨⟨by decide +kernel, by decide +kernel⟩, List.mem_of_getElem? (i := 1470) (by decide +kernel), List.mem_of_getElem? (i := 1823) (by decide +kernel), List.mem_of_getElem? (i := 1824) (by decide +kernel)⟩
theorem lw_p73 : lw_okq (⟨"GroupJournalModel", "asks", "([C)V"⟩, 110) := ⟨⟨by decide +kernel, by decide +kernel⟩, List.mem_of_getElem? (i := 1470) (by decide +kernel), List.mem_of_getElem? (i := 1827) (by decide +kernel), List.mem_of_getElem? (i := 1828) (by decide +kernel)⟩
theorem lw_p74 : lw_okq (⟨"GroupJournalModel", "takes", "([C)Z"⟩, 110) := ⟨⟨by decide +kernel, by decide +kernel⟩, List.mem_of_getElem? (i := 1470) (by decide +kernel), List.mem_of_getElem? (i := 1831) (by decide +kernel), List.mem_of_getElem? (i := 1832) (by decide +kernel)⟩
theorem lw_p75 : lw_okq (⟨"GroupJournalModel", "isHere", "([C)Z"⟩, 110) := ⟨⟨by decide +kernel, by decide +kernel⟩, List.mem_of_getElem? (i := 1470) (by decide +kernel), List.mem_of_getElem? (i := 1835) (by decide +kernel), List.mem_of_getElem? (i := 1836) (by decide +kernel)⟩
theorem lw_p76 : lw_okq (⟨"GroupJournalModel", "look", "()I"⟩, 110) := ⟨⟨by decide +kernel, by decide +kernel⟩, List.mem_of_getElem? (i := 1470) (by decide +kernel), List.mem_of_getElem? (i := 1839) (by decide +kernel), List.mem_of_getElem? (i := 1840) (by decide +kernel)⟩
theorem lw_p77 : lw_okq (⟨"GroupJournalModel", "fail", "(II)V"⟩, 110) := ⟨⟨by decide +kernel, by decide +kernel⟩, List.mem_of_getElem? (i := 1470) (by decide +kernel), List.mem_of_getElem? (i := 1846) (by decide +kernel), List.mem_of_getElem? (i := 1847) (by decide +kernel)⟩
theorem lw_p78 : lw_okq (⟨"GroupJournalModel", "number", "(II)I"⟩, 110) := ⟨⟨by decide +kernel, by decide +kernel⟩, List.mem_of_getElem? (i := 1470) (by decide +kernel), List.mem_of_getElem? (i := 1850) (by decide +kernel), List.mem_of_getElem? (i := 1851) (by decide +kernel)⟩
theorem lw_p79 : lw_okq (⟨"GroupJournalModel", "asksSign", "(I)V"⟩, 110) := ⟨⟨by decide +kernel, by decide +kernel⟩, List.mem_of_getElem? (i := 1470) (by decide +kernel), List.mem_of_getElem? (i := 1860) (by decide +kernel), List.mem_of_getElem? (i := 1861) (by decide +kernel)⟩
def lw_privs_5 : List (MethodName × Nat) := [(⟨"GroupJournal", "canPass", "(I)Z"⟩, 20), (⟨"GroupJournal", "draw", "(I)I"⟩, 20), (⟨"GroupJournal$Parser", "command", "()I"⟩, 12), (⟨"GroupJournal", "answer", "(ILGroupJournal$Formula;)J"⟩, 20), (⟨"GroupJournal", "tellSegment", "(LGroupJournal$Formula;I)V"⟩, 20), (⟨"GroupJournal", "addPair", "(I)V"⟩, 20), (⟨"GroupJournal", "addOctet", "(I)V"⟩, 20), (⟨"GroupJournal", "isImage", "(I)Z"⟩, 20), (⟨"GroupJournalModel", "journalTold", "()V"⟩, 110), (⟨"GroupJournalModel", "asks", "([C)V"⟩, 110), (⟨"GroupJournalModel", "takes", "([C)Z"⟩, 110), (⟨"GroupJournalModel", "isHere", "([C)Z"⟩, 110), (⟨"GroupJournalModel", "look", "()I"⟩, 110), (⟨"GroupJournalModel", "fail", "(II)V"⟩, 110), (⟨"GroupJournalModel", "number", "(II)I"⟩, 110), (⟨"GroupJournalModel", "asksSign", "(I)V"⟩, 110)]
theorem lw_r5 : ∀ q ∈ lw_privs_5, lw_okq q := List.forall_mem_cons.mpr ⟨lw_p64, List.forall_mem_cons.mpr ⟨lw_p65, List.forall_mem_cons.mpr ⟨lw_p66, List.forall_mem_cons.mpr ⟨lw_p67, List.forall_mem_cons.mpr ⟨lw_p68, List.forall_mem_cons.mpr ⟨lw_p69, List.forall_mem_cons.mpr ⟨lw_p70, List.forall_mem_cons.mpr ⟨lw_p71, List.forall_mem_cons.mpr ⟨lw_p72, List.forall_mem_cons.mpr ⟨lw_p73, List.forall_mem_cons.mpr ⟨lw_p74, List.forall_mem_cons.mpr ⟨lw_p75, List.forall_mem_cons.mpr ⟨lw_p76, List.forall_mem_cons.mpr ⟨lw_p77, List.forall_mem_cons.mpr ⟨lw_p78, List.forall_mem_cons.mpr ⟨lw_p79, fun _ h => absurd h List.not_mem_nil⟩⟩⟩⟩⟩⟩⟩⟩⟩⟩⟩⟩⟩⟩⟩⟩
theorem lw_p80 : lw_okq (⟨"GroupJournalModel", "takesSign", "(I)Z"⟩, 110) := ⟨⟨by decide +kernel, by decide +kernel⟩, List.mem_of_getElem? (i := 1470) (by decide +kernel), List.mem_of_getElem? (i := 1864) (by decide +kernel), List.mem_of_getElem? (i := 1865) (by decide +kernel)⟩
theorem lw_p81 : lw_okq (⟨"GroupJournalModel", "statementTold", "()V"⟩, 110) := ⟨⟨by decide +kernel, by decide +kernel⟩, List.mem_of_getElem? (i := 1470) (by decide +kernel), List.mem_of_getElem? (i := 1868) (by decide +kernel), List.mem_of_getElem? (i := 1869) (by decide +kernel)⟩
theorem lw_p82 : lw_okq (⟨"GroupJournalModel", "putTold", "()V"⟩, 110) := ⟨⟨by decide +kernel, by decide +kernel⟩, List.mem_of_getElem? (i := 1470) (by decide +kernel), List.mem_of_getElem? (i := 1872) (by decide +kernel), List.mem_of_getElem? (i := 1873) (by decide +kernel)⟩
theorem lw_p83 : lw_okq (⟨"GroupJournalModel", "codesTold", "(II)V"⟩, 110) := ⟨⟨by decide +kernel, by decide +kernel⟩, List.mem_of_getElem? (i := 1470) (by decide +kernel), List.mem_of_getElem? (i := 1876) (by decide +kernel), List.mem_of_getElem? (i := 1877) (by decide +kernel)⟩
theorem lw_p84 : lw_okq (⟨"GroupJournalModel", "qTest", "()V"⟩, 110) := ⟨⟨by decide +kernel, by decide +kernel⟩, List.mem_of_getElem? (i := 1470) (by decide +kernel), List.mem_of_getElem? (i := 1880) (by decide +kernel), List.mem_of_getElem? (i := 1881) (by decide +kernel)⟩
theorem lw_p85 : lw_okq (⟨"GroupJournalModel", "qOpens", "(II)V"⟩, 110) := ⟨⟨by decide +kernel, by decide +kernel⟩, List.mem_of_getElem? (i := 1470) (by decide +kernel), List.mem_of_getElem? (i := 1884) (by decide +kernel), List.mem_of_getElem? (i := 1885) (by decide +kernel)⟩
theorem lw_p86 : lw_okq (⟨"GroupJournalModel", "qFact", "()V"⟩, 110) := ⟨⟨by decide +kernel, by decide +kernel⟩, List.mem_of_getElem? (i := 1470) (by decide +kernel), List.mem_of_getElem? (i := 1888) (by decide +kernel), List.mem_of_getElem? (i := 1889) (by decide +kernel)⟩
theorem lw_p87 : lw_okq (⟨"GroupJournalModel", "qCode", "(I)V"⟩, 110) := ⟨⟨by decide +kernel, by decide +kernel⟩, List.mem_of_getElem? (i := 1470) (by decide +kernel), List.mem_of_getElem? (i := 1892) (by decide +kernel), List.mem_of_getElem? (i := 1893) (by decide +kernel)⟩
theorem lw_p88 : lw_okq (⟨"GroupJournalModel", "qSums", "()V"⟩, 110) := ⟨⟨by decide +kernel, by decide +kernel⟩, List.mem_of_getElem? (i := 1470) (by decide +kernel), List.mem_of_getElem? (i := 1896) (by decide +kernel), List.mem_of_getElem? (i := 1897) (by decide +kernel)⟩
theorem lw_p89 : lw_okq (⟨"GroupJournalModel", "qPartTold", "()V"⟩, 110) := ⟨⟨by decide +kernel, by decide +kernel⟩, List.mem_of_getElem? (i := 1470) (by decide +kernel), List.mem_of_getElem? (i := 1900) (by decide +kernel), List.mem_of_getElem? (i := 1901) (by decide +kernel)⟩
theorem lw_p90 : lw_okq (⟨"GroupJournalModel", "qWordOf", "(II)I"⟩, 110) := ⟨⟨by decide +kernel, by decide +kernel⟩, List.mem_of_getElem? (i := 1470) (by decide +kernel), List.mem_of_getElem? (i := 1904) (by decide +kernel), List.mem_of_getElem? (i := 1905) (by decide +kernel)⟩
theorem lw_p91 : lw_okq (⟨"GroupJournalModel", "qWordHere", "()I"⟩, 110) := ⟨⟨by decide +kernel, by decide +kernel⟩, List.mem_of_getElem? (i := 1470) (by decide +kernel), List.mem_of_getElem? (i := 1908) (by decide +kernel), List.mem_of_getElem? (i := 1909) (by decide +kernel)⟩
theorem lw_p92 : lw_okq (⟨"GroupJournalModel", "isAllowed", "(I)Z"⟩, 110) := ⟨⟨by decide +kernel, by decide +kernel⟩, List.mem_of_getElem? (i := 1470) (by decide +kernel), List.mem_of_getElem? (i := 1912) (by decide +kernel), List.mem_of_getElem? (i := 1913) (by decide +kernel)⟩
theorem lw_p93 : lw_okq (⟨"GroupJournalModel", "qAsksWord", "(I)V"⟩, 110) := ⟨⟨by decide +kernel, by decide +kernel⟩, List.mem_of_getElem? (i := 1470) (by decide +kernel), List.mem_of_getElem? (i := 1916) (by decide +kernel), List.mem_of_getElem? (i := 1917) (by decide +kernel)⟩
theorem lw_p94 : lw_okq (⟨"GroupJournalModel", "qEndsPart", "()V"⟩, 110) := ⟨⟨by decide +kernel, by decide +kernel⟩, List.mem_of_getElem? (i := 1470) (by decide +kernel), List.mem_of_getElem? (i := 1920) (by decide +kernel), List.mem_of_getElem? (i := 1921) (by decide +kernel)⟩
theorem lw_p95 : lw_okq (⟨"GroupJournalModel", "qDrops", "()V"⟩, 110) := ⟨⟨by decide +kernel, by decide +kernel⟩, List.mem_of_getElem? (i := 1470) (by decide +kernel), List.mem_of_getElem? (i := 1924) (by decide +kernel), List.mem_of_getElem? (i := 1925) (by decide +kernel)⟩
def lw_privs_6 : List (MethodName × Nat) := [(⟨"GroupJournalModel", "takesSign", "(I)Z"⟩, 110), (⟨"GroupJournalModel", "statementTold", "()V"⟩, 110), (⟨"GroupJournalModel", "putTold", "()V"⟩, 110), (⟨"GroupJournalModel", "codesTold", "(II)V"⟩, 110), (⟨"GroupJournalModel", "qTest", "()V"⟩, 110), (⟨"GroupJournalModel", "qOpens", "(II)V"⟩, 110), (⟨"GroupJournalModel", "qFact", "()V"⟩, 110), (⟨"GroupJournalModel", "qCode", "(I)V"⟩, 110), (⟨"GroupJournalModel", "qSums", "()V"⟩, 110), (⟨"GroupJournalModel", "qPartTold", "()V"⟩, 110), (⟨"GroupJournalModel", "qWordOf", "(II)I"⟩, 110), (⟨"GroupJournalModel", "qWordHere", "()I"⟩, 110), (⟨"GroupJournalModel", "isAllowed", "(I)Z"⟩, 110), (⟨"GroupJournalModel", "qAsksWord", "(I)V"⟩, 110), (⟨"GroupJournalModel", "qEndsPart", "()V"⟩, 110), (⟨"GroupJournalModel", "qDrops", "()V"⟩, 110)]
theorem lw_r6 : ∀ q ∈ lw_privs_6, lw_okq q := List.forall_mem_cons.mpr ⟨lw_p80, List.forall_mem_cons.mpr ⟨lw_p81, List.forall_mem_cons.mpr ⟨lw_p82, List.forall_mem_cons.mpr ⟨lw_p83, List.forall_mem_cons.mpr ⟨lw_p84, List.forall_mem_cons.mpr ⟨lw_p85, List.forall_mem_cons.mpr ⟨lw_p86, List.forall_mem_cons.mpr ⟨lw_p87, List.forall_mem_cons.mpr ⟨lw_p88, List.forall_mem_cons.mpr ⟨lw_p89, List.forall_mem_cons.mpr ⟨lw_p90, List.forall_mem_cons.mpr ⟨lw_p91, List.forall_mem_cons.mpr ⟨lw_p92, List.forall_mem_cons.mpr ⟨lw_p93, List.forall_mem_cons.mpr ⟨lw_p94, List.forall_mem_cons.mpr ⟨lw_p95, fun _ h => absurd h List.not_mem_nil⟩⟩⟩⟩⟩⟩⟩⟩⟩⟩⟩⟩⟩⟩⟩⟩
theorem lw_p96 : lw_okq (⟨"GroupJournalModel", "qGoesOn", "()Z"⟩, 110) := ⟨⟨by decide +kernel, by decide +kernel⟩, List.mem_of_getElem? (i := 1470) (by decide +kernel), List.mem_of_getElem? (i := 1928) (by decide +kernel), List.mem_of_getElem? (i := 1929) (by decide +kernel)⟩
theorem lw_p97 : lw_okq (⟨"GroupJournalModel", "qBracket", "()I"⟩, 110) := ⟨⟨by decide +kernel, by decide +kernel⟩, List.mem_of_getElem? (i := 1470) (by decide +kernel), List.mem_of_getElem? (i := 1932) (by decide +kernel), List.mem_of_getElem? (i := 1933) (by decide +kernel)⟩
theorem lw_p98 : lw_okq (⟨"GroupJournalModel", "qDropsToBracket", "()V"⟩, 110) := ⟨⟨by decide +kernel, by decide +kernel⟩, List.mem_of_getElem? (i := 1470) (by decide +kernel), List.mem_of_getElem? (i := 1939) (by decide +kernel), List.mem_of_getElem? (i := 1940) (by decide +kernel)⟩
theorem lw_p99 : lw_okq (⟨"GroupJournalModel", "qIsOn", "(I)Z"⟩, 110) := ⟨⟨by decide +kernel, by decide +kernel⟩, List.mem_of_getElem? (i := 1470) (by decide +kernel), List.mem_of_getElem? (i := 1943) (by decide +kernel), List.mem_of_getElem? (i := 1944) (by decide +kernel)⟩
theorem lw_p100 : lw_okq (⟨"GroupJournalModel", "qDropsNots", "()V"⟩, 110) := ⟨⟨by decide +kernel, by decide +kernel⟩, List.mem_of_getElem? (i := 1470) (by decide +kernel), List.mem_of_getElem? (i := 1947) (by decide +kernel), List.mem_of_getElem? (i := 1948) (by decide +kernel)⟩
theorem lw_p101 : lw_okq (⟨"GroupJournalModel", "qGoesOnTest", "()Z"⟩, 110) := ⟨⟨by decide +kernel, by decide +kernel⟩, List.mem_of_getElem? (i := 1470) (by decide +kernel), List.mem_of_getElem? (i := 1951) (by decide +kernel), List.mem_of_getElem? (i := 1952) (by decide +kernel)⟩
theorem lw_p102 : lw_okq (⟨"GroupJournalModel", "qHasSquare", "()Z"⟩, 110) := ⟨⟨by decide +kernel, by decide +kernel⟩, List.mem_of_getElem? (i := 1470) (by decide +kernel), List.mem_of_getElem? (i := 1955) (by decide +kernel), List.mem_of_getElem? (i := 1956) (by decide +kernel)⟩
theorem lw_p103 : lw_okq (⟨"GroupJournalModel", "refuses", "(I)I"⟩, 110) := ⟨⟨by decide +kernel, by decide +kernel⟩, List.mem_of_getElem? (i := 1470) (by decide +kernel), List.mem_of_getElem? (i := 1959) (by decide +kernel), List.mem_of_getElem? (i := 1960) (by decide +kernel)⟩
theorem lw_p104 : lw_okq (⟨"GroupJournalModel", "stands", "()V"⟩, 110) := ⟨⟨by decide +kernel, by decide +kernel⟩, List.mem_of_getElem? (i := 1470) (by decide +kernel), List.mem_of_getElem? (i := 1963) (by decide +kernel), List.mem_of_getElem? (i := 1964) (by decide +kernel)⟩
theorem lw_p105 : lw_okq (⟨"GroupJournalModel", "opensOnDisk", "(II)V"⟩, 110) := ⟨⟨by decide +kernel, by decide +kernel⟩, List.mem_of_getElem? (i := 1470) (by decide +kernel), List.mem_of_getElem? (i := 1967) (by decide +kernel), List.mem_of_getElem? (i := 1968) (by decide +kernel)⟩
theorem lw_p106 : lw_okq (⟨"GroupJournalModel", "opens", "(I)V"⟩, 110) := ⟨⟨by decide +kernel, by decide +kernel⟩, List.mem_of_getElem? (i := 1470) (by decide +kernel), List.mem_of_getElem? (i := 1971) (by decide +kernel), List.mem_of_getElem? (i := 1972) (by decide +kernel)⟩
theorem lw_p107 : lw_okq (⟨"GroupJournalModel", "headByte", "(III)I"⟩, 110) := ⟨⟨by decide +kernel, by decide +kernel⟩, List.mem_of_getElem? (i := 1470) (by decide +kernel), List.mem_of_getElem? (i := 1975) (by decide +kernel), List.mem_of_getElem? (i := 1976) (by decide +kernel)⟩
theorem lw_p108 : lw_okq (⟨"GroupJournalModel", "lands", "(II)V"⟩, 110) := ⟨⟨by decide +kernel, by decide +kernel⟩, List.mem_of_getElem? (i := 1470) (by decide +kernel), List.mem_of_getElem? (i := 1985) (by decide +kernel), List.mem_of_getElem? (i := 1986) (by decide +kernel)⟩
theorem lw_p109 : lw_okq (⟨"GroupJournalModel", "canAppend", "(I)Z"⟩, 110) := ⟨⟨by decide +kernel, by decide +kernel⟩, List.mem_of_getElem? (i := 1470) (by decide +kernel), List.mem_of_getElem? (i := 1989) (by decide +kernel), List.mem_of_getElem? (i := 1990) (by decide +kernel)⟩
theorem lw_p110 : lw_okq (⟨"GroupJournalModel", "hasRoom", "(II)Z"⟩, 110) := ⟨⟨by decide +kernel, by decide +kernel⟩, List.mem_of_getElem? (i := 1470) (by decide +kernel), List.mem_of_getElem? (i := 1993) (by decide +kernel), List.mem_of_getElem? (i := 1994) (by decide +kernel)⟩
theorem lw_p111 : lw_okq (⟨"GroupJournalModel", "length", "()I"⟩, 110) := ⟨⟨by decide +kernel, by decide +kernel⟩, List.mem_of_getElem? (i := 1470) (by decide +kernel), List.mem_of_getElem? (i := 1997) (by decide +kernel), List.mem_of_getElem? (i := 1998) (by decide +kernel)⟩
def lw_privs_7 : List (MethodName × Nat) := [(⟨"GroupJournalModel", "qGoesOn", "()Z"⟩, 110), (⟨"GroupJournalModel", "qBracket", "()I"⟩, 110), (⟨"GroupJournalModel", "qDropsToBracket", "()V"⟩, 110), (⟨"GroupJournalModel", "qIsOn", "(I)Z"⟩, 110), (⟨"GroupJournalModel", "qDropsNots", "()V"⟩, 110), (⟨"GroupJournalModel", "qGoesOnTest", "()Z"⟩, 110), (⟨"GroupJournalModel", "qHasSquare", "()Z"⟩, 110), (⟨"GroupJournalModel", "refuses", "(I)I"⟩, 110), (⟨"GroupJournalModel", "stands", "()V"⟩, 110), (⟨"GroupJournalModel", "opensOnDisk", "(II)V"⟩, 110), (⟨"GroupJournalModel", "opens", "(I)V"⟩, 110), (⟨"GroupJournalModel", "headByte", "(III)I"⟩, 110), (⟨"GroupJournalModel", "lands", "(II)V"⟩, 110), (⟨"GroupJournalModel", "canAppend", "(I)Z"⟩, 110), (⟨"GroupJournalModel", "hasRoom", "(II)Z"⟩, 110), (⟨"GroupJournalModel", "length", "()I"⟩, 110)]
theorem lw_r7 : ∀ q ∈ lw_privs_7, lw_okq q := List.forall_mem_cons.mpr ⟨lw_p96, List.forall_mem_cons.mpr ⟨lw_p97, List.forall_mem_cons.mpr ⟨lw_p98, List.forall_mem_cons.mpr ⟨lw_p99, List.forall_mem_cons.mpr ⟨lw_p100, List.forall_mem_cons.mpr ⟨lw_p101, List.forall_mem_cons.mpr ⟨lw_p102, List.forall_mem_cons.mpr ⟨lw_p103, List.forall_mem_cons.mpr ⟨lw_p104, List.forall_mem_cons.mpr ⟨lw_p105, List.forall_mem_cons.mpr ⟨lw_p106, List.forall_mem_cons.mpr ⟨lw_p107, List.forall_mem_cons.mpr ⟨lw_p108, List.forall_mem_cons.mpr ⟨lw_p109, List.forall_mem_cons.mpr ⟨lw_p110, List.forall_mem_cons.mpr ⟨lw_p111, fun _ h => absurd h List.not_mem_nil⟩⟩⟩⟩⟩⟩⟩⟩⟩⟩⟩⟩⟩⟩⟩⟩
theorem lw_p112 : lw_okq (⟨"GroupJournalModel", "blockBytes", "()I"⟩, 110) := ⟨⟨by decide +kernel, by decide +kernel⟩, List.mem_of_getElem? (i := 1470) (by decide +kernel), List.mem_of_getElem? (i := 2001) (by decide +kernel), List.mem_of_getElem? (i := 2002) (by decide +kernel)⟩
theorem lw_p113 : lw_okq (⟨"GroupJournalModel", "appends", "(III)V"⟩, 110) := ⟨⟨by decide +kernel, by decide +kernel⟩, List.mem_of_getElem? (i := 1470) (by decide +kernel), List.mem_of_getElem? (i := 2005) (by decide +kernel), List.mem_of_getElem? (i := 2006) (by decide +kernel)⟩
theorem lw_p114 : lw_okq (⟨"GroupJournalModel", "segmentMany", "()I"⟩, 110) := ⟨⟨by decide +kernel, by decide +kernel⟩, List.mem_of_getElem? (i := 1470) (by decide +kernel), List.mem_of_getElem? (i := 2017) (by decide +kernel), List.mem_of_getElem? (i := 2018) (by decide +kernel)⟩
theorem lw_p115 : lw_okq (⟨"GroupJournalModel", "scarMany", "()I"⟩, 110) := ⟨⟨by decide +kernel, by decide +kernel⟩, List.mem_of_getElem? (i := 1470) (by decide +kernel), List.mem_of_getElem? (i := 2021) (by decide +kernel), List.mem_of_getElem? (i := 2022) (by decide +kernel)⟩
theorem lw_p116 : lw_okq (⟨"GroupJournalModel", "isSegment", "(I)Z"⟩, 110) := ⟨⟨by decide +kernel, by decide +kernel⟩, List.mem_of_getElem? (i := 1470) (by decide +kernel), List.mem_of_getElem? (i := 2029) (by decide +kernel), List.mem_of_getElem? (i := 2030) (by decide +kernel)⟩
theorem lw_p117 : lw_okq (⟨"GroupJournalModel", "isHead", "(I)Z"⟩, 110) := ⟨⟨by decide +kernel, by decide +kernel⟩, List.mem_of_getElem? (i := 1470) (by decide +kernel), List.mem_of_getElem? (i := 2033) (by decide +kernel), List.mem_of_getElem? (i := 2034) (by decide +kernel)⟩
theorem lw_p118 : lw_okq (⟨"GroupJournalModel", "diskAt", "(II)I"⟩, 110) := ⟨⟨by decide +kernel, by decide +kernel⟩, List.mem_of_getElem? (i := 1470) (by decide +kernel), List.mem_of_getElem? (i := 2037) (by decide +kernel), List.mem_of_getElem? (i := 2038) (by decide +kernel)⟩
theorem lw_p119 : lw_okq (⟨"GroupJournalModel", "serialOf", "(I)I"⟩, 110) := ⟨⟨by decide +kernel, by decide +kernel⟩, List.mem_of_getElem? (i := 1470) (by decide +kernel), List.mem_of_getElem? (i := 2041) (by decide +kernel), List.mem_of_getElem? (i := 2042) (by decide +kernel)⟩
theorem lw_p120 : lw_okq (⟨"GroupJournalModel", "firstOf", "(I)I"⟩, 110) := ⟨⟨by decide +kernel, by decide +kernel⟩, List.mem_of_getElem? (i := 1470) (by decide +kernel), List.mem_of_getElem? (i := 2045) (by decide +kernel), List.mem_of_getElem? (i := 2046) (by decide +kernel)⟩
theorem lw_p121 : lw_okq (⟨"GroupJournalModel", "isFree", "(I)Z"⟩, 110) := ⟨⟨by decide +kernel, by decide +kernel⟩, List.mem_of_getElem? (i := 1470) (by decide +kernel), List.mem_of_getElem? (i := 2049) (by decide +kernel), List.mem_of_getElem? (i := 2050) (by decide +kernel)⟩
theorem lw_p122 : lw_okq (⟨"GroupJournalModel", "isOnWay", "(I)Z"⟩, 110) := ⟨⟨by decide +kernel, by decide +kernel⟩, List.mem_of_getElem? (i := 1470) (by decide +kernel), List.mem_of_getElem? (i := 2053) (by decide +kernel), List.mem_of_getElem? (i := 2054) (by decide +kernel)⟩
theorem lw_p123 : lw_okq (⟨"GroupJournalModel", "framesOf", "(I)I"⟩, 110) := ⟨⟨by decide +kernel, by decide +kernel⟩, List.mem_of_getElem? (i := 1470) (by decide +kernel), List.mem_of_getElem? (i := 2057) (by decide +kernel), List.mem_of_getElem? (i := 2058) (by decide +kernel)⟩
theorem lw_p124 : lw_okq (⟨"GroupJournalModel", "walks", "(I)V"⟩, 110) := ⟨⟨by decide +kernel, by decide +kernel⟩, List.mem_of_getElem? (i := 1470) (by decide +kernel), List.mem_of_getElem? (i := 2061) (by decide +kernel), List.mem_of_getElem? (i := 2062) (by decide +kernel)⟩
theorem lw_p125 : lw_okq (⟨"GroupJournalModel", "isFrame", "(II)Z"⟩, 110) := ⟨⟨by decide +kernel, by decide +kernel⟩, List.mem_of_getElem? (i := 1470) (by decide +kernel), List.mem_of_getElem? (i := 2065) (by decide +kernel), List.mem_of_getElem? (i := 2066) (by decide +kernel)⟩
theorem lw_p126 : lw_okq (⟨"GroupJournalModel", "canBe", "(IZ)Z"⟩, 110) := ⟨⟨by decide +kernel, by decide +kernel⟩, List.mem_of_getElem? (i := 1470) (by decide +kernel), List.mem_of_getElem? (i := 2069) (by decide +kernel), List.mem_of_getElem? (i := 2070) (by decide +kernel)⟩
theorem lw_p127 : lw_okq (⟨"GroupJournalModel", "isBorne", "(II)Z"⟩, 110) := ⟨⟨by decide +kernel, by decide +kernel⟩, List.mem_of_getElem? (i := 1470) (by decide +kernel), List.mem_of_getElem? (i := 2073) (by decide +kernel), List.mem_of_getElem? (i := 2074) (by decide +kernel)⟩
def lw_privs_8 : List (MethodName × Nat) := [(⟨"GroupJournalModel", "blockBytes", "()I"⟩, 110), (⟨"GroupJournalModel", "appends", "(III)V"⟩, 110), (⟨"GroupJournalModel", "segmentMany", "()I"⟩, 110), (⟨"GroupJournalModel", "scarMany", "()I"⟩, 110), (⟨"GroupJournalModel", "isSegment", "(I)Z"⟩, 110), (⟨"GroupJournalModel", "isHead", "(I)Z"⟩, 110), (⟨"GroupJournalModel", "diskAt", "(II)I"⟩, 110), (⟨"GroupJournalModel", "serialOf", "(I)I"⟩, 110), (⟨"GroupJournalModel", "firstOf", "(I)I"⟩, 110), (⟨"GroupJournalModel", "isFree", "(I)Z"⟩, 110), (⟨"GroupJournalModel", "isOnWay", "(I)Z"⟩, 110), (⟨"GroupJournalModel", "framesOf", "(I)I"⟩, 110), (⟨"GroupJournalModel", "walks", "(I)V"⟩, 110), (⟨"GroupJournalModel", "isFrame", "(II)Z"⟩, 110), (⟨"GroupJournalModel", "canBe", "(IZ)Z"⟩, 110), (⟨"GroupJournalModel", "isBorne", "(II)Z"⟩, 110)]
theorem lw_r8 : ∀ q ∈ lw_privs_8, lw_okq q := List.forall_mem_cons.mpr ⟨lw_p112, List.forall_mem_cons.mpr ⟨lw_p113, List.forall_mem_cons.mpr ⟨lw_p114, List.forall_mem_cons.mpr ⟨lw_p115, List.forall_mem_cons.mpr ⟨lw_p116, List.forall_mem_cons.mpr ⟨lw_p117, List.forall_mem_cons.mpr ⟨lw_p118, List.forall_mem_cons.mpr ⟨lw_p119, List.forall_mem_cons.mpr ⟨lw_p120, List.forall_mem_cons.mpr ⟨lw_p121, List.forall_mem_cons.mpr ⟨lw_p122, List.forall_mem_cons.mpr ⟨lw_p123, List.forall_mem_cons.mpr ⟨lw_p124, List.forall_mem_cons.mpr ⟨lw_p125, List.forall_mem_cons.mpr ⟨lw_p126, List.forall_mem_cons.mpr ⟨lw_p127, fun _ h => absurd h List.not_mem_nil⟩⟩⟩⟩⟩⟩⟩⟩⟩⟩⟩⟩⟩⟩⟩⟩
theorem lw_p128 : lw_okq (⟨"GroupJournalModel", "recordRead", "(I)V"⟩, 110) := ⟨⟨by decide +kernel, by decide +kernel⟩, List.mem_of_getElem? (i := 1470) (by decide +kernel), List.mem_of_getElem? (i := 2078) (by decide +kernel), List.mem_of_getElem? (i := 2079) (by decide +kernel)⟩
theorem lw_p129 : lw_okq (⟨"GroupJournalModel", "recordOf", "(II)I"⟩, 110) := ⟨⟨by decide +kernel, by decide +kernel⟩, List.mem_of_getElem? (i := 1470) (by decide +kernel), List.mem_of_getElem? (i := 2105) (by decide +kernel), List.mem_of_getElem? (i := 2106) (by decide +kernel)⟩
theorem lw_p130 : lw_okq (⟨"GroupJournalModel", "isAhead", "(III)Z"⟩, 110) := ⟨⟨by decide +kernel, by decide +kernel⟩, List.mem_of_getElem? (i := 1470) (by decide +kernel), List.mem_of_getElem? (i := 2127) (by decide +kernel), List.mem_of_getElem? (i := 2128) (by decide +kernel)⟩
theorem lw_p131 : lw_okq (⟨"GroupJournalModel", "putsAside", "()V"⟩, 110) := ⟨⟨by decide +kernel, by decide +kernel⟩, List.mem_of_getElem? (i := 1470) (by decide +kernel), List.mem_of_getElem? (i := 2131) (by decide +kernel), List.mem_of_getElem? (i := 2132) (by decide +kernel)⟩
theorem lw_p132 : lw_okq (⟨"GroupJournalModel", "ticksGo", "(I)V"⟩, 110) := ⟨⟨by decide +kernel, by decide +kernel⟩, List.mem_of_getElem? (i := 1470) (by decide +kernel), List.mem_of_getElem? (i := 2135) (by decide +kernel), List.mem_of_getElem? (i := 2136) (by decide +kernel)⟩
theorem lw_p133 : lw_okq (⟨"GroupJournalModel", "tickGoes", "()V"⟩, 110) := ⟨⟨by decide +kernel, by decide +kernel⟩, List.mem_of_getElem? (i := 1470) (by decide +kernel), List.mem_of_getElem? (i := 2139) (by decide +kernel), List.mem_of_getElem? (i := 2140) (by decide +kernel)⟩
theorem lw_p134 : lw_okq (⟨"GroupJournalModel", "arrives", "(I)V"⟩, 110) := ⟨⟨by decide +kernel, by decide +kernel⟩, List.mem_of_getElem? (i := 1470) (by decide +kernel), List.mem_of_getElem? (i := 2143) (by decide +kernel), List.mem_of_getElem? (i := 2144) (by decide +kernel)⟩
theorem lw_p135 : lw_okq (⟨"GroupJournalModel", "releases", "(I)V"⟩, 110) := ⟨⟨by decide +kernel, by decide +kernel⟩, List.mem_of_getElem? (i := 1470) (by decide +kernel), List.mem_of_getElem? (i := 2147) (by decide +kernel), List.mem_of_getElem? (i := 2148) (by decide +kernel)⟩
theorem lw_p136 : lw_okq (⟨"GroupJournalModel", "isKept", "(II)V"⟩, 110) := ⟨⟨by decide +kernel, by decide +kernel⟩, List.mem_of_getElem? (i := 1470) (by decide +kernel), List.mem_of_getElem? (i := 2151) (by decide +kernel), List.mem_of_getElem? (i := 2152) (by decide +kernel)⟩
theorem lw_p137 : lw_okq (⟨"GroupJournalModel", "groupCloses", "()V"⟩, 110) := ⟨⟨by decide +kernel, by decide +kernel⟩, List.mem_of_getElem? (i := 1470) (by decide +kernel), List.mem_of_getElem? (i := 2155) (by decide +kernel), List.mem_of_getElem? (i := 2156) (by decide +kernel)⟩
theorem lw_p138 : lw_okq (⟨"GroupJournalModel", "doesClose", "()Z"⟩, 110) := ⟨⟨by decide +kernel, by decide +kernel⟩, List.mem_of_getElem? (i := 1470) (by decide +kernel), List.mem_of_getElem? (i := 2159) (by decide +kernel), List.mem_of_getElem? (i := 2160) (by decide +kernel)⟩
theorem lw_p139 : lw_okq (⟨"GroupJournalModel", "asksOf", "(I)V"⟩, 110) := ⟨⟨by decide +kernel, by decide +kernel⟩, List.mem_of_getElem? (i := 1470) (by decide +kernel), List.mem_of_getElem? (i := 2163) (by decide +kernel), List.mem_of_getElem? (i := 2164) (by decide +kernel)⟩
theorem lw_p140 : lw_okq (⟨"GroupJournalModel", "payloadOf", "(I)I"⟩, 110) := ⟨⟨by decide +kernel, by decide +kernel⟩, List.mem_of_getElem? (i := 1470) (by decide +kernel), List.mem_of_getElem? (i := 2167) (by decide +kernel), List.mem_of_getElem? (i := 2168) (by decide +kernel)⟩
theorem lw_p141 : lw_okq (⟨"GroupJournalModel", "isCoded", "(I)Z"⟩, 110) := ⟨⟨by decide +kernel, by decide +kernel⟩, List.mem_of_getElem? (i := 1470) (by decide +kernel), List.mem_of_getElem? (i := 2171) (by decide +kernel), List.mem_of_getElem? (i := 2172) (by decide +kernel)⟩
theorem lw_p142 : lw_okq (⟨"GroupJournalModel", "codesTell", "(I)J"⟩, 110) := ⟨⟨by decide +kernel, by decide +kernel⟩, List.mem_of_getElem? (i := 1470) (by decide +kernel), List.mem_of_getElem? (i := 2175) (by decide +kernel), List.mem_of_getElem? (i := 2176) (by decide +kernel)⟩
theorem lw_p143 : lw_okq (⟨"GroupJournalModel", "qPuts", "(J)V"⟩, 110) := ⟨⟨by decide +kernel, by decide +kernel⟩, List.mem_of_getElem? (i := 1470) (by decide +kernel), List.mem_of_getElem? (i := 2179) (by decide +kernel), List.mem_of_getElem? (i := 2180) (by decide +kernel)⟩
def lw_privs_9 : List (MethodName × Nat) := [(⟨"GroupJournalModel", "recordRead", "(I)V"⟩, 110), (⟨"GroupJournalModel", "recordOf", "(II)I"⟩, 110), (⟨"GroupJournalModel", "isAhead", "(III)Z"⟩, 110), (⟨"GroupJournalModel", "putsAside", "()V"⟩, 110), (⟨"GroupJournalModel", "ticksGo", "(I)V"⟩, 110), (⟨"GroupJournalModel", "tickGoes", "()V"⟩, 110), (⟨"GroupJournalModel", "arrives", "(I)V"⟩, 110), (⟨"GroupJournalModel", "releases", "(I)V"⟩, 110), (⟨"GroupJournalModel", "isKept", "(II)V"⟩, 110), (⟨"GroupJournalModel", "groupCloses", "()V"⟩, 110), (⟨"GroupJournalModel", "doesClose", "()Z"⟩, 110), (⟨"GroupJournalModel", "asksOf", "(I)V"⟩, 110), (⟨"GroupJournalModel", "payloadOf", "(I)I"⟩, 110), (⟨"GroupJournalModel", "isCoded", "(I)Z"⟩, 110), (⟨"GroupJournalModel", "codesTell", "(I)J"⟩, 110), (⟨"GroupJournalModel", "qPuts", "(J)V"⟩, 110)]
theorem lw_r9 : ∀ q ∈ lw_privs_9, lw_okq q := List.forall_mem_cons.mpr ⟨lw_p128, List.forall_mem_cons.mpr ⟨lw_p129, List.forall_mem_cons.mpr ⟨lw_p130, List.forall_mem_cons.mpr ⟨lw_p131, List.forall_mem_cons.mpr ⟨lw_p132, List.forall_mem_cons.mpr ⟨lw_p133, List.forall_mem_cons.mpr ⟨lw_p134, List.forall_mem_cons.mpr ⟨lw_p135, List.forall_mem_cons.mpr ⟨lw_p136, List.forall_mem_cons.mpr ⟨lw_p137, List.forall_mem_cons.mpr ⟨lw_p138, List.forall_mem_cons.mpr ⟨lw_p139, List.forall_mem_cons.mpr ⟨lw_p140, List.forall_mem_cons.mpr ⟨lw_p141, List.forall_mem_cons.mpr ⟨lw_p142, List.forall_mem_cons.mpr ⟨lw_p143, fun _ h => absurd h List.not_mem_nil⟩⟩⟩⟩⟩⟩⟩⟩⟩⟩⟩⟩⟩⟩⟩⟩
theorem lw_p144 : lw_okq (⟨"GroupJournalModel", "qPartOf", "(II)J"⟩, 110) := ⟨⟨by decide +kernel, by decide +kernel⟩, List.mem_of_getElem? (i := 1470) (by decide +kernel), List.mem_of_getElem? (i := 2183) (by decide +kernel), List.mem_of_getElem? (i := 2184) (by decide +kernel)⟩
theorem lw_p145 : lw_okq (⟨"GroupJournalModel", "qJoins", "(I)V"⟩, 110) := ⟨⟨by decide +kernel, by decide +kernel⟩, List.mem_of_getElem? (i := 1470) (by decide +kernel), List.mem_of_getElem? (i := 2187) (by decide +kernel), List.mem_of_getElem? (i := 2188) (by decide +kernel)⟩
theorem lw_p146 : lw_okq (⟨"GroupJournalModel", "areLaid", "(I)Z"⟩, 110) := ⟨⟨by decide +kernel, by decide +kernel⟩, List.mem_of_getElem? (i := 1470) (by decide +kernel), List.mem_of_getElem? (i := 2199) (by decide +kernel), List.mem_of_getElem? (i := 2200) (by decide +kernel)⟩
theorem lw_p147 : lw_okq (⟨"GroupJournalModel", "isLaid", "(I)Z"⟩, 110) := ⟨⟨by decide +kernel, by decide +kernel⟩, List.mem_of_getElem? (i := 1470) (by decide +kernel), List.mem_of_getElem? (i := 2203) (by decide +kernel), List.mem_of_getElem? (i := 2204) (by decide +kernel)⟩
theorem lw_p148 : lw_okq (⟨"GroupJournalModel", "freeOne", "()I"⟩, 110) := ⟨⟨by decide +kernel, by decide +kernel⟩, List.mem_of_getElem? (i := 1470) (by decide +kernel), List.mem_of_getElem? (i := 2207) (by decide +kernel), List.mem_of_getElem? (i := 2208) (by decide +kernel)⟩
theorem lw_p149 : lw_okq (⟨"GroupJournalModel", "goesOut", "(I)V"⟩, 110) := ⟨⟨by decide +kernel, by decide +kernel⟩, List.mem_of_getElem? (i := 1470) (by decide +kernel), List.mem_of_getElem? (i := 2211) (by decide +kernel), List.mem_of_getElem? (i := 2212) (by decide +kernel)⟩
theorem lw_p150 : lw_okq (⟨"GroupJournalModel", "frameGoes", "(III)V"⟩, 110) := ⟨⟨by decide +kernel, by decide +kernel⟩, List.mem_of_getElem? (i := 1470) (by decide +kernel), List.mem_of_getElem? (i := 2215) (by decide +kernel), List.mem_of_getElem? (i := 2216) (by decide +kernel)⟩
theorem lw_p151 : lw_okq (⟨"GroupJournalModel", "frames", "(I)V"⟩, 110) := ⟨⟨by decide +kernel, by decide +kernel⟩, List.mem_of_getElem? (i := 1470) (by decide +kernel), List.mem_of_getElem? (i := 2219) (by decide +kernel), List.mem_of_getElem? (i := 2220) (by decide +kernel)⟩
theorem lw_p152 : lw_okq (⟨"GroupJournalModel", "payloadAt", "(II)I"⟩, 110) := ⟨⟨by decide +kernel, by decide +kernel⟩, List.mem_of_getElem? (i := 1470) (by decide +kernel), List.mem_of_getElem? (i := 2223) (by decide +kernel), List.mem_of_getElem? (i := 2224) (by decide +kernel)⟩
theorem lw_p153 : lw_okq (⟨"GroupJournalModel", "ticksFor", "()I"⟩, 110) := ⟨⟨by decide +kernel, by decide +kernel⟩, List.mem_of_getElem? (i := 1470) (by decide +kernel), List.mem_of_getElem? (i := 2227) (by decide +kernel), List.mem_of_getElem? (i := 2228) (by decide +kernel)⟩
theorem lw_p154 : lw_okq (⟨"GroupJournalModel", "takesBack", "()V"⟩, 110) := ⟨⟨by decide +kernel, by decide +kernel⟩, List.mem_of_getElem? (i := 1470) (by decide +kernel), List.mem_of_getElem? (i := 2232) (by decide +kernel), List.mem_of_getElem? (i := 2233) (by decide +kernel)⟩
theorem lw_p155 : lw_okq (⟨"GroupJournalModel", "triesAnew", "()V"⟩, 110) := ⟨⟨by decide +kernel, by decide +kernel⟩, List.mem_of_getElem? (i := 1470) (by decide +kernel), List.mem_of_getElem? (i := 2236) (by decide +kernel), List.mem_of_getElem? (i := 2237) (by decide +kernel)⟩
theorem lw_p156 : lw_okq (⟨"GroupJournalModel", "ticksTill", "(I)I"⟩, 110) := ⟨⟨by decide +kernel, by decide +kernel⟩, List.mem_of_getElem? (i := 1470) (by decide +kernel), List.mem_of_getElem? (i := 2244) (by decide +kernel), List.mem_of_getElem? (i := 2245) (by decide +kernel)⟩
theorem lw_p157 : lw_okq (⟨"GroupJournalModel", "isLaidOf", "(I)Z"⟩, 110) := ⟨⟨by decide +kernel, by decide +kernel⟩, List.mem_of_getElem? (i := 1470) (by decide +kernel), List.mem_of_getElem? (i := 2263) (by decide +kernel), List.mem_of_getElem? (i := 2264) (by decide +kernel)⟩
theorem lw_p158 : lw_okq (⟨"GroupJournalModel", "crashes", "(I)V"⟩, 110) := ⟨⟨by decide +kernel, by decide +kernel⟩, List.mem_of_getElem? (i := 1470) (by decide +kernel), List.mem_of_getElem? (i := 2272) (by decide +kernel), List.mem_of_getElem? (i := 2273) (by decide +kernel)⟩
theorem lw_p159 : lw_okq (⟨"GroupJournalModel", "recovering", "()V"⟩, 110) := ⟨⟨by decide +kernel, by decide +kernel⟩, List.mem_of_getElem? (i := 1470) (by decide +kernel), List.mem_of_getElem? (i := 2276) (by decide +kernel), List.mem_of_getElem? (i := 2277) (by decide +kernel)⟩
def lw_privs_10 : List (MethodName × Nat) := [(⟨"GroupJournalModel", "qPartOf", "(II)J"⟩, 110), (⟨"GroupJournalModel", "qJoins", "(I)V"⟩, 110), (⟨"GroupJournalModel", "areLaid", "(I)Z"⟩, 110), (⟨"GroupJournalModel", "isLaid", "(I)Z"⟩, 110), (⟨"GroupJournalModel", "freeOne", "()I"⟩, 110), (⟨"GroupJournalModel", "goesOut", "(I)V"⟩, 110), (⟨"GroupJournalModel", "frameGoes", "(III)V"⟩, 110), (⟨"GroupJournalModel", "frames", "(I)V"⟩, 110), (⟨"GroupJournalModel", "payloadAt", "(II)I"⟩, 110), (⟨"GroupJournalModel", "ticksFor", "()I"⟩, 110), (⟨"GroupJournalModel", "takesBack", "()V"⟩, 110), (⟨"GroupJournalModel", "triesAnew", "()V"⟩, 110), (⟨"GroupJournalModel", "ticksTill", "(I)I"⟩, 110), (⟨"GroupJournalModel", "isLaidOf", "(I)Z"⟩, 110), (⟨"GroupJournalModel", "crashes", "(I)V"⟩, 110), (⟨"GroupJournalModel", "recovering", "()V"⟩, 110)]
theorem lw_r10 : ∀ q ∈ lw_privs_10, lw_okq q := List.forall_mem_cons.mpr ⟨lw_p144, List.forall_mem_cons.mpr ⟨lw_p145, List.forall_mem_cons.mpr ⟨lw_p146, List.forall_mem_cons.mpr ⟨lw_p147, List.forall_mem_cons.mpr ⟨lw_p148, List.forall_mem_cons.mpr ⟨lw_p149, List.forall_mem_cons.mpr ⟨lw_p150, List.forall_mem_cons.mpr ⟨lw_p151, List.forall_mem_cons.mpr ⟨lw_p152, List.forall_mem_cons.mpr ⟨lw_p153, List.forall_mem_cons.mpr ⟨lw_p154, List.forall_mem_cons.mpr ⟨lw_p155, List.forall_mem_cons.mpr ⟨lw_p156, List.forall_mem_cons.mpr ⟨lw_p157, List.forall_mem_cons.mpr ⟨lw_p158, List.forall_mem_cons.mpr ⟨lw_p159, fun _ h => absurd h List.not_mem_nil⟩⟩⟩⟩⟩⟩⟩⟩⟩⟩⟩⟩⟩⟩⟩⟩
theorem lw_p160 : lw_okq (⟨"GroupJournalModel", "beginner", "()I"⟩, 110) := ⟨⟨by decide +kernel, by decide +kernel⟩, List.mem_of_getElem? (i := 1470) (by decide +kernel), List.mem_of_getElem? (i := 2280) (by decide +kernel), List.mem_of_getElem? (i := 2281) (by decide +kernel)⟩
theorem lw_p161 : lw_okq (⟨"GroupJournalModel", "follower", "(I)I"⟩, 110) := ⟨⟨by decide +kernel, by decide +kernel⟩, List.mem_of_getElem? (i := 1470) (by decide +kernel), List.mem_of_getElem? (i := 2284) (by decide +kernel), List.mem_of_getElem? (i := 2285) (by decide +kernel)⟩
theorem lw_p162 : lw_okq (⟨"GroupJournalModel", "isGreater", "(II)Z"⟩, 110) := ⟨⟨by decide +kernel, by decide +kernel⟩, List.mem_of_getElem? (i := 1470) (by decide +kernel), List.mem_of_getElem? (i := 2288) (by decide +kernel), List.mem_of_getElem? (i := 2289) (by decide +kernel)⟩
theorem lw_p163 : lw_okq (⟨"GroupJournalModel", "endsWithoutGround", "()V"⟩, 110) := ⟨⟨by decide +kernel, by decide +kernel⟩, List.mem_of_getElem? (i := 1470) (by decide +kernel), List.mem_of_getElem? (i := 2292) (by decide +kernel), List.mem_of_getElem? (i := 2293) (by decide +kernel)⟩
theorem lw_p164 : lw_okq (⟨"GroupJournalModel", "isDamaged", "(I)Z"⟩, 110) := ⟨⟨by decide +kernel, by decide +kernel⟩, List.mem_of_getElem? (i := 1470) (by decide +kernel), List.mem_of_getElem? (i := 2296) (by decide +kernel), List.mem_of_getElem? (i := 2297) (by decide +kernel)⟩
theorem lw_p165 : lw_okq (⟨"GroupJournalModel", "zeroes", "(II)I"⟩, 110) := ⟨⟨by decide +kernel, by decide +kernel⟩, List.mem_of_getElem? (i := 1470) (by decide +kernel), List.mem_of_getElem? (i := 2300) (by decide +kernel), List.mem_of_getElem? (i := 2301) (by decide +kernel)⟩
theorem lw_p166 : lw_okq (⟨"GroupJournalModel", "keyMany", "()I"⟩, 110) := ⟨⟨by decide +kernel, by decide +kernel⟩, List.mem_of_getElem? (i := 1470) (by decide +kernel), List.mem_of_getElem? (i := 2304) (by decide +kernel), List.mem_of_getElem? (i := 2305) (by decide +kernel)⟩
theorem lw_p167 : lw_okq (⟨"GroupJournalModel", "turns", "(I)V"⟩, 110) := ⟨⟨by decide +kernel, by decide +kernel⟩, List.mem_of_getElem? (i := 1470) (by decide +kernel), List.mem_of_getElem? (i := 2312) (by decide +kernel), List.mem_of_getElem? (i := 2313) (by decide +kernel)⟩
theorem lw_p168 : lw_okq (⟨"GroupJournalModel", "laysArrived", "()V"⟩, 110) := ⟨⟨by decide +kernel, by decide +kernel⟩, List.mem_of_getElem? (i := 1470) (by decide +kernel), List.mem_of_getElem? (i := 2324) (by decide +kernel), List.mem_of_getElem? (i := 2325) (by decide +kernel)⟩
theorem lw_p169 : lw_okq (⟨"GroupJournalModel", "isAsSeen", "(I)Z"⟩, 110) := ⟨⟨by decide +kernel, by decide +kernel⟩, List.mem_of_getElem? (i := 1470) (by decide +kernel), List.mem_of_getElem? (i := 2328) (by decide +kernel), List.mem_of_getElem? (i := 2329) (by decide +kernel)⟩
theorem lw_p170 : lw_okq (⟨"GroupJournalModel", "mostAlike", "(I)I"⟩, 110) := ⟨⟨by decide +kernel, by decide +kernel⟩, List.mem_of_getElem? (i := 1470) (by decide +kernel), List.mem_of_getElem? (i := 2336) (by decide +kernel), List.mem_of_getElem? (i := 2337) (by decide +kernel)⟩
theorem lw_p171 : lw_okq (⟨"GroupJournalModel", "keeps", "()V"⟩, 110) := ⟨⟨by decide +kernel, by decide +kernel⟩, List.mem_of_getElem? (i := 1470) (by decide +kernel), List.mem_of_getElem? (i := 2349) (by decide +kernel), List.mem_of_getElem? (i := 2350) (by decide +kernel)⟩
theorem lw_p172 : lw_okq (⟨"GroupJournalModel", "isRefused", "(I)Z"⟩, 110) := ⟨⟨by decide +kernel, by decide +kernel⟩, List.mem_of_getElem? (i := 1470) (by decide +kernel), List.mem_of_getElem? (i := 2357) (by decide +kernel), List.mem_of_getElem? (i := 2358) (by decide +kernel)⟩
theorem lw_p173 : lw_okq (⟨"GroupJournalModel", "drawOf", "(I)I"⟩, 110) := ⟨⟨by decide +kernel, by decide +kernel⟩, List.mem_of_getElem? (i := 1470) (by decide +kernel), List.mem_of_getElem? (i := 2373) (by decide +kernel), List.mem_of_getElem? (i := 2374) (by decide +kernel)⟩
theorem lw_p174 : lw_okq (⟨"GroupJournalModel", "qKind", "()I"⟩, 110) := ⟨⟨by decide +kernel, by decide +kernel⟩, List.mem_of_getElem? (i := 1470) (by decide +kernel), List.mem_of_getElem? (i := 2402) (by decide +kernel), List.mem_of_getElem? (i := 2403) (by decide +kernel)⟩
theorem lw_p175 : lw_okq (⟨"GroupJournalModel", "qTold", "(I)J"⟩, 110) := ⟨⟨by decide +kernel, by decide +kernel⟩, List.mem_of_getElem? (i := 1470) (by decide +kernel), List.mem_of_getElem? (i := 2407) (by decide +kernel), List.mem_of_getElem? (i := 2408) (by decide +kernel)⟩
def lw_privs_11 : List (MethodName × Nat) := [(⟨"GroupJournalModel", "beginner", "()I"⟩, 110), (⟨"GroupJournalModel", "follower", "(I)I"⟩, 110), (⟨"GroupJournalModel", "isGreater", "(II)Z"⟩, 110), (⟨"GroupJournalModel", "endsWithoutGround", "()V"⟩, 110), (⟨"GroupJournalModel", "isDamaged", "(I)Z"⟩, 110), (⟨"GroupJournalModel", "zeroes", "(II)I"⟩, 110), (⟨"GroupJournalModel", "keyMany", "()I"⟩, 110), (⟨"GroupJournalModel", "turns", "(I)V"⟩, 110), (⟨"GroupJournalModel", "laysArrived", "()V"⟩, 110), (⟨"GroupJournalModel", "isAsSeen", "(I)Z"⟩, 110), (⟨"GroupJournalModel", "mostAlike", "(I)I"⟩, 110), (⟨"GroupJournalModel", "keeps", "()V"⟩, 110), (⟨"GroupJournalModel", "isRefused", "(I)Z"⟩, 110), (⟨"GroupJournalModel", "drawOf", "(I)I"⟩, 110), (⟨"GroupJournalModel", "qKind", "()I"⟩, 110), (⟨"GroupJournalModel", "qTold", "(I)J"⟩, 110)]
theorem lw_r11 : ∀ q ∈ lw_privs_11, lw_okq q := List.forall_mem_cons.mpr ⟨lw_p160, List.forall_mem_cons.mpr ⟨lw_p161, List.forall_mem_cons.mpr ⟨lw_p162, List.forall_mem_cons.mpr ⟨lw_p163, List.forall_mem_cons.mpr ⟨lw_p164, List.forall_mem_cons.mpr ⟨lw_p165, List.forall_mem_cons.mpr ⟨lw_p166, List.forall_mem_cons.mpr ⟨lw_p167, List.forall_mem_cons.mpr ⟨lw_p168, List.forall_mem_cons.mpr ⟨lw_p169, List.forall_mem_cons.mpr ⟨lw_p170, List.forall_mem_cons.mpr ⟨lw_p171, List.forall_mem_cons.mpr ⟨lw_p172, List.forall_mem_cons.mpr ⟨lw_p173, List.forall_mem_cons.mpr ⟨lw_p174, List.forall_mem_cons.mpr ⟨lw_p175, fun _ h => absurd h List.not_mem_nil⟩⟩⟩⟩⟩⟩⟩⟩⟩⟩⟩⟩⟩⟩⟩⟩
theorem lw_p176 : lw_okq (⟨"GroupJournalModel", "qOf", "(IJI)J"⟩, 110) := ⟨⟨by decide +kernel, by decide +kernel⟩, List.mem_of_getElem? (i := 1470) (by decide +kernel), List.mem_of_getElem? (i := 2411) (by decide +kernel), List.mem_of_getElem? (i := 2412) (by decide +kernel)⟩
theorem lw_p177 : lw_okq (⟨"GroupJournalModel", "qTakes", "(IJI)V"⟩, 110) := ⟨⟨by decide +kernel, by decide +kernel⟩, List.mem_of_getElem? (i := 1470) (by decide +kernel), List.mem_of_getElem? (i := 2415) (by decide +kernel), List.mem_of_getElem? (i := 2416) (by decide +kernel)⟩
theorem lw_p178 : lw_okq (⟨"GroupJournalModel", "writesTwo", "(I)V"⟩, 110) := ⟨⟨by decide +kernel, by decide +kernel⟩, List.mem_of_getElem? (i := 1470) (by decide +kernel), List.mem_of_getElem? (i := 2433) (by decide +kernel), List.mem_of_getElem? (i := 2434) (by decide +kernel)⟩
theorem lw_p179 : lw_okq (⟨"GroupJournalModel", "writes", "(I)V"⟩, 110) := ⟨⟨by decide +kernel, by decide +kernel⟩, List.mem_of_getElem? (i := 1470) (by decide +kernel), List.mem_of_getElem? (i := 2437) (by decide +kernel), List.mem_of_getElem? (i := 2438) (by decide +kernel)⟩
theorem lw_p180 : lw_okq (⟨"GroupJournalModel", "isImage", "(I)Z"⟩, 110) := ⟨⟨by decide +kernel, by decide +kernel⟩, List.mem_of_getElem? (i := 1470) (by decide +kernel), List.mem_of_getElem? (i := 2448) (by decide +kernel), List.mem_of_getElem? (i := 2449) (by decide +kernel)⟩
theorem lw_p181 : lw_okq (⟨"GroupJournalModel", "twoAt", "(I)I"⟩, 110) := ⟨⟨by decide +kernel, by decide +kernel⟩, List.mem_of_getElem? (i := 1470) (by decide +kernel), List.mem_of_getElem? (i := 2452) (by decide +kernel), List.mem_of_getElem? (i := 2453) (by decide +kernel)⟩
def lw_privs_12 : List (MethodName × Nat) := [(⟨"GroupJournalModel", "qOf", "(IJI)J"⟩, 110), (⟨"GroupJournalModel", "qTakes", "(IJI)V"⟩, 110), (⟨"GroupJournalModel", "writesTwo", "(I)V"⟩, 110), (⟨"GroupJournalModel", "writes", "(I)V"⟩, 110), (⟨"GroupJournalModel", "isImage", "(I)Z"⟩, 110), (⟨"GroupJournalModel", "twoAt", "(I)I"⟩, 110)]
theorem lw_r12 : ∀ q ∈ lw_privs_12, lw_okq q := List.forall_mem_cons.mpr ⟨lw_p176, List.forall_mem_cons.mpr ⟨lw_p177, List.forall_mem_cons.mpr ⟨lw_p178, List.forall_mem_cons.mpr ⟨lw_p179, List.forall_mem_cons.mpr ⟨lw_p180, List.forall_mem_cons.mpr ⟨lw_p181, fun _ h => absurd h List.not_mem_nil⟩⟩⟩⟩⟩⟩
def lw_privs : List (MethodName × Nat) := lw_privs_1 ++ (lw_privs_2 ++ (lw_privs_3 ++ (lw_privs_4 ++ (lw_privs_5 ++ (lw_privs_6 ++ (lw_privs_7 ++ (lw_privs_8 ++ (lw_privs_9 ++ (lw_privs_10 ++ (lw_privs_11 ++ (lw_privs_12)))))))))))
def lw_tbl : List Cond := k2_sels lw_privs ++ tables_1
theorem lw_privs_ok : ∀ q ∈ lw_privs, lw_okq q := by
  show ∀ q ∈ lw_privs_1 ++ (lw_privs_2 ++ (lw_privs_3 ++ (lw_privs_4 ++ (lw_privs_5 ++ (lw_privs_6 ++ (lw_privs_7 ++ (lw_privs_8 ++ (lw_privs_9 ++ (lw_privs_10 ++ (lw_privs_11 ++ (lw_privs_12))))))))))), lw_okq q
  exact List.forall_mem_append.mpr ⟨lw_r1, List.forall_mem_append.mpr ⟨lw_r2, List.forall_mem_append.mpr ⟨lw_r3, List.forall_mem_append.mpr ⟨lw_r4, List.forall_mem_append.mpr ⟨lw_r5, List.forall_mem_append.mpr ⟨lw_r6, List.forall_mem_append.mpr ⟨lw_r7, List.forall_mem_append.mpr ⟨lw_r8, List.forall_mem_append.mpr ⟨lw_r9, List.forall_mem_append.mpr ⟨lw_r10, List.forall_mem_append.mpr ⟨lw_r11, lw_r12⟩⟩⟩⟩⟩⟩⟩⟩⟩⟩⟩

theorem jin_r {big : List Cond} (ws : List Cond) (ps : List Nat) (hp : ws = ps.filterMap (fun i => big[i]?)) : ∀ w ∈ ws, w ∈ big := by
  intro w hw
  rw [hp] at hw
  obtain ⟨i, -, hi⟩ := List.mem_filterMap.mp hw
  exact List.mem_of_getElem? hi
def RX0 : String := "GroupJournal$Disk"
def TX0 : u_T := fun k => match k with
  | 0 => ("GroupJournal$Disk", "bytes", "[I", true)
  | 1 => ("GroupJournal$Disk", "scars", "[I", true)
  | 2 => ("GroupJournal$Disk", "segments", "I", false)
  | 3 => ("GroupJournal$Disk", "size", "I", false)
  | _ => ("GroupJournal$Disk", "block", "I", false)
def tyX0 : Nat → FieldType := fun k => match k with
  | 0 => .array .int
  | 1 => .array .int
  | 2 => .int
  | 3 => .int
  | _ => .int
abbrev wsX00 : List Cond := u_ws RX0 TX0 5
theorem nmX0 : ∀ a, a < 5 → ∀ b, b < 5 → a ≠ b → (TX0 a).2.1 ≠ (TX0 b).2.1 := by decide +kernel
theorem tyX0_ok : ∀ k, k < 5 → parseFieldDescriptor (TX0 k).2.2.1 = some (tyX0 k) := by decide +kernel
abbrev cX0_init : ByteArray := prog_2_method_1_code
def yX0_init : MethodName := ⟨RX0, "<init>", "()V"⟩
abbrev cX0_blank : ByteArray := prog_2_method_2_code
def yX0_blank : MethodName := ⟨RX0, "blank", "(LGroupJournal$Plan;)V"⟩
abbrev cX0_copyFrom : ByteArray := prog_2_method_3_code
def yX0_copyFrom : MethodName := ⟨RX0, "copyFrom", "(LGroupJournal$Disk;)V"⟩
abbrev cX0_total : ByteArray := prog_2_method_4_code
def yX0_total : MethodName := ⟨RX0, "total", "()I"⟩
abbrev cX0_holds : ByteArray := prog_2_method_5_code
def yX0_holds : MethodName := ⟨RX0, "holds", "(II)Z"⟩
abbrev cX0_octetAt : ByteArray := prog_2_method_6_code
def yX0_octetAt : MethodName := ⟨RX0, "octetAt", "(II)I"⟩
abbrev cX0_scarCount : ByteArray := prog_2_method_7_code
def yX0_scarCount : MethodName := ⟨RX0, "scarCount", "()I"⟩
abbrev cX0_write : ByteArray := prog_2_method_8_code
def yX0_write : MethodName := ⟨RX0, "write", "(II)V"⟩
abbrev cX0_turn : ByteArray := prog_2_method_9_code
def yX0_turn : MethodName := ⟨RX0, "turn", "(I)V"⟩
abbrev cX0_wipe : ByteArray := prog_2_method_10_code
def yX0_wipe : MethodName := ⟨RX0, "wipe", "(II)I"⟩
abbrev cX0_writeHead : ByteArray := prog_2_method_11_code
def yX0_writeHead : MethodName := ⟨RX0, "writeHead", "(III)V"⟩
abbrev cX0_headStands : ByteArray := prog_2_method_12_code
def yX0_headStands : MethodName := ⟨RX0, "headStands", "(I)Z"⟩
abbrev cX0_serialOf : ByteArray := prog_2_method_13_code
def yX0_serialOf : MethodName := ⟨RX0, "serialOf", "(I)I"⟩
abbrev cX0_firstOf : ByteArray := prog_2_method_14_code
def yX0_firstOf : MethodName := ⟨RX0, "firstOf", "(I)I"⟩
abbrev cX0_greatestSerial : ByteArray := prog_2_method_15_code
def yX0_greatestSerial : MethodName := ⟨RX0, "greatestSerial", "()I"⟩
abbrev cX0_blockEnd : ByteArray := prog_2_method_16_code
def yX0_blockEnd : MethodName := ⟨RX0, "blockEnd", "(I)I"⟩
abbrev cX0_frameStart : ByteArray := prog_2_method_17_code
def yX0_frameStart : MethodName := ⟨RX0, "frameStart", "(I)I"⟩
abbrev cX0_frameLength : ByteArray := prog_2_method_18_code
def yX0_frameLength : MethodName := ⟨RX0, "frameLength", "(II)I"⟩
abbrev cX0_behindRecord : ByteArray := prog_2_method_19_code
def yX0_behindRecord : MethodName := ⟨RX0, "behindRecord", "(II)I"⟩
abbrev cX0_frameStands : ByteArray := prog_2_method_20_code
def yX0_frameStands : MethodName := ⟨RX0, "frameStands", "(III)Z"⟩
def RX1 : String := "GroupJournal$Flight"
def TX1 : u_T := fun k => match k with
  | 0 => ("GroupJournal$Flight", "addresses", "[I", true)
  | 1 => ("GroupJournal$Flight", "octets", "[I", true)
  | 2 => ("GroupJournal$Flight", "count", "I", false)
  | _ => ("GroupJournal$Flight", "ticks", "I", false)
def tyX1 : Nat → FieldType := fun k => match k with
  | 0 => .array .int
  | 1 => .array .int
  | 2 => .int
  | _ => .int
abbrev wsX10 : List Cond := u_ws RX1 TX1 4
theorem nmX1 : ∀ a, a < 4 → ∀ b, b < 4 → a ≠ b → (TX1 a).2.1 ≠ (TX1 b).2.1 := by decide +kernel
theorem tyX1_ok : ∀ k, k < 4 → parseFieldDescriptor (TX1 k).2.2.1 = some (tyX1 k) := by decide +kernel
abbrev cX1_init : ByteArray := prog_3_method_1_code
def yX1_init : MethodName := ⟨RX1, "<init>", "()V"⟩
abbrev cX1_clear : ByteArray := prog_3_method_2_code
def yX1_clear : MethodName := ⟨RX1, "clear", "()V"⟩
abbrev cX1_copyFrom : ByteArray := prog_3_method_3_code
def yX1_copyFrom : MethodName := ⟨RX1, "copyFrom", "(LGroupJournal$Flight;)V"⟩
abbrev cX1_add : ByteArray := prog_3_method_4_code
def yX1_add : MethodName := ⟨RX1, "add", "(II)V"⟩
abbrev cX1_arrive : ByteArray := prog_3_method_5_code
def yX1_arrive : MethodName := ⟨RX1, "arrive", "(LGroupJournal$Disk;II)V"⟩
def RX2 : String := "GroupJournal$Formula"
def TX2 : u_T := fun k => match k with
  | 0 => ("GroupJournal$Formula", "code", "[I", true)
  | 1 => ("GroupJournal$Formula", "length", "I", false)
  | 2 => ("GroupJournal$Formula", "facts", "[I", true)
  | 3 => ("GroupJournal$Formula", "stack", "[I", true)
  | _ => ("GroupJournal$Formula", "depth", "I", false)
def tyX2 : Nat → FieldType := fun k => match k with
  | 0 => .array .int
  | 1 => .int
  | 2 => .array .int
  | 3 => .array .int
  | _ => .int
abbrev wsX20 : List Cond := u_ws RX2 TX2 5
theorem nmX2 : ∀ a, a < 5 → ∀ b, b < 5 → a ≠ b → (TX2 a).2.1 ≠ (TX2 b).2.1 := by decide +kernel
theorem tyX2_ok : ∀ k, k < 5 → parseFieldDescriptor (TX2 k).2.2.1 = some (tyX2 k) := by decide +kernel
abbrev cX2_init : ByteArray := prog_4_method_1_code
def yX2_init : MethodName := ⟨RX2, "<init>", "()V"⟩
abbrev cX2_become : ByteArray := prog_4_method_2_code
def yX2_become : MethodName := ⟨RX2, "become", "([I)V"⟩
abbrev cX2_clear : ByteArray := prog_4_method_3_code
def yX2_clear : MethodName := ⟨RX2, "clear", "()V"⟩
abbrev cX2_emit : ByteArray := prog_4_method_4_code
def yX2_emit : MethodName := ⟨RX2, "emit", "(I)V"⟩
abbrev cX2_clearFacts : ByteArray := prog_4_method_5_code
def yX2_clearFacts : MethodName := ⟨RX2, "clearFacts", "()V"⟩
abbrev cX2_tell : ByteArray := prog_4_method_6_code
def yX2_tell : MethodName := ⟨RX2, "tell", "(II)V"⟩
abbrev cX2_evaluate : ByteArray := prog_4_method_7_code
def yX2_evaluate : MethodName := ⟨RX2, "evaluate", "()I"⟩
abbrev cX2_push : ByteArray := prog_4_method_8_code
def yX2_push : MethodName := ⟨RX2, "push", "(I)V"⟩
abbrev cX2_pop : ByteArray := prog_4_method_9_code
def yX2_pop : MethodName := ⟨RX2, "pop", "()I"⟩
abbrev cX2_ofOne : ByteArray := prog_4_method_10_code
def yX2_ofOne : MethodName := ⟨RX2, "ofOne", "(II)I"⟩
abbrev cX2_ofTwo : ByteArray := prog_4_method_11_code
def yX2_ofTwo : MethodName := ⟨RX2, "ofTwo", "(III)I"⟩
abbrev cX2_held : ByteArray := prog_4_method_12_code
def yX2_held : MethodName := ⟨RX2, "held", "(J)I"⟩
def RX3 : String := "GroupJournal$FrameReader"
def TX3 : u_T := fun k => match k with
  | 0 => ("GroupJournal$FrameReader", "begin", "I", false)
  | 1 => ("GroupJournal$FrameReader", "kind", "I", false)
  | 2 => ("GroupJournal$FrameReader", "length", "I", false)
  | 3 => ("GroupJournal$FrameReader", "at", "I", false)
  | 4 => ("GroupJournal$FrameReader", "key", "I", false)
  | 5 => ("GroupJournal$FrameReader", "value", "I", false)
  | 6 => ("GroupJournal$FrameReader", "segment", "I", false)
  | 7 => ("GroupJournal$FrameReader", "serial", "I", false)
  | 8 => ("GroupJournal$FrameReader", "payload", "I", false)
  | _ => ("GroupJournal$FrameReader", "inside", "Z", false)
def tyX3 : Nat → FieldType := fun k => match k with
  | 0 => .int
  | 1 => .int
  | 2 => .int
  | 3 => .int
  | 4 => .int
  | 5 => .int
  | 6 => .int
  | 7 => .int
  | 8 => .int
  | _ => .boolean
abbrev wsX30 : List Cond := u_ws RX3 TX3 10
theorem nmX3 : ∀ a, a < 10 → ∀ b, b < 10 → a ≠ b → (TX3 a).2.1 ≠ (TX3 b).2.1 := by decide +kernel
theorem tyX3_ok : ∀ k, k < 10 → parseFieldDescriptor (TX3 k).2.2.1 = some (tyX3 k) := by decide +kernel
abbrev cX3_init : ByteArray := prog_5_method_1_code
def yX3_init : MethodName := ⟨RX3, "<init>", "()V"⟩
abbrev cX3_open : ByteArray := prog_5_method_2_code
def yX3_open : MethodName := ⟨RX3, "open", "(LGroupJournal$Disk;I)V"⟩
abbrev cX3_advance : ByteArray := prog_5_method_3_code
def yX3_advance : MethodName := ⟨RX3, "advance", "(LGroupJournal$Disk;)Z"⟩
abbrev cX3_isLast : ByteArray := prog_5_method_4_code
def yX3_isLast : MethodName := ⟨RX3, "isLast", "()Z"⟩
abbrev cX3_frameCount : ByteArray := prog_5_method_5_code
def yX3_frameCount : MethodName := ⟨RX3, "frameCount", "(LGroupJournal$Disk;I)I"⟩
abbrev cX3_anyBehind : ByteArray := prog_5_method_6_code
def yX3_anyBehind : MethodName := ⟨RX3, "anyBehind", "(LGroupJournal$Disk;)Z"⟩
abbrev cX3_canBe : ByteArray := prog_5_method_7_code
def yX3_canBe : MethodName := ⟨RX3, "canBe", "(I)Z"⟩
abbrev cX3_takeOctet : ByteArray := prog_5_method_8_code
def yX3_takeOctet : MethodName := ⟨RX3, "takeOctet", "(II)V"⟩
abbrev cX3_recordStands : ByteArray := prog_5_method_9_code
def yX3_recordStands : MethodName := ⟨RX3, "recordStands", "(I)Z"⟩
def RX4 : String := "GroupJournal$Parser"
def TX4 : u_T := fun k => match k with
  | 0 => ("GroupJournal$Parser", "draft", "LGroupJournal$Plan;", false)
  | 1 => ("GroupJournal$Parser", "question", "LGroupJournal$Formula;", true)
  | 2 => ("GroupJournal$Parser", "asked", "I", false)
  | 3 => ("GroupJournal$Parser", "fault", "I", false)
  | 4 => ("GroupJournal$Parser", "faultAt", "I", false)
  | 5 => ("GroupJournal$Parser", "text", "[I", false)
  | 6 => ("GroupJournal$Parser", "length", "I", false)
  | 7 => ("GroupJournal$Parser", "at", "I", false)
  | 8 => ("GroupJournal$Parser", "glued", "I", false)
  | 9 => ("GroupJournal$Parser", "formula", "LGroupJournal$Formula;", false)
  | 10 => ("GroupJournal$Parser", "mode", "I", false)
  | _ => ("GroupJournal$Parser", "open", "I", false)
def tyX4 : Nat → FieldType := fun k => match k with
  | 0 => .object "GroupJournal$Plan"
  | 1 => .object "GroupJournal$Formula"
  | 2 => .int
  | 3 => .int
  | 4 => .int
  | 5 => .array .int
  | 6 => .int
  | 7 => .int
  | 8 => .int
  | 9 => .object "GroupJournal$Formula"
  | 10 => .int
  | _ => .int
abbrev wsX40 : List Cond := u_ws RX4 TX4 12
theorem nmX4 : ∀ a, a < 12 → ∀ b, b < 12 → a ≠ b → (TX4 a).2.1 ≠ (TX4 b).2.1 := by decide +kernel
theorem tyX4_ok : ∀ k, k < 12 → parseFieldDescriptor (TX4 k).2.2.1 = some (tyX4 k) := by decide +kernel
abbrev cX4_init : ByteArray := prog_6_method_1_code
def yX4_init : MethodName := ⟨RX4, "<init>", "()V"⟩
abbrev cX4_readJournal : ByteArray := prog_6_method_2_code
def yX4_readJournal : MethodName := ⟨RX4, "readJournal", "([II)Z"⟩
abbrev cX4_readQuestion : ByteArray := prog_6_method_3_code
def yX4_readQuestion : MethodName := ⟨RX4, "readQuestion", "([II)Z"⟩
abbrev cX4_begin : ByteArray := prog_6_method_4_code
def yX4_begin : MethodName := ⟨RX4, "begin", "([II)V"⟩
abbrev cX4_fail : ByteArray := prog_6_method_5_code
def yX4_fail : MethodName := ⟨RX4, "fail", "(II)Z"⟩
abbrev cX4_peek : ByteArray := prog_6_method_6_code
def yX4_peek : MethodName := ⟨RX4, "peek", "()I"⟩
abbrev cX4_octetAt : ByteArray := prog_6_method_7_code
def yX4_octetAt : MethodName := ⟨RX4, "octetAt", "(I)I"⟩
abbrev cX4_sign : ByteArray := prog_6_method_8_code
def yX4_sign : MethodName := ⟨RX4, "sign", "(C)Z"⟩
abbrev cX4_expect : ByteArray := prog_6_method_9_code
def yX4_expect : MethodName := ⟨RX4, "expect", "(C)Z"⟩
abbrev cX4_isDigit : ByteArray := prog_6_method_10_code
def yX4_isDigit : MethodName := ⟨RX4, "isDigit", "(I)Z"⟩
abbrev cX4_word : ByteArray := prog_6_method_11_code
def yX4_word : MethodName := ⟨RX4, "word", "(Ljava/lang/String;)Z"⟩
abbrev cX4_expectWord : ByteArray := prog_6_method_12_code
def yX4_expectWord : MethodName := ⟨RX4, "expectWord", "(Ljava/lang/String;)Z"⟩
abbrev cX4_number : ByteArray := prog_6_method_13_code
def yX4_number : MethodName := ⟨RX4, "number", "(II)I"⟩
abbrev cX4_shape : ByteArray := prog_6_method_14_code
def yX4_shape : MethodName := ⟨RX4, "shape", "()Z"⟩
abbrev cX4_statement : ByteArray := prog_6_method_15_code
def yX4_statement : MethodName := ⟨RX4, "statement", "()Z"⟩
abbrev cX4_record : ByteArray := prog_6_method_16_code
def yX4_record : MethodName := ⟨RX4, "record", "()Z"⟩
abbrev cX4_command : ByteArray := prog_6_method_17_code
def yX4_command : MethodName := ⟨RX4, "command", "()I"⟩
abbrev cX4_aim : ByteArray := prog_6_method_18_code
def yX4_aim : MethodName := ⟨RX4, "aim", "(LGroupJournal$Formula;I)V"⟩
abbrev cX4_opens : ByteArray := prog_6_method_19_code
def yX4_opens : MethodName := ⟨RX4, "opens", "(I)Z"⟩
abbrev cX4_ends : ByteArray := prog_6_method_20_code
def yX4_ends : MethodName := ⟨RX4, "ends", "()Z"⟩
abbrev cX4_test : ByteArray := prog_6_method_21_code
def yX4_test : MethodName := ⟨RX4, "test", "()Z"⟩
abbrev cX4_both : ByteArray := prog_6_method_22_code
def yX4_both : MethodName := ⟨RX4, "both", "()Z"⟩
abbrev cX4_fact : ByteArray := prog_6_method_23_code
def yX4_fact : MethodName := ⟨RX4, "fact", "()Z"⟩
abbrev cX4_negation : ByteArray := prog_6_method_24_code
def yX4_negation : MethodName := ⟨RX4, "negation", "(I)Z"⟩
abbrev cX4_sum : ByteArray := prog_6_method_25_code
def yX4_sum : MethodName := ⟨RX4, "sum", "()Z"⟩
abbrev cX4_product : ByteArray := prog_6_method_26_code
def yX4_product : MethodName := ⟨RX4, "product", "()Z"⟩
abbrev cX4_part : ByteArray := prog_6_method_27_code
def yX4_part : MethodName := ⟨RX4, "part", "()Z"⟩
abbrev cX4_ofPair : ByteArray := prog_6_method_28_code
def yX4_ofPair : MethodName := ⟨RX4, "ofPair", "(I)Z"⟩
abbrev cX4_ofPart : ByteArray := prog_6_method_29_code
def yX4_ofPart : MethodName := ⟨RX4, "ofPart", "(II)Z"⟩
abbrev cX4_factNamed : ByteArray := prog_6_method_30_code
def yX4_factNamed : MethodName := ⟨RX4, "factNamed", "()I"⟩
def RX5 : String := "GroupJournal$Pen"
def TX5 : u_T := fun k => match k with
  | 0 => ("GroupJournal$Pen", "segment", "I", false)
  | 1 => ("GroupJournal$Pen", "at", "I", false)
  | 2 => ("GroupJournal$Pen", "serial", "I", false)
  | 3 => ("GroupJournal$Pen", "greatest", "I", false)
  | _ => ("GroupJournal$Pen", "visited", "I", false)
def tyX5 : Nat → FieldType := fun k => match k with
  | 0 => .int
  | 1 => .int
  | 2 => .int
  | 3 => .int
  | _ => .int
abbrev wsX50 : List Cond := u_ws RX5 TX5 5
theorem nmX5 : ∀ a, a < 5 → ∀ b, b < 5 → a ≠ b → (TX5 a).2.1 ≠ (TX5 b).2.1 := by decide +kernel
theorem tyX5_ok : ∀ k, k < 5 → parseFieldDescriptor (TX5 k).2.2.1 = some (tyX5 k) := by decide +kernel
abbrev cX5_init : ByteArray := prog_7_method_1_code
def yX5_init : MethodName := ⟨RX5, "<init>", "()V"⟩
abbrev cX5_start : ByteArray := prog_7_method_2_code
def yX5_start : MethodName := ⟨RX5, "start", "(LGroupJournal$State;)V"⟩
abbrev cX5_roomFor : ByteArray := prog_7_method_3_code
def yX5_roomFor : MethodName := ⟨RX5, "roomFor", "(LGroupJournal$State;I)I"⟩
abbrev cX5_hasRoom : ByteArray := prog_7_method_4_code
def yX5_hasRoom : MethodName := ⟨RX5, "hasRoom", "(LGroupJournal$State;I)Z"⟩
abbrev cX5_lay : ByteArray := prog_7_method_5_code
def yX5_lay : MethodName := ⟨RX5, "lay", "(LGroupJournal$State;I)V"⟩
abbrev cX5_goesTo : ByteArray := prog_7_method_6_code
def yX5_goesTo : MethodName := ⟨RX5, "goesTo", "(LGroupJournal$State;I)Z"⟩
abbrev cX5_freeSegment : ByteArray := prog_7_method_7_code
def yX5_freeSegment : MethodName := ⟨RX5, "freeSegment", "(LGroupJournal$State;)I"⟩
abbrev cX5_writeHead : ByteArray := prog_7_method_8_code
def yX5_writeHead : MethodName := ⟨RX5, "writeHead", "(LGroupJournal$State;I)V"⟩
abbrev cX5_writeRecord : ByteArray := prog_7_method_9_code
def yX5_writeRecord : MethodName := ⟨RX5, "writeRecord", "(LGroupJournal$State;I)V"⟩
abbrev cX5_writeFrame : ByteArray := prog_7_method_10_code
def yX5_writeFrame : MethodName := ⟨RX5, "writeFrame", "(LGroupJournal$State;IIII)V"⟩
def RX6 : String := "GroupJournal$Plan"
def TX6 : u_T := fun k => match k with
  | 0 => ("GroupJournal$Plan", "segments", "I", false)
  | 1 => ("GroupJournal$Plan", "blocks", "I", false)
  | 2 => ("GroupJournal$Plan", "bytes", "I", false)
  | 3 => ("GroupJournal$Plan", "noise", "I", false)
  | 4 => ("GroupJournal$Plan", "statements", "I", false)
  | 5 => ("GroupJournal$Plan", "hasCloses", "Z", false)
  | 6 => ("GroupJournal$Plan", "hasTakes", "Z", false)
  | 7 => ("GroupJournal$Plan", "closes", "LGroupJournal$Formula;", true)
  | 8 => ("GroupJournal$Plan", "takes", "LGroupJournal$Formula;", true)
  | 9 => ("GroupJournal$Plan", "putKeys", "[I", true)
  | 10 => ("GroupJournal$Plan", "putValues", "[I", true)
  | 11 => ("GroupJournal$Plan", "putSizes", "[I", true)
  | _ => ("GroupJournal$Plan", "puts", "I", false)
def tyX6 : Nat → FieldType := fun k => match k with
  | 0 => .int
  | 1 => .int
  | 2 => .int
  | 3 => .int
  | 4 => .int
  | 5 => .boolean
  | 6 => .boolean
  | 7 => .object "GroupJournal$Formula"
  | 8 => .object "GroupJournal$Formula"
  | 9 => .array .int
  | 10 => .array .int
  | 11 => .array .int
  | _ => .int
abbrev wsX60 : List Cond := u_ws RX6 TX6 13
theorem nmX6 : ∀ a, a < 13 → ∀ b, b < 13 → a ≠ b → (TX6 a).2.1 ≠ (TX6 b).2.1 := by decide +kernel
theorem tyX6_ok : ∀ k, k < 13 → parseFieldDescriptor (TX6 k).2.2.1 = some (tyX6 k) := by decide +kernel
abbrev cX6_init : ByteArray := prog_8_method_1_code
def yX6_init : MethodName := ⟨RX6, "<init>", "()V"⟩
abbrev cX6_clear : ByteArray := prog_8_method_2_code
def yX6_clear : MethodName := ⟨RX6, "clear", "()V"⟩
abbrev cX6_addPut : ByteArray := prog_8_method_3_code
def yX6_addPut : MethodName := ⟨RX6, "addPut", "(III)V"⟩
def RX7 : String := "GroupJournal$Queue"
def TX7 : u_T := fun k => match k with
  | 0 => ("GroupJournal$Queue", "keys", "[I", true)
  | 1 => ("GroupJournal$Queue", "values", "[I", true)
  | 2 => ("GroupJournal$Queue", "sizes", "[I", true)
  | 3 => ("GroupJournal$Queue", "born", "[I", true)
  | 4 => ("GroupJournal$Queue", "first", "I", false)
  | 5 => ("GroupJournal$Queue", "flying", "I", false)
  | _ => ("GroupJournal$Queue", "count", "I", false)
def tyX7 : Nat → FieldType := fun k => match k with
  | 0 => .array .int
  | 1 => .array .int
  | 2 => .array .int
  | 3 => .array .int
  | 4 => .int
  | 5 => .int
  | _ => .int
abbrev wsX70 : List Cond := u_ws RX7 TX7 7
theorem nmX7 : ∀ a, a < 7 → ∀ b, b < 7 → a ≠ b → (TX7 a).2.1 ≠ (TX7 b).2.1 := by decide +kernel
theorem tyX7_ok : ∀ k, k < 7 → parseFieldDescriptor (TX7 k).2.2.1 = some (tyX7 k) := by decide +kernel
abbrev cX7_init : ByteArray := prog_9_method_1_code
def yX7_init : MethodName := ⟨RX7, "<init>", "()V"⟩
abbrev cX7_clear : ByteArray := prog_9_method_2_code
def yX7_clear : MethodName := ⟨RX7, "clear", "(I)V"⟩
abbrev cX7_copyFrom : ByteArray := prog_9_method_3_code
def yX7_copyFrom : MethodName := ⟨RX7, "copyFrom", "(LGroupJournal$Queue;)V"⟩
abbrev cX7_behindLast : ByteArray := prog_9_method_4_code
def yX7_behindLast : MethodName := ⟨RX7, "behindLast", "()I"⟩
abbrev cX7_waitingCount : ByteArray := prog_9_method_5_code
def yX7_waitingCount : MethodName := ⟨RX7, "waitingCount", "()I"⟩
abbrev cX7_add : ByteArray := prog_9_method_6_code
def yX7_add : MethodName := ⟨RX7, "add", "(IIII)V"⟩
abbrev cX7_payloadAt : ByteArray := prog_9_method_7_code
def yX7_payloadAt : MethodName := ⟨RX7, "payloadAt", "(I)I"⟩
abbrev cX7_payloadOf : ByteArray := prog_9_method_8_code
def yX7_payloadOf : MethodName := ⟨RX7, "payloadOf", "(I)I"⟩
abbrev cX7_firstBorn : ByteArray := prog_9_method_9_code
def yX7_firstBorn : MethodName := ⟨RX7, "firstBorn", "()I"⟩
abbrev cX7_latestOf : ByteArray := prog_9_method_10_code
def yX7_latestOf : MethodName := ⟨RX7, "latestOf", "(I)I"⟩
abbrev cX7_drop : ByteArray := prog_9_method_11_code
def yX7_drop : MethodName := ⟨RX7, "drop", "()V"⟩
def RX8 : String := "GroupJournal$Recovery"
def TX8 : u_T := fun k => match k with
  | 0 => ("GroupJournal$Recovery", "reader", "LGroupJournal$FrameReader;", true)
  | 1 => ("GroupJournal$Recovery", "table", "[I", true)
  | 2 => ("GroupJournal$Recovery", "tops", "[I", true)
  | 3 => ("GroupJournal$Recovery", "next", "I", false)
  | 4 => ("GroupJournal$Recovery", "segment", "I", false)
  | 5 => ("GroupJournal$Recovery", "at", "I", false)
  | 6 => ("GroupJournal$Recovery", "serial", "I", false)
  | _ => ("GroupJournal$Recovery", "damaged", "Z", false)
def tyX8 : Nat → FieldType := fun k => match k with
  | 0 => .object "GroupJournal$FrameReader"
  | 1 => .array .int
  | 2 => .array .int
  | 3 => .int
  | 4 => .int
  | 5 => .int
  | 6 => .int
  | _ => .boolean
abbrev wsX80 : List Cond := u_ws RX8 TX8 8
theorem nmX8 : ∀ a, a < 8 → ∀ b, b < 8 → a ≠ b → (TX8 a).2.1 ≠ (TX8 b).2.1 := by decide +kernel
theorem tyX8_ok : ∀ k, k < 8 → parseFieldDescriptor (TX8 k).2.2.1 = some (tyX8 k) := by decide +kernel
abbrev cX8_init : ByteArray := prog_10_method_1_code
def yX8_init : MethodName := ⟨RX8, "<init>", "()V"⟩
abbrev cX8_read : ByteArray := prog_10_method_2_code
def yX8_read : MethodName := ⟨RX8, "read", "(LGroupJournal$Disk;I[I)V"⟩
abbrev cX8_valueCount : ByteArray := prog_10_method_3_code
def yX8_valueCount : MethodName := ⟨RX8, "valueCount", "()I"⟩
abbrev cX8_beginning : ByteArray := prog_10_method_4_code
def yX8_beginning : MethodName := ⟨RX8, "beginning", "(LGroupJournal$Disk;I)I"⟩
abbrev cX8_following : ByteArray := prog_10_method_5_code
def yX8_following : MethodName := ⟨RX8, "following", "(LGroupJournal$Disk;)I"⟩
abbrev cX8_readSegment : ByteArray := prog_10_method_6_code
def yX8_readSegment : MethodName := ⟨RX8, "readSegment", "(LGroupJournal$Disk;II)V"⟩
abbrev cX8_withoutGround : ByteArray := prog_10_method_7_code
def yX8_withoutGround : MethodName := ⟨RX8, "withoutGround", "(I)V"⟩
def RX9 : String := "GroupJournal$State"
def TX9 : u_T := fun k => match k with
  | 0 => ("GroupJournal$State", "plan", "LGroupJournal$Plan;", false)
  | 1 => ("GroupJournal$State", "disk", "LGroupJournal$Disk;", true)
  | 2 => ("GroupJournal$State", "flight", "LGroupJournal$Flight;", true)
  | 3 => ("GroupJournal$State", "queue", "LGroupJournal$Queue;", true)
  | 4 => ("GroupJournal$State", "waiters", "LGroupJournal$Waiters;", true)
  | 5 => ("GroupJournal$State", "table", "[I", true)
  | 6 => ("GroupJournal$State", "snapTable", "[I", true)
  | 7 => ("GroupJournal$State", "snapNumber", "I", false)
  | 8 => ("GroupJournal$State", "tops", "[I", true)
  | 9 => ("GroupJournal$State", "tick", "I", false)
  | 10 => ("GroupJournal$State", "placeSegment", "I", false)
  | 11 => ("GroupJournal$State", "placeAt", "I", false)
  | 12 => ("GroupJournal$State", "placeSerial", "I", false)
  | 13 => ("GroupJournal$State", "greatest", "I", false)
  | _ => ("GroupJournal$State", "halted", "Z", false)
def tyX9 : Nat → FieldType := fun k => match k with
  | 0 => .object "GroupJournal$Plan"
  | 1 => .object "GroupJournal$Disk"
  | 2 => .object "GroupJournal$Flight"
  | 3 => .object "GroupJournal$Queue"
  | 4 => .object "GroupJournal$Waiters"
  | 5 => .array .int
  | 6 => .array .int
  | 7 => .int
  | 8 => .array .int
  | 9 => .int
  | 10 => .int
  | 11 => .int
  | 12 => .int
  | 13 => .int
  | _ => .boolean
abbrev wsX90 : List Cond := u_ws RX9 TX9 15
theorem nmX9 : ∀ a, a < 15 → ∀ b, b < 15 → a ≠ b → (TX9 a).2.1 ≠ (TX9 b).2.1 := by decide +kernel
theorem tyX9_ok : ∀ k, k < 15 → parseFieldDescriptor (TX9 k).2.2.1 = some (tyX9 k) := by decide +kernel
abbrev cX9_init : ByteArray := prog_11_method_1_code
def yX9_init : MethodName := ⟨RX9, "<init>", "(LGroupJournal$Plan;)V"⟩
abbrev cX9_blank : ByteArray := prog_11_method_2_code
def yX9_blank : MethodName := ⟨RX9, "blank", "(LGroupJournal$Plan;)V"⟩
abbrev cX9_copyFrom : ByteArray := prog_11_method_3_code
def yX9_copyFrom : MethodName := ⟨RX9, "copyFrom", "(LGroupJournal$State;)V"⟩
abbrev cX9_movePlace : ByteArray := prog_11_method_4_code
def yX9_movePlace : MethodName := ⟨RX9, "movePlace", "(IIII)V"⟩
abbrev cX9_openAtOnce : ByteArray := prog_11_method_5_code
def yX9_openAtOnce : MethodName := ⟨RX9, "openAtOnce", "(I)V"⟩
abbrev cX9_isFree : ByteArray := prog_11_method_6_code
def yX9_isFree : MethodName := ⟨RX9, "isFree", "(I)Z"⟩
abbrev cX9_takesRecord : ByteArray := prog_11_method_7_code
def yX9_takesRecord : MethodName := ⟨RX9, "takesRecord", "(III)Z"⟩
abbrev cX9_passTick : ByteArray := prog_11_method_8_code
def yX9_passTick : MethodName := ⟨RX9, "passTick", "(LGroupJournal$Pen;I)I"⟩
abbrev cX9_acknowledge : ByteArray := prog_11_method_9_code
def yX9_acknowledge : MethodName := ⟨RX9, "acknowledge", "()I"⟩
abbrev cX9_tellGroup : ByteArray := prog_11_method_10_code
def yX9_tellGroup : MethodName := ⟨RX9, "tellGroup", "(LGroupJournal$Formula;I)V"⟩
abbrev cX9_testHolds : ByteArray := prog_11_method_11_code
def yX9_testHolds : MethodName := ⟨RX9, "testHolds", "()Z"⟩
abbrev cX9_close : ByteArray := prog_11_method_12_code
def yX9_close : MethodName := ⟨RX9, "close", "(LGroupJournal$Pen;I)V"⟩
abbrev cX9_takeSnap : ByteArray := prog_11_method_13_code
def yX9_takeSnap : MethodName := ⟨RX9, "takeSnap", "()V"⟩
abbrev cX9_crashBy : ByteArray := prog_11_method_14_code
def yX9_crashBy : MethodName := ⟨RX9, "crashBy", "(ILGroupJournal$Recovery;)V"⟩
abbrev cX9_recover : ByteArray := prog_11_method_15_code
def yX9_recover : MethodName := ⟨RX9, "recover", "(LGroupJournal$Recovery;)V"⟩
abbrev cX9_giveUpRest : ByteArray := prog_11_method_16_code
def yX9_giveUpRest : MethodName := ⟨RX9, "giveUpRest", "()I"⟩
def RX10 : String := "GroupJournal$Waiters"
def TX10 : u_T := fun k => match k with
  | 0 => ("GroupJournal$Waiters", "who", "[I", true)
  | 1 => ("GroupJournal$Waiters", "numbers", "[I", true)
  | 2 => ("GroupJournal$Waiters", "count", "I", false)
  | 3 => ("GroupJournal$Waiters", "keptTick", "[I", true)
  | 4 => ("GroupJournal$Waiters", "keptWho", "[I", true)
  | 5 => ("GroupJournal$Waiters", "keptNumber", "[I", true)
  | _ => ("GroupJournal$Waiters", "keptTotal", "I", false)
def tyX10 : Nat → FieldType := fun k => match k with
  | 0 => .array .int
  | 1 => .array .int
  | 2 => .int
  | 3 => .array .int
  | 4 => .array .int
  | 5 => .array .int
  | _ => .int
abbrev wsX100 : List Cond := u_ws RX10 TX10 7
theorem nmX10 : ∀ a, a < 7 → ∀ b, b < 7 → a ≠ b → (TX10 a).2.1 ≠ (TX10 b).2.1 := by decide +kernel
theorem tyX10_ok : ∀ k, k < 7 → parseFieldDescriptor (TX10 k).2.2.1 = some (tyX10 k) := by decide +kernel
abbrev cX10_init : ByteArray := prog_12_method_1_code
def yX10_init : MethodName := ⟨RX10, "<init>", "()V"⟩
abbrev cX10_clear : ByteArray := prog_12_method_2_code
def yX10_clear : MethodName := ⟨RX10, "clear", "()V"⟩
abbrev cX10_clearKept : ByteArray := prog_12_method_3_code
def yX10_clearKept : MethodName := ⟨RX10, "clearKept", "()V"⟩
abbrev cX10_copyFrom : ByteArray := prog_12_method_4_code
def yX10_copyFrom : MethodName := ⟨RX10, "copyFrom", "(LGroupJournal$Waiters;)V"⟩
abbrev cX10_add : ByteArray := prog_12_method_5_code
def yX10_add : MethodName := ⟨RX10, "add", "(II)V"⟩
abbrev cX10_awaitedBy : ByteArray := prog_12_method_6_code
def yX10_awaitedBy : MethodName := ⟨RX10, "awaitedBy", "(I)I"⟩
abbrev cX10_release : ByteArray := prog_12_method_7_code
def yX10_release : MethodName := ⟨RX10, "release", "(II)I"⟩
abbrev cX10_keep : ByteArray := prog_12_method_8_code
def yX10_keep : MethodName := ⟨RX10, "keep", "(III)V"⟩
abbrev cX10_told : ByteArray := prog_12_method_9_code
def yX10_told : MethodName := ⟨RX10, "told", "()I"⟩
abbrev cX10_keptAt : ByteArray := prog_12_method_10_code
def yX10_keptAt : MethodName := ⟨RX10, "keptAt", "(II)I"⟩
def RX11 : String := "GroupJournal"
def TX11 : u_T := fun k => match k with
  | 0 => ("GroupJournal", "tape", "[I", true)
  | 1 => ("GroupJournal", "tapeLength", "I", false)
  | 2 => ("GroupJournal", "image", "[I", true)
  | 3 => ("GroupJournal", "imageLength", "I", false)
  | 4 => ("GroupJournal", "refused", "[I", true)
  | 5 => ("GroupJournal", "drawn", "J", false)
  | 6 => ("GroupJournal", "seen", "[I", true)
  | 7 => ("GroupJournal", "seenRows", "I", false)
  | 8 => ("GroupJournal", "plan", "LGroupJournal$Plan;", false)
  | 9 => ("GroupJournal", "parser", "LGroupJournal$Parser;", true)
  | 10 => ("GroupJournal", "now", "LGroupJournal$State;", true)
  | 11 => ("GroupJournal", "ahead", "LGroupJournal$State;", true)
  | 12 => ("GroupJournal", "past", "[LGroupJournal$State;", true)
  | 13 => ("GroupJournal", "pastCount", "I", false)
  | 14 => ("GroupJournal", "pastNext", "I", false)
  | 15 => ("GroupJournal", "pen", "LGroupJournal$Pen;", true)
  | 16 => ("GroupJournal", "recovery", "LGroupJournal$Recovery;", true)
  | 17 => ("GroupJournal", "arrivals", "[I", true)
  | 18 => ("GroupJournal", "arrivalCount", "I", false)
  | _ => ("GroupJournal", "tally", "[I", true)
def tyX11 : Nat → FieldType := fun k => match k with
  | 0 => .array .int
  | 1 => .int
  | 2 => .array .int
  | 3 => .int
  | 4 => .array .int
  | 5 => .long
  | 6 => .array .int
  | 7 => .int
  | 8 => .object "GroupJournal$Plan"
  | 9 => .object "GroupJournal$Parser"
  | 10 => .object "GroupJournal$State"
  | 11 => .object "GroupJournal$State"
  | 12 => .array (.object "GroupJournal$State")
  | 13 => .int
  | 14 => .int
  | 15 => .object "GroupJournal$Pen"
  | 16 => .object "GroupJournal$Recovery"
  | 17 => .array .int
  | 18 => .int
  | _ => .array .int
abbrev wsX110 : List Cond := u_ws RX11 TX11 20
theorem nmX11 : ∀ a, a < 20 → ∀ b, b < 20 → a ≠ b → (TX11 a).2.1 ≠ (TX11 b).2.1 := by decide +kernel
theorem tyX11_ok : ∀ k, k < 20 → parseFieldDescriptor (TX11 k).2.2.1 = some (tyX11 k) := by decide +kernel
abbrev cX11_init : ByteArray := prog_1_method_1_code
def yX11_init : MethodName := ⟨RX11, "<init>", "()V"⟩
abbrev cX11_feed : ByteArray := prog_1_method_2_code
def yX11_feed : MethodName := ⟨RX11, "feed", "(IIIII)I"⟩
abbrev cX11_end : ByteArray := prog_1_method_3_code
def yX11_end : MethodName := ⟨RX11, "end", "(I)Z"⟩
abbrev cX11_journal : ByteArray := prog_1_method_4_code
def yX11_journal : MethodName := ⟨RX11, "journal", "()I"⟩
abbrev cX11_fault : ByteArray := prog_1_method_5_code
def yX11_fault : MethodName := ⟨RX11, "fault", "(I)I"⟩
abbrev cX11_has : ByteArray := prog_1_method_6_code
def yX11_has : MethodName := ⟨RX11, "has", "(I)I"⟩
abbrev cX11_segment : ByteArray := prog_1_method_7_code
def yX11_segment : MethodName := ⟨RX11, "segment", "(II)I"⟩
abbrev cX11_frame : ByteArray := prog_1_method_8_code
def yX11_frame : MethodName := ⟨RX11, "frame", "(III)I"⟩
abbrev cX11_octetOf : ByteArray := prog_1_method_9_code
def yX11_octetOf : MethodName := ⟨RX11, "octetOf", "(II)I"⟩
abbrev cX11_place : ByteArray := prog_1_method_10_code
def yX11_place : MethodName := ⟨RX11, "place", "(I)I"⟩
abbrev cX11_value : ByteArray := prog_1_method_11_code
def yX11_value : MethodName := ⟨RX11, "value", "(I)I"⟩
abbrev cX11_soon : ByteArray := prog_1_method_12_code
def yX11_soon : MethodName := ⟨RX11, "soon", "(I)I"⟩
abbrev cX11_waiting : ByteArray := prog_1_method_13_code
def yX11_waiting : MethodName := ⟨RX11, "waiting", "(II)I"⟩
abbrev cX11_waiter : ByteArray := prog_1_method_14_code
def yX11_waiter : MethodName := ⟨RX11, "waiter", "(I)I"⟩
abbrev cX11_kept : ByteArray := prog_1_method_15_code
def yX11_kept : MethodName := ⟨RX11, "kept", "(II)I"⟩
abbrev cX11_later : ByteArray := prog_1_method_16_code
def yX11_later : MethodName := ⟨RX11, "later", "(II)I"⟩
abbrev cX11_when : ByteArray := prog_1_method_17_code
def yX11_when : MethodName := ⟨RX11, "when", "(I)I"⟩
abbrev cX11_rule : ByteArray := prog_1_method_18_code
def yX11_rule : MethodName := ⟨RX11, "rule", "(II)I"⟩
abbrev cX11_best : ByteArray := prog_1_method_19_code
def yX11_best : MethodName := ⟨RX11, "best", "(I)I"⟩
abbrev cX11_room : ByteArray := prog_1_method_20_code
def yX11_room : MethodName := ⟨RX11, "room", "(I)I"⟩
abbrev cX11_recovers : ByteArray := prog_1_method_21_code
def yX11_recovers : MethodName := ⟨RX11, "recovers", "(II)I"⟩
abbrev cX11_flips : ByteArray := prog_1_method_22_code
def yX11_flips : MethodName := ⟨RX11, "flips", "(I)I"⟩
abbrev cX11_see : ByteArray := prog_1_method_23_code
def yX11_see : MethodName := ⟨RX11, "see", "()I"⟩
abbrev cX11_arrived : ByteArray := prog_1_method_24_code
def yX11_arrived : MethodName := ⟨RX11, "arrived", "(I)I"⟩
abbrev cX11_tells : ByteArray := prog_1_method_25_code
def yX11_tells : MethodName := ⟨RX11, "tells", "(I)I"⟩
abbrev cX11_append : ByteArray := prog_1_method_26_code
def yX11_append : MethodName := ⟨RX11, "append", "(III)I"⟩
abbrev cX11_waits : ByteArray := prog_1_method_27_code
def yX11_waits : MethodName := ⟨RX11, "waits", "(II)Z"⟩
abbrev cX11_ticks : ByteArray := prog_1_method_28_code
def yX11_ticks : MethodName := ⟨RX11, "ticks", "(I)I"⟩
abbrev cX11_chance : ByteArray := prog_1_method_29_code
def yX11_chance : MethodName := ⟨RX11, "chance", "(I)I"⟩
abbrev cX11_snap : ByteArray := prog_1_method_30_code
def yX11_snap : MethodName := ⟨RX11, "snap", "()I"⟩
abbrev cX11_crash : ByteArray := prog_1_method_31_code
def yX11_crash : MethodName := ⟨RX11, "crash", "(I)I"⟩
abbrev cX11_giveUp : ByteArray := prog_1_method_32_code
def yX11_giveUp : MethodName := ⟨RX11, "giveUp", "()I"⟩
abbrev cX11_flip : ByteArray := prog_1_method_33_code
def yX11_flip : MethodName := ⟨RX11, "flip", "(II)I"⟩
abbrev cX11_undo : ByteArray := prog_1_method_34_code
def yX11_undo : MethodName := ⟨RX11, "undo", "()Z"⟩
abbrev cX11_seed : ByteArray := prog_1_method_35_code
def yX11_seed : MethodName := ⟨RX11, "seed", "(I)Z"⟩
abbrev cX11_ask : ByteArray := prog_1_method_36_code
def yX11_ask : MethodName := ⟨RX11, "ask", "()J"⟩
abbrev cX11_image : ByteArray := prog_1_method_37_code
def yX11_image : MethodName := ⟨RX11, "image", "()I"⟩
abbrev cX11_octet : ByteArray := prog_1_method_38_code
def yX11_octet : MethodName := ⟨RX11, "octet", "(I)I"⟩
abbrev cX11_on : ByteArray := prog_1_method_39_code
def yX11_on : MethodName := ⟨RX11, "on", "()Z"⟩
abbrev cX11_status : ByteArray := prog_1_method_40_code
def yX11_status : MethodName := ⟨RX11, "status", "(I)I"⟩
abbrev cX11_isTold : ByteArray := prog_1_method_41_code
def yX11_isTold : MethodName := ⟨RX11, "isTold", "()Z"⟩
abbrev cX11_refuse : ByteArray := prog_1_method_42_code
def yX11_refuse : MethodName := ⟨RX11, "refuse", "(I)I"⟩
abbrev cX11_deny : ByteArray := prog_1_method_43_code
def yX11_deny : MethodName := ⟨RX11, "deny", "(I)Z"⟩
abbrev cX11_takeTape : ByteArray := prog_1_method_44_code
def yX11_takeTape : MethodName := ⟨RX11, "takeTape", "()I"⟩
abbrev cX11_feedNumber : ByteArray := prog_1_method_45_code
def yX11_feedNumber : MethodName := ⟨RX11, "feedNumber", "(I)V"⟩
abbrev cX11_tapePair : ByteArray := prog_1_method_46_code
def yX11_tapePair : MethodName := ⟨RX11, "tapePair", "(I)I"⟩
abbrev cX11_begin : ByteArray := prog_1_method_47_code
def yX11_begin : MethodName := ⟨RX11, "begin", "()V"⟩
abbrev cX11_pastAt : ByteArray := prog_1_method_48_code
def yX11_pastAt : MethodName := ⟨RX11, "pastAt", "(I)LGroupJournal$State;"⟩
abbrev cX11_remember : ByteArray := prog_1_method_49_code
def yX11_remember : MethodName := ⟨RX11, "remember", "()V"⟩
abbrev cX11_canPass : ByteArray := prog_1_method_50_code
def yX11_canPass : MethodName := ⟨RX11, "canPass", "(I)Z"⟩
abbrev cX11_draw : ByteArray := prog_1_method_51_code
def yX11_draw : MethodName := ⟨RX11, "draw", "(I)I"⟩
abbrev cX11_runByRule : ByteArray := prog_1_method_52_code
def yX11_runByRule : MethodName := ⟨RX11, "runByRule", "(IZ)I"⟩
abbrev cX11_rowsStand : ByteArray := prog_1_method_53_code
def yX11_rowsStand : MethodName := ⟨RX11, "rowsStand", "(I)Z"⟩
abbrev cX11_gatherArrived : ByteArray := prog_1_method_54_code
def yX11_gatherArrived : MethodName := ⟨RX11, "gatherArrived", "()V"⟩
abbrev cX11_addArrival : ByteArray := prog_1_method_55_code
def yX11_addArrival : MethodName := ⟨RX11, "addArrival", "(I[I)V"⟩
abbrev cX11_mostLeft : ByteArray := prog_1_method_56_code
def yX11_mostLeft : MethodName := ⟨RX11, "mostLeft", "(I)I"⟩
abbrev cX11_isSeen : ByteArray := prog_1_method_57_code
def yX11_isSeen : MethodName := ⟨RX11, "isSeen", "([I)Z"⟩
abbrev cX11_answer : ByteArray := prog_1_method_58_code
def yX11_answer : MethodName := ⟨RX11, "answer", "(ILGroupJournal$Formula;)J"⟩
abbrev cX11_tellSegment : ByteArray := prog_1_method_59_code
def yX11_tellSegment : MethodName := ⟨RX11, "tellSegment", "(LGroupJournal$Formula;I)V"⟩
abbrev cX11_addPair : ByteArray := prog_1_method_60_code
def yX11_addPair : MethodName := ⟨RX11, "addPair", "(I)V"⟩
abbrev cX11_addOctet : ByteArray := prog_1_method_61_code
def yX11_addOctet : MethodName := ⟨RX11, "addOctet", "(I)V"⟩
abbrev cX11_isImage : ByteArray := prog_1_method_62_code
def yX11_isImage : MethodName := ⟨RX11, "isImage", "(I)Z"⟩
abbrev cX11_cell : ByteArray := prog_1_method_63_code
def yX11_cell : MethodName := ⟨RX11, "cell", "([II)I"⟩
abbrev cX11_put : ByteArray := prog_1_method_64_code
def yX11_put : MethodName := ⟨RX11, "put", "([III)V"⟩
abbrev cX11_copy : ByteArray := prog_1_method_65_code
def yX11_copy : MethodName := ⟨RX11, "copy", "([I[I)V"⟩
abbrev cX11_checkOf : ByteArray := prog_1_method_66_code
def yX11_checkOf : MethodName := ⟨RX11, "checkOf", "(I[III)I"⟩
abbrev cX11_payloadOctet : ByteArray := prog_1_method_67_code
def yX11_payloadOctet : MethodName := ⟨RX11, "payloadOctet", "(III)I"⟩
def RX12 : String := "GroupJournalModel"
def TX12 : u_T := fun k => match k with
  | 0 => ("GroupJournalModel", "tape", "[I", true)
  | 1 => ("GroupJournalModel", "taped", "I", false)
  | 2 => ("GroupJournalModel", "at", "I", false)
  | 3 => ("GroupJournalModel", "end", "I", false)
  | 4 => ("GroupJournalModel", "ended", "I", false)
  | 5 => ("GroupJournalModel", "bad", "I", false)
  | 6 => ("GroupJournalModel", "badPlace", "I", false)
  | 7 => ("GroupJournalModel", "fault", "I", false)
  | 8 => ("GroupJournalModel", "faultPlace", "I", false)
  | 9 => ("GroupJournalModel", "refused", "[I", true)
  | 10 => ("GroupJournalModel", "numberPlace", "I", false)
  | 11 => ("GroupJournalModel", "journalWord", "[C", true)
  | 12 => ("GroupJournalModel", "blocksWord", "[C", true)
  | 13 => ("GroupJournalModel", "bytesWord", "[C", true)
  | 14 => ("GroupJournalModel", "putWord", "[C", true)
  | 15 => ("GroupJournalModel", "sizeWord", "[C", true)
  | 16 => ("GroupJournalModel", "closesWord", "[C", true)
  | 17 => ("GroupJournalModel", "takesWord", "[C", true)
  | 18 => ("GroupJournalModel", "noiseWord", "[C", true)
  | 19 => ("GroupJournalModel", "tickWord", "[C", true)
  | 20 => ("GroupJournalModel", "recordsWord", "[C", true)
  | 21 => ("GroupJournalModel", "payloadWord", "[C", true)
  | 22 => ("GroupJournalModel", "ageWord", "[C", true)
  | 23 => ("GroupJournalModel", "waitersWord", "[C", true)
  | 24 => ("GroupJournalModel", "numberWord", "[C", true)
  | 25 => ("GroupJournalModel", "serialWord", "[C", true)
  | 26 => ("GroupJournalModel", "firstWord", "[C", true)
  | 27 => ("GroupJournalModel", "framesWord", "[C", true)
  | 28 => ("GroupJournalModel", "octetWord", "[C", true)
  | 29 => ("GroupJournalModel", "valueWord", "[C", true)
  | 30 => ("GroupJournalModel", "orWord", "[C", true)
  | 31 => ("GroupJournalModel", "andWord", "[C", true)
  | 32 => ("GroupJournalModel", "notWord", "[C", true)
  | 33 => ("GroupJournalModel", "allWord", "[C", true)
  | 34 => ("GroupJournalModel", "minWord", "[C", true)
  | 35 => ("GroupJournalModel", "maxWord", "[C", true)
  | 36 => ("GroupJournalModel", "many", "[I", true)
  | 37 => ("GroupJournalModel", "puts", "[I", true)
  | 38 => ("GroupJournalModel", "codeFrom", "[I", true)
  | 39 => ("GroupJournalModel", "codeEnd", "[I", true)
  | 40 => ("GroupJournalModel", "codes", "[I", true)
  | 41 => ("GroupJournalModel", "coded", "I", false)
  | 42 => ("GroupJournalModel", "statements", "I", false)
  | 43 => ("GroupJournalModel", "isTold", "Z", false)
  | 44 => ("GroupJournalModel", "textKind", "I", false)
  | 45 => ("GroupJournalModel", "now", "[I", true)
  | 46 => ("GroupJournalModel", "askRecords", "I", false)
  | 47 => ("GroupJournalModel", "askPayload", "I", false)
  | 48 => ("GroupJournalModel", "askSegment", "I", false)
  | 49 => ("GroupJournalModel", "framed", "[I", true)
  | 50 => ("GroupJournalModel", "framedMany", "I", false)
  | 51 => ("GroupJournalModel", "tried", "[I", true)
  | 52 => ("GroupJournalModel", "ruleNow", "I", false)
  | 53 => ("GroupJournalModel", "releasedMany", "I", false)
  | 54 => ("GroupJournalModel", "waitedMany", "I", false)
  | 55 => ("GroupJournalModel", "ticked", "I", false)
  | 56 => ("GroupJournalModel", "isThought", "Z", false)
  | 57 => ("GroupJournalModel", "aside", "[I", true)
  | 58 => ("GroupJournalModel", "frameRow", "[I", true)
  | 59 => ("GroupJournalModel", "frameMany", "I", false)
  | 60 => ("GroupJournalModel", "walkEnd", "I", false)
  | 61 => ("GroupJournalModel", "walkStop", "I", false)
  | 62 => ("GroupJournalModel", "walkNumber", "I", false)
  | 63 => ("GroupJournalModel", "walkBytes", "I", false)
  | 64 => ("GroupJournalModel", "walkHead", "I", false)
  | 65 => ("GroupJournalModel", "isRecovering", "Z", false)
  | 66 => ("GroupJournalModel", "rowMany", "I", false)
  | 67 => ("GroupJournalModel", "rows", "[I", true)
  | 68 => ("GroupJournalModel", "fitting", "[Z", true)
  | 69 => ("GroupJournalModel", "fitMany", "I", false)
  | 70 => ("GroupJournalModel", "ways", "[I", true)
  | 71 => ("GroupJournalModel", "like", "[I", true)
  | 72 => ("GroupJournalModel", "kept0", "[I", true)
  | 73 => ("GroupJournalModel", "undoable", "I", false)
  | 74 => ("GroupJournalModel", "newest", "I", false)
  | 75 => ("GroupJournalModel", "seeded", "J", false)
  | 76 => ("GroupJournalModel", "firstAsked", "[C", true)
  | 77 => ("GroupJournalModel", "lastAsked", "[C", true)
  | 78 => ("GroupJournalModel", "oftenAsked", "[C", true)
  | 79 => ("GroupJournalModel", "totalAsked", "[C", true)
  | 80 => ("GroupJournalModel", "mostAsked", "[C", true)
  | 81 => ("GroupJournalModel", "leastAsked", "[C", true)
  | 82 => ("GroupJournalModel", "notAsked", "[C", true)
  | 83 => ("GroupJournalModel", "andAsked", "[C", true)
  | 84 => ("GroupJournalModel", "orAsked", "[C", true)
  | 85 => ("GroupJournalModel", "allAsked", "[C", true)
  | 86 => ("GroupJournalModel", "minAsked", "[C", true)
  | 87 => ("GroupJournalModel", "maxAsked", "[C", true)
  | 88 => ("GroupJournalModel", "tickAsked", "[C", true)
  | 89 => ("GroupJournalModel", "recordsAsked", "[C", true)
  | 90 => ("GroupJournalModel", "payloadAsked", "[C", true)
  | 91 => ("GroupJournalModel", "ageAsked", "[C", true)
  | 92 => ("GroupJournalModel", "waitersAsked", "[C", true)
  | 93 => ("GroupJournalModel", "numberAsked", "[C", true)
  | 94 => ("GroupJournalModel", "serialAsked", "[C", true)
  | 95 => ("GroupJournalModel", "framesAsked", "[C", true)
  | 96 => ("GroupJournalModel", "octetAsked", "[C", true)
  | 97 => ("GroupJournalModel", "valueAsked", "[C", true)
  | 98 => ("GroupJournalModel", "qCodes", "[I", true)
  | 99 => ("GroupJournalModel", "qCoded", "I", false)
  | 100 => ("GroupJournalModel", "qWait", "[I", true)
  | 101 => ("GroupJournalModel", "qWaits", "I", false)
  | 102 => ("GroupJournalModel", "qOpened", "I", false)
  | 103 => ("GroupJournalModel", "qBase", "I", false)
  | 104 => ("GroupJournalModel", "qPile", "[J", true)
  | 105 => ("GroupJournalModel", "qPiled", "I", false)
  | 106 => ("GroupJournalModel", "qAnswer", "J", false)
  | 107 => ("GroupJournalModel", "qIsNew", "Z", false)
  | 108 => ("GroupJournalModel", "octet", "[I", true)
  | _ => ("GroupJournalModel", "octets", "I", false)
def tyX12 : Nat → FieldType := fun k => match k with
  | 0 => .array .int
  | 1 => .int
  | 2 => .int
  | 3 => .int
  | 4 => .int
  | 5 => .int
  | 6 => .int
  | 7 => .int
  | 8 => .int
  | 9 => .array .int
  | 10 => .int
  | 11 => .array .char
  | 12 => .array .char
  | 13 => .array .char
  | 14 => .array .char
  | 15 => .array .char
  | 16 => .array .char
  | 17 => .array .char
  | 18 => .array .char
  | 19 => .array .char
  | 20 => .array .char
  | 21 => .array .char
  | 22 => .array .char
  | 23 => .array .char
  | 24 => .array .char
  | 25 => .array .char
  | 26 => .array .char
  | 27 => .array .char
  | 28 => .array .char
  | 29 => .array .char
  | 30 => .array .char
  | 31 => .array .char
  | 32 => .array .char
  | 33 => .array .char
  | 34 => .array .char
  | 35 => .array .char
  | 36 => .array .int
  | 37 => .array .int
  | 38 => .array .int
  | 39 => .array .int
  | 40 => .array .int
  | 41 => .int
  | 42 => .int
  | 43 => .boolean
  | 44 => .int
  | 45 => .array .int
  | 46 => .int
  | 47 => .int
  | 48 => .int
  | 49 => .array .int
  | 50 => .int
  | 51 => .array .int
  | 52 => .int
  | 53 => .int
  | 54 => .int
  | 55 => .int
  | 56 => .boolean
  | 57 => .array .int
  | 58 => .array .int
  | 59 => .int
  | 60 => .int
  | 61 => .int
  | 62 => .int
  | 63 => .int
  | 64 => .int
  | 65 => .boolean
  | 66 => .int
  | 67 => .array .int
  | 68 => .array .boolean
  | 69 => .int
  | 70 => .array .int
  | 71 => .array .int
  | 72 => .array .int
  | 73 => .int
  | 74 => .int
  | 75 => .long
  | 76 => .array .char
  | 77 => .array .char
  | 78 => .array .char
  | 79 => .array .char
  | 80 => .array .char
  | 81 => .array .char
  | 82 => .array .char
  | 83 => .array .char
  | 84 => .array .char
  | 85 => .array .char
  | 86 => .array .char
  | 87 => .array .char
  | 88 => .array .char
  | 89 => .array .char
  | 90 => .array .char
  | 91 => .array .char
  | 92 => .array .char
  | 93 => .array .char
  | 94 => .array .char
  | 95 => .array .char
  | 96 => .array .char
  | 97 => .array .char
  | 98 => .array .int
  | 99 => .int
  | 100 => .array .int
  | 101 => .int
  | 102 => .int
  | 103 => .int
  | 104 => .array .long
  | 105 => .int
  | 106 => .long
  | 107 => .boolean
  | 108 => .array .int
  | _ => .int
abbrev wsX120 : List Cond := u_ws RX12 TX12 110
theorem nmX12 : ∀ a, a < 110 → ∀ b, b < 110 → a ≠ b → (TX12 a).2.1 ≠ (TX12 b).2.1 := by decide +kernel
theorem tyX12_ok : ∀ k, k < 110 → parseFieldDescriptor (TX12 k).2.2.1 = some (tyX12 k) := by decide +kernel
abbrev cX12_init : ByteArray := prog_14_method_1_code
def yX12_init : MethodName := ⟨RX12, "<init>", "()V"⟩
abbrev cX12_isIn : ByteArray := prog_14_method_2_code
def yX12_isIn : MethodName := ⟨RX12, "isIn", "(JJJ)Z"⟩
abbrev cX12_feed : ByteArray := prog_14_method_3_code
def yX12_feed : MethodName := ⟨RX12, "feed", "(IIIII)I"⟩
abbrev cX12_end : ByteArray := prog_14_method_4_code
def yX12_end : MethodName := ⟨RX12, "end", "(I)Z"⟩
abbrev cX12_fail : ByteArray := prog_14_method_5_code
def yX12_fail : MethodName := ⟨RX12, "fail", "(II)V"⟩
abbrev cX12_isLetter : ByteArray := prog_14_method_6_code
def yX12_isLetter : MethodName := ⟨RX12, "isLetter", "(I)Z"⟩
abbrev cX12_isDigit : ByteArray := prog_14_method_7_code
def yX12_isDigit : MethodName := ⟨RX12, "isDigit", "(I)Z"⟩
abbrev cX12_look : ByteArray := prog_14_method_8_code
def yX12_look : MethodName := ⟨RX12, "look", "()I"⟩
abbrev cX12_isHere : ByteArray := prog_14_method_9_code
def yX12_isHere : MethodName := ⟨RX12, "isHere", "([C)Z"⟩
abbrev cX12_takes : ByteArray := prog_14_method_10_code
def yX12_takes : MethodName := ⟨RX12, "takes", "([C)Z"⟩
abbrev cX12_asks : ByteArray := prog_14_method_11_code
def yX12_asks : MethodName := ⟨RX12, "asks", "([C)V"⟩
abbrev cX12_takesSign : ByteArray := prog_14_method_12_code
def yX12_takesSign : MethodName := ⟨RX12, "takesSign", "(I)Z"⟩
abbrev cX12_asksSign : ByteArray := prog_14_method_13_code
def yX12_asksSign : MethodName := ⟨RX12, "asksSign", "(I)V"⟩
abbrev cX12_number : ByteArray := prog_14_method_14_code
def yX12_number : MethodName := ⟨RX12, "number", "(II)I"⟩
abbrev cX12_isAllowed : ByteArray := prog_14_method_16_code
def yX12_isAllowed : MethodName := ⟨RX12, "isAllowed", "(I)Z"⟩
abbrev cX12_journalTold : ByteArray := prog_14_method_17_code
def yX12_journalTold : MethodName := ⟨RX12, "journalTold", "()V"⟩
abbrev cX12_putTold : ByteArray := prog_14_method_18_code
def yX12_putTold : MethodName := ⟨RX12, "putTold", "()V"⟩
abbrev cX12_codesTold : ByteArray := prog_14_method_19_code
def yX12_codesTold : MethodName := ⟨RX12, "codesTold", "(II)V"⟩
abbrev cX12_statementTold : ByteArray := prog_14_method_20_code
def yX12_statementTold : MethodName := ⟨RX12, "statementTold", "()V"⟩
abbrev cX12_journal : ByteArray := prog_14_method_21_code
def yX12_journal : MethodName := ⟨RX12, "journal", "()I"⟩
abbrev cX12_stands : ByteArray := prog_14_method_22_code
def yX12_stands : MethodName := ⟨RX12, "stands", "()V"⟩
abbrev cX12_fault : ByteArray := prog_14_method_23_code
def yX12_fault : MethodName := ⟨RX12, "fault", "(I)I"⟩
abbrev cX12_segmentMany : ByteArray := prog_14_method_24_code
def yX12_segmentMany : MethodName := ⟨RX12, "segmentMany", "()I"⟩
abbrev cX12_blockBytes : ByteArray := prog_14_method_25_code
def yX12_blockBytes : MethodName := ⟨RX12, "blockBytes", "()I"⟩
abbrev cX12_length : ByteArray := prog_14_method_26_code
def yX12_length : MethodName := ⟨RX12, "length", "()I"⟩
abbrev cX12_isSegment : ByteArray := prog_14_method_27_code
def yX12_isSegment : MethodName := ⟨RX12, "isSegment", "(I)Z"⟩
abbrev cX12_diskAt : ByteArray := prog_14_method_28_code
def yX12_diskAt : MethodName := ⟨RX12, "diskAt", "(II)I"⟩
abbrev cX12_lands : ByteArray := prog_14_method_29_code
def yX12_lands : MethodName := ⟨RX12, "lands", "(II)V"⟩
abbrev cX12_recordOf : ByteArray := prog_14_method_30_code
def yX12_recordOf : MethodName := ⟨RX12, "recordOf", "(II)I"⟩
abbrev cX12_payloadOf : ByteArray := prog_14_method_31_code
def yX12_payloadOf : MethodName := ⟨RX12, "payloadOf", "(I)I"⟩
abbrev cX12_payloadAt : ByteArray := prog_14_method_32_code
def yX12_payloadAt : MethodName := ⟨RX12, "payloadAt", "(II)I"⟩
abbrev cX12_isCoded : ByteArray := prog_14_method_33_code
def yX12_isCoded : MethodName := ⟨RX12, "isCoded", "(I)Z"⟩
abbrev cX12_codesTell : ByteArray := prog_14_method_34_code
def yX12_codesTell : MethodName := ⟨RX12, "codesTell", "(I)J"⟩
abbrev cX12_checkBy : ByteArray := prog_14_method_35_code
def yX12_checkBy : MethodName := ⟨RX12, "checkBy", "(II)I"⟩
abbrev cX12_goesOut : ByteArray := prog_14_method_36_code
def yX12_goesOut : MethodName := ⟨RX12, "goesOut", "(I)V"⟩
abbrev cX12_headByte : ByteArray := prog_14_method_37_code
def yX12_headByte : MethodName := ⟨RX12, "headByte", "(III)I"⟩
abbrev cX12_headByteAt : ByteArray := prog_14_method_38_code
def yX12_headByteAt : MethodName := ⟨RX12, "headByteAt", "(III)I"⟩
abbrev cX12_opens : ByteArray := prog_14_method_39_code
def yX12_opens : MethodName := ⟨RX12, "opens", "(I)V"⟩
abbrev cX12_opensOnDisk : ByteArray := prog_14_method_40_code
def yX12_opensOnDisk : MethodName := ⟨RX12, "opensOnDisk", "(II)V"⟩
abbrev cX12_isOnWay : ByteArray := prog_14_method_41_code
def yX12_isOnWay : MethodName := ⟨RX12, "isOnWay", "(I)Z"⟩
abbrev cX12_isFree : ByteArray := prog_14_method_42_code
def yX12_isFree : MethodName := ⟨RX12, "isFree", "(I)Z"⟩
abbrev cX12_freeOne : ByteArray := prog_14_method_43_code
def yX12_freeOne : MethodName := ⟨RX12, "freeOne", "()I"⟩
abbrev cX12_hasRoom : ByteArray := prog_14_method_44_code
def yX12_hasRoom : MethodName := ⟨RX12, "hasRoom", "(II)Z"⟩
abbrev cX12_frameGoes : ByteArray := prog_14_method_45_code
def yX12_frameGoes : MethodName := ⟨RX12, "frameGoes", "(III)V"⟩
abbrev cX12_frames : ByteArray := prog_14_method_46_code
def yX12_frames : MethodName := ⟨RX12, "frames", "(I)V"⟩
abbrev cX12_isLaid : ByteArray := prog_14_method_47_code
def yX12_isLaid : MethodName := ⟨RX12, "isLaid", "(I)Z"⟩
abbrev cX12_areLaid : ByteArray := prog_14_method_48_code
def yX12_areLaid : MethodName := ⟨RX12, "areLaid", "(I)Z"⟩
abbrev cX12_asksOf : ByteArray := prog_14_method_49_code
def yX12_asksOf : MethodName := ⟨RX12, "asksOf", "(I)V"⟩
abbrev cX12_doesClose : ByteArray := prog_14_method_50_code
def yX12_doesClose : MethodName := ⟨RX12, "doesClose", "()Z"⟩
abbrev cX12_ticksFor : ByteArray := prog_14_method_51_code
def yX12_ticksFor : MethodName := ⟨RX12, "ticksFor", "()I"⟩
abbrev cX12_groupCloses : ByteArray := prog_14_method_52_code
def yX12_groupCloses : MethodName := ⟨RX12, "groupCloses", "()V"⟩
abbrev cX12_isKept : ByteArray := prog_14_method_53_code
def yX12_isKept : MethodName := ⟨RX12, "isKept", "(II)V"⟩
abbrev cX12_releases : ByteArray := prog_14_method_54_code
def yX12_releases : MethodName := ⟨RX12, "releases", "(I)V"⟩
abbrev cX12_arrives : ByteArray := prog_14_method_55_code
def yX12_arrives : MethodName := ⟨RX12, "arrives", "(I)V"⟩
abbrev cX12_tickGoes : ByteArray := prog_14_method_56_code
def yX12_tickGoes : MethodName := ⟨RX12, "tickGoes", "()V"⟩
abbrev cX12_ticksGo : ByteArray := prog_14_method_57_code
def yX12_ticksGo : MethodName := ⟨RX12, "ticksGo", "(I)V"⟩
abbrev cX12_putsAside : ByteArray := prog_14_method_58_code
def yX12_putsAside : MethodName := ⟨RX12, "putsAside", "()V"⟩
abbrev cX12_triesAnew : ByteArray := prog_14_method_59_code
def yX12_triesAnew : MethodName := ⟨RX12, "triesAnew", "()V"⟩
abbrev cX12_takesBack : ByteArray := prog_14_method_60_code
def yX12_takesBack : MethodName := ⟨RX12, "takesBack", "()V"⟩
abbrev cX12_isAhead : ByteArray := prog_14_method_61_code
def yX12_isAhead : MethodName := ⟨RX12, "isAhead", "(III)Z"⟩
abbrev cX12_serialOf : ByteArray := prog_14_method_62_code
def yX12_serialOf : MethodName := ⟨RX12, "serialOf", "(I)I"⟩
abbrev cX12_firstOf : ByteArray := prog_14_method_63_code
def yX12_firstOf : MethodName := ⟨RX12, "firstOf", "(I)I"⟩
abbrev cX12_isHead : ByteArray := prog_14_method_64_code
def yX12_isHead : MethodName := ⟨RX12, "isHead", "(I)Z"⟩
abbrev cX12_isFrame : ByteArray := prog_14_method_65_code
def yX12_isFrame : MethodName := ⟨RX12, "isFrame", "(II)Z"⟩
abbrev cX12_canBe : ByteArray := prog_14_method_66_code
def yX12_canBe : MethodName := ⟨RX12, "canBe", "(IZ)Z"⟩
abbrev cX12_isBorne : ByteArray := prog_14_method_67_code
def yX12_isBorne : MethodName := ⟨RX12, "isBorne", "(II)Z"⟩
abbrev cX12_recordRead : ByteArray := prog_14_method_68_code
def yX12_recordRead : MethodName := ⟨RX12, "recordRead", "(I)V"⟩
abbrev cX12_walks : ByteArray := prog_14_method_69_code
def yX12_walks : MethodName := ⟨RX12, "walks", "(I)V"⟩
abbrev cX12_framesOf : ByteArray := prog_14_method_70_code
def yX12_framesOf : MethodName := ⟨RX12, "framesOf", "(I)I"⟩
abbrev cX12_beginner : ByteArray := prog_14_method_71_code
def yX12_beginner : MethodName := ⟨RX12, "beginner", "()I"⟩
abbrev cX12_isGreater : ByteArray := prog_14_method_72_code
def yX12_isGreater : MethodName := ⟨RX12, "isGreater", "(II)Z"⟩
abbrev cX12_follower : ByteArray := prog_14_method_73_code
def yX12_follower : MethodName := ⟨RX12, "follower", "(I)I"⟩
abbrev cX12_isDamaged : ByteArray := prog_14_method_74_code
def yX12_isDamaged : MethodName := ⟨RX12, "isDamaged", "(I)Z"⟩
abbrev cX12_zeroes : ByteArray := prog_14_method_75_code
def yX12_zeroes : MethodName := ⟨RX12, "zeroes", "(II)I"⟩
abbrev cX12_recovering : ByteArray := prog_14_method_76_code
def yX12_recovering : MethodName := ⟨RX12, "recovering", "()V"⟩
abbrev cX12_endsWithoutGround : ByteArray := prog_14_method_77_code
def yX12_endsWithoutGround : MethodName := ⟨RX12, "endsWithoutGround", "()V"⟩
abbrev cX12_crashes : ByteArray := prog_14_method_78_code
def yX12_crashes : MethodName := ⟨RX12, "crashes", "(I)V"⟩
abbrev cX12_scarMany : ByteArray := prog_14_method_79_code
def yX12_scarMany : MethodName := ⟨RX12, "scarMany", "()I"⟩
abbrev cX12_has : ByteArray := prog_14_method_80_code
def yX12_has : MethodName := ⟨RX12, "has", "(I)I"⟩
abbrev cX12_segment : ByteArray := prog_14_method_81_code
def yX12_segment : MethodName := ⟨RX12, "segment", "(II)I"⟩
abbrev cX12_frame : ByteArray := prog_14_method_82_code
def yX12_frame : MethodName := ⟨RX12, "frame", "(III)I"⟩
abbrev cX12_octetOf : ByteArray := prog_14_method_83_code
def yX12_octetOf : MethodName := ⟨RX12, "octetOf", "(II)I"⟩
abbrev cX12_place : ByteArray := prog_14_method_84_code
def yX12_place : MethodName := ⟨RX12, "place", "(I)I"⟩
abbrev cX12_value : ByteArray := prog_14_method_85_code
def yX12_value : MethodName := ⟨RX12, "value", "(I)I"⟩
abbrev cX12_soon : ByteArray := prog_14_method_86_code
def yX12_soon : MethodName := ⟨RX12, "soon", "(I)I"⟩
abbrev cX12_waiting : ByteArray := prog_14_method_87_code
def yX12_waiting : MethodName := ⟨RX12, "waiting", "(II)I"⟩
abbrev cX12_waiter : ByteArray := prog_14_method_88_code
def yX12_waiter : MethodName := ⟨RX12, "waiter", "(I)I"⟩
abbrev cX12_kept : ByteArray := prog_14_method_89_code
def yX12_kept : MethodName := ⟨RX12, "kept", "(II)I"⟩
abbrev cX12_later : ByteArray := prog_14_method_90_code
def yX12_later : MethodName := ⟨RX12, "later", "(II)I"⟩
abbrev cX12_ticksTill : ByteArray := prog_14_method_91_code
def yX12_ticksTill : MethodName := ⟨RX12, "ticksTill", "(I)I"⟩
abbrev cX12_when : ByteArray := prog_14_method_92_code
def yX12_when : MethodName := ⟨RX12, "when", "(I)I"⟩
abbrev cX12_rule : ByteArray := prog_14_method_93_code
def yX12_rule : MethodName := ⟨RX12, "rule", "(II)I"⟩
abbrev cX12_best : ByteArray := prog_14_method_94_code
def yX12_best : MethodName := ⟨RX12, "best", "(I)I"⟩
abbrev cX12_room : ByteArray := prog_14_method_95_code
def yX12_room : MethodName := ⟨RX12, "room", "(I)I"⟩
abbrev cX12_isLaidOf : ByteArray := prog_14_method_96_code
def yX12_isLaidOf : MethodName := ⟨RX12, "isLaidOf", "(I)Z"⟩
abbrev cX12_keyMany : ByteArray := prog_14_method_97_code
def yX12_keyMany : MethodName := ⟨RX12, "keyMany", "()I"⟩
abbrev cX12_recovers : ByteArray := prog_14_method_98_code
def yX12_recovers : MethodName := ⟨RX12, "recovers", "(II)I"⟩
abbrev cX12_turns : ByteArray := prog_14_method_99_code
def yX12_turns : MethodName := ⟨RX12, "turns", "(I)V"⟩
abbrev cX12_flips : ByteArray := prog_14_method_100_code
def yX12_flips : MethodName := ⟨RX12, "flips", "(I)I"⟩
abbrev cX12_see : ByteArray := prog_14_method_101_code
def yX12_see : MethodName := ⟨RX12, "see", "()I"⟩
abbrev cX12_isAsSeen : ByteArray := prog_14_method_102_code
def yX12_isAsSeen : MethodName := ⟨RX12, "isAsSeen", "(I)Z"⟩
abbrev cX12_laysArrived : ByteArray := prog_14_method_103_code
def yX12_laysArrived : MethodName := ⟨RX12, "laysArrived", "()V"⟩
abbrev cX12_arrived : ByteArray := prog_14_method_104_code
def yX12_arrived : MethodName := ⟨RX12, "arrived", "(I)I"⟩
abbrev cX12_mostAlike : ByteArray := prog_14_method_105_code
def yX12_mostAlike : MethodName := ⟨RX12, "mostAlike", "(I)I"⟩
abbrev cX12_tells : ByteArray := prog_14_method_106_code
def yX12_tells : MethodName := ⟨RX12, "tells", "(I)I"⟩
abbrev cX12_keeps : ByteArray := prog_14_method_107_code
def yX12_keeps : MethodName := ⟨RX12, "keeps", "()V"⟩
abbrev cX12_undo : ByteArray := prog_14_method_108_code
def yX12_undo : MethodName := ⟨RX12, "undo", "()Z"⟩
abbrev cX12_refuses : ByteArray := prog_14_method_109_code
def yX12_refuses : MethodName := ⟨RX12, "refuses", "(I)I"⟩
abbrev cX12_isRefused : ByteArray := prog_14_method_110_code
def yX12_isRefused : MethodName := ⟨RX12, "isRefused", "(I)Z"⟩
abbrev cX12_canAppend : ByteArray := prog_14_method_111_code
def yX12_canAppend : MethodName := ⟨RX12, "canAppend", "(I)Z"⟩
abbrev cX12_appends : ByteArray := prog_14_method_112_code
def yX12_appends : MethodName := ⟨RX12, "appends", "(III)V"⟩
abbrev cX12_append : ByteArray := prog_14_method_113_code
def yX12_append : MethodName := ⟨RX12, "append", "(III)I"⟩
abbrev cX12_waits : ByteArray := prog_14_method_114_code
def yX12_waits : MethodName := ⟨RX12, "waits", "(II)Z"⟩
abbrev cX12_ticks : ByteArray := prog_14_method_115_code
def yX12_ticks : MethodName := ⟨RX12, "ticks", "(I)I"⟩
abbrev cX12_seed : ByteArray := prog_14_method_116_code
def yX12_seed : MethodName := ⟨RX12, "seed", "(I)Z"⟩
abbrev cX12_drawOf : ByteArray := prog_14_method_117_code
def yX12_drawOf : MethodName := ⟨RX12, "drawOf", "(I)I"⟩
abbrev cX12_chance : ByteArray := prog_14_method_118_code
def yX12_chance : MethodName := ⟨RX12, "chance", "(I)I"⟩
abbrev cX12_snap : ByteArray := prog_14_method_119_code
def yX12_snap : MethodName := ⟨RX12, "snap", "()I"⟩
abbrev cX12_crash : ByteArray := prog_14_method_120_code
def yX12_crash : MethodName := ⟨RX12, "crash", "(I)I"⟩
abbrev cX12_giveUp : ByteArray := prog_14_method_121_code
def yX12_giveUp : MethodName := ⟨RX12, "giveUp", "()I"⟩
abbrev cX12_flip : ByteArray := prog_14_method_122_code
def yX12_flip : MethodName := ⟨RX12, "flip", "(II)I"⟩
abbrev cX12_qCode : ByteArray := prog_14_method_123_code
def yX12_qCode : MethodName := ⟨RX12, "qCode", "(I)V"⟩
abbrev cX12_qOpens : ByteArray := prog_14_method_124_code
def yX12_qOpens : MethodName := ⟨RX12, "qOpens", "(II)V"⟩
abbrev cX12_qIsOn : ByteArray := prog_14_method_125_code
def yX12_qIsOn : MethodName := ⟨RX12, "qIsOn", "(I)Z"⟩
abbrev cX12_qDrops : ByteArray := prog_14_method_126_code
def yX12_qDrops : MethodName := ⟨RX12, "qDrops", "()V"⟩
abbrev cX12_qIsBracket : ByteArray := prog_14_method_127_code
def yX12_qIsBracket : MethodName := ⟨RX12, "qIsBracket", "(I)Z"⟩
abbrev cX12_qBracket : ByteArray := prog_14_method_128_code
def yX12_qBracket : MethodName := ⟨RX12, "qBracket", "()I"⟩
abbrev cX12_qDropsToBracket : ByteArray := prog_14_method_129_code
def yX12_qDropsToBracket : MethodName := ⟨RX12, "qDropsToBracket", "()V"⟩
abbrev cX12_qWordHere : ByteArray := prog_14_method_130_code
def yX12_qWordHere : MethodName := ⟨RX12, "qWordHere", "()I"⟩
abbrev cX12_qWordOf : ByteArray := prog_14_method_131_code
def yX12_qWordOf : MethodName := ⟨RX12, "qWordOf", "(II)I"⟩
abbrev cX12_qAsksWord : ByteArray := prog_14_method_132_code
def yX12_qAsksWord : MethodName := ⟨RX12, "qAsksWord", "(I)V"⟩
abbrev cX12_qEndsPart : ByteArray := prog_14_method_133_code
def yX12_qEndsPart : MethodName := ⟨RX12, "qEndsPart", "()V"⟩
abbrev cX12_qPartTold : ByteArray := prog_14_method_134_code
def yX12_qPartTold : MethodName := ⟨RX12, "qPartTold", "()V"⟩
abbrev cX12_qGoesOn : ByteArray := prog_14_method_135_code
def yX12_qGoesOn : MethodName := ⟨RX12, "qGoesOn", "()Z"⟩
abbrev cX12_qSums : ByteArray := prog_14_method_136_code
def yX12_qSums : MethodName := ⟨RX12, "qSums", "()V"⟩
abbrev cX12_qFact : ByteArray := prog_14_method_137_code
def yX12_qFact : MethodName := ⟨RX12, "qFact", "()V"⟩
abbrev cX12_qHasSquare : ByteArray := prog_14_method_138_code
def yX12_qHasSquare : MethodName := ⟨RX12, "qHasSquare", "()Z"⟩
abbrev cX12_qDropsNots : ByteArray := prog_14_method_139_code
def yX12_qDropsNots : MethodName := ⟨RX12, "qDropsNots", "()V"⟩
abbrev cX12_qTest : ByteArray := prog_14_method_140_code
def yX12_qTest : MethodName := ⟨RX12, "qTest", "()V"⟩
abbrev cX12_qGoesOnTest : ByteArray := prog_14_method_141_code
def yX12_qGoesOnTest : MethodName := ⟨RX12, "qGoesOnTest", "()Z"⟩
abbrev cX12_qClip : ByteArray := prog_14_method_142_code
def yX12_qClip : MethodName := ⟨RX12, "qClip", "(J)J"⟩
abbrev cX12_qFloor : ByteArray := prog_14_method_143_code
def yX12_qFloor : MethodName := ⟨RX12, "qFloor", "(JJ)J"⟩
abbrev cX12_qPuts : ByteArray := prog_14_method_144_code
def yX12_qPuts : MethodName := ⟨RX12, "qPuts", "(J)V"⟩
abbrev cX12_qJoins : ByteArray := prog_14_method_145_code
def yX12_qJoins : MethodName := ⟨RX12, "qJoins", "(I)V"⟩
abbrev cX12_qPartOf : ByteArray := prog_14_method_146_code
def yX12_qPartOf : MethodName := ⟨RX12, "qPartOf", "(II)J"⟩
abbrev cX12_qOf : ByteArray := prog_14_method_147_code
def yX12_qOf : MethodName := ⟨RX12, "qOf", "(IJI)J"⟩
abbrev cX12_qTold : ByteArray := prog_14_method_148_code
def yX12_qTold : MethodName := ⟨RX12, "qTold", "(I)J"⟩
abbrev cX12_qKind : ByteArray := prog_14_method_149_code
def yX12_qKind : MethodName := ⟨RX12, "qKind", "()I"⟩
abbrev cX12_qTakes : ByteArray := prog_14_method_150_code
def yX12_qTakes : MethodName := ⟨RX12, "qTakes", "(IJI)V"⟩
abbrev cX12_ask : ByteArray := prog_14_method_151_code
def yX12_ask : MethodName := ⟨RX12, "ask", "()J"⟩
abbrev cX12_checked : ByteArray := prog_14_method_152_code
def yX12_checked : MethodName := ⟨RX12, "checked", "([II)I"⟩
abbrev cX12_writes : ByteArray := prog_14_method_153_code
def yX12_writes : MethodName := ⟨RX12, "writes", "(I)V"⟩
abbrev cX12_writesTwo : ByteArray := prog_14_method_154_code
def yX12_writesTwo : MethodName := ⟨RX12, "writesTwo", "(I)V"⟩
abbrev cX12_twoAt : ByteArray := prog_14_method_155_code
def yX12_twoAt : MethodName := ⟨RX12, "twoAt", "(I)I"⟩
abbrev cX12_octet : ByteArray := prog_14_method_156_code
def yX12_octet : MethodName := ⟨RX12, "octet", "(I)I"⟩
abbrev cX12_status : ByteArray := prog_14_method_157_code
def yX12_status : MethodName := ⟨RX12, "status", "(I)I"⟩
abbrev cX12_image : ByteArray := prog_14_method_158_code
def yX12_image : MethodName := ⟨RX12, "image", "()I"⟩
abbrev cX12_isImage : ByteArray := prog_14_method_159_code
def yX12_isImage : MethodName := ⟨RX12, "isImage", "(I)Z"⟩
abbrev cX12_on : ByteArray := prog_14_method_160_code
def yX12_on : MethodName := ⟨RX12, "on", "()Z"⟩
def RJx145de : String := "java/io/Serializable"
def TJx145de : u_T := fun k => match k with
  | _ => ("", "", "", false)
def tyJx145de : Nat → FieldType := fun k => match k with
  | _ => .int
abbrev wsJx145de0 : List Cond := u_ws RJx145de TJx145de 0
theorem nmJx145de : ∀ a, a < 0 → ∀ b, b < 0 → a ≠ b → (TJx145de a).2.1 ≠ (TJx145de b).2.1 := by decide +kernel
theorem tyJx145de_ok : ∀ k, k < 0 → parseFieldDescriptor (TJx145de k).2.2.1 = some (tyJx145de k) := by decide +kernel
def RJx9f9b0 : String := "java/lang/CharSequence"
def TJx9f9b0 : u_T := fun k => match k with
  | _ => ("", "", "", false)
def tyJx9f9b0 : Nat → FieldType := fun k => match k with
  | _ => .int
abbrev wsJx9f9b00 : List Cond := u_ws RJx9f9b0 TJx9f9b0 0
theorem nmJx9f9b0 : ∀ a, a < 0 → ∀ b, b < 0 → a ≠ b → (TJx9f9b0 a).2.1 ≠ (TJx9f9b0 b).2.1 := by decide +kernel
theorem tyJx9f9b0_ok : ∀ k, k < 0 → parseFieldDescriptor (TJx9f9b0 k).2.2.1 = some (tyJx9f9b0 k) := by decide +kernel
def RJxb160c : String := "java/lang/Comparable"
def TJxb160c : u_T := fun k => match k with
  | _ => ("", "", "", false)
def tyJxb160c : Nat → FieldType := fun k => match k with
  | _ => .int
abbrev wsJxb160c0 : List Cond := u_ws RJxb160c TJxb160c 0
theorem nmJxb160c : ∀ a, a < 0 → ∀ b, b < 0 → a ≠ b → (TJxb160c a).2.1 ≠ (TJxb160c b).2.1 := by decide +kernel
theorem tyJxb160c_ok : ∀ k, k < 0 → parseFieldDescriptor (TJxb160c k).2.2.1 = some (tyJxb160c k) := by decide +kernel
def RJ9 : String := "java/lang/Math"
def TJ9 : u_T := fun k => match k with
  | _ => ("", "", "", false)
def tyJ9 : Nat → FieldType := fun k => match k with
  | _ => .int
abbrev wsJ90 : List Cond := u_ws RJ9 TJ9 0
theorem nmJ9 : ∀ a, a < 0 → ∀ b, b < 0 → a ≠ b → (TJ9 a).2.1 ≠ (TJ9 b).2.1 := by decide +kernel
theorem tyJ9_ok : ∀ k, k < 0 → parseFieldDescriptor (TJ9 k).2.2.1 = some (tyJ9 k) := by decide +kernel
abbrev cJ9_floorDiv_7cf53 : ByteArray := prog_15_method_47_code
def yJ9_floorDiv_7cf53 : MethodName := ⟨RJ9, "floorDiv", "(II)I"⟩
abbrev cJ9_max_7cf53 : ByteArray := prog_15_method_65_code
def yJ9_max_7cf53 : MethodName := ⟨RJ9, "max", "(II)I"⟩
abbrev cJ9_max_f86c9 : ByteArray := prog_15_method_66_code
def yJ9_max_f86c9 : MethodName := ⟨RJ9, "max", "(JJ)J"⟩
abbrev cJ9_min_7cf53 : ByteArray := prog_15_method_69_code
def yJ9_min_7cf53 : MethodName := ⟨RJ9, "min", "(II)I"⟩
abbrev cJ9_min_f86c9 : ByteArray := prog_15_method_70_code
def yJ9_min_f86c9 : MethodName := ⟨RJ9, "min", "(JJ)J"⟩
def RJ0 : String := "java/lang/String"
def TJ0 : u_T := fun k => match k with
  | _ => ("", "", "", false)
def tyJ0 : Nat → FieldType := fun k => match k with
  | _ => .int
abbrev wsJ00 : List Cond := u_ws RJ0 TJ0 0
theorem nmJ0 : ∀ a, a < 0 → ∀ b, b < 0 → a ≠ b → (TJ0 a).2.1 ≠ (TJ0 b).2.1 := by decide +kernel
theorem tyJ0_ok : ∀ k, k < 0 → parseFieldDescriptor (TJ0 k).2.2.1 = some (tyJ0 k) := by decide +kernel
abbrev cJ0_length_8abf5 : ByteArray := prog_16_method_54_code
def yJ0_length_8abf5 : MethodName := ⟨RJ0, "length", "()I"⟩
abbrev cJ0_charAt_5068e : ByteArray := prog_16_method_56_code
def yJ0_charAt_5068e : MethodName := ⟨RJ0, "charAt", "(I)C"⟩
abbrev cJ0_coder_7d493 : ByteArray := prog_16_method_152_code
def yJ0_coder_7d493 : MethodName := ⟨RJ0, "coder", "()B"⟩
abbrev cJ0_isLatin1_aae02 : ByteArray := prog_16_method_154_code
def yJ0_isLatin1_aae02 : MethodName := ⟨RJ0, "isLatin1", "()Z"⟩
abbrev cJ0_checkIndex_df160 : ByteArray := prog_16_method_155_code
def yJ0_checkIndex_df160 : MethodName := ⟨RJ0, "checkIndex", "(II)V"⟩
def RJ1 : String := "java/lang/StringLatin1"
def TJ1 : u_T := fun k => match k with
  | _ => ("", "", "", false)
def tyJ1 : Nat → FieldType := fun k => match k with
  | _ => .int
abbrev wsJ10 : List Cond := u_ws RJ1 TJ1 0
theorem nmJ1 : ∀ a, a < 0 → ∀ b, b < 0 → a ≠ b → (TJ1 a).2.1 ≠ (TJ1 b).2.1 := by decide +kernel
theorem tyJ1_ok : ∀ k, k < 0 → parseFieldDescriptor (TJ1 k).2.2.1 = some (tyJ1 k) := by decide +kernel
abbrev cJ1_charAt_3b067 : ByteArray := prog_17_method_2_code
def yJ1_charAt_3b067 : MethodName := ⟨RJ1, "charAt", "([BI)C"⟩
def RJ2 : String := "java/lang/StringUTF16"
def TJ2 : u_T := fun k => match k with
  | _ => ("", "", "", false)
def tyJ2 : Nat → FieldType := fun k => match k with
  | _ => .int
abbrev wsJ20 : List Cond := u_ws RJ2 TJ2 0
theorem nmJ2 : ∀ a, a < 0 → ∀ b, b < 0 → a ≠ b → (TJ2 a).2.1 ≠ (TJ2 b).2.1 := by decide +kernel
theorem tyJ2_ok : ∀ k, k < 0 → parseFieldDescriptor (TJ2 k).2.2.1 = some (tyJ2 k) := by decide +kernel
abbrev cJ2_getChar_3b067 : ByteArray := prog_18_method_5_code
def yJ2_getChar_3b067 : MethodName := ⟨RJ2, "getChar", "([BI)C"⟩
abbrev cJ2_length_9d52b : ByteArray := prog_18_method_6_code
def yJ2_length_9d52b : MethodName := ⟨RJ2, "length", "([B)I"⟩
abbrev cJ2_charAt_3b067 : ByteArray := prog_18_method_83_code
def yJ2_charAt_3b067 : MethodName := ⟨RJ2, "charAt", "([BI)C"⟩
abbrev cJ2_checkIndex_2214a : ByteArray := prog_18_method_91_code
def yJ2_checkIndex_2214a : MethodName := ⟨RJ2, "checkIndex", "(I[B)V"⟩
def RJ10 : String := "java/lang/System"
def TJ10 : u_T := fun k => match k with
  | _ => ("", "", "", false)
def tyJ10 : Nat → FieldType := fun k => match k with
  | _ => .int
abbrev wsJ100 : List Cond := u_ws RJ10 TJ10 0
theorem nmJ10 : ∀ a, a < 0 → ∀ b, b < 0 → a ≠ b → (TJ10 a).2.1 ≠ (TJ10 b).2.1 := by decide +kernel
theorem tyJ10_ok : ∀ k, k < 0 → parseFieldDescriptor (TJ10 k).2.2.1 = some (tyJ10 k) := by decide +kernel
def RJxfd54e : String := "java/lang/constant/Constable"
def TJxfd54e : u_T := fun k => match k with
  | _ => ("", "", "", false)
def tyJxfd54e : Nat → FieldType := fun k => match k with
  | _ => .int
abbrev wsJxfd54e0 : List Cond := u_ws RJxfd54e TJxfd54e 0
theorem nmJxfd54e : ∀ a, a < 0 → ∀ b, b < 0 → a ≠ b → (TJxfd54e a).2.1 ≠ (TJxfd54e b).2.1 := by decide +kernel
theorem tyJxfd54e_ok : ∀ k, k < 0 → parseFieldDescriptor (TJxfd54e k).2.2.1 = some (tyJxfd54e k) := by decide +kernel
def RJx3cf43 : String := "java/lang/constant/ConstantDesc"
def TJx3cf43 : u_T := fun k => match k with
  | _ => ("", "", "", false)
def tyJx3cf43 : Nat → FieldType := fun k => match k with
  | _ => .int
abbrev wsJx3cf430 : List Cond := u_ws RJx3cf43 TJx3cf43 0
theorem nmJx3cf43 : ∀ a, a < 0 → ∀ b, b < 0 → a ≠ b → (TJx3cf43 a).2.1 ≠ (TJx3cf43 b).2.1 := by decide +kernel
theorem tyJx3cf43_ok : ∀ k, k < 0 → parseFieldDescriptor (TJx3cf43 k).2.2.1 = some (tyJx3cf43 k) := by decide +kernel
def RJ7 : String := "java/util/Arrays"
def TJ7 : u_T := fun k => match k with
  | _ => ("", "", "", false)
def tyJ7 : Nat → FieldType := fun k => match k with
  | _ => .int
abbrev wsJ70 : List Cond := u_ws RJ7 TJ7 0
theorem nmJ7 : ∀ a, a < 0 → ∀ b, b < 0 → a ≠ b → (TJ7 a).2.1 ≠ (TJ7 b).2.1 := by decide +kernel
theorem tyJ7_ok : ∀ k, k < 0 → parseFieldDescriptor (TJ7 k).2.2.1 = some (tyJ7 k) := by decide +kernel
abbrev cJ7_fill_53178 : ByteArray := prog_20_method_103_code
def yJ7_fill_53178 : MethodName := ⟨RJ7, "fill", "([II)V"⟩
def RJ3 : String := "jdk/internal/util/Preconditions"
def TJ3 : u_T := fun k => match k with
  | _ => ("", "", "", false)
def tyJ3 : Nat → FieldType := fun k => match k with
  | _ => .int
abbrev wsJ30 : List Cond := u_ws RJ3 TJ3 0
theorem nmJ3 : ∀ a, a < 0 → ∀ b, b < 0 → a ≠ b → (TJ3 a).2.1 ≠ (TJ3 b).2.1 := by decide +kernel
theorem tyJ3_ok : ∀ k, k < 0 → parseFieldDescriptor (TJ3 k).2.2.1 = some (tyJ3 k) := by decide +kernel
abbrev cJ3_checkIndex_8e157 : ByteArray := prog_21_method_11_code
def yJ3_checkIndex_8e157 : MethodName := ⟨RJ3, "checkIndex", "(IILjava/util/function/BiFunction;)I"⟩
set_option maxRecDepth 100000 in
theorem inX0 : ∀ w ∈ wsX00, w ∈ lw_tbl := jin_r _ [375, 377, 379, 381, 383] (by decide +kernel)
set_option maxRecDepth 100000 in
theorem inX1 : ∀ w ∈ wsX10, w ∈ lw_tbl := jin_r _ [402, 404, 406, 408] (by decide +kernel)
set_option maxRecDepth 100000 in
theorem inX2 : ∀ w ∈ wsX20, w ∈ lw_tbl := jin_r _ [228, 230, 232, 234, 236] (by decide +kernel)
set_option maxRecDepth 100000 in
theorem inX3 : ∀ w ∈ wsX30, w ∈ lw_tbl := jin_r _ [604, 606, 608, 610, 612, 614, 616, 618, 620, 622] (by decide +kernel)
set_option maxRecDepth 100000 in
theorem inX4 : ∀ w ∈ wsX40, w ∈ lw_tbl := jin_r _ [325, 327, 329, 331, 333, 335, 337, 339, 341, 343, 345, 347] (by decide +kernel)
set_option maxRecDepth 100000 in
theorem inX5 : ∀ w ∈ wsX50, w ∈ lw_tbl := jin_r _ [565, 567, 569, 571, 573] (by decide +kernel)
set_option maxRecDepth 100000 in
theorem inX6 : ∀ w ∈ wsX60, w ∈ lw_tbl := jin_r _ [271, 273, 275, 277, 279, 281, 283, 285, 287, 289, 291, 293, 295] (by decide +kernel)
set_option maxRecDepth 100000 in
theorem inX7 : ∀ w ∈ wsX70, w ∈ lw_tbl := jin_r _ [438, 440, 442, 444, 446, 448, 450] (by decide +kernel)
set_option maxRecDepth 100000 in
theorem inX8 : ∀ w ∈ wsX80, w ∈ lw_tbl := jin_r _ [646, 648, 650, 652, 654, 656, 658, 660] (by decide +kernel)
set_option maxRecDepth 100000 in
theorem inX9 : ∀ w ∈ wsX90, w ∈ lw_tbl := jin_r _ [522, 524, 526, 528, 530, 532, 534, 536, 538, 540, 542, 544, 546, 548, 550] (by decide +kernel)
set_option maxRecDepth 100000 in
theorem inX10 : ∀ w ∈ wsX100, w ∈ lw_tbl := jin_r _ [468, 470, 472, 474, 476, 478, 480] (by decide +kernel)
set_option maxRecDepth 100000 in
theorem inX11 : ∀ w ∈ wsX110, w ∈ lw_tbl := jin_r _ [683, 685, 687, 689, 691, 693, 695, 697, 699, 701, 703, 705, 707, 709, 711, 713, 715, 717, 719, 721] (by decide +kernel)
set_option maxRecDepth 100000 in
theorem inX12 : ∀ w ∈ wsX120, w ∈ lw_tbl := jin_r _ [1768, 1770, 1772, 1774, 1776, 1778, 1780, 1782, 1784, 1786, 1788, 1790, 1792, 1794, 1796, 1798, 1800, 1802, 1804, 1806, 1808, 1810, 1812, 1814, 1816, 1818, 1820, 1822, 1824, 1826, 1828, 1830, 1832, 1834, 1836, 1838, 1840, 1842, 1844, 1846, 1848, 1850, 1852, 1854, 1856, 1858, 1860, 1862, 1864, 1866, 1868, 1870, 1872, 1874, 1876, 1878, 1880, 1882, 1884, 1886, 1888, 1890, 1892, 1894, 1896, 1898, 1900, 1902, 1904, 1906, 1908, 1910, 1912, 1914, 1916, 1918, 1920, 1922, 1924, 1926, 1928, 1930, 1932, 1934, 1936, 1938, 1940, 1942, 1944, 1946, 1948, 1950, 1952, 1954, 1956, 1958, 1960, 1962, 1964, 1966, 1968, 1970, 1972, 1974, 1976, 1978, 1980, 1982, 1984, 1986] (by decide +kernel)
-- 
-- 
-- 
-- 
-- 
-- 
-- 
-- 
-- 
-- 
-- 
-- 
abbrev vwCl : List vw_C := [(RX0, TX0, 5), (RX1, TX1, 4), (RX2, TX2, 5), (RX3, TX3, 10), (RX4, TX4, 12), (RX5, TX5, 5), (RX6, TX6, 13), (RX7, TX7, 7), (RX8, TX8, 8), (RX9, TX9, 15), (RX10, TX10, 7), (RX11, TX11, 20), (RX12, TX12, 110)]
