-- ===== PART A: goes FIRST, ahead of the names: the tables' words, and 'selects' of the private methods out of them =====
/-- a private method of a class that the tables say can be made, by its rows of tables_1 -/
def lw_okq (q : MethodName × Nat) : Prop := (q.1.cls ≠ "java/lang/invoke/MethodHandle" ∧ q.1.cls ≠ "java/lang/invoke/VarHandle") ∧ Cond.instantiable q.1.cls q.2 ∈ tables_1 ∧ Cond.privateMethod q.1 ∈ tables_1 ∧ Cond.instanceMethod q.1 ∈ tables_1
theorem lw_p0 : lw_okq (⟨"PooledWaves$Tape", "readOn", "()V"⟩, 6) := ⟨⟨by decide +kernel, by decide +kernel⟩, List.mem_of_getElem? (i := 29) (by decide +kernel), List.mem_of_getElem? (i := 418) (by decide +kernel), List.mem_of_getElem? (i := 419) (by decide +kernel)⟩
theorem lw_p1 : lw_okq (⟨"PooledWaves$Reader", "take", "(LPooledWaves$Program;)I"⟩, 8) := ⟨⟨by decide +kernel, by decide +kernel⟩, List.mem_of_getElem? (i := 59) (by decide +kernel), List.mem_of_getElem? (i := 423) (by decide +kernel), List.mem_of_getElem? (i := 424) (by decide +kernel)⟩
theorem lw_p2 : lw_okq (⟨"PooledWaves$Reader", "takeHead", "(LPooledWaves$Pool;)I"⟩, 8) := ⟨⟨by decide +kernel, by decide +kernel⟩, List.mem_of_getElem? (i := 59) (by decide +kernel), List.mem_of_getElem? (i := 427) (by decide +kernel), List.mem_of_getElem? (i := 428) (by decide +kernel)⟩
theorem lw_p3 : lw_okq (⟨"PooledWaves$Reader", "takeLevel", "(LPooledWaves$Pool;)I"⟩, 8) := ⟨⟨by decide +kernel, by decide +kernel⟩, List.mem_of_getElem? (i := 59) (by decide +kernel), List.mem_of_getElem? (i := 485) (by decide +kernel), List.mem_of_getElem? (i := 486) (by decide +kernel)⟩
theorem lw_p4 : lw_okq (⟨"PooledWaves$Pool", "firstPlace", "([II)I"⟩, 6) := ⟨⟨by decide +kernel, by decide +kernel⟩, List.mem_of_getElem? (i := 244) (by decide +kernel), List.mem_of_getElem? (i := 497) (by decide +kernel), List.mem_of_getElem? (i := 498) (by decide +kernel)⟩
theorem lw_p5 : lw_okq (⟨"PooledWaves$Pool", "fitsAt", "(I[II)Z"⟩, 6) := ⟨⟨by decide +kernel, by decide +kernel⟩, List.mem_of_getElem? (i := 244) (by decide +kernel), List.mem_of_getElem? (i := 501) (by decide +kernel), List.mem_of_getElem? (i := 502) (by decide +kernel)⟩
theorem lw_p6 : lw_okq (⟨"PooledWaves$Reader", "takeItem", "(LPooledWaves$Program;)I"⟩, 8) := ⟨⟨by decide +kernel, by decide +kernel⟩, List.mem_of_getElem? (i := 59) (by decide +kernel), List.mem_of_getElem? (i := 511) (by decide +kernel), List.mem_of_getElem? (i := 512) (by decide +kernel)⟩
theorem lw_p7 : lw_okq (⟨"PooledWaves$Reader", "takeEnd", "(LPooledWaves$Program;)I"⟩, 8) := ⟨⟨by decide +kernel, by decide +kernel⟩, List.mem_of_getElem? (i := 59) (by decide +kernel), List.mem_of_getElem? (i := 515) (by decide +kernel), List.mem_of_getElem? (i := 516) (by decide +kernel)⟩
theorem lw_p8 : lw_okq (⟨"PooledWaves$Program", "addItem", "(II)V"⟩, 10) := ⟨⟨by decide +kernel, by decide +kernel⟩, List.mem_of_getElem? (i := 238) (by decide +kernel), List.mem_of_getElem? (i := 532) (by decide +kernel), List.mem_of_getElem? (i := 533) (by decide +kernel)⟩
theorem lw_p9 : lw_okq (⟨"PooledWaves$Program", "lengthOf", "(I)I"⟩, 10) := ⟨⟨by decide +kernel, by decide +kernel⟩, List.mem_of_getElem? (i := 238) (by decide +kernel), List.mem_of_getElem? (i := 536) (by decide +kernel), List.mem_of_getElem? (i := 537) (by decide +kernel)⟩
theorem lw_p10 : lw_okq (⟨"PooledWaves$Program", "grow", "(I)V"⟩, 10) := ⟨⟨by decide +kernel, by decide +kernel⟩, List.mem_of_getElem? (i := 238) (by decide +kernel), List.mem_of_getElem? (i := 541) (by decide +kernel), List.mem_of_getElem? (i := 542) (by decide +kernel)⟩
theorem lw_p11 : lw_okq (⟨"PooledWaves$Reader", "kindNamed", "()I"⟩, 8) := ⟨⟨by decide +kernel, by decide +kernel⟩, List.mem_of_getElem? (i := 59) (by decide +kernel), List.mem_of_getElem? (i := 545) (by decide +kernel), List.mem_of_getElem? (i := 546) (by decide +kernel)⟩
theorem lw_p12 : lw_okq (⟨"PooledWaves$Reader", "takeNumber", "(LPooledWaves$Program;)I"⟩, 8) := ⟨⟨by decide +kernel, by decide +kernel⟩, List.mem_of_getElem? (i := 59) (by decide +kernel), List.mem_of_getElem? (i := 553) (by decide +kernel), List.mem_of_getElem? (i := 554) (by decide +kernel)⟩
theorem lw_p13 : lw_okq (⟨"PooledWaves$Reader", "greatest", "(LPooledWaves$Program;)I"⟩, 8) := ⟨⟨by decide +kernel, by decide +kernel⟩, List.mem_of_getElem? (i := 59) (by decide +kernel), List.mem_of_getElem? (i := 557) (by decide +kernel), List.mem_of_getElem? (i := 558) (by decide +kernel)⟩
theorem lw_p14 : lw_okq (⟨"PooledWaves$Reader", "takeOpening", "(LPooledWaves$Program;)I"⟩, 8) := ⟨⟨by decide +kernel, by decide +kernel⟩, List.mem_of_getElem? (i := 59) (by decide +kernel), List.mem_of_getElem? (i := 569) (by decide +kernel), List.mem_of_getElem? (i := 570) (by decide +kernel)⟩
theorem lw_p15 : lw_okq (⟨"PooledWaves", "beginNew", "()V"⟩, 10) := ⟨⟨by decide +kernel, by decide +kernel⟩, List.mem_of_getElem? (i := 21) (by decide +kernel), List.mem_of_getElem? (i := 582) (by decide +kernel), List.mem_of_getElem? (i := 583) (by decide +kernel)⟩
def lw_privs_1 : List (MethodName × Nat) := [(⟨"PooledWaves$Tape", "readOn", "()V"⟩, 6), (⟨"PooledWaves$Reader", "take", "(LPooledWaves$Program;)I"⟩, 8), (⟨"PooledWaves$Reader", "takeHead", "(LPooledWaves$Pool;)I"⟩, 8), (⟨"PooledWaves$Reader", "takeLevel", "(LPooledWaves$Pool;)I"⟩, 8), (⟨"PooledWaves$Pool", "firstPlace", "([II)I"⟩, 6), (⟨"PooledWaves$Pool", "fitsAt", "(I[II)Z"⟩, 6), (⟨"PooledWaves$Reader", "takeItem", "(LPooledWaves$Program;)I"⟩, 8), (⟨"PooledWaves$Reader", "takeEnd", "(LPooledWaves$Program;)I"⟩, 8), (⟨"PooledWaves$Program", "addItem", "(II)V"⟩, 10), (⟨"PooledWaves$Program", "lengthOf", "(I)I"⟩, 10), (⟨"PooledWaves$Program", "grow", "(I)V"⟩, 10), (⟨"PooledWaves$Reader", "kindNamed", "()I"⟩, 8), (⟨"PooledWaves$Reader", "takeNumber", "(LPooledWaves$Program;)I"⟩, 8), (⟨"PooledWaves$Reader", "greatest", "(LPooledWaves$Program;)I"⟩, 8), (⟨"PooledWaves$Reader", "takeOpening", "(LPooledWaves$Program;)I"⟩, 8), (⟨"PooledWaves", "beginNew", "()V"⟩, 10)]
theorem lw_r1 : ∀ q ∈ lw_privs_1, lw_okq q := List.forall_mem_cons.mpr ⟨lw_p0, List.forall_mem_cons.mpr ⟨lw_p1, List.forall_mem_cons.mpr ⟨lw_p2, List.forall_mem_cons.mpr ⟨lw_p3, List.forall_mem_cons.mpr ⟨lw_p4, List.forall_mem_cons.mpr ⟨lw_p5, List.forall_mem_cons.mpr ⟨lw_p6, List.forall_mem_cons.mpr ⟨lw_p7, List.forall_mem_cons.mpr ⟨lw_p8, List.forall_mem_cons.mpr ⟨lw_p9, List.forall_mem_cons.mpr ⟨lw_p10, List.forall_mem_cons.mpr ⟨lw_p11, List.forall_mem_cons.mpr ⟨lw_p12, List.forall_mem_cons.mpr ⟨lw_p13, List.forall_mem_cons.mpr ⟨lw_p14, List.forall_mem_cons.mpr ⟨lw_p15, fun _ h => absurd h List.not_mem_nil⟩⟩⟩⟩⟩⟩⟩⟩⟩⟩⟩⟩⟩⟩⟩⟩
theorem lw_p16 : lw_okq (⟨"PooledWaves$Cursor", "behindEnd", "(LPooledWaves$Program;I)I"⟩, 4) := ⟨⟨by decide +kernel, by decide +kernel⟩, List.mem_of_getElem? (i := 115) (by decide +kernel), List.mem_of_getElem? (i := 613) (by decide +kernel), List.mem_of_getElem? (i := 614) (by decide +kernel)⟩
theorem lw_p17 : lw_okq (⟨"PooledWaves$Cursor", "turnIsLast", "(II)Z"⟩, 4) := ⟨⟨by decide +kernel, by decide +kernel⟩, List.mem_of_getElem? (i := 115) (by decide +kernel), List.mem_of_getElem? (i := 617) (by decide +kernel), List.mem_of_getElem? (i := 618) (by decide +kernel)⟩
theorem lw_p18 : lw_okq (⟨"PooledWaves$Cursor", "latchOff", "(I)Z"⟩, 4) := ⟨⟨by decide +kernel, by decide +kernel⟩, List.mem_of_getElem? (i := 115) (by decide +kernel), List.mem_of_getElem? (i := 621) (by decide +kernel), List.mem_of_getElem? (i := 622) (by decide +kernel)⟩
theorem lw_p19 : lw_okq (⟨"PooledWaves$Program", "unfoldedLength", "(I)I"⟩, 10) := ⟨⟨by decide +kernel, by decide +kernel⟩, List.mem_of_getElem? (i := 238) (by decide +kernel), List.mem_of_getElem? (i := 668) (by decide +kernel), List.mem_of_getElem? (i := 669) (by decide +kernel)⟩
theorem lw_p20 : lw_okq (⟨"PooledWaves$Program", "behind", "(I)I"⟩, 10) := ⟨⟨by decide +kernel, by decide +kernel⟩, List.mem_of_getElem? (i := 238) (by decide +kernel), List.mem_of_getElem? (i := 676) (by decide +kernel), List.mem_of_getElem? (i := 677) (by decide +kernel)⟩
theorem lw_p21 : lw_okq (⟨"PooledWaves$Program", "withinTurn", "(II)I"⟩, 10) := ⟨⟨by decide +kernel, by decide +kernel⟩, List.mem_of_getElem? (i := 238) (by decide +kernel), List.mem_of_getElem? (i := 684) (by decide +kernel), List.mem_of_getElem? (i := 685) (by decide +kernel)⟩
theorem lw_p22 : lw_okq (⟨"PooledWaves$Pages", "addToCache", "(II)V"⟩, 5) := ⟨⟨by decide +kernel, by decide +kernel⟩, List.mem_of_getElem? (i := 139) (by decide +kernel), List.mem_of_getElem? (i := 723) (by decide +kernel), List.mem_of_getElem? (i := 724) (by decide +kernel)⟩
theorem lw_p23 : lw_okq (⟨"PooledWaves$Player", "playOne", "(LPooledWaves$Program;)V"⟩, 10) := ⟨⟨by decide +kernel, by decide +kernel⟩, List.mem_of_getElem? (i := 109) (by decide +kernel), List.mem_of_getElem? (i := 735) (by decide +kernel), List.mem_of_getElem? (i := 736) (by decide +kernel)⟩
theorem lw_p24 : lw_okq (⟨"PooledWaves$Cursor", "segmentOf", "(LPooledWaves$Program;)I"⟩, 4) := ⟨⟨by decide +kernel, by decide +kernel⟩, List.mem_of_getElem? (i := 115) (by decide +kernel), List.mem_of_getElem? (i := 743) (by decide +kernel), List.mem_of_getElem? (i := 744) (by decide +kernel)⟩
theorem lw_p25 : lw_okq (⟨"PooledWaves$Player", "logOut", "()V"⟩, 10) := ⟨⟨by decide +kernel, by decide +kernel⟩, List.mem_of_getElem? (i := 109) (by decide +kernel), List.mem_of_getElem? (i := 760) (by decide +kernel), List.mem_of_getElem? (i := 761) (by decide +kernel)⟩
theorem lw_p26 : lw_okq (⟨"PooledWaves$Player", "askAhead", "(LPooledWaves$Program;)V"⟩, 10) := ⟨⟨by decide +kernel, by decide +kernel⟩, List.mem_of_getElem? (i := 109) (by decide +kernel), List.mem_of_getElem? (i := 770) (by decide +kernel), List.mem_of_getElem? (i := 771) (by decide +kernel)⟩
theorem lw_p27 : lw_okq (⟨"PooledWaves$Drawer", "drawSegments", "(LPooledWaves$Pool;)V"⟩, 3) := ⟨⟨by decide +kernel, by decide +kernel⟩, List.mem_of_getElem? (i := 93) (by decide +kernel), List.mem_of_getElem? (i := 837) (by decide +kernel), List.mem_of_getElem? (i := 838) (by decide +kernel)⟩
theorem lw_p28 : lw_okq (⟨"PooledWaves$Drawer", "got", "(I)I"⟩, 3) := ⟨⟨by decide +kernel, by decide +kernel⟩, List.mem_of_getElem? (i := 93) (by decide +kernel), List.mem_of_getElem? (i := 841) (by decide +kernel), List.mem_of_getElem? (i := 842) (by decide +kernel)⟩
theorem lw_p29 : lw_okq (⟨"PooledWaves$Drawer", "drawItem", "(LPooledWaves$Program;I)V"⟩, 3) := ⟨⟨by decide +kernel, by decide +kernel⟩, List.mem_of_getElem? (i := 93) (by decide +kernel), List.mem_of_getElem? (i := 851) (by decide +kernel), List.mem_of_getElem? (i := 852) (by decide +kernel)⟩
theorem lw_p30 : lw_okq (⟨"PooledWaves$Drawer", "drawOpening", "(LPooledWaves$Program;I)V"⟩, 3) := ⟨⟨by decide +kernel, by decide +kernel⟩, List.mem_of_getElem? (i := 93) (by decide +kernel), List.mem_of_getElem? (i := 857) (by decide +kernel), List.mem_of_getElem? (i := 858) (by decide +kernel)⟩
theorem lw_p31 : lw_okq (⟨"PooledWaves", "latchByCell", "(J)V"⟩, 10) := ⟨⟨by decide +kernel, by decide +kernel⟩, List.mem_of_getElem? (i := 21) (by decide +kernel), List.mem_of_getElem? (i := 913) (by decide +kernel), List.mem_of_getElem? (i := 914) (by decide +kernel)⟩
def lw_privs_2 : List (MethodName × Nat) := [(⟨"PooledWaves$Cursor", "behindEnd", "(LPooledWaves$Program;I)I"⟩, 4), (⟨"PooledWaves$Cursor", "turnIsLast", "(II)Z"⟩, 4), (⟨"PooledWaves$Cursor", "latchOff", "(I)Z"⟩, 4), (⟨"PooledWaves$Program", "unfoldedLength", "(I)I"⟩, 10), (⟨"PooledWaves$Program", "behind", "(I)I"⟩, 10), (⟨"PooledWaves$Program", "withinTurn", "(II)I"⟩, 10), (⟨"PooledWaves$Pages", "addToCache", "(II)V"⟩, 5), (⟨"PooledWaves$Player", "playOne", "(LPooledWaves$Program;)V"⟩, 10), (⟨"PooledWaves$Cursor", "segmentOf", "(LPooledWaves$Program;)I"⟩, 4), (⟨"PooledWaves$Player", "logOut", "()V"⟩, 10), (⟨"PooledWaves$Player", "askAhead", "(LPooledWaves$Program;)V"⟩, 10), (⟨"PooledWaves$Drawer", "drawSegments", "(LPooledWaves$Pool;)V"⟩, 3), (⟨"PooledWaves$Drawer", "got", "(I)I"⟩, 3), (⟨"PooledWaves$Drawer", "drawItem", "(LPooledWaves$Program;I)V"⟩, 3), (⟨"PooledWaves$Drawer", "drawOpening", "(LPooledWaves$Program;I)V"⟩, 3), (⟨"PooledWaves", "latchByCell", "(J)V"⟩, 10)]
theorem lw_r2 : ∀ q ∈ lw_privs_2, lw_okq q := List.forall_mem_cons.mpr ⟨lw_p16, List.forall_mem_cons.mpr ⟨lw_p17, List.forall_mem_cons.mpr ⟨lw_p18, List.forall_mem_cons.mpr ⟨lw_p19, List.forall_mem_cons.mpr ⟨lw_p20, List.forall_mem_cons.mpr ⟨lw_p21, List.forall_mem_cons.mpr ⟨lw_p22, List.forall_mem_cons.mpr ⟨lw_p23, List.forall_mem_cons.mpr ⟨lw_p24, List.forall_mem_cons.mpr ⟨lw_p25, List.forall_mem_cons.mpr ⟨lw_p26, List.forall_mem_cons.mpr ⟨lw_p27, List.forall_mem_cons.mpr ⟨lw_p28, List.forall_mem_cons.mpr ⟨lw_p29, List.forall_mem_cons.mpr ⟨lw_p30, List.forall_mem_cons.mpr ⟨lw_p31, fun _ h => absurd h List.not_mem_nil⟩⟩⟩⟩⟩⟩⟩⟩⟩⟩⟩⟩⟩⟩⟩⟩
theorem lw_p32 : lw_okq (⟨"PooledWavesModel", "begins", "()V"⟩, 29) := ⟨⟨by decide +kernel, by decide +kernel⟩, List.mem_of_getElem? (i := 926) (by decide +kernel), List.mem_of_getElem? (i := 932) (by decide +kernel), List.mem_of_getElem? (i := 933) (by decide +kernel)⟩
theorem lw_p33 : lw_okq (⟨"PooledWavesModel", "goesOn", "(Z)V"⟩, 29) := ⟨⟨by decide +kernel, by decide +kernel⟩, List.mem_of_getElem? (i := 926) (by decide +kernel), List.mem_of_getElem? (i := 936) (by decide +kernel), List.mem_of_getElem? (i := 937) (by decide +kernel)⟩
theorem lw_p34 : lw_okq (⟨"PooledWavesModel", "settles", "(I)V"⟩, 29) := ⟨⟨by decide +kernel, by decide +kernel⟩, List.mem_of_getElem? (i := 926) (by decide +kernel), List.mem_of_getElem? (i := 940) (by decide +kernel), List.mem_of_getElem? (i := 941) (by decide +kernel)⟩
theorem lw_p35 : lw_okq (⟨"PooledWavesModel", "ofItem", "(II)I"⟩, 29) := ⟨⟨by decide +kernel, by decide +kernel⟩, List.mem_of_getElem? (i := 926) (by decide +kernel), List.mem_of_getElem? (i := 944) (by decide +kernel), List.mem_of_getElem? (i := 945) (by decide +kernel)⟩
theorem lw_p36 : lw_okq (⟨"PooledWavesModel", "marks", "(I)V"⟩, 29) := ⟨⟨by decide +kernel, by decide +kernel⟩, List.mem_of_getElem? (i := 926) (by decide +kernel), List.mem_of_getElem? (i := 948) (by decide +kernel), List.mem_of_getElem? (i := 949) (by decide +kernel)⟩
theorem lw_p37 : lw_okq (⟨"PooledWavesModel", "behindEnd", "(I)I"⟩, 29) := ⟨⟨by decide +kernel, by decide +kernel⟩, List.mem_of_getElem? (i := 926) (by decide +kernel), List.mem_of_getElem? (i := 952) (by decide +kernel), List.mem_of_getElem? (i := 953) (by decide +kernel)⟩
theorem lw_p38 : lw_okq (⟨"PooledWavesModel", "stays", "()V"⟩, 29) := ⟨⟨by decide +kernel, by decide +kernel⟩, List.mem_of_getElem? (i := 926) (by decide +kernel), List.mem_of_getElem? (i := 956) (by decide +kernel), List.mem_of_getElem? (i := 957) (by decide +kernel)⟩
theorem lw_p39 : lw_okq (⟨"PooledWavesModel", "reads", "()V"⟩, 29) := ⟨⟨by decide +kernel, by decide +kernel⟩, List.mem_of_getElem? (i := 926) (by decide +kernel), List.mem_of_getElem? (i := 1064) (by decide +kernel), List.mem_of_getElem? (i := 1065) (by decide +kernel)⟩
theorem lw_p40 : lw_okq (⟨"PooledWavesModel", "byteAt", "(I)I"⟩, 29) := ⟨⟨by decide +kernel, by decide +kernel⟩, List.mem_of_getElem? (i := 926) (by decide +kernel), List.mem_of_getElem? (i := 1068) (by decide +kernel), List.mem_of_getElem? (i := 1069) (by decide +kernel)⟩
theorem lw_p41 : lw_okq (⟨"PooledWavesModel", "requires", "(ZI)V"⟩, 29) := ⟨⟨by decide +kernel, by decide +kernel⟩, List.mem_of_getElem? (i := 926) (by decide +kernel), List.mem_of_getElem? (i := 1076) (by decide +kernel), List.mem_of_getElem? (i := 1077) (by decide +kernel)⟩
theorem lw_p42 : lw_okq (⟨"PooledWavesModel", "isSeg", "()Z"⟩, 29) := ⟨⟨by decide +kernel, by decide +kernel⟩, List.mem_of_getElem? (i := 926) (by decide +kernel), List.mem_of_getElem? (i := 1080) (by decide +kernel), List.mem_of_getElem? (i := 1081) (by decide +kernel)⟩
theorem lw_p43 : lw_okq (⟨"PooledWavesModel", "is", "(IIII)Z"⟩, 29) := ⟨⟨by decide +kernel, by decide +kernel⟩, List.mem_of_getElem? (i := 926) (by decide +kernel), List.mem_of_getElem? (i := 1084) (by decide +kernel), List.mem_of_getElem? (i := 1085) (by decide +kernel)⟩
theorem lw_p44 : lw_okq (⟨"PooledWavesModel", "readSegment", "()V"⟩, 29) := ⟨⟨by decide +kernel, by decide +kernel⟩, List.mem_of_getElem? (i := 926) (by decide +kernel), List.mem_of_getElem? (i := 1088) (by decide +kernel), List.mem_of_getElem? (i := 1089) (by decide +kernel)⟩
theorem lw_p45 : lw_okq (⟨"PooledWavesModel", "readNumber", "(II)I"⟩, 29) := ⟨⟨by decide +kernel, by decide +kernel⟩, List.mem_of_getElem? (i := 926) (by decide +kernel), List.mem_of_getElem? (i := 1092) (by decide +kernel), List.mem_of_getElem? (i := 1093) (by decide +kernel)⟩
theorem lw_p46 : lw_okq (⟨"PooledWavesModel", "readSign", "(I)V"⟩, 29) := ⟨⟨by decide +kernel, by decide +kernel⟩, List.mem_of_getElem? (i := 926) (by decide +kernel), List.mem_of_getElem? (i := 1096) (by decide +kernel), List.mem_of_getElem? (i := 1097) (by decide +kernel)⟩
theorem lw_p47 : lw_okq (⟨"PooledWavesModel", "isSign", "(I)Z"⟩, 29) := ⟨⟨by decide +kernel, by decide +kernel⟩, List.mem_of_getElem? (i := 926) (by decide +kernel), List.mem_of_getElem? (i := 1100) (by decide +kernel), List.mem_of_getElem? (i := 1101) (by decide +kernel)⟩
def lw_privs_3 : List (MethodName × Nat) := [(⟨"PooledWavesModel", "begins", "()V"⟩, 29), (⟨"PooledWavesModel", "goesOn", "(Z)V"⟩, 29), (⟨"PooledWavesModel", "settles", "(I)V"⟩, 29), (⟨"PooledWavesModel", "ofItem", "(II)I"⟩, 29), (⟨"PooledWavesModel", "marks", "(I)V"⟩, 29), (⟨"PooledWavesModel", "behindEnd", "(I)I"⟩, 29), (⟨"PooledWavesModel", "stays", "()V"⟩, 29), (⟨"PooledWavesModel", "reads", "()V"⟩, 29), (⟨"PooledWavesModel", "byteAt", "(I)I"⟩, 29), (⟨"PooledWavesModel", "requires", "(ZI)V"⟩, 29), (⟨"PooledWavesModel", "isSeg", "()Z"⟩, 29), (⟨"PooledWavesModel", "is", "(IIII)Z"⟩, 29), (⟨"PooledWavesModel", "readSegment", "()V"⟩, 29), (⟨"PooledWavesModel", "readNumber", "(II)I"⟩, 29), (⟨"PooledWavesModel", "readSign", "(I)V"⟩, 29), (⟨"PooledWavesModel", "isSign", "(I)Z"⟩, 29)]
theorem lw_r3 : ∀ q ∈ lw_privs_3, lw_okq q := List.forall_mem_cons.mpr ⟨lw_p32, List.forall_mem_cons.mpr ⟨lw_p33, List.forall_mem_cons.mpr ⟨lw_p34, List.forall_mem_cons.mpr ⟨lw_p35, List.forall_mem_cons.mpr ⟨lw_p36, List.forall_mem_cons.mpr ⟨lw_p37, List.forall_mem_cons.mpr ⟨lw_p38, List.forall_mem_cons.mpr ⟨lw_p39, List.forall_mem_cons.mpr ⟨lw_p40, List.forall_mem_cons.mpr ⟨lw_p41, List.forall_mem_cons.mpr ⟨lw_p42, List.forall_mem_cons.mpr ⟨lw_p43, List.forall_mem_cons.mpr ⟨lw_p44, List.forall_mem_cons.mpr ⟨lw_p45, List.forall_mem_cons.mpr ⟨lw_p46, List.forall_mem_cons.mpr ⟨lw_p47, fun _ h => absurd h List.not_mem_nil⟩⟩⟩⟩⟩⟩⟩⟩⟩⟩⟩⟩⟩⟩⟩⟩
theorem lw_p48 : lw_okq (⟨"PooledWavesModel", "isGo", "()Z"⟩, 29) := ⟨⟨by decide +kernel, by decide +kernel⟩, List.mem_of_getElem? (i := 926) (by decide +kernel), List.mem_of_getElem? (i := 1104) (by decide +kernel), List.mem_of_getElem? (i := 1105) (by decide +kernel)⟩
theorem lw_p49 : lw_okq (⟨"PooledWavesModel", "readProgram", "()V"⟩, 29) := ⟨⟨by decide +kernel, by decide +kernel⟩, List.mem_of_getElem? (i := 926) (by decide +kernel), List.mem_of_getElem? (i := 1108) (by decide +kernel), List.mem_of_getElem? (i := 1109) (by decide +kernel)⟩
theorem lw_p50 : lw_okq (⟨"PooledWavesModel", "kindNow", "()I"⟩, 29) := ⟨⟨by decide +kernel, by decide +kernel⟩, List.mem_of_getElem? (i := 926) (by decide +kernel), List.mem_of_getElem? (i := 1112) (by decide +kernel), List.mem_of_getElem? (i := 1113) (by decide +kernel)⟩
theorem lw_p51 : lw_okq (⟨"PooledWavesModel", "endComes", "()V"⟩, 29) := ⟨⟨by decide +kernel, by decide +kernel⟩, List.mem_of_getElem? (i := 926) (by decide +kernel), List.mem_of_getElem? (i := 1116) (by decide +kernel), List.mem_of_getElem? (i := 1117) (by decide +kernel)⟩
theorem lw_p52 : lw_okq (⟨"PooledWavesModel", "itemComes", "(III)V"⟩, 29) := ⟨⟨by decide +kernel, by decide +kernel⟩, List.mem_of_getElem? (i := 926) (by decide +kernel), List.mem_of_getElem? (i := 1120) (by decide +kernel), List.mem_of_getElem? (i := 1121) (by decide +kernel)⟩
theorem lw_p53 : lw_okq (⟨"PooledWavesModel", "readItem", "(I)V"⟩, 29) := ⟨⟨by decide +kernel, by decide +kernel⟩, List.mem_of_getElem? (i := 926) (by decide +kernel), List.mem_of_getElem? (i := 1124) (by decide +kernel), List.mem_of_getElem? (i := 1125) (by decide +kernel)⟩
theorem lw_p54 : lw_okq (⟨"PooledWavesModel", "loopComes", "(II)V"⟩, 29) := ⟨⟨by decide +kernel, by decide +kernel⟩, List.mem_of_getElem? (i := 926) (by decide +kernel), List.mem_of_getElem? (i := 1128) (by decide +kernel), List.mem_of_getElem? (i := 1129) (by decide +kernel)⟩
theorem lw_p55 : lw_okq (⟨"PooledWavesModel", "takesDraft", "()V"⟩, 29) := ⟨⟨by decide +kernel, by decide +kernel⟩, List.mem_of_getElem? (i := 926) (by decide +kernel), List.mem_of_getElem? (i := 1132) (by decide +kernel), List.mem_of_getElem? (i := 1133) (by decide +kernel)⟩
theorem lw_p56 : lw_okq (⟨"PooledWavesModel", "pools", "(I)V"⟩, 29) := ⟨⟨by decide +kernel, by decide +kernel⟩, List.mem_of_getElem? (i := 926) (by decide +kernel), List.mem_of_getElem? (i := 1136) (by decide +kernel), List.mem_of_getElem? (i := 1137) (by decide +kernel)⟩
theorem lw_p57 : lw_okq (⟨"PooledWavesModel", "alikeFrom", "(II)I"⟩, 29) := ⟨⟨by decide +kernel, by decide +kernel⟩, List.mem_of_getElem? (i := 926) (by decide +kernel), List.mem_of_getElem? (i := 1140) (by decide +kernel), List.mem_of_getElem? (i := 1141) (by decide +kernel)⟩
theorem lw_p58 : lw_okq (⟨"PooledWavesModel", "many", "(I)I"⟩, 29) := ⟨⟨by decide +kernel, by decide +kernel⟩, List.mem_of_getElem? (i := 926) (by decide +kernel), List.mem_of_getElem? (i := 1144) (by decide +kernel), List.mem_of_getElem? (i := 1145) (by decide +kernel)⟩
theorem lw_p59 : lw_okq (⟨"PooledWavesModel", "levelOf", "(II)I"⟩, 29) := ⟨⟨by decide +kernel, by decide +kernel⟩, List.mem_of_getElem? (i := 926) (by decide +kernel), List.mem_of_getElem? (i := 1148) (by decide +kernel), List.mem_of_getElem? (i := 1149) (by decide +kernel)⟩
theorem lw_p60 : lw_okq (⟨"PooledWavesModel", "levels", "()I"⟩, 29) := ⟨⟨by decide +kernel, by decide +kernel⟩, List.mem_of_getElem? (i := 926) (by decide +kernel), List.mem_of_getElem? (i := 1160) (by decide +kernel), List.mem_of_getElem? (i := 1161) (by decide +kernel)⟩
theorem lw_p61 : lw_okq (⟨"PooledWavesModel", "shared", "()I"⟩, 29) := ⟨⟨by decide +kernel, by decide +kernel⟩, List.mem_of_getElem? (i := 926) (by decide +kernel), List.mem_of_getElem? (i := 1164) (by decide +kernel), List.mem_of_getElem? (i := 1165) (by decide +kernel)⟩
theorem lw_p62 : lw_okq (⟨"PooledWavesModel", "isItem", "(I)Z"⟩, 29) := ⟨⟨by decide +kernel, by decide +kernel⟩, List.mem_of_getElem? (i := 926) (by decide +kernel), List.mem_of_getElem? (i := 1183) (by decide +kernel), List.mem_of_getElem? (i := 1184) (by decide +kernel)⟩
theorem lw_p63 : lw_okq (⟨"PooledWavesModel", "unfolds", "()V"⟩, 29) := ⟨⟨by decide +kernel, by decide +kernel⟩, List.mem_of_getElem? (i := 926) (by decide +kernel), List.mem_of_getElem? (i := 1193) (by decide +kernel), List.mem_of_getElem? (i := 1194) (by decide +kernel)⟩
def lw_privs_4 : List (MethodName × Nat) := [(⟨"PooledWavesModel", "isGo", "()Z"⟩, 29), (⟨"PooledWavesModel", "readProgram", "()V"⟩, 29), (⟨"PooledWavesModel", "kindNow", "()I"⟩, 29), (⟨"PooledWavesModel", "endComes", "()V"⟩, 29), (⟨"PooledWavesModel", "itemComes", "(III)V"⟩, 29), (⟨"PooledWavesModel", "readItem", "(I)V"⟩, 29), (⟨"PooledWavesModel", "loopComes", "(II)V"⟩, 29), (⟨"PooledWavesModel", "takesDraft", "()V"⟩, 29), (⟨"PooledWavesModel", "pools", "(I)V"⟩, 29), (⟨"PooledWavesModel", "alikeFrom", "(II)I"⟩, 29), (⟨"PooledWavesModel", "many", "(I)I"⟩, 29), (⟨"PooledWavesModel", "levelOf", "(II)I"⟩, 29), (⟨"PooledWavesModel", "levels", "()I"⟩, 29), (⟨"PooledWavesModel", "shared", "()I"⟩, 29), (⟨"PooledWavesModel", "isItem", "(I)Z"⟩, 29), (⟨"PooledWavesModel", "unfolds", "()V"⟩, 29)]
theorem lw_r4 : ∀ q ∈ lw_privs_4, lw_okq q := List.forall_mem_cons.mpr ⟨lw_p48, List.forall_mem_cons.mpr ⟨lw_p49, List.forall_mem_cons.mpr ⟨lw_p50, List.forall_mem_cons.mpr ⟨lw_p51, List.forall_mem_cons.mpr ⟨lw_p52, List.forall_mem_cons.mpr ⟨lw_p53, List.forall_mem_cons.mpr ⟨lw_p54, List.forall_mem_cons.mpr ⟨lw_p55, List.forall_mem_cons.mpr ⟨lw_p56, List.forall_mem_cons.mpr ⟨lw_p57, List.forall_mem_cons.mpr ⟨lw_p58, List.forall_mem_cons.mpr ⟨lw_p59, List.forall_mem_cons.mpr ⟨lw_p60, List.forall_mem_cons.mpr ⟨lw_p61, List.forall_mem_cons.mpr ⟨lw_p62, List.forall_mem_cons.mpr ⟨lw_p63, fun _ h => absurd h List.not_mem_nil⟩⟩⟩⟩⟩⟩⟩⟩⟩⟩⟩⟩⟩⟩⟩⟩
theorem lw_p64 : lw_okq (⟨"PooledWavesModel", "steps", "()V"⟩, 29) := ⟨⟨by decide +kernel, by decide +kernel⟩, List.mem_of_getElem? (i := 926) (by decide +kernel), List.mem_of_getElem? (i := 1197) (by decide +kernel), List.mem_of_getElem? (i := 1198) (by decide +kernel)⟩
theorem lw_p65 : lw_okq (⟨"PooledWavesModel", "segmentAt", "()I"⟩, 29) := ⟨⟨by decide +kernel, by decide +kernel⟩, List.mem_of_getElem? (i := 926) (by decide +kernel), List.mem_of_getElem? (i := 1201) (by decide +kernel), List.mem_of_getElem? (i := 1202) (by decide +kernel)⟩
theorem lw_p66 : lw_okq (⟨"PooledWavesModel", "levelNow", "()I"⟩, 29) := ⟨⟨by decide +kernel, by decide +kernel⟩, List.mem_of_getElem? (i := 926) (by decide +kernel), List.mem_of_getElem? (i := 1205) (by decide +kernel), List.mem_of_getElem? (i := 1206) (by decide +kernel)⟩
theorem lw_p67 : lw_okq (⟨"PooledWavesModel", "hasUntil", "()Z"⟩, 29) := ⟨⟨by decide +kernel, by decide +kernel⟩, List.mem_of_getElem? (i := 926) (by decide +kernel), List.mem_of_getElem? (i := 1213) (by decide +kernel), List.mem_of_getElem? (i := 1214) (by decide +kernel)⟩
theorem lw_p68 : lw_okq (⟨"PooledWavesModel", "latchesOn", "()I"⟩, 29) := ⟨⟨by decide +kernel, by decide +kernel⟩, List.mem_of_getElem? (i := 926) (by decide +kernel), List.mem_of_getElem? (i := 1222) (by decide +kernel), List.mem_of_getElem? (i := 1223) (by decide +kernel)⟩
theorem lw_p69 : lw_okq (⟨"PooledWavesModel", "ticks", "()V"⟩, 29) := ⟨⟨by decide +kernel, by decide +kernel⟩, List.mem_of_getElem? (i := 926) (by decide +kernel), List.mem_of_getElem? (i := 1235) (by decide +kernel), List.mem_of_getElem? (i := 1236) (by decide +kernel)⟩
theorem lw_p70 : lw_okq (⟨"PooledWavesModel", "arrive", "()V"⟩, 29) := ⟨⟨by decide +kernel, by decide +kernel⟩, List.mem_of_getElem? (i := 926) (by decide +kernel), List.mem_of_getElem? (i := 1239) (by decide +kernel), List.mem_of_getElem? (i := 1240) (by decide +kernel)⟩
theorem lw_p71 : lw_okq (⟨"PooledWavesModel", "comes", "(I)V"⟩, 29) := ⟨⟨by decide +kernel, by decide +kernel⟩, List.mem_of_getElem? (i := 926) (by decide +kernel), List.mem_of_getElem? (i := 1243) (by decide +kernel), List.mem_of_getElem? (i := 1244) (by decide +kernel)⟩
theorem lw_p72 : lw_okq (⟨"PooledWavesModel", "leaves", "(I)V"⟩, 29) := ⟨⟨by decide +kernel, by decide +kernel⟩, List.mem_of_getElem? (i := 926) (by decide +kernel), List.mem_of_getElem? (i := 1247) (by decide +kernel), List.mem_of_getElem? (i := 1248) (by decide +kernel)⟩
theorem lw_p73 : lw_okq (⟨"PooledWavesModel", "sounds", "()V"⟩, 29) := ⟨⟨by decide +kernel, by decide +kernel⟩, List.mem_of_getElem? (i := 926) (by decide +kernel), List.mem_of_getElem? (i := 1251) (by decide +kernel), List.mem_of_getElem? (i := 1252) (by decide +kernel)⟩
theorem lw_p74 : lw_okq (⟨"PooledWavesModel", "placeAt", "()I"⟩, 29) := ⟨⟨by decide +kernel, by decide +kernel⟩, List.mem_of_getElem? (i := 926) (by decide +kernel), List.mem_of_getElem? (i := 1255) (by decide +kernel), List.mem_of_getElem? (i := 1256) (by decide +kernel)⟩
theorem lw_p75 : lw_okq (⟨"PooledWavesModel", "cachedAt", "(I)I"⟩, 29) := ⟨⟨by decide +kernel, by decide +kernel⟩, List.mem_of_getElem? (i := 926) (by decide +kernel), List.mem_of_getElem? (i := 1259) (by decide +kernel), List.mem_of_getElem? (i := 1260) (by decide +kernel)⟩
theorem lw_p76 : lw_okq (⟨"PooledWavesModel", "outs", "(I)V"⟩, 29) := ⟨⟨by decide +kernel, by decide +kernel⟩, List.mem_of_getElem? (i := 926) (by decide +kernel), List.mem_of_getElem? (i := 1263) (by decide +kernel), List.mem_of_getElem? (i := 1264) (by decide +kernel)⟩
theorem lw_p77 : lw_okq (⟨"PooledWavesModel", "asks", "()V"⟩, 29) := ⟨⟨by decide +kernel, by decide +kernel⟩, List.mem_of_getElem? (i := 926) (by decide +kernel), List.mem_of_getElem? (i := 1267) (by decide +kernel), List.mem_of_getElem? (i := 1268) (by decide +kernel)⟩
theorem lw_p78 : lw_okq (⟨"PooledWavesModel", "seeks", "()V"⟩, 29) := ⟨⟨by decide +kernel, by decide +kernel⟩, List.mem_of_getElem? (i := 926) (by decide +kernel), List.mem_of_getElem? (i := 1271) (by decide +kernel), List.mem_of_getElem? (i := 1272) (by decide +kernel)⟩
theorem lw_p79 : lw_okq (⟨"PooledWavesModel", "isAsked", "(I)Z"⟩, 29) := ⟨⟨by decide +kernel, by decide +kernel⟩, List.mem_of_getElem? (i := 926) (by decide +kernel), List.mem_of_getElem? (i := 1275) (by decide +kernel), List.mem_of_getElem? (i := 1276) (by decide +kernel)⟩
def lw_privs_5 : List (MethodName × Nat) := [(⟨"PooledWavesModel", "steps", "()V"⟩, 29), (⟨"PooledWavesModel", "segmentAt", "()I"⟩, 29), (⟨"PooledWavesModel", "levelNow", "()I"⟩, 29), (⟨"PooledWavesModel", "hasUntil", "()Z"⟩, 29), (⟨"PooledWavesModel", "latchesOn", "()I"⟩, 29), (⟨"PooledWavesModel", "ticks", "()V"⟩, 29), (⟨"PooledWavesModel", "arrive", "()V"⟩, 29), (⟨"PooledWavesModel", "comes", "(I)V"⟩, 29), (⟨"PooledWavesModel", "leaves", "(I)V"⟩, 29), (⟨"PooledWavesModel", "sounds", "()V"⟩, 29), (⟨"PooledWavesModel", "placeAt", "()I"⟩, 29), (⟨"PooledWavesModel", "cachedAt", "(I)I"⟩, 29), (⟨"PooledWavesModel", "outs", "(I)V"⟩, 29), (⟨"PooledWavesModel", "asks", "()V"⟩, 29), (⟨"PooledWavesModel", "seeks", "()V"⟩, 29), (⟨"PooledWavesModel", "isAsked", "(I)Z"⟩, 29)]
theorem lw_r5 : ∀ q ∈ lw_privs_5, lw_okq q := List.forall_mem_cons.mpr ⟨lw_p64, List.forall_mem_cons.mpr ⟨lw_p65, List.forall_mem_cons.mpr ⟨lw_p66, List.forall_mem_cons.mpr ⟨lw_p67, List.forall_mem_cons.mpr ⟨lw_p68, List.forall_mem_cons.mpr ⟨lw_p69, List.forall_mem_cons.mpr ⟨lw_p70, List.forall_mem_cons.mpr ⟨lw_p71, List.forall_mem_cons.mpr ⟨lw_p72, List.forall_mem_cons.mpr ⟨lw_p73, List.forall_mem_cons.mpr ⟨lw_p74, List.forall_mem_cons.mpr ⟨lw_p75, List.forall_mem_cons.mpr ⟨lw_p76, List.forall_mem_cons.mpr ⟨lw_p77, List.forall_mem_cons.mpr ⟨lw_p78, List.forall_mem_cons.mpr ⟨lw_p79, fun _ h => absurd h List.not_mem_nil⟩⟩⟩⟩⟩⟩⟩⟩⟩⟩⟩⟩⟩⟩⟩⟩
theorem lw_p80 : lw_okq (⟨"PooledWavesModel", "gets", "()I"⟩, 29) := ⟨⟨by decide +kernel, by decide +kernel⟩, List.mem_of_getElem? (i := 926) (by decide +kernel), List.mem_of_getElem? (i := 1317) (by decide +kernel), List.mem_of_getElem? (i := 1318) (by decide +kernel)⟩
theorem lw_p81 : lw_okq (⟨"PooledWavesModel", "drawsItem", "(I)V"⟩, 29) := ⟨⟨by decide +kernel, by decide +kernel⟩, List.mem_of_getElem? (i := 926) (by decide +kernel), List.mem_of_getElem? (i := 1322) (by decide +kernel), List.mem_of_getElem? (i := 1323) (by decide +kernel)⟩
def lw_privs_6 : List (MethodName × Nat) := [(⟨"PooledWavesModel", "gets", "()I"⟩, 29), (⟨"PooledWavesModel", "drawsItem", "(I)V"⟩, 29)]
theorem lw_r6 : ∀ q ∈ lw_privs_6, lw_okq q := List.forall_mem_cons.mpr ⟨lw_p80, List.forall_mem_cons.mpr ⟨lw_p81, fun _ h => absurd h List.not_mem_nil⟩⟩
def lw_privs : List (MethodName × Nat) := lw_privs_1 ++ (lw_privs_2 ++ (lw_privs_3 ++ (lw_privs_4 ++ (lw_privs_5 ++ (lw_privs_6)))))
def lw_tbl : List Cond := k2_sels lw_privs ++ tables_1
theorem lw_privs_ok : ∀ q ∈ lw_privs, lw_okq q := by
  show ∀ q ∈ lw_privs_1 ++ (lw_privs_2 ++ (lw_privs_3 ++ (lw_privs_4 ++ (lw_privs_5 ++ (lw_privs_6))))), lw_okq q
  exact List.forall_mem_append.mpr ⟨lw_r1, List.forall_mem_append.mpr ⟨lw_r2, List.forall_mem_append.mpr ⟨lw_r3, List.forall_mem_append.mpr ⟨lw_r4, List.forall_mem_append.mpr ⟨lw_r5, lw_r6⟩⟩⟩⟩⟩

def RX0 : String := "PooledWaves$Cursor"
def TX0 : u_T := fun k => match k with
  | 0 => ("PooledWaves$Cursor", "at", "I", false)
  | 1 => ("PooledWaves$Cursor", "phase", "I", false)
  | 2 => ("PooledWaves$Cursor", "turnsDone", "[I", true)
  | _ => ("PooledWaves$Cursor", "latches", "I", false)
def tyX0 : Nat → FieldType := fun k => match k with
  | 0 => .int
  | 1 => .int
  | 2 => .array .int
  | _ => .int
abbrev wsX00 : List Cond := u_ws RX0 TX0 4
theorem nmX0 : ∀ a, a < 4 → ∀ b, b < 4 → a ≠ b → (TX0 a).2.1 ≠ (TX0 b).2.1 := by decide +kernel
theorem tyX0_ok : ∀ k, k < 4 → parseFieldDescriptor (TX0 k).2.2.1 = some (tyX0 k) := by decide +kernel
abbrev cX0_init : ByteArray := prog_2_method_1_code
def yX0_init : MethodName := ⟨RX0, "<init>", "()V"⟩
abbrev cX0_clear : ByteArray := prog_2_method_2_code
def yX0_clear : MethodName := ⟨RX0, "clear", "()V"⟩
abbrev cX0_copyFrom : ByteArray := prog_2_method_3_code
def yX0_copyFrom : MethodName := ⟨RX0, "copyFrom", "(LPooledWaves$Cursor;)V"⟩
abbrev cX0_isOver : ByteArray := prog_2_method_4_code
def yX0_isOver : MethodName := ⟨RX0, "isOver", "()Z"⟩
abbrev cX0_latchOn : ByteArray := prog_2_method_5_code
def yX0_latchOn : MethodName := ⟨RX0, "latchOn", "(I)Z"⟩
abbrev cX0_pageOf : ByteArray := prog_2_method_6_code
def yX0_pageOf : MethodName := ⟨RX0, "pageOf", "(LPooledWaves$Program;)I"⟩
abbrev cX0_segmentOf : ByteArray := prog_2_method_7_code
def yX0_segmentOf : MethodName := ⟨RX0, "segmentOf", "(LPooledWaves$Program;)I"⟩
abbrev cX0_levelBy : ByteArray := prog_2_method_8_code
def yX0_levelBy : MethodName := ⟨RX0, "levelBy", "(ILPooledWaves$Program;)I"⟩
abbrev cX0_advance : ByteArray := prog_2_method_9_code
def yX0_advance : MethodName := ⟨RX0, "advance", "(LPooledWaves$Program;ILPooledWaves$MarkLog;I)V"⟩
abbrev cX0_settle : ByteArray := prog_2_method_10_code
def yX0_settle : MethodName := ⟨RX0, "settle", "(LPooledWaves$Program;ILPooledWaves$MarkLog;I)V"⟩
abbrev cX0_behindEnd : ByteArray := prog_2_method_11_code
def yX0_behindEnd : MethodName := ⟨RX0, "behindEnd", "(LPooledWaves$Program;I)I"⟩
abbrev cX0_turnIsLast : ByteArray := prog_2_method_12_code
def yX0_turnIsLast : MethodName := ⟨RX0, "turnIsLast", "(II)Z"⟩
abbrev cX0_latchOff : ByteArray := prog_2_method_13_code
def yX0_latchOff : MethodName := ⟨RX0, "latchOff", "(I)Z"⟩
def RX1 : String := "PooledWaves$Drawer"
def TX1 : u_T := fun k => match k with
  | 0 => ("PooledWaves$Drawer", "row", "[I", true)
  | 1 => ("PooledWaves$Drawer", "segments", "I", false)
  | _ => ("PooledWaves$Drawer", "seed", "I", false)
def tyX1 : Nat → FieldType := fun k => match k with
  | 0 => .array .int
  | 1 => .int
  | _ => .int
abbrev wsX10 : List Cond := u_ws RX1 TX1 3
theorem nmX1 : ∀ a, a < 3 → ∀ b, b < 3 → a ≠ b → (TX1 a).2.1 ≠ (TX1 b).2.1 := by decide +kernel
theorem tyX1_ok : ∀ k, k < 3 → parseFieldDescriptor (TX1 k).2.2.1 = some (tyX1 k) := by decide +kernel
abbrev cX1_init : ByteArray := prog_3_method_1_code
def yX1_init : MethodName := ⟨RX1, "<init>", "()V"⟩
abbrev cX1_drawInto : ByteArray := prog_3_method_2_code
def yX1_drawInto : MethodName := ⟨RX1, "drawInto", "(LPooledWaves$Program;II)V"⟩
abbrev cX1_got : ByteArray := prog_3_method_3_code
def yX1_got : MethodName := ⟨RX1, "got", "(I)I"⟩
abbrev cX1_drawSegments : ByteArray := prog_3_method_4_code
def yX1_drawSegments : MethodName := ⟨RX1, "drawSegments", "(LPooledWaves$Pool;)V"⟩
abbrev cX1_isEnough : ByteArray := prog_3_method_5_code
def yX1_isEnough : MethodName := ⟨RX1, "isEnough", "(LPooledWaves$Program;)Z"⟩
abbrev cX1_drawItem : ByteArray := prog_3_method_6_code
def yX1_drawItem : MethodName := ⟨RX1, "drawItem", "(LPooledWaves$Program;I)V"⟩
abbrev cX1_drawOpening : ByteArray := prog_3_method_7_code
def yX1_drawOpening : MethodName := ⟨RX1, "drawOpening", "(LPooledWaves$Program;I)V"⟩
def RX2 : String := "PooledWaves$MarkLog"
def TX2 : u_T := fun k => match k with
  | 0 => ("PooledWaves$MarkLog", "names", "[I", true)
  | 1 => ("PooledWaves$MarkLog", "clocks", "[I", true)
  | _ => ("PooledWaves$MarkLog", "total", "I", false)
def tyX2 : Nat → FieldType := fun k => match k with
  | 0 => .array .int
  | 1 => .array .int
  | _ => .int
abbrev wsX20 : List Cond := u_ws RX2 TX2 3
theorem nmX2 : ∀ a, a < 3 → ∀ b, b < 3 → a ≠ b → (TX2 a).2.1 ≠ (TX2 b).2.1 := by decide +kernel
theorem tyX2_ok : ∀ k, k < 3 → parseFieldDescriptor (TX2 k).2.2.1 = some (tyX2 k) := by decide +kernel
abbrev cX2_init : ByteArray := prog_4_method_1_code
def yX2_init : MethodName := ⟨RX2, "<init>", "()V"⟩
abbrev cX2_clear : ByteArray := prog_4_method_2_code
def yX2_clear : MethodName := ⟨RX2, "clear", "()V"⟩
abbrev cX2_copyFrom : ByteArray := prog_4_method_3_code
def yX2_copyFrom : MethodName := ⟨RX2, "copyFrom", "(LPooledWaves$MarkLog;)V"⟩
abbrev cX2_add : ByteArray := prog_4_method_4_code
def yX2_add : MethodName := ⟨RX2, "add", "(II)V"⟩
abbrev cX2_held : ByteArray := prog_4_method_5_code
def yX2_held : MethodName := ⟨RX2, "held", "()I"⟩
abbrev cX2_spotOf : ByteArray := prog_4_method_6_code
def yX2_spotOf : MethodName := ⟨RX2, "spotOf", "(I)I"⟩
def RX3 : String := "PooledWaves$Pages"
def TX3 : u_T := fun k => match k with
  | 0 => ("PooledWaves$Pages", "cached", "[I", true)
  | 1 => ("PooledWaves$Pages", "cachedCount", "I", false)
  | 2 => ("PooledWaves$Pages", "asked", "[I", true)
  | 3 => ("PooledWaves$Pages", "comesAt", "[I", true)
  | _ => ("PooledWaves$Pages", "askedCount", "I", false)
def tyX3 : Nat → FieldType := fun k => match k with
  | 0 => .array .int
  | 1 => .int
  | 2 => .array .int
  | 3 => .array .int
  | _ => .int
abbrev wsX30 : List Cond := u_ws RX3 TX3 5
theorem nmX3 : ∀ a, a < 5 → ∀ b, b < 5 → a ≠ b → (TX3 a).2.1 ≠ (TX3 b).2.1 := by decide +kernel
theorem tyX3_ok : ∀ k, k < 5 → parseFieldDescriptor (TX3 k).2.2.1 = some (tyX3 k) := by decide +kernel
abbrev cX3_init : ByteArray := prog_5_method_1_code
def yX3_init : MethodName := ⟨RX3, "<init>", "()V"⟩
abbrev cX3_clear : ByteArray := prog_5_method_2_code
def yX3_clear : MethodName := ⟨RX3, "clear", "()V"⟩
abbrev cX3_copyFrom : ByteArray := prog_5_method_3_code
def yX3_copyFrom : MethodName := ⟨RX3, "copyFrom", "(LPooledWaves$Pages;)V"⟩
abbrev cX3_use : ByteArray := prog_5_method_4_code
def yX3_use : MethodName := ⟨RX3, "use", "(I)Z"⟩
abbrev cX3_dropTo : ByteArray := prog_5_method_5_code
def yX3_dropTo : MethodName := ⟨RX3, "dropTo", "(I)V"⟩
abbrev cX3_bringIn : ByteArray := prog_5_method_6_code
def yX3_bringIn : MethodName := ⟨RX3, "bringIn", "(II)V"⟩
abbrev cX3_addToCache : ByteArray := prog_5_method_7_code
def yX3_addToCache : MethodName := ⟨RX3, "addToCache", "(II)V"⟩
abbrev cX3_askFor : ByteArray := prog_5_method_8_code
def yX3_askFor : MethodName := ⟨RX3, "askFor", "(II)V"⟩
abbrev cX3_spotOf : ByteArray := prog_5_method_9_code
def yX3_spotOf : MethodName := ⟨RX3, "spotOf", "(I[II)I"⟩
def RX4 : String := "PooledWaves$Player"
def TX4 : u_T := fun k => match k with
  | 0 => ("PooledWaves$Player", "cursor", "LPooledWaves$Cursor;", true)
  | 1 => ("PooledWaves$Player", "pages", "LPooledWaves$Pages;", true)
  | 2 => ("PooledWaves$Player", "marks", "LPooledWaves$MarkLog;", true)
  | 3 => ("PooledWaves$Player", "outs", "[I", true)
  | 4 => ("PooledWaves$Player", "settings", "[I", true)
  | 5 => ("PooledWaves$Player", "outCount", "I", false)
  | 6 => ("PooledWaves$Player", "lackCount", "I", false)
  | 7 => ("PooledWaves$Player", "clock", "I", false)
  | 8 => ("PooledWaves$Player", "last", "I", false)
  | _ => ("PooledWaves$Player", "scout", "LPooledWaves$Cursor;", true)
def tyX4 : Nat → FieldType := fun k => match k with
  | 0 => .object "PooledWaves$Cursor"
  | 1 => .object "PooledWaves$Pages"
  | 2 => .object "PooledWaves$MarkLog"
  | 3 => .array .int
  | 4 => .array .int
  | 5 => .int
  | 6 => .int
  | 7 => .int
  | 8 => .int
  | _ => .object "PooledWaves$Cursor"
abbrev wsX40 : List Cond := u_ws RX4 TX4 10
theorem nmX4 : ∀ a, a < 10 → ∀ b, b < 10 → a ≠ b → (TX4 a).2.1 ≠ (TX4 b).2.1 := by decide +kernel
theorem tyX4_ok : ∀ k, k < 10 → parseFieldDescriptor (TX4 k).2.2.1 = some (tyX4 k) := by decide +kernel
abbrev cX4_init : ByteArray := prog_6_method_1_code
def yX4_init : MethodName := ⟨RX4, "<init>", "()V"⟩
abbrev cX4_begin : ByteArray := prog_6_method_2_code
def yX4_begin : MethodName := ⟨RX4, "begin", "(LPooledWaves$Program;)V"⟩
abbrev cX4_copyFrom : ByteArray := prog_6_method_3_code
def yX4_copyFrom : MethodName := ⟨RX4, "copyFrom", "(LPooledWaves$Player;)V"⟩
abbrev cX4_valueOf : ByteArray := prog_6_method_4_code
def yX4_valueOf : MethodName := ⟨RX4, "valueOf", "(I)I"⟩
abbrev cX4_step : ByteArray := prog_6_method_5_code
def yX4_step : MethodName := ⟨RX4, "step", "(LPooledWaves$Program;)V"⟩
abbrev cX4_playOne : ByteArray := prog_6_method_6_code
def yX4_playOne : MethodName := ⟨RX4, "playOne", "(LPooledWaves$Program;)V"⟩
abbrev cX4_logOut : ByteArray := prog_6_method_7_code
def yX4_logOut : MethodName := ⟨RX4, "logOut", "()V"⟩
abbrev cX4_askAhead : ByteArray := prog_6_method_8_code
def yX4_askAhead : MethodName := ⟨RX4, "askAhead", "(LPooledWaves$Program;)V"⟩
def RX5 : String := "PooledWaves$Pool"
def TX5 : u_T := fun k => match k with
  | 0 => ("PooledWaves$Pool", "levels", "[I", true)
  | 1 => ("PooledWaves$Pool", "first", "[I", true)
  | 2 => ("PooledWaves$Pool", "length", "[I", true)
  | 3 => ("PooledWaves$Pool", "came", "[I", true)
  | 4 => ("PooledWaves$Pool", "size", "I", false)
  | _ => ("PooledWaves$Pool", "segments", "I", false)
def tyX5 : Nat → FieldType := fun k => match k with
  | 0 => .array .int
  | 1 => .array .int
  | 2 => .array .int
  | 3 => .array .int
  | 4 => .int
  | _ => .int
abbrev wsX50 : List Cond := u_ws RX5 TX5 6
theorem nmX5 : ∀ a, a < 6 → ∀ b, b < 6 → a ≠ b → (TX5 a).2.1 ≠ (TX5 b).2.1 := by decide +kernel
theorem tyX5_ok : ∀ k, k < 6 → parseFieldDescriptor (TX5 k).2.2.1 = some (tyX5 k) := by decide +kernel
abbrev cX5_init : ByteArray := prog_7_method_1_code
def yX5_init : MethodName := ⟨RX5, "<init>", "()V"⟩
abbrev cX5_clear : ByteArray := prog_7_method_2_code
def yX5_clear : MethodName := ⟨RX5, "clear", "()V"⟩
abbrev cX5_addSegment : ByteArray := prog_7_method_3_code
def yX5_addSegment : MethodName := ⟨RX5, "addSegment", "([II)V"⟩
abbrev cX5_firstPlace : ByteArray := prog_7_method_4_code
def yX5_firstPlace : MethodName := ⟨RX5, "firstPlace", "([II)I"⟩
abbrev cX5_fitsAt : ByteArray := prog_7_method_5_code
def yX5_fitsAt : MethodName := ⟨RX5, "fitsAt", "(I[II)Z"⟩
abbrev cX5_levelOf : ByteArray := prog_7_method_6_code
def yX5_levelOf : MethodName := ⟨RX5, "levelOf", "(II)I"⟩
abbrev cX5_levelsOfAll : ByteArray := prog_7_method_7_code
def yX5_levelsOfAll : MethodName := ⟨RX5, "levelsOfAll", "()I"⟩
abbrev cX5_segmentsFound : ByteArray := prog_7_method_8_code
def yX5_segmentsFound : MethodName := ⟨RX5, "segmentsFound", "()I"⟩
abbrev cX5_pages : ByteArray := prog_7_method_9_code
def yX5_pages : MethodName := ⟨RX5, "pages", "()I"⟩
def RX6 : String := "PooledWaves$Program"
def TX6 : u_T := fun k => match k with
  | 0 => ("PooledWaves$Program", "pool", "LPooledWaves$Pool;", true)
  | 1 => ("PooledWaves$Program", "kind", "[I", true)
  | 2 => ("PooledWaves$Program", "number", "[I", true)
  | 3 => ("PooledWaves$Program", "partner", "[I", true)
  | 4 => ("PooledWaves$Program", "depth", "[I", true)
  | 5 => ("PooledWaves$Program", "turnLength", "[I", true)
  | 6 => ("PooledWaves$Program", "items", "I", false)
  | 7 => ("PooledWaves$Program", "openItems", "[I", true)
  | 8 => ("PooledWaves$Program", "open", "I", false)
  | _ => ("PooledWaves$Program", "sums", "[I", true)
def tyX6 : Nat → FieldType := fun k => match k with
  | 0 => .object "PooledWaves$Pool"
  | 1 => .array .int
  | 2 => .array .int
  | 3 => .array .int
  | 4 => .array .int
  | 5 => .array .int
  | 6 => .int
  | 7 => .array .int
  | 8 => .int
  | _ => .array .int
abbrev wsX60 : List Cond := u_ws RX6 TX6 10
theorem nmX6 : ∀ a, a < 10 → ∀ b, b < 10 → a ≠ b → (TX6 a).2.1 ≠ (TX6 b).2.1 := by decide +kernel
theorem tyX6_ok : ∀ k, k < 10 → parseFieldDescriptor (TX6 k).2.2.1 = some (tyX6 k) := by decide +kernel
abbrev cX6_init : ByteArray := prog_8_method_1_code
def yX6_init : MethodName := ⟨RX6, "<init>", "()V"⟩
abbrev cX6_clear : ByteArray := prog_8_method_2_code
def yX6_clear : MethodName := ⟨RX6, "clear", "()V"⟩
abbrev cX6_isFull : ByteArray := prog_8_method_3_code
def yX6_isFull : MethodName := ⟨RX6, "isFull", "()Z"⟩
abbrev cX6_isDeepest : ByteArray := prog_8_method_4_code
def yX6_isDeepest : MethodName := ⟨RX6, "isDeepest", "()Z"⟩
abbrev cX6_addPlay : ByteArray := prog_8_method_5_code
def yX6_addPlay : MethodName := ⟨RX6, "addPlay", "(I)V"⟩
abbrev cX6_addMark : ByteArray := prog_8_method_6_code
def yX6_addMark : MethodName := ⟨RX6, "addMark", "(I)V"⟩
abbrev cX6_addOpening : ByteArray := prog_8_method_7_code
def yX6_addOpening : MethodName := ⟨RX6, "addOpening", "(II)V"⟩
abbrev cX6_addEnd : ByteArray := prog_8_method_8_code
def yX6_addEnd : MethodName := ⟨RX6, "addEnd", "()V"⟩
abbrev cX6_openHasPlay : ByteArray := prog_8_method_9_code
def yX6_openHasPlay : MethodName := ⟨RX6, "openHasPlay", "()Z"⟩
abbrev cX6_addItem : ByteArray := prog_8_method_10_code
def yX6_addItem : MethodName := ⟨RX6, "addItem", "(II)V"⟩
abbrev cX6_grow : ByteArray := prog_8_method_11_code
def yX6_grow : MethodName := ⟨RX6, "grow", "(I)V"⟩
abbrev cX6_lengthOf : ByteArray := prog_8_method_12_code
def yX6_lengthOf : MethodName := ⟨RX6, "lengthOf", "(I)I"⟩
abbrev cX6_unfoldedAt : ByteArray := prog_8_method_13_code
def yX6_unfoldedAt : MethodName := ⟨RX6, "unfoldedAt", "(I)I"⟩
abbrev cX6_unfoldedLength : ByteArray := prog_8_method_14_code
def yX6_unfoldedLength : MethodName := ⟨RX6, "unfoldedLength", "(I)I"⟩
abbrev cX6_behind : ByteArray := prog_8_method_15_code
def yX6_behind : MethodName := ⟨RX6, "behind", "(I)I"⟩
abbrev cX6_withinTurn : ByteArray := prog_8_method_16_code
def yX6_withinTurn : MethodName := ⟨RX6, "withinTurn", "(II)I"⟩
abbrev cX6_segmentLength : ByteArray := prog_8_method_17_code
def yX6_segmentLength : MethodName := ⟨RX6, "segmentLength", "(I)I"⟩
def RX7 : String := "PooledWaves$Reader"
def TX7 : u_T := fun k => match k with
  | 0 => ("PooledWaves$Reader", "tape", "LPooledWaves$Tape;", true)
  | 1 => ("PooledWaves$Reader", "faultFound", "I", false)
  | 2 => ("PooledWaves$Reader", "faultPlace", "I", false)
  | 3 => ("PooledWaves$Reader", "row", "[I", true)
  | 4 => ("PooledWaves$Reader", "rowLength", "I", false)
  | 5 => ("PooledWaves$Reader", "itemKind", "I", false)
  | 6 => ("PooledWaves$Reader", "itemNumber", "I", false)
  | _ => ("PooledWaves$Reader", "state", "I", false)
def tyX7 : Nat → FieldType := fun k => match k with
  | 0 => .object "PooledWaves$Tape"
  | 1 => .int
  | 2 => .int
  | 3 => .array .int
  | 4 => .int
  | 5 => .int
  | 6 => .int
  | _ => .int
abbrev wsX70 : List Cond := u_ws RX7 TX7 8
theorem nmX7 : ∀ a, a < 8 → ∀ b, b < 8 → a ≠ b → (TX7 a).2.1 ≠ (TX7 b).2.1 := by decide +kernel
theorem tyX7_ok : ∀ k, k < 8 → parseFieldDescriptor (TX7 k).2.2.1 = some (tyX7 k) := by decide +kernel
abbrev cX7_init : ByteArray := prog_9_method_1_code
def yX7_init : MethodName := ⟨RX7, "<init>", "(LPooledWaves$Tape;)V"⟩
abbrev cX7_readInto : ByteArray := prog_9_method_2_code
def yX7_readInto : MethodName := ⟨RX7, "readInto", "(LPooledWaves$Program;)Z"⟩
abbrev cX7_take : ByteArray := prog_9_method_3_code
def yX7_take : MethodName := ⟨RX7, "take", "(LPooledWaves$Program;)I"⟩
abbrev cX7_takeHead : ByteArray := prog_9_method_4_code
def yX7_takeHead : MethodName := ⟨RX7, "takeHead", "(LPooledWaves$Pool;)I"⟩
abbrev cX7_takeLevel : ByteArray := prog_9_method_5_code
def yX7_takeLevel : MethodName := ⟨RX7, "takeLevel", "(LPooledWaves$Pool;)I"⟩
abbrev cX7_takeItem : ByteArray := prog_9_method_6_code
def yX7_takeItem : MethodName := ⟨RX7, "takeItem", "(LPooledWaves$Program;)I"⟩
abbrev cX7_kindNamed : ByteArray := prog_9_method_7_code
def yX7_kindNamed : MethodName := ⟨RX7, "kindNamed", "()I"⟩
abbrev cX7_takeEnd : ByteArray := prog_9_method_8_code
def yX7_takeEnd : MethodName := ⟨RX7, "takeEnd", "(LPooledWaves$Program;)I"⟩
abbrev cX7_takeNumber : ByteArray := prog_9_method_9_code
def yX7_takeNumber : MethodName := ⟨RX7, "takeNumber", "(LPooledWaves$Program;)I"⟩
abbrev cX7_greatest : ByteArray := prog_9_method_10_code
def yX7_greatest : MethodName := ⟨RX7, "greatest", "(LPooledWaves$Program;)I"⟩
abbrev cX7_takeOpening : ByteArray := prog_9_method_11_code
def yX7_takeOpening : MethodName := ⟨RX7, "takeOpening", "(LPooledWaves$Program;)I"⟩
def RX8 : String := "PooledWaves$Sheet"
def TX8 : u_T := fun k => match k with
  | 0 => ("PooledWaves$Sheet", "cells", "[J", true)
  | 1 => ("PooledWaves$Sheet", "lane", "I", false)
  | _ => ("PooledWaves$Sheet", "size", "I", false)
def tyX8 : Nat → FieldType := fun k => match k with
  | 0 => .array .long
  | 1 => .int
  | _ => .int
abbrev wsX80 : List Cond := u_ws RX8 TX8 3
theorem nmX8 : ∀ a, a < 3 → ∀ b, b < 3 → a ≠ b → (TX8 a).2.1 ≠ (TX8 b).2.1 := by decide +kernel
theorem tyX8_ok : ∀ k, k < 3 → parseFieldDescriptor (TX8 k).2.2.1 = some (tyX8 k) := by decide +kernel
abbrev cX8_init : ByteArray := prog_10_method_1_code
def yX8_init : MethodName := ⟨RX8, "<init>", "()V"⟩
abbrev cX8_renew : ByteArray := prog_10_method_2_code
def yX8_renew : MethodName := ⟨RX8, "renew", "(II)V"⟩
abbrev cX8_faultAt : ByteArray := prog_10_method_3_code
def yX8_faultAt : MethodName := ⟨RX8, "faultAt", "(II)I"⟩
def RX9 : String := "PooledWaves$Tape"
def TX9 : u_T := fun k => match k with
  | 0 => ("PooledWaves$Tape", "bytes", "[B", true)
  | 1 => ("PooledWaves$Tape", "length", "I", false)
  | 2 => ("PooledWaves$Tape", "kind", "I", false)
  | 3 => ("PooledWaves$Tape", "start", "I", false)
  | 4 => ("PooledWaves$Tape", "behind", "I", false)
  | _ => ("PooledWaves$Tape", "number", "I", false)
def tyX9 : Nat → FieldType := fun k => match k with
  | 0 => .array .byte
  | 1 => .int
  | 2 => .int
  | 3 => .int
  | 4 => .int
  | _ => .int
abbrev wsX90 : List Cond := u_ws RX9 TX9 6
theorem nmX9 : ∀ a, a < 6 → ∀ b, b < 6 → a ≠ b → (TX9 a).2.1 ≠ (TX9 b).2.1 := by decide +kernel
theorem tyX9_ok : ∀ k, k < 6 → parseFieldDescriptor (TX9 k).2.2.1 = some (tyX9 k) := by decide +kernel
abbrev cX9_init : ByteArray := prog_11_method_1_code
def yX9_init : MethodName := ⟨RX9, "<init>", "()V"⟩
abbrev cX9_put : ByteArray := prog_11_method_2_code
def yX9_put : MethodName := ⟨RX9, "put", "(I)Z"⟩
abbrev cX9_rewind : ByteArray := prog_11_method_3_code
def yX9_rewind : MethodName := ⟨RX9, "rewind", "()V"⟩
abbrev cX9_readToken : ByteArray := prog_11_method_4_code
def yX9_readToken : MethodName := ⟨RX9, "readToken", "()V"⟩
abbrev cX9_readOn : ByteArray := prog_11_method_5_code
def yX9_readOn : MethodName := ⟨RX9, "readOn", "()V"⟩
abbrev cX9_kindOf : ByteArray := prog_11_method_6_code
def yX9_kindOf : MethodName := ⟨RX9, "kindOf", "(B)I"⟩
abbrev cX9_isSign : ByteArray := prog_11_method_7_code
def yX9_isSign : MethodName := ⟨RX9, "isSign", "(C)Z"⟩
abbrev cX9_isName : ByteArray := prog_11_method_8_code
def yX9_isName : MethodName := ⟨RX9, "isName", "(Ljava/lang/String;)Z"⟩
def RX10 : String := "PooledWaves"
def TX10 : u_T := fun k => match k with
  | 0 => ("PooledWaves", "tape", "LPooledWaves$Tape;", true)
  | 1 => ("PooledWaves", "reader", "LPooledWaves$Reader;", true)
  | 2 => ("PooledWaves", "drawer", "LPooledWaves$Drawer;", true)
  | 3 => ("PooledWaves", "player", "LPooledWaves$Player;", true)
  | 4 => ("PooledWaves", "images", "[LPooledWaves$Player;", true)
  | 5 => ("PooledWaves", "kept", "[Z", true)
  | 6 => ("PooledWaves", "sheets", "[LPooledWaves$Sheet;", true)
  | 7 => ("PooledWaves", "told", "LPooledWaves$Program;", false)
  | 8 => ("PooledWaves", "spare", "LPooledWaves$Program;", false)
  | _ => ("PooledWaves", "runFault", "I", false)
def tyX10 : Nat → FieldType := fun k => match k with
  | 0 => .object "PooledWaves$Tape"
  | 1 => .object "PooledWaves$Reader"
  | 2 => .object "PooledWaves$Drawer"
  | 3 => .object "PooledWaves$Player"
  | 4 => .array (.object "PooledWaves$Player")
  | 5 => .array .boolean
  | 6 => .array (.object "PooledWaves$Sheet")
  | 7 => .object "PooledWaves$Program"
  | 8 => .object "PooledWaves$Program"
  | _ => .int
abbrev wsX100 : List Cond := u_ws RX10 TX10 10
theorem nmX10 : ∀ a, a < 10 → ∀ b, b < 10 → a ≠ b → (TX10 a).2.1 ≠ (TX10 b).2.1 := by decide +kernel
theorem tyX10_ok : ∀ k, k < 10 → parseFieldDescriptor (TX10 k).2.2.1 = some (tyX10 k) := by decide +kernel
abbrev cX10_init : ByteArray := prog_1_method_1_code
def yX10_init : MethodName := ⟨RX10, "<init>", "()V"⟩
abbrev cX10_feed : ByteArray := prog_1_method_2_code
def yX10_feed : MethodName := ⟨RX10, "feed", "(I)I"⟩
abbrev cX10_end : ByteArray := prog_1_method_3_code
def yX10_end : MethodName := ⟨RX10, "end", "(I)I"⟩
abbrev cX10_text : ByteArray := prog_1_method_4_code
def yX10_text : MethodName := ⟨RX10, "text", "()I"⟩
abbrev cX10_fault : ByteArray := prog_1_method_5_code
def yX10_fault : MethodName := ⟨RX10, "fault", "()I"⟩
abbrev cX10_rule : ByteArray := prog_1_method_6_code
def yX10_rule : MethodName := ⟨RX10, "rule", "(I)I"⟩
abbrev cX10_level : ByteArray := prog_1_method_7_code
def yX10_level : MethodName := ⟨RX10, "level", "(I)I"⟩
abbrev cX10_segment : ByteArray := prog_1_method_8_code
def yX10_segment : MethodName := ⟨RX10, "segment", "(II)I"⟩
abbrev cX10_item : ByteArray := prog_1_method_9_code
def yX10_item : MethodName := ⟨RX10, "item", "(II)I"⟩
abbrev cX10_plain : ByteArray := prog_1_method_10_code
def yX10_plain : MethodName := ⟨RX10, "plain", "(I)I"⟩
abbrev cX10_whole : ByteArray := prog_1_method_11_code
def yX10_whole : MethodName := ⟨RX10, "whole", "()I"⟩
abbrev cX10_player : ByteArray := prog_1_method_12_code
def yX10_player : MethodName := ⟨RX10, "player", "(I)I"⟩
abbrev cX10_turns : ByteArray := prog_1_method_13_code
def yX10_turns : MethodName := ⟨RX10, "turns", "(I)I"⟩
abbrev cX10_tick : ByteArray := prog_1_method_14_code
def yX10_tick : MethodName := ⟨RX10, "tick", "(I)I"⟩
abbrev cX10_out : ByteArray := prog_1_method_15_code
def yX10_out : MethodName := ⟨RX10, "out", "(I)I"⟩
abbrev cX10_marked : ByteArray := prog_1_method_16_code
def yX10_marked : MethodName := ⟨RX10, "marked", "(II)I"⟩
abbrev cX10_page : ByteArray := prog_1_method_17_code
def yX10_page : MethodName := ⟨RX10, "page", "(II)I"⟩
abbrev cX10_trigger : ByteArray := prog_1_method_18_code
def yX10_trigger : MethodName := ⟨RX10, "trigger", "(I)I"⟩
abbrev cX10_set : ByteArray := prog_1_method_19_code
def yX10_set : MethodName := ⟨RX10, "set", "(II)I"⟩
abbrev cX10_again : ByteArray := prog_1_method_20_code
def yX10_again : MethodName := ⟨RX10, "again", "()I"⟩
abbrev cX10_draw : ByteArray := prog_1_method_21_code
def yX10_draw : MethodName := ⟨RX10, "draw", "(II)I"⟩
abbrev cX10_keep : ByteArray := prog_1_method_22_code
def yX10_keep : MethodName := ⟨RX10, "keep", "(I)I"⟩
abbrev cX10_back : ByteArray := prog_1_method_23_code
def yX10_back : MethodName := ⟨RX10, "back", "(I)I"⟩
abbrev cX10_sheet : ByteArray := prog_1_method_24_code
def yX10_sheet : MethodName := ⟨RX10, "sheet", "(III)I"⟩
abbrev cX10_lay : ByteArray := prog_1_method_25_code
def yX10_lay : MethodName := ⟨RX10, "lay", "(III)I"⟩
abbrev cX10_run : ByteArray := prog_1_method_26_code
def yX10_run : MethodName := ⟨RX10, "run", "(IIII)I"⟩
abbrev cX10_torn : ByteArray := prog_1_method_27_code
def yX10_torn : MethodName := ⟨RX10, "torn", "()I"⟩
abbrev cX10_count : ByteArray := prog_1_method_28_code
def yX10_count : MethodName := ⟨RX10, "count", "(I)I"⟩
abbrev cX10_beginNew : ByteArray := prog_1_method_29_code
def yX10_beginNew : MethodName := ⟨RX10, "beginNew", "()V"⟩
abbrev cX10_latchByCell : ByteArray := prog_1_method_30_code
def yX10_latchByCell : MethodName := ⟨RX10, "latchByCell", "(J)V"⟩
abbrev cX10_isSetting : ByteArray := prog_1_method_31_code
def yX10_isSetting : MethodName := ⟨RX10, "isSetting", "(I)Z"⟩
abbrev cX10_isSheet : ByteArray := prog_1_method_32_code
def yX10_isSheet : MethodName := ⟨RX10, "isSheet", "(I)Z"⟩
abbrev cX10_isLane : ByteArray := prog_1_method_33_code
def yX10_isLane : MethodName := ⟨RX10, "isLane", "(I)Z"⟩
def RX11 : String := "PooledWavesModel"
def TX11 : u_T := fun k => match k with
  | 0 => ("PooledWavesModel", "told", "[I", true)
  | 1 => ("PooledWavesModel", "draft", "[I", true)
  | 2 => ("PooledWavesModel", "pool", "[I", true)
  | 3 => ("PooledWavesModel", "poolMany", "I", false)
  | 4 => ("PooledWavesModel", "firsts", "[I", true)
  | 5 => ("PooledWavesModel", "came", "[I", true)
  | 6 => ("PooledWavesModel", "st", "[I", true)
  | 7 => ("PooledWavesModel", "kept", "[I", true)
  | 8 => ("PooledWavesModel", "isKept", "[Z", true)
  | 9 => ("PooledWavesModel", "tape", "[I", true)
  | 10 => ("PooledWavesModel", "taped", "I", false)
  | 11 => ("PooledWavesModel", "pos", "I", false)
  | 12 => ("PooledWavesModel", "begun", "I", false)
  | 13 => ("PooledWavesModel", "sort", "I", false)
  | 14 => ("PooledWavesModel", "figure", "I", false)
  | 15 => ("PooledWavesModel", "fault", "I", false)
  | 16 => ("PooledWavesModel", "wrongAt", "I", false)
  | 17 => ("PooledWavesModel", "open", "[I", true)
  | 18 => ("PooledWavesModel", "hasPlay", "[Z", true)
  | 19 => ("PooledWavesModel", "openMany", "I", false)
  | 20 => ("PooledWavesModel", "row", "[I", true)
  | 21 => ("PooledWavesModel", "isLogged", "Z", false)
  | 22 => ("PooledWavesModel", "sought", "[I", true)
  | 23 => ("PooledWavesModel", "soughtMany", "I", false)
  | 24 => ("PooledWavesModel", "seeded", "I", false)
  | 25 => ("PooledWavesModel", "lanes", "[I", true)
  | 26 => ("PooledWavesModel", "sizes", "[I", true)
  | 27 => ("PooledWavesModel", "cells", "[I", true)
  | _ => ("PooledWavesModel", "torn", "I", false)
def tyX11 : Nat → FieldType := fun k => match k with
  | 0 => .array .int
  | 1 => .array .int
  | 2 => .array .int
  | 3 => .int
  | 4 => .array .int
  | 5 => .array .int
  | 6 => .array .int
  | 7 => .array .int
  | 8 => .array .boolean
  | 9 => .array .int
  | 10 => .int
  | 11 => .int
  | 12 => .int
  | 13 => .int
  | 14 => .int
  | 15 => .int
  | 16 => .int
  | 17 => .array .int
  | 18 => .array .boolean
  | 19 => .int
  | 20 => .array .int
  | 21 => .boolean
  | 22 => .array .int
  | 23 => .int
  | 24 => .int
  | 25 => .array .int
  | 26 => .array .int
  | 27 => .array .int
  | _ => .int
abbrev wsX110 : List Cond := u_ws RX11 TX11 29
theorem nmX11 : ∀ a, a < 29 → ∀ b, b < 29 → a ≠ b → (TX11 a).2.1 ≠ (TX11 b).2.1 := by decide +kernel
theorem tyX11_ok : ∀ k, k < 29 → parseFieldDescriptor (TX11 k).2.2.1 = some (tyX11 k) := by decide +kernel
abbrev cX11_init : ByteArray := prog_13_method_1_code
def yX11_init : MethodName := ⟨RX11, "<init>", "()V"⟩
abbrev cX11_in : ByteArray := prog_13_method_3_code
def yX11_in : MethodName := ⟨RX11, "in", "(JJJ)Z"⟩
abbrev cX11_flag : ByteArray := prog_13_method_4_code
def yX11_flag : MethodName := ⟨RX11, "flag", "(Z)I"⟩
abbrev cX11_feed : ByteArray := prog_13_method_5_code
def yX11_feed : MethodName := ⟨RX11, "feed", "(I)I"⟩
abbrev cX11_end : ByteArray := prog_13_method_6_code
def yX11_end : MethodName := ⟨RX11, "end", "(I)I"⟩
abbrev cX11_requires : ByteArray := prog_13_method_7_code
def yX11_requires : MethodName := ⟨RX11, "requires", "(ZI)V"⟩
abbrev cX11_byteAt : ByteArray := prog_13_method_8_code
def yX11_byteAt : MethodName := ⟨RX11, "byteAt", "(I)I"⟩
abbrev cX11_is : ByteArray := prog_13_method_9_code
def yX11_is : MethodName := ⟨RX11, "is", "(IIII)Z"⟩
abbrev cX11_isSeg : ByteArray := prog_13_method_10_code
def yX11_isSeg : MethodName := ⟨RX11, "isSeg", "()Z"⟩
abbrev cX11_isGo : ByteArray := prog_13_method_11_code
def yX11_isGo : MethodName := ⟨RX11, "isGo", "()Z"⟩
abbrev cX11_kindNow : ByteArray := prog_13_method_12_code
def yX11_kindNow : MethodName := ⟨RX11, "kindNow", "()I"⟩
abbrev cX11_reads : ByteArray := prog_13_method_13_code
def yX11_reads : MethodName := ⟨RX11, "reads", "()V"⟩
abbrev cX11_isSign : ByteArray := prog_13_method_14_code
def yX11_isSign : MethodName := ⟨RX11, "isSign", "(I)Z"⟩
abbrev cX11_readNumber : ByteArray := prog_13_method_15_code
def yX11_readNumber : MethodName := ⟨RX11, "readNumber", "(II)I"⟩
abbrev cX11_readSign : ByteArray := prog_13_method_16_code
def yX11_readSign : MethodName := ⟨RX11, "readSign", "(I)V"⟩
abbrev cX11_readSegment : ByteArray := prog_13_method_17_code
def yX11_readSegment : MethodName := ⟨RX11, "readSegment", "()V"⟩
abbrev cX11_itemComes : ByteArray := prog_13_method_18_code
def yX11_itemComes : MethodName := ⟨RX11, "itemComes", "(III)V"⟩
abbrev cX11_endComes : ByteArray := prog_13_method_19_code
def yX11_endComes : MethodName := ⟨RX11, "endComes", "()V"⟩
abbrev cX11_loopComes : ByteArray := prog_13_method_20_code
def yX11_loopComes : MethodName := ⟨RX11, "loopComes", "(II)V"⟩
abbrev cX11_readItem : ByteArray := prog_13_method_21_code
def yX11_readItem : MethodName := ⟨RX11, "readItem", "(I)V"⟩
abbrev cX11_readProgram : ByteArray := prog_13_method_22_code
def yX11_readProgram : MethodName := ⟨RX11, "readProgram", "()V"⟩
abbrev cX11_text : ByteArray := prog_13_method_23_code
def yX11_text : MethodName := ⟨RX11, "text", "()I"⟩
abbrev cX11_takesDraft : ByteArray := prog_13_method_24_code
def yX11_takesDraft : MethodName := ⟨RX11, "takesDraft", "()V"⟩
abbrev cX11_fault : ByteArray := prog_13_method_25_code
def yX11_fault : MethodName := ⟨RX11, "fault", "()I"⟩
abbrev cX11_many : ByteArray := prog_13_method_26_code
def yX11_many : MethodName := ⟨RX11, "many", "(I)I"⟩
abbrev cX11_levelOf : ByteArray := prog_13_method_27_code
def yX11_levelOf : MethodName := ⟨RX11, "levelOf", "(II)I"⟩
abbrev cX11_alikeFrom : ByteArray := prog_13_method_28_code
def yX11_alikeFrom : MethodName := ⟨RX11, "alikeFrom", "(II)I"⟩
abbrev cX11_pools : ByteArray := prog_13_method_29_code
def yX11_pools : MethodName := ⟨RX11, "pools", "(I)V"⟩
abbrev cX11_levels : ByteArray := prog_13_method_30_code
def yX11_levels : MethodName := ⟨RX11, "levels", "()I"⟩
abbrev cX11_shared : ByteArray := prog_13_method_31_code
def yX11_shared : MethodName := ⟨RX11, "shared", "()I"⟩
abbrev cX11_rule : ByteArray := prog_13_method_32_code
def yX11_rule : MethodName := ⟨RX11, "rule", "(I)I"⟩
abbrev cX11_level : ByteArray := prog_13_method_33_code
def yX11_level : MethodName := ⟨RX11, "level", "(I)I"⟩
abbrev cX11_segment : ByteArray := prog_13_method_34_code
def yX11_segment : MethodName := ⟨RX11, "segment", "(II)I"⟩
abbrev cX11_isItem : ByteArray := prog_13_method_35_code
def yX11_isItem : MethodName := ⟨RX11, "isItem", "(I)Z"⟩
abbrev cX11_ofItem : ByteArray := prog_13_method_36_code
def yX11_ofItem : MethodName := ⟨RX11, "ofItem", "(II)I"⟩
abbrev cX11_item : ByteArray := prog_13_method_37_code
def yX11_item : MethodName := ⟨RX11, "item", "(II)I"⟩
abbrev cX11_goesOn : ByteArray := prog_13_method_38_code
def yX11_goesOn : MethodName := ⟨RX11, "goesOn", "(Z)V"⟩
abbrev cX11_stays : ByteArray := prog_13_method_39_code
def yX11_stays : MethodName := ⟨RX11, "stays", "()V"⟩
abbrev cX11_marks : ByteArray := prog_13_method_40_code
def yX11_marks : MethodName := ⟨RX11, "marks", "(I)V"⟩
abbrev cX11_behindEnd : ByteArray := prog_13_method_41_code
def yX11_behindEnd : MethodName := ⟨RX11, "behindEnd", "(I)I"⟩
abbrev cX11_settles : ByteArray := prog_13_method_42_code
def yX11_settles : MethodName := ⟨RX11, "settles", "(I)V"⟩
abbrev cX11_begins : ByteArray := prog_13_method_43_code
def yX11_begins : MethodName := ⟨RX11, "begins", "()V"⟩
abbrev cX11_segmentAt : ByteArray := prog_13_method_44_code
def yX11_segmentAt : MethodName := ⟨RX11, "segmentAt", "()I"⟩
abbrev cX11_placeAt : ByteArray := prog_13_method_45_code
def yX11_placeAt : MethodName := ⟨RX11, "placeAt", "()I"⟩
abbrev cX11_steps : ByteArray := prog_13_method_46_code
def yX11_steps : MethodName := ⟨RX11, "steps", "()V"⟩
abbrev cX11_levelNow : ByteArray := prog_13_method_47_code
def yX11_levelNow : MethodName := ⟨RX11, "levelNow", "()I"⟩
abbrev cX11_cachedAt : ByteArray := prog_13_method_48_code
def yX11_cachedAt : MethodName := ⟨RX11, "cachedAt", "(I)I"⟩
abbrev cX11_leaves : ByteArray := prog_13_method_49_code
def yX11_leaves : MethodName := ⟨RX11, "leaves", "(I)V"⟩
abbrev cX11_comes : ByteArray := prog_13_method_50_code
def yX11_comes : MethodName := ⟨RX11, "comes", "(I)V"⟩
abbrev cX11_isAsked : ByteArray := prog_13_method_51_code
def yX11_isAsked : MethodName := ⟨RX11, "isAsked", "(I)Z"⟩
abbrev cX11_arrive : ByteArray := prog_13_method_52_code
def yX11_arrive : MethodName := ⟨RX11, "arrive", "()V"⟩
abbrev cX11_outs : ByteArray := prog_13_method_53_code
def yX11_outs : MethodName := ⟨RX11, "outs", "(I)V"⟩
abbrev cX11_sounds : ByteArray := prog_13_method_54_code
def yX11_sounds : MethodName := ⟨RX11, "sounds", "()V"⟩
abbrev cX11_seeks : ByteArray := prog_13_method_55_code
def yX11_seeks : MethodName := ⟨RX11, "seeks", "()V"⟩
abbrev cX11_asks : ByteArray := prog_13_method_56_code
def yX11_asks : MethodName := ⟨RX11, "asks", "()V"⟩
abbrev cX11_ticks : ByteArray := prog_13_method_57_code
def yX11_ticks : MethodName := ⟨RX11, "ticks", "()V"⟩
abbrev cX11_hasUntil : ByteArray := prog_13_method_58_code
def yX11_hasUntil : MethodName := ⟨RX11, "hasUntil", "()Z"⟩
abbrev cX11_unfolds : ByteArray := prog_13_method_59_code
def yX11_unfolds : MethodName := ⟨RX11, "unfolds", "()V"⟩
abbrev cX11_plain : ByteArray := prog_13_method_60_code
def yX11_plain : MethodName := ⟨RX11, "plain", "(I)I"⟩
abbrev cX11_whole : ByteArray := prog_13_method_61_code
def yX11_whole : MethodName := ⟨RX11, "whole", "()I"⟩
abbrev cX11_latchesOn : ByteArray := prog_13_method_62_code
def yX11_latchesOn : MethodName := ⟨RX11, "latchesOn", "()I"⟩
abbrev cX11_player : ByteArray := prog_13_method_63_code
def yX11_player : MethodName := ⟨RX11, "player", "(I)I"⟩
abbrev cX11_turns : ByteArray := prog_13_method_64_code
def yX11_turns : MethodName := ⟨RX11, "turns", "(I)I"⟩
abbrev cX11_tick : ByteArray := prog_13_method_65_code
def yX11_tick : MethodName := ⟨RX11, "tick", "(I)I"⟩
abbrev cX11_out : ByteArray := prog_13_method_66_code
def yX11_out : MethodName := ⟨RX11, "out", "(I)I"⟩
abbrev cX11_marked : ByteArray := prog_13_method_67_code
def yX11_marked : MethodName := ⟨RX11, "marked", "(II)I"⟩
abbrev cX11_page : ByteArray := prog_13_method_68_code
def yX11_page : MethodName := ⟨RX11, "page", "(II)I"⟩
abbrev cX11_trigger : ByteArray := prog_13_method_69_code
def yX11_trigger : MethodName := ⟨RX11, "trigger", "(I)I"⟩
abbrev cX11_leastOf : ByteArray := prog_13_method_70_code
def yX11_leastOf : MethodName := ⟨RX11, "leastOf", "(I)I"⟩
abbrev cX11_mostOf : ByteArray := prog_13_method_71_code
def yX11_mostOf : MethodName := ⟨RX11, "mostOf", "(I)I"⟩
abbrev cX11_set : ByteArray := prog_13_method_72_code
def yX11_set : MethodName := ⟨RX11, "set", "(II)I"⟩
abbrev cX11_again : ByteArray := prog_13_method_73_code
def yX11_again : MethodName := ⟨RX11, "again", "()I"⟩
abbrev cX11_gets : ByteArray := prog_13_method_74_code
def yX11_gets : MethodName := ⟨RX11, "gets", "()I"⟩
abbrev cX11_drawsItem : ByteArray := prog_13_method_75_code
def yX11_drawsItem : MethodName := ⟨RX11, "drawsItem", "(I)V"⟩
abbrev cX11_draw : ByteArray := prog_13_method_76_code
def yX11_draw : MethodName := ⟨RX11, "draw", "(II)I"⟩
abbrev cX11_keep : ByteArray := prog_13_method_77_code
def yX11_keep : MethodName := ⟨RX11, "keep", "(I)I"⟩
abbrev cX11_back : ByteArray := prog_13_method_78_code
def yX11_back : MethodName := ⟨RX11, "back", "(I)I"⟩
abbrev cX11_isSheet : ByteArray := prog_13_method_79_code
def yX11_isSheet : MethodName := ⟨RX11, "isSheet", "(II)Z"⟩
abbrev cX11_sheet : ByteArray := prog_13_method_80_code
def yX11_sheet : MethodName := ⟨RX11, "sheet", "(III)I"⟩
abbrev cX11_lay : ByteArray := prog_13_method_81_code
def yX11_lay : MethodName := ⟨RX11, "lay", "(III)I"⟩
abbrev cX11_run : ByteArray := prog_13_method_82_code
def yX11_run : MethodName := ⟨RX11, "run", "(IIII)I"⟩
abbrev cX11_torn : ByteArray := prog_13_method_83_code
def yX11_torn : MethodName := ⟨RX11, "torn", "()I"⟩
abbrev cX11_count : ByteArray := prog_13_method_84_code
def yX11_count : MethodName := ⟨RX11, "count", "(I)I"⟩
def RJ6 : String := "java/lang/Integer"
abbrev cJ6_bitCount_0f7a4 : ByteArray := prog_15_method_49_code
def yJ6_bitCount_0f7a4 : MethodName := ⟨RJ6, "bitCount", "(I)I"⟩
def RJ9 : String := "java/lang/Math"
abbrev cJ9_floorMod_7cf53 : ByteArray := prog_16_method_50_code
def yJ9_floorMod_7cf53 : MethodName := ⟨RJ9, "floorMod", "(II)I"⟩
abbrev cJ9_min_7cf53 : ByteArray := prog_16_method_69_code
def yJ9_min_7cf53 : MethodName := ⟨RJ9, "min", "(II)I"⟩
def RJ0 : String := "java/lang/String"
abbrev cJ0_length_8abf5 : ByteArray := prog_17_method_54_code
def yJ0_length_8abf5 : MethodName := ⟨RJ0, "length", "()I"⟩
abbrev cJ0_charAt_5068e : ByteArray := prog_17_method_56_code
def yJ0_charAt_5068e : MethodName := ⟨RJ0, "charAt", "(I)C"⟩
abbrev cJ0_coder_7d493 : ByteArray := prog_17_method_152_code
def yJ0_coder_7d493 : MethodName := ⟨RJ0, "coder", "()B"⟩
abbrev cJ0_isLatin1_aae02 : ByteArray := prog_17_method_154_code
def yJ0_isLatin1_aae02 : MethodName := ⟨RJ0, "isLatin1", "()Z"⟩
abbrev cJ0_checkIndex_df160 : ByteArray := prog_17_method_155_code
def yJ0_checkIndex_df160 : MethodName := ⟨RJ0, "checkIndex", "(II)V"⟩
def RJ1 : String := "java/lang/StringLatin1"
abbrev cJ1_charAt_3b067 : ByteArray := prog_18_method_2_code
def yJ1_charAt_3b067 : MethodName := ⟨RJ1, "charAt", "([BI)C"⟩
def RJ2 : String := "java/lang/StringUTF16"
abbrev cJ2_getChar_3b067 : ByteArray := prog_19_method_5_code
def yJ2_getChar_3b067 : MethodName := ⟨RJ2, "getChar", "([BI)C"⟩
abbrev cJ2_length_9d52b : ByteArray := prog_19_method_6_code
def yJ2_length_9d52b : MethodName := ⟨RJ2, "length", "([B)I"⟩
abbrev cJ2_charAt_3b067 : ByteArray := prog_19_method_83_code
def yJ2_charAt_3b067 : MethodName := ⟨RJ2, "charAt", "([BI)C"⟩
abbrev cJ2_checkIndex_2214a : ByteArray := prog_19_method_91_code
def yJ2_checkIndex_2214a : MethodName := ⟨RJ2, "checkIndex", "(I[B)V"⟩
def RJ10 : String := "java/lang/System"
def RJ3 : String := "jdk/internal/util/Preconditions"
abbrev cJ3_checkIndex_8e157 : ByteArray := prog_21_method_11_code
def yJ3_checkIndex_8e157 : MethodName := ⟨RJ3, "checkIndex", "(IILjava/util/function/BiFunction;)I"⟩
def RL : String := "PooledWavesLaw"
abbrev cL_law : ByteArray := code
def yL_law : MethodName := ⟨RL, "law", "([I)Z"⟩
abbrev vwCl : List vw_C := [(RX0, TX0, 4), (RX1, TX1, 3), (RX2, TX2, 3), (RX3, TX3, 5), (RX4, TX4, 10), (RX5, TX5, 6), (RX6, TX6, 10), (RX7, TX7, 8), (RX8, TX8, 3), (RX9, TX9, 6), (RX10, TX10, 10), (RX11, TX11, 29)]
