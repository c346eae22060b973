section
-- ===== PART A: goes FIRST, ahead of the names: the tables' words, and 'selects' of the private methods out of them =====
/-- a private method of a class that the tables say can be made, by its rows of tables_1 -/
def lw_okq (q : MethodName × Nat) : Prop := (q.1.cls ≠ "java/lang/invoke/MethodHandle" ∧ q.1.cls ≠ "java/lang/invoke/VarHandle") ∧ Cond.instantiable q.1.cls q.2 ∈ tables_1 ∧ Cond.privateMethod q.1 ∈ tables_1 ∧ Cond.instanceMethod q.1 ∈ tables_1
theorem lw_p0 : lw_okq (⟨"PooledWaves$Tape", "readOn", "()V"⟩, 6) := ⟨⟨by decide +kernel, by decide +kernel⟩, List.mem_of_getElem? (i := 29) (by decide +kernel), List.mem_of_getElem? (i := 418) (by decide +kernel), List.mem_of_getElem? (i := 419) (by decide +kernel)⟩
theorem lw_p1 : lw_okq (⟨"PooledWaves$Reader", "take", "(LPooledWaves$Program;)I"⟩, 8) := ⟨⟨by decide +kernel, by decide +kernel⟩, List.mem_of_getElem? (i := 59) (by decide +kernel), List.mem_of_getElem? (i := 423) (by decide +kernel), List.mem_of_getElem? (i := 424) (by decide +kernel)⟩
theorem lw_p2 : lw_okq (⟨"PooledWaves$Reader", "takeHead", "(LPooledWaves$Pool;)I"⟩, 8) := ⟨⟨by decide +kernel, by decide +kernel⟩, List.mem_of_getElem? (i := 59) (by decide +kernel), List.mem_of_getElem? (i := 427) (by decide +kernel), List.mem_of_getElem? (i := 428) (by decide +kernel)⟩
theorem lw_p3 : lw_okq (⟨"PooledWaves$Reader", "takeLevel", "(LPooledWaves$Pool;)I"⟩, 8) := ⟨⟨by decide +kernel, by decide +kernel⟩, List.mem_of_getElem? (i := 59) (by decide +kernel), List.mem_of_getElem? (i := 485) (by decide +kernel), List.mem_of_getElem? (i := 486) (by decide +kernel)⟩
theorem lw_p4 : lw_okq (⟨"PooledWaves$Pool", "firstPlace", "([II)I"⟩, 6) := ⟨⟨by decide +kernel, by decide +kernel⟩, List.mem_of_getElem? (i := 244) (by decide +kernel), List.mem_of_getElem? (i := 497) (by decide +kernel), List.mem_of_getElem? (i := 498) (by decide +kernel)⟩
theorem lw_p5 : lw_okq (⟨"PooledWaves$Pool", "fitsAt", "(I[II)Z"⟩, 6) := ⟨⟨by decide +kernel, by decide +kernel⟩, List.mem_of_getElem? (i := 244) (by decide +kernel), List.mem_of_getElem? (i := 501) (by decide +kernel), List.mem_of_getElem? (i := 502) (by decide +kernel)⟩
theorem lw_p6 : lw_okq (⟨"PooledWaves$Reader", "takeItem", "(LPooledWaves$Program;)I"⟩, 8) := ⟨⟨by decide +kernel, by decide +kernel⟩, List.mem_of_getElem? (i := 59) (by decide +kernel), List.mem_of_getElem? (i := 511) (by decide +kernel), List.mem_of_getElem? (i := 512) (by decide +kernel)⟩
theorem lw_p7 : lw_okq (⟨"PooledWaves$Reader", "takeEnd", "(LPooledWaves$Program;)I"⟩, 8) := ⟨⟨by decide +kernel, by decide +kernel⟩, List.mem_of_getElem? (i := 59) (by decide +kernel), List.mem_of_getElem? (i := 515) (by decide +kernel), List.mem_of_getElem? (i := 516) (by decide +kernel)⟩
theorem lw_p8 : lw_okq (⟨"PooledWaves$Program", "addItem", "(II)V"⟩, 10) := ⟨⟨by decide +kernel, by decide +kernel⟩, List.mem_of_getElem? (i := 238) (by decide +kernel), List.mem_of_getElem? (i := 532) (by decide +kernel), List.mem_of_getElem? (i := 533) (by decide +kernel)⟩
theorem lw_p9 : lw_okq (⟨"PooledWaves$Program", "lengthOf", "(I)I"⟩, 10) := ⟨⟨by decide +kernel, by decide +kernel⟩, List.mem_of_getElem? (i := 238) (by decide +kernel), List.mem_of_getElem? (i := 536) (by decide +kernel), List.mem_of_getElem? (i := 537) (by decide +kernel)⟩
theorem lw_p10 : lw_okq (⟨"PooledWaves$Program", "grow", "(I)V"⟩, 10) := ⟨⟨by decide +kernel, by decide +kernel⟩, List.mem_of_getElem? (i := 238) (by decide +kernel), List.mem_of_getElem? (i := 541) (by decide +kernel), List.mem_of_getElem? (i := 542) (by decide +kernel)⟩
theorem lw_p11 : lw_okq (⟨"PooledWaves$Reader", "kindNamed", "()I"⟩, 8) := ⟨⟨by decide +kernel, by decide +kernel⟩, List.mem_of_getElem? (i := 59) (by decide +kernel), List.mem_of_getElem? (i := 545) (by decide +kernel), List.mem_of_getElem? (i := 546) (by decide +kernel)⟩
theorem lw_p12 : lw_okq (⟨"PooledWaves$Reader", "takeNumber", "(LPooledWaves$Program;)I"⟩, 8) := ⟨⟨by decide +kernel, by decide +kernel⟩, List.mem_of_getElem? (i := 59) (by decide +kernel), List.mem_of_getElem? (i := 553) (by decide +kernel), List.mem_of_getElem? (i := 554) (by decide +kernel)⟩
theorem lw_p13 : lw_okq (⟨"PooledWaves$Reader", "greatest", "(LPooledWaves$Program;)I"⟩, 8) := ⟨⟨by decide +kernel, by decide +kernel⟩, List.mem_of_getElem? (i := 59) (by decide +kernel), List.mem_of_getElem? (i := 557) (by decide +kernel), List.mem_of_getElem? (i := 558) (by decide +kernel)⟩
theorem lw_p14 : lw_okq (⟨"PooledWaves$Reader", "takeOpening", "(LPooledWaves$Program;)I"⟩, 8) := ⟨⟨by decide +kernel, by decide +kernel⟩, List.mem_of_getElem? (i := 59) (by decide +kernel), List.mem_of_getElem? (i := 569) (by decide +kernel), List.mem_of_getElem? (i := 570) (by decide +kernel)⟩
theorem lw_p15 : lw_okq (⟨"PooledWaves", "beginNew", "()V"⟩, 10) := ⟨⟨by decide +kernel, by decide +kernel⟩, List.mem_of_getElem? (i := 21) (by decide +kernel), List.mem_of_getElem? (i := 582) (by decide +kernel), List.mem_of_getElem? (i := 583) (by decide +kernel)⟩
def lw_privs_1 : List (MethodName × Nat) := [(⟨"PooledWaves$Tape", "readOn", "()V"⟩, 6), (⟨"PooledWaves$Reader", "take", "(LPooledWaves$Program;)I"⟩, 8), (⟨"PooledWaves$Reader", "takeHead", "(LPooledWaves$Pool;)I"⟩, 8), (⟨"PooledWaves$Reader", "takeLevel", "(LPooledWaves$Pool;)I"⟩, 8), (⟨"PooledWaves$Pool", "firstPlace", "([II)I"⟩, 6), (⟨"PooledWaves$Pool", "fitsAt", "(I[II)Z"⟩, 6), (⟨"PooledWaves$Reader", "takeItem", "(LPooledWaves$Program;)I"⟩, 8), (⟨"PooledWaves$Reader", "takeEnd", "(LPooledWaves$Program;)I"⟩, 8), (⟨"PooledWaves$Program", "addItem", "(II)V"⟩, 10), (⟨"PooledWaves$Program", "lengthOf", "(I)I"⟩, 10), (⟨"PooledWaves$Program", "grow", "(I)V"⟩, 10), (⟨"PooledWaves$Reader", "kindNamed", "()I"⟩, 8), (⟨"PooledWaves$Reader", "takeNumber", "(LPooledWaves$Program;)I"⟩, 8), (⟨"PooledWaves$Reader", "greatest", "(LPooledWaves$Program;)I"⟩, 8), (⟨"PooledWaves$Reader", "takeOpening", "(LPooledWaves$Program;)I"⟩, 8), (⟨"PooledWaves", "beginNew", "()V"⟩, 10)]
theorem lw_r1 : ∀ q ∈ lw_privs_1, lw_okq q := List.forall_mem_cons.mpr ⟨lw_p0, List.forall_mem_cons.mpr ⟨lw_p1, List.forall_mem_cons.mpr ⟨lw_p2, List.forall_mem_cons.mpr ⟨lw_p3, List.forall_mem_cons.mpr ⟨lw_p4, List.forall_mem_cons.mpr ⟨lw_p5, List.forall_mem_cons.mpr ⟨lw_p6, List.forall_mem_cons.mpr ⟨lw_p7, List.forall_mem_cons.mpr ⟨lw_p8, List.forall_mem_cons.mpr ⟨lw_p9, List.forall_mem_cons.mpr ⟨lw_p10, List.forall_mem_cons.mpr ⟨lw_p11, List.forall_mem_cons.mpr ⟨lw_p12, List.forall_mem_cons.mpr ⟨lw_p13, List.forall_mem_cons.mpr ⟨lw_p14, List.forall_mem_cons.mpr ⟨lw_p15, fun _ h => absurd h List.not_mem_nil⟩⟩⟩⟩⟩⟩⟩⟩⟩⟩⟩⟩⟩⟩⟩⟩
theorem lw_p16 : lw_okq (⟨"PooledWaves$Cursor", "behindEnd", "(LPooledWaves$Program;I)I"⟩, 4) := ⟨⟨by decide +kernel, by decide +kernel⟩, List.mem_of_getElem? (i := 115) (by decide +kernel), List.mem_of_getElem? (i := 613) (by decide +kernel), List.mem_of_getElem? (i := 614) (by decide +kernel)⟩
theorem lw_p17 : lw_okq (⟨"PooledWaves$Cursor", "turnIsLast", "(II)Z"⟩, 4) := ⟨⟨by decide +kernel, by decide +kernel⟩, List.mem_of_getElem? (i := 115) (by decide +kernel), List.mem_of_getElem? (i := 617) (by decide +kernel), List.mem_of_getElem? (i := 618) (by decide +kernel)⟩
theorem lw_p18 : lw_okq (⟨"PooledWaves$Cursor", "latchOff", "(I)Z"⟩, 4) := ⟨⟨by decide +kernel, by decide +kernel⟩, List.mem_of_getElem? (i := 115) (by decide +kernel), List.mem_of_getElem? (i := 621) (by decide +kernel), List.mem_of_getElem? (i := 622) (by decide +kernel)⟩
theorem lw_p19 : lw_okq (⟨"PooledWaves$Program", "unfoldedLength", "(I)I"⟩, 10) := ⟨⟨by decide +kernel, by decide +kernel⟩, List.mem_of_getElem? (i := 238) (by decide +kernel), List.mem_of_getElem? (i := 668) (by decide +kernel), List.mem_of_getElem? (i := 669) (by decide +kernel)⟩
theorem lw_p20 : lw_okq (⟨"PooledWaves$Program", "behind", "(I)I"⟩, 10) := ⟨⟨by decide +kernel, by decide +kernel⟩, List.mem_of_getElem? (i := 238) (by decide +kernel), List.mem_of_getElem? (i := 676) (by decide +kernel), List.mem_of_getElem? (i := 677) (by decide +kernel)⟩
theorem lw_p21 : lw_okq (⟨"PooledWaves$Program", "withinTurn", "(II)I"⟩, 10) := ⟨⟨by decide +kernel, by decide +kernel⟩, List.mem_of_getElem? (i := 238) (by decide +kernel), List.mem_of_getElem? (i := 684) (by decide +kernel), List.mem_of_getElem? (i := 685) (by decide +kernel)⟩
theorem lw_p22 : lw_okq (⟨"PooledWaves$Pages", "addToCache", "(II)V"⟩, 5) := ⟨⟨by decide +kernel, by decide +kernel⟩, List.mem_of_getElem? (i := 139) (by decide +kernel), List.mem_of_getElem? (i := 723) (by decide +kernel), List.mem_of_getElem? (i := 724) (by decide +kernel)⟩
theorem lw_p23 : lw_okq (⟨"PooledWaves$Player", "playOne", "(LPooledWaves$Program;)V"⟩, 10) := ⟨⟨by decide +kernel, by decide +kernel⟩, List.mem_of_getElem? (i := 109) (by decide +kernel), List.mem_of_getElem? (i := 735) (by decide +kernel), List.mem_of_getElem? (i := 736) (by decide +kernel)⟩
theorem lw_p24 : lw_okq (⟨"PooledWaves$Cursor", "segmentOf", "(LPooledWaves$Program;)I"⟩, 4) := ⟨⟨by decide +kernel, by decide +kernel⟩, List.mem_of_getElem? (i := 115) (by decide +kernel), List.mem_of_getElem? (i := 743) (by decide +kernel), List.mem_of_getElem? (i := 744) (by decide +kernel)⟩
theorem lw_p25 : lw_okq (⟨"PooledWaves$Player", "logOut", "()V"⟩, 10) := ⟨⟨by decide +kernel, by decide +kernel⟩, List.mem_of_getElem? (i := 109) (by decide +kernel), List.mem_of_getElem? (i := 760) (by decide +kernel), List.mem_of_getElem? (i := 761) (by decide +kernel)⟩
theorem lw_p26 : lw_okq (⟨"PooledWaves$Player", "askAhead", "(LPooledWaves$Program;)V"⟩, 10) := ⟨⟨by decide +kernel, by decide +kernel⟩, List.mem_of_getElem? (i := 109) (by decide +kernel), List.mem_of_getElem? (i := 770) (by decide +kernel), List.mem_of_getElem? (i := 771) (by decide +kernel)⟩
theorem lw_p27 : lw_okq (⟨"PooledWaves$Drawer", "drawSegments", "(LPooledWaves$Pool;)V"⟩, 3) := ⟨⟨by decide +kernel, by decide +kernel⟩, List.mem_of_getElem? (i := 93) (by decide +kernel), List.mem_of_getElem? (i := 837) (by decide +kernel), List.mem_of_getElem? (i := 838) (by decide +kernel)⟩
theorem lw_p28 : lw_okq (⟨"PooledWaves$Drawer", "got", "(I)I"⟩, 3) := ⟨⟨by decide +kernel, by decide +kernel⟩, List.mem_of_getElem? (i := 93) (by decide +kernel), List.mem_of_getElem? (i := 841) (by decide +kernel), List.mem_of_getElem? (i := 842) (by decide +kernel)⟩
theorem lw_p29 : lw_okq (⟨"PooledWaves$Drawer", "drawItem", "(LPooledWaves$Program;I)V"⟩, 3) := ⟨⟨by decide +kernel, by decide +kernel⟩, List.mem_of_getElem? (i := 93) (by decide +kernel), List.mem_of_getElem? (i := 851) (by decide +kernel), List.mem_of_getElem? (i := 852) (by decide +kernel)⟩
theorem lw_p30 : lw_okq (⟨"PooledWaves$Drawer", "drawOpening", "(LPooledWaves$Program;I)V"⟩, 3) := ⟨⟨by decide +kernel, by decide +kernel⟩, List.mem_of_getElem? (i := 93) (by decide +kernel), List.mem_of_getElem? (i := 857) (by decide +kernel), List.mem_of_getElem? (i := 858) (by decide +kernel)⟩
theorem lw_p31 : lw_okq (⟨"PooledWaves", "latchByCell", "(J)V"⟩, 10) := ⟨⟨by decide +kernel, by decide +kernel⟩, List.mem_of_getElem? (i := 21) (by decide +kernel), List.mem_of_getElem? (i := 913) (by decide +kernel), List.mem_of_getElem? (i := 914) (by decide +kernel)⟩
def lw_privs_2 : List (MethodName × Nat) := [(⟨"PooledWaves$Cursor", "behindEnd", "(LPooledWaves$Program;I)I"⟩, 4), (⟨"PooledWaves$Cursor", "turnIsLast", "(II)Z"⟩, 4), (⟨"PooledWaves$Cursor", "latchOff", "(I)Z"⟩, 4), (⟨"PooledWaves$Program", "unfoldedLength", "(I)I"⟩, 10), (⟨"PooledWaves$Program", "behind", "(I)I"⟩, 10), (⟨"PooledWaves$Program", "withinTurn", "(II)I"⟩, 10), (⟨"PooledWaves$Pages", "addToCache", "(II)V"⟩, 5), (⟨"PooledWaves$Player", "playOne", "(LPooledWaves$Program;)V"⟩, 10), (⟨"PooledWaves$Cursor", "segmentOf", "(LPooledWaves$Program;)I"⟩, 4), (⟨"PooledWaves$Player", "logOut", "()V"⟩, 10), (⟨"PooledWaves$Player", "askAhead", "(LPooledWaves$Program;)V"⟩, 10), (⟨"PooledWaves$Drawer", "drawSegments", "(LPooledWaves$Pool;)V"⟩, 3), (⟨"PooledWaves$Drawer", "got", "(I)I"⟩, 3), (⟨"PooledWaves$Drawer", "drawItem", "(LPooledWaves$Program;I)V"⟩, 3), (⟨"PooledWaves$Drawer", "drawOpening", "(LPooledWaves$Program;I)V"⟩, 3), (⟨"PooledWaves", "latchByCell", "(J)V"⟩, 10)]
theorem lw_r2 : ∀ q ∈ lw_privs_2, lw_okq q := List.forall_mem_cons.mpr ⟨lw_p16, List.forall_mem_cons.mpr ⟨lw_p17, List.forall_mem_cons.mpr ⟨lw_p18, List.forall_mem_cons.mpr ⟨lw_p19, List.forall_mem_cons.mpr ⟨lw_p20, List.forall_mem_cons.mpr ⟨lw_p21, List.forall_mem_cons.mpr ⟨lw_p22, List.forall_mem_cons.mpr ⟨lw_p23, List.forall_mem_cons.mpr ⟨lw_p24, List.forall_mem_cons.mpr ⟨lw_p25, List.forall_mem_cons.mpr ⟨lw_p26, List.forall_mem_cons.mpr ⟨lw_p27, List.forall_mem_cons.mpr ⟨lw_p28, List.forall_mem_cons.mpr ⟨lw_p29, List.forall_mem_cons.mpr ⟨lw_p30, List.forall_mem_cons.mpr ⟨lw_p31, fun _ h => absurd h List.not_mem_nil⟩⟩⟩⟩⟩⟩⟩⟩⟩⟩⟩⟩⟩⟩⟩⟩
theorem lw_p32 : lw_okq (⟨"PooledWavesModel", "begins", "()V"⟩, 29) := ⟨⟨by decide +kernel, by decide +kernel⟩, List.mem_of_getElem? (i := 926) (by decide +kernel), List.mem_of_getElem? (i := 932) (by decide +kernel), List.mem_of_getElem? (i := 933) (by decide +kernel)⟩
theorem lw_p33 : lw_okq (⟨"PooledWavesModel", "goesOn", "(Z)V"⟩, 29) := ⟨⟨by decide +kernel, by decide +kernel⟩, List.mem_of_getElem? (i := 926) (by decide +kernel), List.mem_of_getElem? (i := 936) (by decide +kernel), List.mem_of_getElem? (i := 937) (by decide +kernel)⟩
theorem lw_p34 : lw_okq (⟨"PooledWavesModel", "settles", "(I)V"⟩, 29) := ⟨⟨by decide +kernel, by decide +kernel⟩, List.mem_of_getElem? (i := 926) (by decide +kernel), List.mem_of_getElem? (i := 940) (by decide +kernel), List.mem_of_getElem? (i := 941) (by decide +kernel)⟩
theorem lw_p35 : lw_okq (⟨"PooledWavesModel", "ofItem", "(II)I"⟩, 29) := ⟨⟨by decide +kernel, by decide +kernel⟩, List.mem_of_getElem? (i := 926) (by decide +kernel), List.mem_of_getElem? (i := 944) (by decide +kernel), List.mem_of_getElem? (i := 945) (by decide +kernel)⟩
theorem lw_p36 : lw_okq (⟨"PooledWavesModel", "marks", "(I)V"⟩, 29) := ⟨⟨by decide +kernel, by decide +kernel⟩, List.mem_of_getElem? (i := 926) (by decide +kernel), List.mem_of_getElem? (i := 948) (by decide +kernel), List.mem_of_getElem? (i := 949) (by decide +kernel)⟩
theorem lw_p37 : lw_okq (⟨"PooledWavesModel", "behindEnd", "(I)I"⟩, 29) := ⟨⟨by decide +kernel, by decide +kernel⟩, List.mem_of_getElem? (i := 926) (by decide +kernel), List.mem_of_getElem? (i := 952) (by decide +kernel), List.mem_of_getElem? (i := 953) (by decide +kernel)⟩
theorem lw_p38 : lw_okq (⟨"PooledWavesModel", "stays", "()V"⟩, 29) := ⟨⟨by decide +kernel, by decide +kernel⟩, List.mem_of_getElem? (i := 926) (by decide +kernel), List.mem_of_getElem? (i := 956) (by decide +kernel), List.mem_of_getElem? (i := 957) (by decide +kernel)⟩
theorem lw_p39 : lw_okq (⟨"PooledWavesModel", "reads", "()V"⟩, 29) := ⟨⟨by decide +kernel, by decide +kernel⟩, List.mem_of_getElem? (i := 926) (by decide +kernel), List.mem_of_getElem? (i := 1064) (by decide +kernel), List.mem_of_getElem? (i := 1065) (by decide +kernel)⟩
theorem lw_p40 : lw_okq (⟨"PooledWavesModel", "byteAt", "(I)I"⟩, 29) := ⟨⟨by decide +kernel, by decide +kernel⟩, List.mem_of_getElem? (i := 926) (by decide +kernel), List.mem_of_getElem? (i := 1068) (by decide +kernel), List.mem_of_getElem? (i := 1069) (by decide +kernel)⟩
theorem lw_p41 : lw_okq (⟨"PooledWavesModel", "requires", "(ZI)V"⟩, 29) := ⟨⟨by decide +kernel, by decide +kernel⟩, List.mem_of_getElem? (i := 926) (by decide +kernel), List.mem_of_getElem? (i := 1076) (by decide +kernel), List.mem_of_getElem? (i := 1077) (by decide +kernel)⟩
theorem lw_p42 : lw_okq (⟨"PooledWavesModel", "isSeg", "()Z"⟩, 29) := ⟨⟨by decide +kernel, by decide +kernel⟩, List.mem_of_getElem? (i := 926) (by decide +kernel), List.mem_of_getElem? (i := 1080) (by decide +kernel), List.mem_of_getElem? (i := 1081) (by decide +kernel)⟩
theorem lw_p43 : lw_okq (⟨"PooledWavesModel", "is", "(IIII)Z"⟩, 29) := ⟨⟨by decide +kernel, by decide +kernel⟩, List.mem_of_getElem? (i := 926) (by decide +kernel), List.mem_of_getElem? (i := 1084) (by decide +kernel), List.mem_of_getElem? (i := 1085) (by decide +kernel)⟩
theorem lw_p44 : lw_okq (⟨"PooledWavesModel", "readSegment", "()V"⟩, 29) := ⟨⟨by decide +kernel, by decide +kernel⟩, List.mem_of_getElem? (i := 926) (by decide +kernel), List.mem_of_getElem? (i := 1088) (by decide +kernel), List.mem_of_getElem? (i := 1089) (by decide +kernel)⟩
theorem lw_p45 : lw_okq (⟨"PooledWavesModel", "readNumber", "(II)I"⟩, 29) := ⟨⟨by decide +kernel, by decide +kernel⟩, List.mem_of_getElem? (i := 926) (by decide +kernel), List.mem_of_getElem? (i := 1092) (by decide +kernel), List.mem_of_getElem? (i := 1093) (by decide +kernel)⟩
theorem lw_p46 : lw_okq (⟨"PooledWavesModel", "readSign", "(I)V"⟩, 29) := ⟨⟨by decide +kernel, by decide +kernel⟩, List.mem_of_getElem? (i := 926) (by decide +kernel), List.mem_of_getElem? (i := 1096) (by decide +kernel), List.mem_of_getElem? (i := 1097) (by decide +kernel)⟩
theorem lw_p47 : lw_okq (⟨"PooledWavesModel", "isSign", "(I)Z"⟩, 29) := ⟨⟨by decide +kernel, by decide +kernel⟩, List.mem_of_getElem? (i := 926) (by decide +kernel), List.mem_of_getElem? (i := 1100) (by decide +kernel), List.mem_of_getElem? (i := 1101) (by decide +kernel)⟩
def lw_privs_3 : List (MethodName × Nat) := [(⟨"PooledWavesModel", "begins", "()V"⟩, 29), (⟨"PooledWavesModel", "goesOn", "(Z)V"⟩, 29), (⟨"PooledWavesModel", "settles", "(I)V"⟩, 29), (⟨"PooledWavesModel", "ofItem", "(II)I"⟩, 29), (⟨"PooledWavesModel", "marks", "(I)V"⟩, 29), (⟨"PooledWavesModel", "behindEnd", "(I)I"⟩, 29), (⟨"PooledWavesModel", "stays", "()V"⟩, 29), (⟨"PooledWavesModel", "reads", "()V"⟩, 29), (⟨"PooledWavesModel", "byteAt", "(I)I"⟩, 29), (⟨"PooledWavesModel", "requires", "(ZI)V"⟩, 29), (⟨"PooledWavesModel", "isSeg", "()Z"⟩, 29), (⟨"PooledWavesModel", "is", "(IIII)Z"⟩, 29), (⟨"PooledWavesModel", "readSegment", "()V"⟩, 29), (⟨"PooledWavesModel", "readNumber", "(II)I"⟩, 29), (⟨"PooledWavesModel", "readSign", "(I)V"⟩, 29), (⟨"PooledWavesModel", "isSign", "(I)Z"⟩, 29)]
theorem lw_r3 : ∀ q ∈ lw_privs_3, lw_okq q := List.forall_mem_cons.mpr ⟨lw_p32, List.forall_mem_cons.mpr ⟨lw_p33, List.forall_mem_cons.mpr ⟨lw_p34, List.forall_mem_cons.mpr ⟨lw_p35, List.forall_mem_cons.mpr ⟨lw_p36, List.forall_mem_cons.mpr ⟨lw_p37, List.forall_mem_cons.mpr ⟨lw_p38, List.forall_mem_cons.mpr ⟨lw_p39, List.forall_mem_cons.mpr ⟨lw_p40, List.forall_mem_cons.mpr ⟨lw_p41, List.forall_mem_cons.mpr ⟨lw_p42, List.forall_mem_cons.mpr ⟨lw_p43, List.forall_mem_cons.mpr ⟨lw_p44, List.forall_mem_cons.mpr ⟨lw_p45, List.forall_mem_cons.mpr ⟨lw_p46, List.forall_mem_cons.mpr ⟨lw_p47, fun _ h => absurd h List.not_mem_nil⟩⟩⟩⟩⟩⟩⟩⟩⟩⟩⟩⟩⟩⟩⟩⟩
theorem lw_p48 : lw_okq (⟨"PooledWavesModel", "isGo", "()Z"⟩, 29) := ⟨⟨by decide +kernel, by decide +kernel⟩, List.mem_of_getElem? (i := 926) (by decide +kernel), List.mem_of_getElem? (i := 1104) (by decide +kernel), List.mem_of_getElem? (i := 1105) (by decide +kernel)⟩
theorem lw_p49 : lw_okq (⟨"PooledWavesModel", "readProgram", "()V"⟩, 29) := ⟨⟨by decide +kernel, by decide +kernel⟩, List.mem_of_getElem? (i := 926) (by decide +kernel), List.mem_of_getElem? (i := 1108) (by decide +kernel), List.mem_of_getElem? (i := 1109) (by decide +kernel)⟩
theorem lw_p50 : lw_okq (⟨"PooledWavesModel", "kindNow", "()I"⟩, 29) := ⟨⟨by decide +kernel, by decide +kernel⟩, List.mem_of_getElem? (i := 926) (by decide +kernel), List.mem_of_getElem? (i := 1112) (by decide +kernel), List.mem_of_getElem? (i := 1113) (by decide +kernel)⟩
theorem lw_p51 : lw_okq (⟨"PooledWavesModel", "endComes", "()V"⟩, 29) := ⟨⟨by decide +kernel, by decide +kernel⟩, List.mem_of_getElem? (i := 926) (by decide +kernel), List.mem_of_getElem? (i := 1116) (by decide +kernel), List.mem_of_getElem? (i := 1117) (by decide +kernel)⟩
theorem lw_p52 : lw_okq (⟨"PooledWavesModel", "itemComes", "(III)V"⟩, 29) := ⟨⟨by decide +kernel, by decide +kernel⟩, List.mem_of_getElem? (i := 926) (by decide +kernel), List.mem_of_getElem? (i := 1120) (by decide +kernel), List.mem_of_getElem? (i := 1121) (by decide +kernel)⟩
theorem lw_p53 : lw_okq (⟨"PooledWavesModel", "readItem", "(I)V"⟩, 29) := ⟨⟨by decide +kernel, by decide +kernel⟩, List.mem_of_getElem? (i := 926) (by decide +kernel), List.mem_of_getElem? (i := 1124) (by decide +kernel), List.mem_of_getElem? (i := 1125) (by decide +kernel)⟩
theorem lw_p54 : lw_okq (⟨"PooledWavesModel", "loopComes", "(II)V"⟩, 29) := ⟨⟨by decide +kernel, by decide +kernel⟩, List.mem_of_getElem? (i := 926) (by decide +kernel), List.mem_of_getElem? (i := 1128) (by decide +kernel), List.mem_of_getElem? (i := 1129) (by decide +kernel)⟩
theorem lw_p55 : lw_okq (⟨"PooledWavesModel", "takesDraft", "()V"⟩, 29) := ⟨⟨by decide +kernel, by decide +kernel⟩, List.mem_of_getElem? (i := 926) (by decide +kernel), List.mem_of_getElem? (i := 1132) (by decide +kernel), List.mem_of_getElem? (i := 1133) (by decide +kernel)⟩
theorem lw_p56 : lw_okq (⟨"PooledWavesModel", "pools", "(I)V"⟩, 29) := ⟨⟨by decide +kernel, by decide +kernel⟩, List.mem_of_getElem? (i := 926) (by decide +kernel), List.mem_of_getElem? (i := 1136) (by decide +kernel), List.mem_of_getElem? (i := 1137) (by decide +kernel)⟩
theorem lw_p57 : lw_okq (⟨"PooledWavesModel", "alikeFrom", "(II)I"⟩, 29) := ⟨⟨by decide +kernel, by decide +kernel⟩, List.mem_of_getElem? (i := 926) (by decide +kernel), List.mem_of_getElem? (i := 1140) (by decide +kernel), List.mem_of_getElem? (i := 1141) (by decide +kernel)⟩
theorem lw_p58 : lw_okq (⟨"PooledWavesModel", "many", "(I)I"⟩, 29) := ⟨⟨by decide +kernel, by decide +kernel⟩, List.mem_of_getElem? (i := 926) (by decide +kernel), List.mem_of_getElem? (i := 1144) (by decide +kernel), List.mem_of_getElem? (i := 1145) (by decide +kernel)⟩
theorem lw_p59 : lw_okq (⟨"PooledWavesModel", "levelOf", "(II)I"⟩, 29) := ⟨⟨by decide +kernel, by decide +kernel⟩, List.mem_of_getElem? (i := 926) (by decide +kernel), List.mem_of_getElem? (i := 1148) (by decide +kernel), List.mem_of_getElem? (i := 1149) (by decide +kernel)⟩
theorem lw_p60 : lw_okq (⟨"PooledWavesModel", "levels", "()I"⟩, 29) := ⟨⟨by decide +kernel, by decide +kernel⟩, List.mem_of_getElem? (i := 926) (by decide +kernel), List.mem_of_getElem? (i := 1160) (by decide +kernel), List.mem_of_getElem? (i := 1161) (by decide +kernel)⟩
theorem lw_p61 : lw_okq (⟨"PooledWavesModel", "shared", "()I"⟩, 29) := ⟨⟨by decide +kernel, by decide +kernel⟩, List.mem_of_getElem? (i := 926) (by decide +kernel), List.mem_of_getElem? (i := 1164) (by decide +kernel), List.mem_of_getElem? (i := 1165) (by decide +kernel)⟩
theorem lw_p62 : lw_okq (⟨"PooledWavesModel", "isItem", "(I)Z"⟩, 29) := ⟨⟨by decide +kernel, by decide +kernel⟩, List.mem_of_getElem? (i := 926) (by decide +kernel), List.mem_of_getElem? (i := 1183) (by decide +kernel), List.mem_of_getElem? (i := 1184) (by decide +kernel)⟩
theorem lw_p63 : lw_okq (⟨"PooledWavesModel", "unfolds", "()V"⟩, 29) := ⟨⟨by decide +kernel, by decide +kernel⟩, List.mem_of_getElem? (i := 926) (by decide +kernel), List.mem_of_getElem? (i := 1193) (by decide +kernel), List.mem_of_getElem? (i := 1194) (by decide +kernel)⟩
def lw_privs_4 : List (MethodName × Nat) := [(⟨"PooledWavesModel", "isGo", "()Z"⟩, 29), (⟨"PooledWavesModel", "readProgram", "()V"⟩, 29), (⟨"PooledWavesModel", "kindNow", "()I"⟩, 29), (⟨"PooledWavesModel", "endComes", "()V"⟩, 29), (⟨"PooledWavesModel", "itemComes", "(III)V"⟩, 29), (⟨"PooledWavesModel", "readItem", "(I)V"⟩, 29), (⟨"PooledWavesModel", "loopComes", "(II)V"⟩, 29), (⟨"PooledWavesModel", "takesDraft", "()V"⟩, 29), (⟨"PooledWavesModel", "pools", "(I)V"⟩, 29), (⟨"PooledWavesModel", "alikeFrom", "(II)I"⟩, 29), (⟨"PooledWavesModel", "many", "(I)I"⟩, 29), (⟨"PooledWavesModel", "levelOf", "(II)I"⟩, 29), (⟨"PooledWavesModel", "levels", "()I"⟩, 29), (⟨"PooledWavesModel", "shared", "()I"⟩, 29), (⟨"PooledWavesModel", "isItem", "(I)Z"⟩, 29), (⟨"PooledWavesModel", "unfolds", "()V"⟩, 29)]
theorem lw_r4 : ∀ q ∈ lw_privs_4, lw_okq q := List.forall_mem_cons.mpr ⟨lw_p48, List.forall_mem_cons.mpr ⟨lw_p49, List.forall_mem_cons.mpr ⟨lw_p50, List.forall_mem_cons.mpr ⟨lw_p51, List.forall_mem_cons.mpr ⟨lw_p52, List.forall_mem_cons.mpr ⟨lw_p53, List.forall_mem_cons.mpr ⟨lw_p54, List.forall_mem_cons.mpr ⟨lw_p55, List.forall_mem_cons.mpr ⟨lw_p56, List.forall_mem_cons.mpr ⟨lw_p57, List.forall_mem_cons.mpr ⟨lw_p58, List.forall_mem_cons.mpr ⟨lw_p59, List.forall_mem_cons.mpr ⟨lw_p60, List.forall_mem_cons.mpr ⟨lw_p61, List.forall_mem_cons.mpr ⟨lw_p62, List.forall_mem_cons.mpr ⟨lw_p63, fun _ h => absurd h List.not_mem_nil⟩⟩⟩⟩⟩⟩⟩⟩⟩⟩⟩⟩⟩⟩⟩⟩
theorem lw_p64 : lw_okq (⟨"PooledWavesModel", "steps", "()V"⟩, 29) := ⟨⟨by decide +kernel, by decide +kernel⟩, List.mem_of_getElem? (i := 926) (by decide +kernel), List.mem_of_getElem? (i := 1197) (by decide +kernel), List.mem_of_getElem? (i := 1198) (by decide +kernel)⟩
theorem lw_p65 : lw_okq (⟨"PooledWavesModel", "segmentAt", "()I"⟩, 29) := ⟨⟨by decide +kernel, by decide +kernel⟩, List.mem_of_getElem? (i := 926) (by decide +kernel), List.mem_of_getElem? (i := 1201) (by decide +kernel), List.mem_of_getElem? (i := 1202) (by decide +kernel)⟩
theorem lw_p66 : lw_okq (⟨"PooledWavesModel", "levelNow", "()I"⟩, 29) := ⟨⟨by decide +kernel, by decide +kernel⟩, List.mem_of_getElem? (i := 926) (by decide +kernel), List.mem_of_getElem? (i := 1205) (by decide +kernel), List.mem_of_getElem? (i := 1206) (by decide +kernel)⟩
theorem lw_p67 : lw_okq (⟨"PooledWavesModel", "hasUntil", "()Z"⟩, 29) := ⟨⟨by decide +kernel, by decide +kernel⟩, List.mem_of_getElem? (i := 926) (by decide +kernel), List.mem_of_getElem? (i := 1213) (by decide +kernel), List.mem_of_getElem? (i := 1214) (by decide +kernel)⟩
theorem lw_p68 : lw_okq (⟨"PooledWavesModel", "latchesOn", "()I"⟩, 29) := ⟨⟨by decide +kernel, by decide +kernel⟩, List.mem_of_getElem? (i := 926) (by decide +kernel), List.mem_of_getElem? (i := 1222) (by decide +kernel), List.mem_of_getElem? (i := 1223) (by decide +kernel)⟩
theorem lw_p69 : lw_okq (⟨"PooledWavesModel", "ticks", "()V"⟩, 29) := ⟨⟨by decide +kernel, by decide +kernel⟩, List.mem_of_getElem? (i := 926) (by decide +kernel), List.mem_of_getElem? (i := 1235) (by decide +kernel), List.mem_of_getElem? (i := 1236) (by decide +kernel)⟩
theorem lw_p70 : lw_okq (⟨"PooledWavesModel", "arrive", "()V"⟩, 29) := ⟨⟨by decide +kernel, by decide +kernel⟩, List.mem_of_getElem? (i := 926) (by decide +kernel), List.mem_of_getElem? (i := 1239) (by decide +kernel), List.mem_of_getElem? (i := 1240) (by decide +kernel)⟩
theorem lw_p71 : lw_okq (⟨"PooledWavesModel", "comes", "(I)V"⟩, 29) := ⟨⟨by decide +kernel, by decide +kernel⟩, List.mem_of_getElem? (i := 926) (by decide +kernel), List.mem_of_getElem? (i := 1243) (by decide +kernel), List.mem_of_getElem? (i := 1244) (by decide +kernel)⟩
theorem lw_p72 : lw_okq (⟨"PooledWavesModel", "leaves", "(I)V"⟩, 29) := ⟨⟨by decide +kernel, by decide +kernel⟩, List.mem_of_getElem? (i := 926) (by decide +kernel), List.mem_of_getElem? (i := 1247) (by decide +kernel), List.mem_of_getElem? (i := 1248) (by decide +kernel)⟩
theorem lw_p73 : lw_okq (⟨"PooledWavesModel", "sounds", "()V"⟩, 29) := ⟨⟨by decide +kernel, by decide +kernel⟩, List.mem_of_getElem? (i := 926) (by decide +kernel), List.mem_of_getElem? (i := 1251) (by decide +kernel), List.mem_of_getElem? (i := 1252) (by decide +kernel)⟩
theorem lw_p74 : lw_okq (⟨"PooledWavesModel", "placeAt", "()I"⟩, 29) := ⟨⟨by decide +kernel, by decide +kernel⟩, List.mem_of_getElem? (i := 926) (by decide +kernel), List.mem_of_getElem? (i := 1255) (by decide +kernel), List.mem_of_getElem? (i := 1256) (by decide +kernel)⟩
theorem lw_p75 : lw_okq (⟨"PooledWavesModel", "cachedAt", "(I)I"⟩, 29) := ⟨⟨by decide +kernel, by decide +kernel⟩, List.mem_of_getElem? (i := 926) (by decide +kernel), List.mem_of_getElem? (i := 1259) (by decide +kernel), List.mem_of_getElem? (i := 1260) (by decide +kernel)⟩
theorem lw_p76 : lw_okq (⟨"PooledWavesModel", "outs", "(I)V"⟩, 29) := ⟨⟨by decide +kernel, by decide +kernel⟩, List.mem_of_getElem? (i := 926) (by decide +kernel), List.mem_of_getElem? (i := 1263) (by decide +kernel), List.mem_of_getElem? (i := 1264) (by decide +kernel)⟩
theorem lw_p77 : lw_okq (⟨"PooledWavesModel", "asks", "()V"⟩, 29) := ⟨⟨by decide +kernel, by decide +kernel⟩, List.mem_of_getElem? (i := 926) (by decide +kernel), List.mem_of_getElem? (i := 1267) (by decide +kernel), List.mem_of_getElem? (i := 1268) (by decide +kernel)⟩
theorem lw_p78 : lw_okq (⟨"PooledWavesModel", "seeks", "()V"⟩, 29) := ⟨⟨by decide +kernel, by decide +kernel⟩, List.mem_of_getElem? (i := 926) (by decide +kernel), List.mem_of_getElem? (i := 1271) (by decide +kernel), List.mem_of_getElem? (i := 1272) (by decide +kernel)⟩
theorem lw_p79 : lw_okq (⟨"PooledWavesModel", "isAsked", "(I)Z"⟩, 29) := ⟨⟨by decide +kernel, by decide +kernel⟩, List.mem_of_getElem? (i := 926) (by decide +kernel), List.mem_of_getElem? (i := 1275) (by decide +kernel), List.mem_of_getElem? (i := 1276) (by decide +kernel)⟩
def lw_privs_5 : List (MethodName × Nat) := [(⟨"PooledWavesModel", "steps", "()V"⟩, 29), (⟨"PooledWavesModel", "segmentAt", "()I"⟩, 29), (⟨"PooledWavesModel", "levelNow", "()I"⟩, 29), (⟨"PooledWavesModel", "hasUntil", "()Z"⟩, 29), (⟨"PooledWavesModel", "latchesOn", "()I"⟩, 29), (⟨"PooledWavesModel", "ticks", "()V"⟩, 29), (⟨"PooledWavesModel", "arrive", "()V"⟩, 29), (⟨"PooledWavesModel", "comes", "(I)V"⟩, 29), (⟨"PooledWavesModel", "leaves", "(I)V"⟩, 29), (⟨"PooledWavesModel", "sounds", "()V"⟩, 29), (⟨"PooledWavesModel", "placeAt", "()I"⟩, 29), (⟨"PooledWavesModel", "cachedAt", "(I)I"⟩, 29), (⟨"PooledWavesModel", "outs", "(I)V"⟩, 29), (⟨"PooledWavesModel", "asks", "()V"⟩, 29), (⟨"PooledWavesModel", "seeks", "()V"⟩, 29), (⟨"PooledWavesModel", "isAsked", "(I)Z"⟩, 29)]
theorem lw_r5 : ∀ q ∈ lw_privs_5, lw_okq q := List.forall_mem_cons.mpr ⟨lw_p64, List.forall_mem_cons.mpr ⟨lw_p65, List.forall_mem_cons.mpr ⟨lw_p66, List.forall_mem_cons.mpr ⟨lw_p67, List.forall_mem_cons.mpr ⟨lw_p68, List.forall_mem_cons.mpr ⟨lw_p69, List.forall_mem_cons.mpr ⟨lw_p70, List.forall_mem_cons.mpr ⟨lw_p71, List.forall_mem_cons.mpr ⟨lw_p72, List.forall_mem_cons.mpr ⟨lw_p73, List.forall_mem_cons.mpr ⟨lw_p74, List.forall_mem_cons.mpr ⟨lw_p75, List.forall_mem_cons.mpr ⟨lw_p76, List.forall_mem_cons.mpr ⟨lw_p77, List.forall_mem_cons.mpr ⟨lw_p78, List.forall_mem_cons.mpr ⟨lw_p79, fun _ h => absurd h List.not_mem_nil⟩⟩⟩⟩⟩⟩⟩⟩⟩⟩⟩⟩⟩⟩⟩⟩
theorem lw_p80 : lw_okq (⟨"PooledWavesModel", "gets", "()I"⟩, 29) := ⟨⟨by decide +kernel, by decide +kernel⟩, List.mem_of_getElem? (i := 926) (by decide +kernel), List.mem_of_getElem? (i := 1317) (by decide +kernel), List.mem_of_getElem? (i := 1318) (by decide +kernel)⟩
theorem lw_p81 : lw_okq (⟨"PooledWavesModel", "drawsItem", "(I)V"⟩, 29) := ⟨⟨by decide +kernel, by decide +kernel⟩, List.mem_of_getElem? (i := 926) (by decide +kernel), List.mem_of_getElem? (i := 1322) (by decide +kernel), List.mem_of_getElem? (i := 1323) (by decide +kernel)⟩
def lw_privs_6 : List (MethodName × Nat) := [(⟨"PooledWavesModel", "gets", "()I"⟩, 29), (⟨"PooledWavesModel", "drawsItem", "(I)V"⟩, 29)]
theorem lw_r6 : ∀ q ∈ lw_privs_6, lw_okq q := List.forall_mem_cons.mpr ⟨lw_p80, List.forall_mem_cons.mpr ⟨lw_p81, fun _ h => absurd h List.not_mem_nil⟩⟩
def lw_privs : List (MethodName × Nat) := lw_privs_1 ++ (lw_privs_2 ++ (lw_privs_3 ++ (lw_privs_4 ++ (lw_privs_5 ++ (lw_privs_6)))))
def lw_tbl : List Cond := k2_sels lw_privs ++ tables_1
theorem lw_privs_ok : ∀ q ∈ lw_privs, lw_okq q := by
  show ∀ q ∈ lw_privs_1 ++ (lw_privs_2 ++ (lw_privs_3 ++ (lw_privs_4 ++ (lw_privs_5 ++ (lw_privs_6))))), lw_okq q
  exact List.forall_mem_append.mpr ⟨lw_r1, List.forall_mem_append.mpr ⟨lw_r2, List.forall_mem_append.mpr ⟨lw_r3, List.forall_mem_append.mpr ⟨lw_r4, List.forall_mem_append.mpr ⟨lw_r5, lw_r6⟩⟩⟩⟩⟩

def RX0 : String := "PooledWaves$Cursor"
def TX0 : u_T := fun k => match k with
  | 0 => ("PooledWaves$Cursor", "at", "I", false)
  | 1 => ("PooledWaves$Cursor", "phase", "I", false)
  | 2 => ("PooledWaves$Cursor", "turnsDone", "[I", true)
  | _ => ("PooledWaves$Cursor", "latches", "I", false)
def tyX0 : Nat → FieldType := fun k => match k with
  | 0 => .int
  | 1 => .int
  | 2 => .array .int
  | _ => .int
abbrev wsX00 : List Cond := u_ws RX0 TX0 4
theorem nmX0 : ∀ a, a < 4 → ∀ b, b < 4 → a ≠ b → (TX0 a).2.1 ≠ (TX0 b).2.1 := by decide +kernel
theorem tyX0_ok : ∀ k, k < 4 → parseFieldDescriptor (TX0 k).2.2.1 = some (tyX0 k) := by decide +kernel
abbrev cX0_init : ByteArray := prog_2_method_1_code
def yX0_init : MethodName := ⟨RX0, "<init>", "()V"⟩
abbrev cX0_clear : ByteArray := prog_2_method_2_code
def yX0_clear : MethodName := ⟨RX0, "clear", "()V"⟩
abbrev cX0_copyFrom : ByteArray := prog_2_method_3_code
def yX0_copyFrom : MethodName := ⟨RX0, "copyFrom", "(LPooledWaves$Cursor;)V"⟩
abbrev cX0_isOver : ByteArray := prog_2_method_4_code
def yX0_isOver : MethodName := ⟨RX0, "isOver", "()Z"⟩
abbrev cX0_latchOn : ByteArray := prog_2_method_5_code
def yX0_latchOn : MethodName := ⟨RX0, "latchOn", "(I)Z"⟩
abbrev cX0_pageOf : ByteArray := prog_2_method_6_code
def yX0_pageOf : MethodName := ⟨RX0, "pageOf", "(LPooledWaves$Program;)I"⟩
abbrev cX0_segmentOf : ByteArray := prog_2_method_7_code
def yX0_segmentOf : MethodName := ⟨RX0, "segmentOf", "(LPooledWaves$Program;)I"⟩
abbrev cX0_levelBy : ByteArray := prog_2_method_8_code
def yX0_levelBy : MethodName := ⟨RX0, "levelBy", "(ILPooledWaves$Program;)I"⟩
abbrev cX0_advance : ByteArray := prog_2_method_9_code
def yX0_advance : MethodName := ⟨RX0, "advance", "(LPooledWaves$Program;ILPooledWaves$MarkLog;I)V"⟩
abbrev cX0_settle : ByteArray := prog_2_method_10_code
def yX0_settle : MethodName := ⟨RX0, "settle", "(LPooledWaves$Program;ILPooledWaves$MarkLog;I)V"⟩
abbrev cX0_behindEnd : ByteArray := prog_2_method_11_code
def yX0_behindEnd : MethodName := ⟨RX0, "behindEnd", "(LPooledWaves$Program;I)I"⟩
abbrev cX0_turnIsLast : ByteArray := prog_2_method_12_code
def yX0_turnIsLast : MethodName := ⟨RX0, "turnIsLast", "(II)Z"⟩
abbrev cX0_latchOff : ByteArray := prog_2_method_13_code
def yX0_latchOff : MethodName := ⟨RX0, "latchOff", "(I)Z"⟩
def RX1 : String := "PooledWaves$Drawer"
def TX1 : u_T := fun k => match k with
  | 0 => ("PooledWaves$Drawer", "row", "[I", true)
  | 1 => ("PooledWaves$Drawer", "segments", "I", false)
  | _ => ("PooledWaves$Drawer", "seed", "I", false)
def tyX1 : Nat → FieldType := fun k => match k with
  | 0 => .array .int
  | 1 => .int
  | _ => .int
abbrev wsX10 : List Cond := u_ws RX1 TX1 3
theorem nmX1 : ∀ a, a < 3 → ∀ b, b < 3 → a ≠ b → (TX1 a).2.1 ≠ (TX1 b).2.1 := by decide +kernel
theorem tyX1_ok : ∀ k, k < 3 → parseFieldDescriptor (TX1 k).2.2.1 = some (tyX1 k) := by decide +kernel
abbrev cX1_init : ByteArray := prog_3_method_1_code
def yX1_init : MethodName := ⟨RX1, "<init>", "()V"⟩
abbrev cX1_drawInto : ByteArray := prog_3_method_2_code
def yX1_drawInto : MethodName := ⟨RX1, "drawInto", "(LPooledWaves$Program;II)V"⟩
abbrev cX1_got : ByteArray := prog_3_method_3_code
def yX1_got : MethodName := ⟨RX1, "got", "(I)I"⟩
abbrev cX1_drawSegments : ByteArray := prog_3_method_4_code
def yX1_drawSegments : MethodName := ⟨RX1, "drawSegments", "(LPooledWaves$Pool;)V"⟩
abbrev cX1_isEnough : ByteArray := prog_3_method_5_code
def yX1_isEnough : MethodName := ⟨RX1, "isEnough", "(LPooledWaves$Program;)Z"⟩
abbrev cX1_drawItem : ByteArray := prog_3_method_6_code
def yX1_drawItem : MethodName := ⟨RX1, "drawItem", "(LPooledWaves$Program;I)V"⟩
abbrev cX1_drawOpening : ByteArray := prog_3_method_7_code
def yX1_drawOpening : MethodName := ⟨RX1, "drawOpening", "(LPooledWaves$Program;I)V"⟩
def RX2 : String := "PooledWaves$MarkLog"
def TX2 : u_T := fun k => match k with
  | 0 => ("PooledWaves$MarkLog", "names", "[I", true)
  | 1 => ("PooledWaves$MarkLog", "clocks", "[I", true)
  | _ => ("PooledWaves$MarkLog", "total", "I", false)
def tyX2 : Nat → FieldType := fun k => match k with
  | 0 => .array .int
  | 1 => .array .int
  | _ => .int
abbrev wsX20 : List Cond := u_ws RX2 TX2 3
theorem nmX2 : ∀ a, a < 3 → ∀ b, b < 3 → a ≠ b → (TX2 a).2.1 ≠ (TX2 b).2.1 := by decide +kernel
theorem tyX2_ok : ∀ k, k < 3 → parseFieldDescriptor (TX2 k).2.2.1 = some (tyX2 k) := by decide +kernel
abbrev cX2_init : ByteArray := prog_4_method_1_code
def yX2_init : MethodName := ⟨RX2, "<init>", "()V"⟩
abbrev cX2_clear : ByteArray := prog_4_method_2_code
def yX2_clear : MethodName := ⟨RX2, "clear", "()V"⟩
abbrev cX2_copyFrom : ByteArray := prog_4_method_3_code
def yX2_copyFrom : MethodName := ⟨RX2, "copyFrom", "(LPooledWaves$MarkLog;)V"⟩
abbrev cX2_add : ByteArray := prog_4_method_4_code
def yX2_add : MethodName := ⟨RX2, "add", "(II)V"⟩
abbrev cX2_held : ByteArray := prog_4_method_5_code
def yX2_held : MethodName := ⟨RX2, "held", "()I"⟩
abbrev cX2_spotOf : ByteArray := prog_4_method_6_code
def yX2_spotOf : MethodName := ⟨RX2, "spotOf", "(I)I"⟩
def RX3 : String := "PooledWaves$Pages"
def TX3 : u_T := fun k => match k with
  | 0 => ("PooledWaves$Pages", "cached", "[I", true)
  | 1 => ("PooledWaves$Pages", "cachedCount", "I", false)
  | 2 => ("PooledWaves$Pages", "asked", "[I", true)
  | 3 => ("PooledWaves$Pages", "comesAt", "[I", true)
  | _ => ("PooledWaves$Pages", "askedCount", "I", false)
def tyX3 : Nat → FieldType := fun k => match k with
  | 0 => .array .int
  | 1 => .int
  | 2 => .array .int
  | 3 => .array .int
  | _ => .int
abbrev wsX30 : List Cond := u_ws RX3 TX3 5
theorem nmX3 : ∀ a, a < 5 → ∀ b, b < 5 → a ≠ b → (TX3 a).2.1 ≠ (TX3 b).2.1 := by decide +kernel
theorem tyX3_ok : ∀ k, k < 5 → parseFieldDescriptor (TX3 k).2.2.1 = some (tyX3 k) := by decide +kernel
abbrev cX3_init : ByteArray := prog_5_method_1_code
def yX3_init : MethodName := ⟨RX3, "<init>", "()V"⟩
abbrev cX3_clear : ByteArray := prog_5_method_2_code
def yX3_clear : MethodName := ⟨RX3, "clear", "()V"⟩
abbrev cX3_copyFrom : ByteArray := prog_5_method_3_code
def yX3_copyFrom : MethodName := ⟨RX3, "copyFrom", "(LPooledWaves$Pages;)V"⟩
abbrev cX3_use : ByteArray := prog_5_method_4_code
def yX3_use : MethodName := ⟨RX3, "use", "(I)Z"⟩
abbrev cX3_dropTo : ByteArray := prog_5_method_5_code
def yX3_dropTo : MethodName := ⟨RX3, "dropTo", "(I)V"⟩
abbrev cX3_bringIn : ByteArray := prog_5_method_6_code
def yX3_bringIn : MethodName := ⟨RX3, "bringIn", "(II)V"⟩
abbrev cX3_addToCache : ByteArray := prog_5_method_7_code
def yX3_addToCache : MethodName := ⟨RX3, "addToCache", "(II)V"⟩
abbrev cX3_askFor : ByteArray := prog_5_method_8_code
def yX3_askFor : MethodName := ⟨RX3, "askFor", "(II)V"⟩
abbrev cX3_spotOf : ByteArray := prog_5_method_9_code
def yX3_spotOf : MethodName := ⟨RX3, "spotOf", "(I[II)I"⟩
def RX4 : String := "PooledWaves$Player"
def TX4 : u_T := fun k => match k with
  | 0 => ("PooledWaves$Player", "cursor", "LPooledWaves$Cursor;", true)
  | 1 => ("PooledWaves$Player", "pages", "LPooledWaves$Pages;", true)
  | 2 => ("PooledWaves$Player", "marks", "LPooledWaves$MarkLog;", true)
  | 3 => ("PooledWaves$Player", "outs", "[I", true)
  | 4 => ("PooledWaves$Player", "settings", "[I", true)
  | 5 => ("PooledWaves$Player", "outCount", "I", false)
  | 6 => ("PooledWaves$Player", "lackCount", "I", false)
  | 7 => ("PooledWaves$Player", "clock", "I", false)
  | 8 => ("PooledWaves$Player", "last", "I", false)
  | _ => ("PooledWaves$Player", "scout", "LPooledWaves$Cursor;", true)
def tyX4 : Nat → FieldType := fun k => match k with
  | 0 => .object "PooledWaves$Cursor"
  | 1 => .object "PooledWaves$Pages"
  | 2 => .object "PooledWaves$MarkLog"
  | 3 => .array .int
  | 4 => .array .int
  | 5 => .int
  | 6 => .int
  | 7 => .int
  | 8 => .int
  | _ => .object "PooledWaves$Cursor"
abbrev wsX40 : List Cond := u_ws RX4 TX4 10
theorem nmX4 : ∀ a, a < 10 → ∀ b, b < 10 → a ≠ b → (TX4 a).2.1 ≠ (TX4 b).2.1 := by decide +kernel
theorem tyX4_ok : ∀ k, k < 10 → parseFieldDescriptor (TX4 k).2.2.1 = some (tyX4 k) := by decide +kernel
abbrev cX4_init : ByteArray := prog_6_method_1_code
def yX4_init : MethodName := ⟨RX4, "<init>", "()V"⟩
abbrev cX4_begin : ByteArray := prog_6_method_2_code
def yX4_begin : MethodName := ⟨RX4, "begin", "(LPooledWaves$Program;)V"⟩
abbrev cX4_copyFrom : ByteArray := prog_6_method_3_code
def yX4_copyFrom : MethodName := ⟨RX4, "copyFrom", "(LPooledWaves$Player;)V"⟩
abbrev cX4_valueOf : ByteArray := prog_6_method_4_code
def yX4_valueOf : MethodName := ⟨RX4, "valueOf", "(I)I"⟩
abbrev cX4_step : ByteArray := prog_6_method_5_code
def yX4_step : MethodName := ⟨RX4, "step", "(LPooledWaves$Program;)V"⟩
abbrev cX4_playOne : ByteArray := prog_6_method_6_code
def yX4_playOne : MethodName := ⟨RX4, "playOne", "(LPooledWaves$Program;)V"⟩
abbrev cX4_logOut : ByteArray := prog_6_method_7_code
def yX4_logOut : MethodName := ⟨RX4, "logOut", "()V"⟩
abbrev cX4_askAhead : ByteArray := prog_6_method_8_code
def yX4_askAhead : MethodName := ⟨RX4, "askAhead", "(LPooledWaves$Program;)V"⟩
def RX5 : String := "PooledWaves$Pool"
def TX5 : u_T := fun k => match k with
  | 0 => ("PooledWaves$Pool", "levels", "[I", true)
  | 1 => ("PooledWaves$Pool", "first", "[I", true)
  | 2 => ("PooledWaves$Pool", "length", "[I", true)
  | 3 => ("PooledWaves$Pool", "came", "[I", true)
  | 4 => ("PooledWaves$Pool", "size", "I", false)
  | _ => ("PooledWaves$Pool", "segments", "I", false)
def tyX5 : Nat → FieldType := fun k => match k with
  | 0 => .array .int
  | 1 => .array .int
  | 2 => .array .int
  | 3 => .array .int
  | 4 => .int
  | _ => .int
abbrev wsX50 : List Cond := u_ws RX5 TX5 6
theorem nmX5 : ∀ a, a < 6 → ∀ b, b < 6 → a ≠ b → (TX5 a).2.1 ≠ (TX5 b).2.1 := by decide +kernel
theorem tyX5_ok : ∀ k, k < 6 → parseFieldDescriptor (TX5 k).2.2.1 = some (tyX5 k) := by decide +kernel
abbrev cX5_init : ByteArray := prog_7_method_1_code
def yX5_init : MethodName := ⟨RX5, "<init>", "()V"⟩
abbrev cX5_clear : ByteArray := prog_7_method_2_code
def yX5_clear : MethodName := ⟨RX5, "clear", "()V"⟩
abbrev cX5_addSegment : ByteArray := prog_7_method_3_code
def yX5_addSegment : MethodName := ⟨RX5, "addSegment", "([II)V"⟩
abbrev cX5_firstPlace : ByteArray := prog_7_method_4_code
def yX5_firstPlace : MethodName := ⟨RX5, "firstPlace", "([II)I"⟩
abbrev cX5_fitsAt : ByteArray := prog_7_method_5_code
def yX5_fitsAt : MethodName := ⟨RX5, "fitsAt", "(I[II)Z"⟩
abbrev cX5_levelOf : ByteArray := prog_7_method_6_code
def yX5_levelOf : MethodName := ⟨RX5, "levelOf", "(II)I"⟩
abbrev cX5_levelsOfAll : ByteArray := prog_7_method_7_code
def yX5_levelsOfAll : MethodName := ⟨RX5, "levelsOfAll", "()I"⟩
abbrev cX5_segmentsFound : ByteArray := prog_7_method_8_code
def yX5_segmentsFound : MethodName := ⟨RX5, "segmentsFound", "()I"⟩
abbrev cX5_pages : ByteArray := prog_7_method_9_code
def yX5_pages : MethodName := ⟨RX5, "pages", "()I"⟩
def RX6 : String := "PooledWaves$Program"
def TX6 : u_T := fun k => match k with
  | 0 => ("PooledWaves$Program", "pool", "LPooledWaves$Pool;", true)
  | 1 => ("PooledWaves$Program", "kind", "[I", true)
  | 2 => ("PooledWaves$Program", "number", "[I", true)
  | 3 => ("PooledWaves$Program", "partner", "[I", true)
  | 4 => ("PooledWaves$Program", "depth", "[I", true)
  | 5 => ("PooledWaves$Program", "turnLength", "[I", true)
  | 6 => ("PooledWaves$Program", "items", "I", false)
  | 7 => ("PooledWaves$Program", "openItems", "[I", true)
  | 8 => ("PooledWaves$Program", "open", "I", false)
  | _ => ("PooledWaves$Program", "sums", "[I", true)
def tyX6 : Nat → FieldType := fun k => match k with
  | 0 => .object "PooledWaves$Pool"
  | 1 => .array .int
  | 2 => .array .int
  | 3 => .array .int
  | 4 => .array .int
  | 5 => .array .int
  | 6 => .int
  | 7 => .array .int
  | 8 => .int
  | _ => .array .int
abbrev wsX60 : List Cond := u_ws RX6 TX6 10
theorem nmX6 : ∀ a, a < 10 → ∀ b, b < 10 → a ≠ b → (TX6 a).2.1 ≠ (TX6 b).2.1 := by decide +kernel
theorem tyX6_ok : ∀ k, k < 10 → parseFieldDescriptor (TX6 k).2.2.1 = some (tyX6 k) := by decide +kernel
abbrev cX6_init : ByteArray := prog_8_method_1_code
def yX6_init : MethodName := ⟨RX6, "<init>", "()V"⟩
abbrev cX6_clear : ByteArray := prog_8_method_2_code
def yX6_clear : MethodName := ⟨RX6, "clear", "()V"⟩
abbrev cX6_isFull : ByteArray := prog_8_method_3_code
def yX6_isFull : MethodName := ⟨RX6, "isFull", "()Z"⟩
abbrev cX6_isDeepest : ByteArray := prog_8_method_4_code
def yX6_isDeepest : MethodName := ⟨RX6, "isDeepest", "()Z"⟩
abbrev cX6_addPlay : ByteArray := prog_8_method_5_code
def yX6_addPlay : MethodName := ⟨RX6, "addPlay", "(I)V"⟩
abbrev cX6_addMark : ByteArray := prog_8_method_6_code
def yX6_addMark : MethodName := ⟨RX6, "addMark", "(I)V"⟩
abbrev cX6_addOpening : ByteArray := prog_8_method_7_code
def yX6_addOpening : MethodName := ⟨RX6, "addOpening", "(II)V"⟩
abbrev cX6_addEnd : ByteArray := prog_8_method_8_code
def yX6_addEnd : MethodName := ⟨RX6, "addEnd", "()V"⟩
abbrev cX6_openHasPlay : ByteArray := prog_8_method_9_code
def yX6_openHasPlay : MethodName := ⟨RX6, "openHasPlay", "()Z"⟩
abbrev cX6_addItem : ByteArray := prog_8_method_10_code
def yX6_addItem : MethodName := ⟨RX6, "addItem", "(II)V"⟩
abbrev cX6_grow : ByteArray := prog_8_method_11_code
def yX6_grow : MethodName := ⟨RX6, "grow", "(I)V"⟩
abbrev cX6_lengthOf : ByteArray := prog_8_method_12_code
def yX6_lengthOf : MethodName := ⟨RX6, "lengthOf", "(I)I"⟩
abbrev cX6_unfoldedAt : ByteArray := prog_8_method_13_code
def yX6_unfoldedAt : MethodName := ⟨RX6, "unfoldedAt", "(I)I"⟩
abbrev cX6_unfoldedLength : ByteArray := prog_8_method_14_code
def yX6_unfoldedLength : MethodName := ⟨RX6, "unfoldedLength", "(I)I"⟩
abbrev cX6_behind : ByteArray := prog_8_method_15_code
def yX6_behind : MethodName := ⟨RX6, "behind", "(I)I"⟩
abbrev cX6_withinTurn : ByteArray := prog_8_method_16_code
def yX6_withinTurn : MethodName := ⟨RX6, "withinTurn", "(II)I"⟩
abbrev cX6_segmentLength : ByteArray := prog_8_method_17_code
def yX6_segmentLength : MethodName := ⟨RX6, "segmentLength", "(I)I"⟩
def RX7 : String := "PooledWaves$Reader"
def TX7 : u_T := fun k => match k with
  | 0 => ("PooledWaves$Reader", "tape", "LPooledWaves$Tape;", true)
  | 1 => ("PooledWaves$Reader", "faultFound", "I", false)
  | 2 => ("PooledWaves$Reader", "faultPlace", "I", false)
  | 3 => ("PooledWaves$Reader", "row", "[I", true)
  | 4 => ("PooledWaves$Reader", "rowLength", "I", false)
  | 5 => ("PooledWaves$Reader", "itemKind", "I", false)
  | 6 => ("PooledWaves$Reader", "itemNumber", "I", false)
  | _ => ("PooledWaves$Reader", "state", "I", false)
def tyX7 : Nat → FieldType := fun k => match k with
  | 0 => .object "PooledWaves$Tape"
  | 1 => .int
  | 2 => .int
  | 3 => .array .int
  | 4 => .int
  | 5 => .int
  | 6 => .int
  | _ => .int
abbrev wsX70 : List Cond := u_ws RX7 TX7 8
theorem nmX7 : ∀ a, a < 8 → ∀ b, b < 8 → a ≠ b → (TX7 a).2.1 ≠ (TX7 b).2.1 := by decide +kernel
theorem tyX7_ok : ∀ k, k < 8 → parseFieldDescriptor (TX7 k).2.2.1 = some (tyX7 k) := by decide +kernel
abbrev cX7_init : ByteArray := prog_9_method_1_code
def yX7_init : MethodName := ⟨RX7, "<init>", "(LPooledWaves$Tape;)V"⟩
abbrev cX7_readInto : ByteArray := prog_9_method_2_code
def yX7_readInto : MethodName := ⟨RX7, "readInto", "(LPooledWaves$Program;)Z"⟩
abbrev cX7_take : ByteArray := prog_9_method_3_code
def yX7_take : MethodName := ⟨RX7, "take", "(LPooledWaves$Program;)I"⟩
abbrev cX7_takeHead : ByteArray := prog_9_method_4_code
def yX7_takeHead : MethodName := ⟨RX7, "takeHead", "(LPooledWaves$Pool;)I"⟩
abbrev cX7_takeLevel : ByteArray := prog_9_method_5_code
def yX7_takeLevel : MethodName := ⟨RX7, "takeLevel", "(LPooledWaves$Pool;)I"⟩
abbrev cX7_takeItem : ByteArray := prog_9_method_6_code
def yX7_takeItem : MethodName := ⟨RX7, "takeItem", "(LPooledWaves$Program;)I"⟩
abbrev cX7_kindNamed : ByteArray := prog_9_method_7_code
def yX7_kindNamed : MethodName := ⟨RX7, "kindNamed", "()I"⟩
abbrev cX7_takeEnd : ByteArray := prog_9_method_8_code
def yX7_takeEnd : MethodName := ⟨RX7, "takeEnd", "(LPooledWaves$Program;)I"⟩
abbrev cX7_takeNumber : ByteArray := prog_9_method_9_code
def yX7_takeNumber : MethodName := ⟨RX7, "takeNumber", "(LPooledWaves$Program;)I"⟩
abbrev cX7_greatest : ByteArray := prog_9_method_10_code
def yX7_greatest : MethodName := ⟨RX7, "greatest", "(LPooledWaves$Program;)I"⟩
abbrev cX7_takeOpening : ByteArray := prog_9_method_11_code
def yX7_takeOpening : MethodName := ⟨RX7, "takeOpening", "(LPooledWaves$Program;)I"⟩
def RX8 : String := "PooledWaves$Sheet"
def TX8 : u_T := fun k => match k with
  | 0 => ("PooledWaves$Sheet", "cells", "[J", true)
  | 1 => ("PooledWaves$Sheet", "lane", "I", false)
  | _ => ("PooledWaves$Sheet", "size", "I", false)
def tyX8 : Nat → FieldType := fun k => match k with
  | 0 => .array .long
  | 1 => .int
  | _ => .int
abbrev wsX80 : List Cond := u_ws RX8 TX8 3
theorem nmX8 : ∀ a, a < 3 → ∀ b, b < 3 → a ≠ b → (TX8 a).2.1 ≠ (TX8 b).2.1 := by decide +kernel
theorem tyX8_ok : ∀ k, k < 3 → parseFieldDescriptor (TX8 k).2.2.1 = some (tyX8 k) := by decide +kernel
abbrev cX8_init : ByteArray := prog_10_method_1_code
def yX8_init : MethodName := ⟨RX8, "<init>", "()V"⟩
abbrev cX8_renew : ByteArray := prog_10_method_2_code
def yX8_renew : MethodName := ⟨RX8, "renew", "(II)V"⟩
abbrev cX8_faultAt : ByteArray := prog_10_method_3_code
def yX8_faultAt : MethodName := ⟨RX8, "faultAt", "(II)I"⟩
def RX9 : String := "PooledWaves$Tape"
def TX9 : u_T := fun k => match k with
  | 0 => ("PooledWaves$Tape", "bytes", "[B", true)
  | 1 => ("PooledWaves$Tape", "length", "I", false)
  | 2 => ("PooledWaves$Tape", "kind", "I", false)
  | 3 => ("PooledWaves$Tape", "start", "I", false)
  | 4 => ("PooledWaves$Tape", "behind", "I", false)
  | _ => ("PooledWaves$Tape", "number", "I", false)
def tyX9 : Nat → FieldType := fun k => match k with
  | 0 => .array .byte
  | 1 => .int
  | 2 => .int
  | 3 => .int
  | 4 => .int
  | _ => .int
abbrev wsX90 : List Cond := u_ws RX9 TX9 6
theorem nmX9 : ∀ a, a < 6 → ∀ b, b < 6 → a ≠ b → (TX9 a).2.1 ≠ (TX9 b).2.1 := by decide +kernel
theorem tyX9_ok : ∀ k, k < 6 → parseFieldDescriptor (TX9 k).2.2.1 = some (tyX9 k) := by decide +kernel
abbrev cX9_init : ByteArray := prog_11_method_1_code
def yX9_init : MethodName := ⟨RX9, "<init>", "()V"⟩
abbrev cX9_put : ByteArray := prog_11_method_2_code
def yX9_put : MethodName := ⟨RX9, "put", "(I)Z"⟩
abbrev cX9_rewind : ByteArray := prog_11_method_3_code
def yX9_rewind : MethodName := ⟨RX9, "rewind", "()V"⟩
abbrev cX9_readToken : ByteArray := prog_11_method_4_code
def yX9_readToken : MethodName := ⟨RX9, "readToken", "()V"⟩
abbrev cX9_readOn : ByteArray := prog_11_method_5_code
def yX9_readOn : MethodName := ⟨RX9, "readOn", "()V"⟩
abbrev cX9_kindOf : ByteArray := prog_11_method_6_code
def yX9_kindOf : MethodName := ⟨RX9, "kindOf", "(B)I"⟩
abbrev cX9_isSign : ByteArray := prog_11_method_7_code
def yX9_isSign : MethodName := ⟨RX9, "isSign", "(C)Z"⟩
abbrev cX9_isName : ByteArray := prog_11_method_8_code
def yX9_isName : MethodName := ⟨RX9, "isName", "(Ljava/lang/String;)Z"⟩
def RX10 : String := "PooledWaves"
def TX10 : u_T := fun k => match k with
  | 0 => ("PooledWaves", "tape", "LPooledWaves$Tape;", true)
  | 1 => ("PooledWaves", "reader", "LPooledWaves$Reader;", true)
  | 2 => ("PooledWaves", "drawer", "LPooledWaves$Drawer;", true)
  | 3 => ("PooledWaves", "player", "LPooledWaves$Player;", true)
  | 4 => ("PooledWaves", "images", "[LPooledWaves$Player;", true)
  | 5 => ("PooledWaves", "kept", "[Z", true)
  | 6 => ("PooledWaves", "sheets", "[LPooledWaves$Sheet;", true)
  | 7 => ("PooledWaves", "told", "LPooledWaves$Program;", false)
  | 8 => ("PooledWaves", "spare", "LPooledWaves$Program;", false)
  | _ => ("PooledWaves", "runFault", "I", false)
def tyX10 : Nat → FieldType := fun k => match k with
  | 0 => .object "PooledWaves$Tape"
  | 1 => .object "PooledWaves$Reader"
  | 2 => .object "PooledWaves$Drawer"
  | 3 => .object "PooledWaves$Player"
  | 4 => .array (.object "PooledWaves$Player")
  | 5 => .array .boolean
  | 6 => .array (.object "PooledWaves$Sheet")
  | 7 => .object "PooledWaves$Program"
  | 8 => .object "PooledWaves$Program"
  | _ => .int
abbrev wsX100 : List Cond := u_ws RX10 TX10 10
theorem nmX10 : ∀ a, a < 10 → ∀ b, b < 10 → a ≠ b → (TX10 a).2.1 ≠ (TX10 b).2.1 := by decide +kernel
theorem tyX10_ok : ∀ k, k < 10 → parseFieldDescriptor (TX10 k).2.2.1 = some (tyX10 k) := by decide +kernel
abbrev cX10_init : ByteArray := prog_1_method_1_code
def yX10_init : MethodName := ⟨RX10, "<init>", "()V"⟩
abbrev cX10_feed : ByteArray := prog_1_method_2_code
def yX10_feed : MethodName := ⟨RX10, "feed", "(I)I"⟩
abbrev cX10_end : ByteArray := prog_1_method_3_code
def yX10_end : MethodName := ⟨RX10, "end", "(I)I"⟩
abbrev cX10_text : ByteArray := prog_1_method_4_code
def yX10_text : MethodName := ⟨RX10, "text", "()I"⟩
abbrev cX10_fault : ByteArray := prog_1_method_5_code
def yX10_fault : MethodName := ⟨RX10, "fault", "()I"⟩
abbrev cX10_rule : ByteArray := prog_1_method_6_code
def yX10_rule : MethodName := ⟨RX10, "rule", "(I)I"⟩
abbrev cX10_level : ByteArray := prog_1_method_7_code
def yX10_level : MethodName := ⟨RX10, "level", "(I)I"⟩
abbrev cX10_segment : ByteArray := prog_1_method_8_code
def yX10_segment : MethodName := ⟨RX10, "segment", "(II)I"⟩
abbrev cX10_item : ByteArray := prog_1_method_9_code
def yX10_item : MethodName := ⟨RX10, "item", "(II)I"⟩
abbrev cX10_plain : ByteArray := prog_1_method_10_code
def yX10_plain : MethodName := ⟨RX10, "plain", "(I)I"⟩
abbrev cX10_whole : ByteArray := prog_1_method_11_code
def yX10_whole : MethodName := ⟨RX10, "whole", "()I"⟩
abbrev cX10_player : ByteArray := prog_1_method_12_code
def yX10_player : MethodName := ⟨RX10, "player", "(I)I"⟩
abbrev cX10_turns : ByteArray := prog_1_method_13_code
def yX10_turns : MethodName := ⟨RX10, "turns", "(I)I"⟩
abbrev cX10_tick : ByteArray := prog_1_method_14_code
def yX10_tick : MethodName := ⟨RX10, "tick", "(I)I"⟩
abbrev cX10_out : ByteArray := prog_1_method_15_code
def yX10_out : MethodName := ⟨RX10, "out", "(I)I"⟩
abbrev cX10_marked : ByteArray := prog_1_method_16_code
def yX10_marked : MethodName := ⟨RX10, "marked", "(II)I"⟩
abbrev cX10_page : ByteArray := prog_1_method_17_code
def yX10_page : MethodName := ⟨RX10, "page", "(II)I"⟩
abbrev cX10_trigger : ByteArray := prog_1_method_18_code
def yX10_trigger : MethodName := ⟨RX10, "trigger", "(I)I"⟩
abbrev cX10_set : ByteArray := prog_1_method_19_code
def yX10_set : MethodName := ⟨RX10, "set", "(II)I"⟩
abbrev cX10_again : ByteArray := prog_1_method_20_code
def yX10_again : MethodName := ⟨RX10, "again", "()I"⟩
abbrev cX10_draw : ByteArray := prog_1_method_21_code
def yX10_draw : MethodName := ⟨RX10, "draw", "(II)I"⟩
abbrev cX10_keep : ByteArray := prog_1_method_22_code
def yX10_keep : MethodName := ⟨RX10, "keep", "(I)I"⟩
abbrev cX10_back : ByteArray := prog_1_method_23_code
def yX10_back : MethodName := ⟨RX10, "back", "(I)I"⟩
abbrev cX10_sheet : ByteArray := prog_1_method_24_code
def yX10_sheet : MethodName := ⟨RX10, "sheet", "(III)I"⟩
abbrev cX10_lay : ByteArray := prog_1_method_25_code
def yX10_lay : MethodName := ⟨RX10, "lay", "(III)I"⟩
abbrev cX10_run : ByteArray := prog_1_method_26_code
def yX10_run : MethodName := ⟨RX10, "run", "(IIII)I"⟩
abbrev cX10_torn : ByteArray := prog_1_method_27_code
def yX10_torn : MethodName := ⟨RX10, "torn", "()I"⟩
abbrev cX10_count : ByteArray := prog_1_method_28_code
def yX10_count : MethodName := ⟨RX10, "count", "(I)I"⟩
abbrev cX10_beginNew : ByteArray := prog_1_method_29_code
def yX10_beginNew : MethodName := ⟨RX10, "beginNew", "()V"⟩
abbrev cX10_latchByCell : ByteArray := prog_1_method_30_code
def yX10_latchByCell : MethodName := ⟨RX10, "latchByCell", "(J)V"⟩
abbrev cX10_isSetting : ByteArray := prog_1_method_31_code
def yX10_isSetting : MethodName := ⟨RX10, "isSetting", "(I)Z"⟩
abbrev cX10_isSheet : ByteArray := prog_1_method_32_code
def yX10_isSheet : MethodName := ⟨RX10, "isSheet", "(I)Z"⟩
abbrev cX10_isLane : ByteArray := prog_1_method_33_code
def yX10_isLane : MethodName := ⟨RX10, "isLane", "(I)Z"⟩
def RX11 : String := "PooledWavesModel"
def TX11 : u_T := fun k => match k with
  | 0 => ("PooledWavesModel", "told", "[I", true)
  | 1 => ("PooledWavesModel", "draft", "[I", true)
  | 2 => ("PooledWavesModel", "pool", "[I", true)
  | 3 => ("PooledWavesModel", "poolMany", "I", false)
  | 4 => ("PooledWavesModel", "firsts", "[I", true)
  | 5 => ("PooledWavesModel", "came", "[I", true)
  | 6 => ("PooledWavesModel", "st", "[I", true)
  | 7 => ("PooledWavesModel", "kept", "[I", true)
  | 8 => ("PooledWavesModel", "isKept", "[Z", true)
  | 9 => ("PooledWavesModel", "tape", "[I", true)
  | 10 => ("PooledWavesModel", "taped", "I", false)
  | 11 => ("PooledWavesModel", "pos", "I", false)
  | 12 => ("PooledWavesModel", "begun", "I", false)
  | 13 => ("PooledWavesModel", "sort", "I", false)
  | 14 => ("PooledWavesModel", "figure", "I", false)
  | 15 => ("PooledWavesModel", "fault", "I", false)
  | 16 => ("PooledWavesModel", "wrongAt", "I", false)
  | 17 => ("PooledWavesModel", "open", "[I", true)
  | 18 => ("PooledWavesModel", "hasPlay", "[Z", true)
  | 19 => ("PooledWavesModel", "openMany", "I", false)
  | 20 => ("PooledWavesModel", "row", "[I", true)
  | 21 => ("PooledWavesModel", "isLogged", "Z", false)
  | 22 => ("PooledWavesModel", "sought", "[I", true)
  | 23 => ("PooledWavesModel", "soughtMany", "I", false)
  | 24 => ("PooledWavesModel", "seeded", "I", false)
  | 25 => ("PooledWavesModel", "lanes", "[I", true)
  | 26 => ("PooledWavesModel", "sizes", "[I", true)
  | 27 => ("PooledWavesModel", "cells", "[I", true)
  | _ => ("PooledWavesModel", "torn", "I", false)
def tyX11 : Nat → FieldType := fun k => match k with
  | 0 => .array .int
  | 1 => .array .int
  | 2 => .array .int
  | 3 => .int
  | 4 => .array .int
  | 5 => .array .int
  | 6 => .array .int
  | 7 => .array .int
  | 8 => .array .boolean
  | 9 => .array .int
  | 10 => .int
  | 11 => .int
  | 12 => .int
  | 13 => .int
  | 14 => .int
  | 15 => .int
  | 16 => .int
  | 17 => .array .int
  | 18 => .array .boolean
  | 19 => .int
  | 20 => .array .int
  | 21 => .boolean
  | 22 => .array .int
  | 23 => .int
  | 24 => .int
  | 25 => .array .int
  | 26 => .array .int
  | 27 => .array .int
  | _ => .int
abbrev wsX110 : List Cond := u_ws RX11 TX11 29
theorem nmX11 : ∀ a, a < 29 → ∀ b, b < 29 → a ≠ b → (TX11 a).2.1 ≠ (TX11 b).2.1 := by decide +kernel
theorem tyX11_ok : ∀ k, k < 29 → parseFieldDescriptor (TX11 k).2.2.1 = some (tyX11 k) := by decide +kernel
abbrev cX11_init : ByteArray := prog_13_method_1_code
def yX11_init : MethodName := ⟨RX11, "<init>", "()V"⟩
abbrev cX11_in : ByteArray := prog_13_method_3_code
def yX11_in : MethodName := ⟨RX11, "in", "(JJJ)Z"⟩
abbrev cX11_flag : ByteArray := prog_13_method_4_code
def yX11_flag : MethodName := ⟨RX11, "flag", "(Z)I"⟩
abbrev cX11_feed : ByteArray := prog_13_method_5_code
def yX11_feed : MethodName := ⟨RX11, "feed", "(I)I"⟩
abbrev cX11_end : ByteArray := prog_13_method_6_code
def yX11_end : MethodName := ⟨RX11, "end", "(I)I"⟩
abbrev cX11_requires : ByteArray := prog_13_method_7_code
def yX11_requires : MethodName := ⟨RX11, "requires", "(ZI)V"⟩
abbrev cX11_byteAt : ByteArray := prog_13_method_8_code
def yX11_byteAt : MethodName := ⟨RX11, "byteAt", "(I)I"⟩
abbrev cX11_is : ByteArray := prog_13_method_9_code
def yX11_is : MethodName := ⟨RX11, "is", "(IIII)Z"⟩
abbrev cX11_isSeg : ByteArray := prog_13_method_10_code
def yX11_isSeg : MethodName := ⟨RX11, "isSeg", "()Z"⟩
abbrev cX11_isGo : ByteArray := prog_13_method_11_code
def yX11_isGo : MethodName := ⟨RX11, "isGo", "()Z"⟩
abbrev cX11_kindNow : ByteArray := prog_13_method_12_code
def yX11_kindNow : MethodName := ⟨RX11, "kindNow", "()I"⟩
abbrev cX11_reads : ByteArray := prog_13_method_13_code
def yX11_reads : MethodName := ⟨RX11, "reads", "()V"⟩
abbrev cX11_isSign : ByteArray := prog_13_method_14_code
def yX11_isSign : MethodName := ⟨RX11, "isSign", "(I)Z"⟩
abbrev cX11_readNumber : ByteArray := prog_13_method_15_code
def yX11_readNumber : MethodName := ⟨RX11, "readNumber", "(II)I"⟩
abbrev cX11_readSign : ByteArray := prog_13_method_16_code
def yX11_readSign : MethodName := ⟨RX11, "readSign", "(I)V"⟩
abbrev cX11_readSegment : ByteArray := prog_13_method_17_code
def yX11_readSegment : MethodName := ⟨RX11, "readSegment", "()V"⟩
abbrev cX11_itemComes : ByteArray := prog_13_method_18_code
def yX11_itemComes : MethodName := ⟨RX11, "itemComes", "(III)V"⟩
abbrev cX11_endComes : ByteArray := prog_13_method_19_code
def yX11_endComes : MethodName := ⟨RX11, "endComes", "()V"⟩
abbrev cX11_loopComes : ByteArray := prog_13_method_20_code
def yX11_loopComes : MethodName := ⟨RX11, "loopComes", "(II)V"⟩
abbrev cX11_readItem : ByteArray := prog_13_method_21_code
def yX11_readItem : MethodName := ⟨RX11, "readItem", "(I)V"⟩
abbrev cX11_readProgram : ByteArray := prog_13_method_22_code
def yX11_readProgram : MethodName := ⟨RX11, "readProgram", "()V"⟩
abbrev cX11_text : ByteArray := prog_13_method_23_code
def yX11_text : MethodName := ⟨RX11, "text", "()I"⟩
abbrev cX11_takesDraft : ByteArray := prog_13_method_24_code
def yX11_takesDraft : MethodName := ⟨RX11, "takesDraft", "()V"⟩
abbrev cX11_fault : ByteArray := prog_13_method_25_code
def yX11_fault : MethodName := ⟨RX11, "fault", "()I"⟩
abbrev cX11_many : ByteArray := prog_13_method_26_code
def yX11_many : MethodName := ⟨RX11, "many", "(I)I"⟩
abbrev cX11_levelOf : ByteArray := prog_13_method_27_code
def yX11_levelOf : MethodName := ⟨RX11, "levelOf", "(II)I"⟩
abbrev cX11_alikeFrom : ByteArray := prog_13_method_28_code
def yX11_alikeFrom : MethodName := ⟨RX11, "alikeFrom", "(II)I"⟩
abbrev cX11_pools : ByteArray := prog_13_method_29_code
def yX11_pools : MethodName := ⟨RX11, "pools", "(I)V"⟩
abbrev cX11_levels : ByteArray := prog_13_method_30_code
def yX11_levels : MethodName := ⟨RX11, "levels", "()I"⟩
abbrev cX11_shared : ByteArray := prog_13_method_31_code
def yX11_shared : MethodName := ⟨RX11, "shared", "()I"⟩
abbrev cX11_rule : ByteArray := prog_13_method_32_code
def yX11_rule : MethodName := ⟨RX11, "rule", "(I)I"⟩
abbrev cX11_level : ByteArray := prog_13_method_33_code
def yX11_level : MethodName := ⟨RX11, "level", "(I)I"⟩
abbrev cX11_segment : ByteArray := prog_13_method_34_code
def yX11_segment : MethodName := ⟨RX11, "segment", "(II)I"⟩
abbrev cX11_isItem : ByteArray := prog_13_method_35_code
def yX11_isItem : MethodName := ⟨RX11, "isItem", "(I)Z"⟩
abbrev cX11_ofItem : ByteArray := prog_13_method_36_code
def yX11_ofItem : MethodName := ⟨RX11, "ofItem", "(II)I"⟩
abbrev cX11_item : ByteArray := prog_13_method_37_code
def yX11_item : MethodName := ⟨RX11, "item", "(II)I"⟩
abbrev cX11_goesOn : ByteArray := prog_13_method_38_code
def yX11_goesOn : MethodName := ⟨RX11, "goesOn", "(Z)V"⟩
abbrev cX11_stays : ByteArray := prog_13_method_39_code
def yX11_stays : MethodName := ⟨RX11, "stays", "()V"⟩
abbrev cX11_marks : ByteArray := prog_13_method_40_code
def yX11_marks : MethodName := ⟨RX11, "marks", "(I)V"⟩
abbrev cX11_behindEnd : ByteArray := prog_13_method_41_code
def yX11_behindEnd : MethodName := ⟨RX11, "behindEnd", "(I)I"⟩
abbrev cX11_settles : ByteArray := prog_13_method_42_code
def yX11_settles : MethodName := ⟨RX11, "settles", "(I)V"⟩
abbrev cX11_begins : ByteArray := prog_13_method_43_code
def yX11_begins : MethodName := ⟨RX11, "begins", "()V"⟩
abbrev cX11_segmentAt : ByteArray := prog_13_method_44_code
def yX11_segmentAt : MethodName := ⟨RX11, "segmentAt", "()I"⟩
abbrev cX11_placeAt : ByteArray := prog_13_method_45_code
def yX11_placeAt : MethodName := ⟨RX11, "placeAt", "()I"⟩
abbrev cX11_steps : ByteArray := prog_13_method_46_code
def yX11_steps : MethodName := ⟨RX11, "steps", "()V"⟩
abbrev cX11_levelNow : ByteArray := prog_13_method_47_code
def yX11_levelNow : MethodName := ⟨RX11, "levelNow", "()I"⟩
abbrev cX11_cachedAt : ByteArray := prog_13_method_48_code
def yX11_cachedAt : MethodName := ⟨RX11, "cachedAt", "(I)I"⟩
abbrev cX11_leaves : ByteArray := prog_13_method_49_code
def yX11_leaves : MethodName := ⟨RX11, "leaves", "(I)V"⟩
abbrev cX11_comes : ByteArray := prog_13_method_50_code
def yX11_comes : MethodName := ⟨RX11, "comes", "(I)V"⟩
abbrev cX11_isAsked : ByteArray := prog_13_method_51_code
def yX11_isAsked : MethodName := ⟨RX11, "isAsked", "(I)Z"⟩
abbrev cX11_arrive : ByteArray := prog_13_method_52_code
def yX11_arrive : MethodName := ⟨RX11, "arrive", "()V"⟩
abbrev cX11_outs : ByteArray := prog_13_method_53_code
def yX11_outs : MethodName := ⟨RX11, "outs", "(I)V"⟩
abbrev cX11_sounds : ByteArray := prog_13_method_54_code
def yX11_sounds : MethodName := ⟨RX11, "sounds", "()V"⟩
abbrev cX11_seeks : ByteArray := prog_13_method_55_code
def yX11_seeks : MethodName := ⟨RX11, "seeks", "()V"⟩
abbrev cX11_asks : ByteArray := prog_13_method_56_code
def yX11_asks : MethodName := ⟨RX11, "asks", "()V"⟩
abbrev cX11_ticks : ByteArray := prog_13_method_57_code
def yX11_ticks : MethodName := ⟨RX11, "ticks", "()V"⟩
abbrev cX11_hasUntil : ByteArray := prog_13_method_58_code
def yX11_hasUntil : MethodName := ⟨RX11, "hasUntil", "()Z"⟩
abbrev cX11_unfolds : ByteArray := prog_13_method_59_code
def yX11_unfolds : MethodName := ⟨RX11, "unfolds", "()V"⟩
abbrev cX11_plain : ByteArray := prog_13_method_60_code
def yX11_plain : MethodName := ⟨RX11, "plain", "(I)I"⟩
abbrev cX11_whole : ByteArray := prog_13_method_61_code
def yX11_whole : MethodName := ⟨RX11, "whole", "()I"⟩
abbrev cX11_latchesOn : ByteArray := prog_13_method_62_code
def yX11_latchesOn : MethodName := ⟨RX11, "latchesOn", "()I"⟩
abbrev cX11_player : ByteArray := prog_13_method_63_code
def yX11_player : MethodName := ⟨RX11, "player", "(I)I"⟩
abbrev cX11_turns : ByteArray := prog_13_method_64_code
def yX11_turns : MethodName := ⟨RX11, "turns", "(I)I"⟩
abbrev cX11_tick : ByteArray := prog_13_method_65_code
def yX11_tick : MethodName := ⟨RX11, "tick", "(I)I"⟩
abbrev cX11_out : ByteArray := prog_13_method_66_code
def yX11_out : MethodName := ⟨RX11, "out", "(I)I"⟩
abbrev cX11_marked : ByteArray := prog_13_method_67_code
def yX11_marked : MethodName := ⟨RX11, "marked", "(II)I"⟩
abbrev cX11_page : ByteArray := prog_13_method_68_code
def yX11_page : MethodName := ⟨RX11, "page", "(II)I"⟩
abbrev cX11_trigger : ByteArray := prog_13_method_69_code
def yX11_trigger : MethodName := ⟨RX11, "trigger", "(I)I"⟩
abbrev cX11_leastOf : ByteArray := prog_13_method_70_code
def yX11_leastOf : MethodName := ⟨RX11, "leastOf", "(I)I"⟩
abbrev cX11_mostOf : ByteArray := prog_13_method_71_code
def yX11_mostOf : MethodName := ⟨RX11, "mostOf", "(I)I"⟩
abbrev cX11_set : ByteArray := prog_13_method_72_code
def yX11_set : MethodName := ⟨RX11, "set", "(II)I"⟩
abbrev cX11_again : ByteArray := prog_13_method_73_code
def yX11_again : MethodName := ⟨RX11, "again", "()I"⟩
abbrev cX11_gets : ByteArray := prog_13_method_74_code
def yX11_gets : MethodName := ⟨RX11, "gets", "()I"⟩
abbrev cX11_drawsItem : ByteArray := prog_13_method_75_code
def yX11_drawsItem : MethodName := ⟨RX11, "drawsItem", "(I)V"⟩
abbrev cX11_draw : ByteArray := prog_13_method_76_code
def yX11_draw : MethodName := ⟨RX11, "draw", "(II)I"⟩
abbrev cX11_keep : ByteArray := prog_13_method_77_code
def yX11_keep : MethodName := ⟨RX11, "keep", "(I)I"⟩
abbrev cX11_back : ByteArray := prog_13_method_78_code
def yX11_back : MethodName := ⟨RX11, "back", "(I)I"⟩
abbrev cX11_isSheet : ByteArray := prog_13_method_79_code
def yX11_isSheet : MethodName := ⟨RX11, "isSheet", "(II)Z"⟩
abbrev cX11_sheet : ByteArray := prog_13_method_80_code
def yX11_sheet : MethodName := ⟨RX11, "sheet", "(III)I"⟩
abbrev cX11_lay : ByteArray := prog_13_method_81_code
def yX11_lay : MethodName := ⟨RX11, "lay", "(III)I"⟩
abbrev cX11_run : ByteArray := prog_13_method_82_code
def yX11_run : MethodName := ⟨RX11, "run", "(IIII)I"⟩
abbrev cX11_torn : ByteArray := prog_13_method_83_code
def yX11_torn : MethodName := ⟨RX11, "torn", "()I"⟩
abbrev cX11_count : ByteArray := prog_13_method_84_code
def yX11_count : MethodName := ⟨RX11, "count", "(I)I"⟩
def RJ6 : String := "java/lang/Integer"
abbrev cJ6_bitCount_0f7a4 : ByteArray := prog_15_method_49_code
def yJ6_bitCount_0f7a4 : MethodName := ⟨RJ6, "bitCount", "(I)I"⟩
def RJ9 : String := "java/lang/Math"
abbrev cJ9_floorMod_7cf53 : ByteArray := prog_16_method_50_code
def yJ9_floorMod_7cf53 : MethodName := ⟨RJ9, "floorMod", "(II)I"⟩
abbrev cJ9_min_7cf53 : ByteArray := prog_16_method_69_code
def yJ9_min_7cf53 : MethodName := ⟨RJ9, "min", "(II)I"⟩
def RJ0 : String := "java/lang/String"
abbrev cJ0_length_8abf5 : ByteArray := prog_17_method_54_code
def yJ0_length_8abf5 : MethodName := ⟨RJ0, "length", "()I"⟩
abbrev cJ0_charAt_5068e : ByteArray := prog_17_method_56_code
def yJ0_charAt_5068e : MethodName := ⟨RJ0, "charAt", "(I)C"⟩
abbrev cJ0_coder_7d493 : ByteArray := prog_17_method_152_code
def yJ0_coder_7d493 : MethodName := ⟨RJ0, "coder", "()B"⟩
abbrev cJ0_isLatin1_aae02 : ByteArray := prog_17_method_154_code
def yJ0_isLatin1_aae02 : MethodName := ⟨RJ0, "isLatin1", "()Z"⟩
abbrev cJ0_checkIndex_df160 : ByteArray := prog_17_method_155_code
def yJ0_checkIndex_df160 : MethodName := ⟨RJ0, "checkIndex", "(II)V"⟩
def RJ1 : String := "java/lang/StringLatin1"
abbrev cJ1_charAt_3b067 : ByteArray := prog_18_method_2_code
def yJ1_charAt_3b067 : MethodName := ⟨RJ1, "charAt", "([BI)C"⟩
def RJ2 : String := "java/lang/StringUTF16"
abbrev cJ2_getChar_3b067 : ByteArray := prog_19_method_5_code
def yJ2_getChar_3b067 : MethodName := ⟨RJ2, "getChar", "([BI)C"⟩
abbrev cJ2_length_9d52b : ByteArray := prog_19_method_6_code
def yJ2_length_9d52b : MethodName := ⟨RJ2, "length", "([B)I"⟩
abbrev cJ2_charAt_3b067 : ByteArray := prog_19_method_83_code
def yJ2_charAt_3b067 : MethodName := ⟨RJ2, "charAt", "([BI)C"⟩
abbrev cJ2_checkIndex_2214a : ByteArray := prog_19_method_91_code
def yJ2_checkIndex_2214a : MethodName := ⟨RJ2, "checkIndex", "(I[B)V"⟩
def RJ10 : String := "java/lang/System"
def RJ3 : String := "jdk/internal/util/Preconditions"
abbrev cJ3_checkIndex_8e157 : ByteArray := prog_21_method_11_code
def yJ3_checkIndex_8e157 : MethodName := ⟨RJ3, "checkIndex", "(IILjava/util/function/BiFunction;)I"⟩
def RL : String := "PooledWavesLaw"
abbrev cL_law : ByteArray := code
def yL_law : MethodName := ⟨RL, "law", "([I)Z"⟩
abbrev vwCl : List vw_C := [(RX0, TX0, 4), (RX1, TX1, 3), (RX2, TX2, 3), (RX3, TX3, 5), (RX4, TX4, 10), (RX5, TX5, 6), (RX6, TX6, 10), (RX7, TX7, 8), (RX8, TX8, 3), (RX9, TX9, 6), (RX10, TX10, 10), (RX11, TX11, 29)]
end
section
/-! ===== tables of the abstract machine (by program: wip/whole/gen2.py) ===== -/
/-- a method: name, code, maxLocals, answer, number of its class, constructor, holds longs, room of frames, room of locals, words it takes -/
abbrev zM : Type := MethodName × ByteArray × Nat × Option FieldType × Nat × Bool × Bool × Nat × Nat × Nat
def zmt_0 : List zM := [(yX0_init, cX0_init, 1, none, 0, true, false, 1, 40, 1),
  (yX0_clear, cX0_clear, 2, none, 0, false, false, 0, 0, 1),
  (yX0_copyFrom, cX0_copyFrom, 2, none, 0, false, false, 1, 40, 2),
  (yX0_isOver, cX0_isOver, 1, some .boolean, 0, false, false, 0, 0, 1),
  (yX0_latchOn, cX0_latchOn, 4, some .boolean, 0, false, false, 0, 0, 2),
  (yX0_pageOf, cX0_pageOf, 3, some .int, 0, false, false, 1, 21, 2),
  (yX0_segmentOf, cX0_segmentOf, 2, some .int, 0, false, false, 0, 0, 2),
  (yX0_levelBy, cX0_levelBy, 8, some .int, 0, false, false, 1, 22, 3),
  (yX0_advance, cX0_advance, 7, none, 0, false, false, 3, 73, 5),
  (yX0_settle, cX0_settle, 7, none, 0, false, false, 2, 47, 5),
  (yX0_behindEnd, cX0_behindEnd, 5, some .int, 0, false, false, 1, 23, 3),
  (yX0_turnIsLast, cX0_turnIsLast, 3, some .boolean, 0, false, false, 0, 0, 3),
  (yX0_latchOff, cX0_latchOff, 4, some .boolean, 0, false, false, 0, 0, 2),
  (yX1_init, cX1_init, 1, none, 1, true, false, 1, 40, 1),
  (yX1_drawInto, cX1_drawInto, 6, none, 1, false, false, 4, 95, 4),
  (yX1_got, cX1_got, 3, some .int, 1, false, false, 0, 0, 2),
  (yX1_drawSegments, cX1_drawSegments, 5, none, 1, false, false, 3, 71, 2),
  (yX1_isEnough, cX1_isEnough, 1, some .boolean, 1, false, false, 0, 0, 1),
  (yX1_drawItem, cX1_drawItem, 3, none, 1, false, false, 3, 66, 3),
  (yX1_drawOpening, cX1_drawOpening, 3, none, 1, false, false, 2, 44, 3),
  (yX2_init, cX2_init, 1, none, 2, true, false, 1, 40, 1),
  (yX2_clear, cX2_clear, 1, none, 2, false, false, 0, 0, 1),
  (yX2_copyFrom, cX2_copyFrom, 2, none, 2, false, false, 1, 40, 2),
  (yX2_add, cX2_add, 4, none, 2, false, false, 1, 22, 3),
  (yX2_held, cX2_held, 1, some .int, 2, false, false, 1, 21, 1),
  (yX2_spotOf, cX2_spotOf, 2, some .int, 2, false, false, 2, 41, 2),
  (yX3_init, cX3_init, 1, none, 3, true, false, 1, 40, 1),
  (yX3_clear, cX3_clear, 1, none, 3, false, false, 0, 0, 1),
  (yX3_copyFrom, cX3_copyFrom, 2, none, 3, false, false, 1, 40, 2),
  (yX3_use, cX3_use, 4, some .boolean, 3, false, false, 1, 23, 2),
  (yX3_dropTo, cX3_dropTo, 4, none, 3, false, false, 0, 0, 2),
  (yX3_bringIn, cX3_bringIn, 5, none, 3, false, false, 2, 45, 3),
  (yX3_addToCache, cX3_addToCache, 3, none, 3, false, false, 1, 23, 3),
  (yX3_askFor, cX3_askFor, 4, none, 3, false, false, 1, 23, 3),
  (yX3_spotOf, cX3_spotOf, 4, some .int, 3, false, false, 0, 0, 3),
  (yX4_init, cX4_init, 1, none, 4, true, false, 2, 60, 1),
  (yX4_begin, cX4_begin, 2, none, 4, false, false, 3, 73, 2),
  (yX4_copyFrom, cX4_copyFrom, 2, none, 4, false, false, 2, 61, 2),
  (yX4_valueOf, cX4_valueOf, 2, some .int, 4, false, false, 1, 20, 2),
  (yX4_step, cX4_step, 2, none, 4, false, false, 5, 122, 2)]
def zmt_1 : List zM := [(yX4_playOne, cX4_playOne, 2, none, 4, false, false, 4, 99, 2),
  (yX4_logOut, cX4_logOut, 1, none, 4, false, false, 0, 0, 1),
  (yX4_askAhead, cX4_askAhead, 4, none, 4, false, false, 4, 99, 2),
  (yX5_init, cX5_init, 1, none, 5, true, false, 1, 40, 1),
  (yX5_clear, cX5_clear, 1, none, 5, false, false, 0, 0, 1),
  (yX5_addSegment, cX5_addSegment, 5, none, 5, false, false, 2, 47, 3),
  (yX5_firstPlace, cX5_firstPlace, 4, some .int, 5, false, false, 1, 24, 3),
  (yX5_fitsAt, cX5_fitsAt, 5, some .boolean, 5, false, false, 0, 0, 4),
  (yX5_levelOf, cX5_levelOf, 3, some .int, 5, false, false, 0, 0, 3),
  (yX5_levelsOfAll, cX5_levelsOfAll, 3, some .int, 5, false, false, 0, 0, 1),
  (yX5_segmentsFound, cX5_segmentsFound, 3, some .int, 5, false, false, 0, 0, 1),
  (yX5_pages, cX5_pages, 1, some .int, 5, false, false, 0, 0, 1),
  (yX6_init, cX6_init, 1, none, 6, true, false, 2, 60, 1),
  (yX6_clear, cX6_clear, 1, none, 6, false, false, 1, 20, 1),
  (yX6_isFull, cX6_isFull, 1, some .boolean, 6, false, false, 0, 0, 1),
  (yX6_isDeepest, cX6_isDeepest, 1, some .boolean, 6, false, false, 0, 0, 1),
  (yX6_addPlay, cX6_addPlay, 2, none, 6, false, false, 1, 22, 2),
  (yX6_addMark, cX6_addMark, 2, none, 6, false, false, 1, 22, 2),
  (yX6_addOpening, cX6_addOpening, 3, none, 6, false, false, 1, 22, 3),
  (yX6_addEnd, cX6_addEnd, 2, none, 6, false, false, 1, 22, 1),
  (yX6_openHasPlay, cX6_openHasPlay, 1, some .boolean, 6, false, false, 0, 0, 1),
  (yX6_addItem, cX6_addItem, 3, none, 6, false, false, 0, 0, 3),
  (yX6_grow, cX6_grow, 3, none, 6, false, false, 0, 0, 2),
  (yX6_lengthOf, cX6_lengthOf, 3, some .int, 6, false, false, 0, 0, 2),
  (yX6_unfoldedAt, cX6_unfoldedAt, 6, some .int, 6, false, false, 2, 43, 2),
  (yX6_unfoldedLength, cX6_unfoldedLength, 2, some .int, 6, false, false, 1, 22, 2),
  (yX6_behind, cX6_behind, 3, some .int, 6, false, false, 0, 0, 2),
  (yX6_withinTurn, cX6_withinTurn, 4, some .int, 6, false, false, 0, 0, 3),
  (yX6_segmentLength, cX6_segmentLength, 2, some .int, 6, false, false, 0, 0, 2),
  (yX7_init, cX7_init, 2, none, 7, true, false, 1, 40, 2),
  (yX7_readInto, cX7_readInto, 3, some .boolean, 7, false, false, 8, 169, 2),
  (yX7_take, cX7_take, 2, some .int, 7, false, false, 7, 148, 2),
  (yX7_takeHead, cX7_takeHead, 2, some .int, 7, false, false, 5, 107, 2),
  (yX7_takeLevel, cX7_takeLevel, 2, some .int, 7, false, false, 3, 71, 2),
  (yX7_takeItem, cX7_takeItem, 2, some .int, 7, false, false, 6, 127, 2),
  (yX7_kindNamed, cX7_kindNamed, 1, some .int, 7, false, false, 5, 107, 1),
  (yX7_takeEnd, cX7_takeEnd, 2, some .int, 7, false, false, 2, 43, 2),
  (yX7_takeNumber, cX7_takeNumber, 2, some .int, 7, false, false, 2, 43, 2),
  (yX7_greatest, cX7_greatest, 2, some .int, 7, false, false, 0, 0, 2),
  (yX7_takeOpening, cX7_takeOpening, 2, some .int, 7, false, false, 2, 44, 2)]
def zmt_2 : List zM := [(yX8_init, cX8_init, 1, none, 8, true, false, 1, 40, 1),
  (yX8_renew, cX8_renew, 4, none, 8, false, false, 0, 0, 3),
  (yX8_faultAt, cX8_faultAt, 3, some .int, 8, false, false, 0, 0, 3),
  (yX9_init, cX9_init, 1, none, 9, true, false, 1, 40, 1),
  (yX9_put, cX9_put, 2, some .boolean, 9, false, false, 0, 0, 2),
  (yX9_rewind, cX9_rewind, 1, none, 9, false, false, 0, 0, 1),
  (yX9_readToken, cX9_readToken, 1, none, 9, false, false, 2, 40, 1),
  (yX9_readOn, cX9_readOn, 1, none, 9, false, false, 1, 20, 1),
  (yX9_kindOf, cX9_kindOf, 1, some .int, 9, false, false, 0, 0, 1),
  (yX9_isSign, cX9_isSign, 2, some .boolean, 9, false, false, 0, 0, 2),
  (yX9_isName, cX9_isName, 3, some .boolean, 9, false, false, 4, 85, 2),
  (yX10_init, cX10_init, 2, none, 10, true, false, 3, 80, 1),
  (yX10_feed, cX10_feed, 2, some .int, 10, false, false, 1, 21, 2),
  (yX10_end, cX10_end, 3, some .int, 10, false, false, 0, 0, 2),
  (yX10_text, cX10_text, 3, some .int, 10, false, false, 9, 191, 1),
  (yX10_fault, cX10_fault, 1, some .int, 10, false, false, 0, 0, 1),
  (yX10_rule, cX10_rule, 2, some .int, 10, false, false, 1, 22, 2),
  (yX10_level, cX10_level, 2, some .int, 10, false, false, 0, 0, 2),
  (yX10_segment, cX10_segment, 3, some .int, 10, false, false, 0, 0, 3),
  (yX10_item, cX10_item, 3, some .int, 10, false, false, 0, 0, 3),
  (yX10_plain, cX10_plain, 2, some .int, 10, false, false, 3, 68, 2),
  (yX10_whole, cX10_whole, 2, some .int, 10, false, false, 0, 0, 1),
  (yX10_player, cX10_player, 2, some .int, 10, false, false, 2, 41, 2),
  (yX10_turns, cX10_turns, 2, some .int, 10, false, false, 0, 0, 2),
  (yX10_tick, cX10_tick, 3, some .int, 10, false, false, 6, 143, 2),
  (yX10_out, cX10_out, 2, some .int, 10, false, false, 1, 21, 2),
  (yX10_marked, cX10_marked, 4, some .int, 10, false, false, 3, 62, 3),
  (yX10_page, cX10_page, 4, some .int, 10, false, false, 0, 0, 3),
  (yX10_trigger, cX10_trigger, 2, some .int, 10, false, false, 1, 23, 2),
  (yX10_set, cX10_set, 5, some .int, 10, false, false, 1, 23, 3),
  (yX10_again, cX10_again, 1, some .int, 10, false, false, 4, 94, 1),
  (yX10_draw, cX10_draw, 3, some .int, 10, false, false, 5, 120, 3),
  (yX10_keep, cX10_keep, 3, some .int, 10, false, false, 3, 82, 2),
  (yX10_back, cX10_back, 2, some .int, 10, false, false, 3, 82, 2),
  (yX10_sheet, cX10_sheet, 4, some .int, 10, false, false, 1, 23, 4),
  (yX10_lay, cX10_lay, 6, some .int, 10, false, false, 1, 22, 4),
  (yX10_run, cX10_run, 6, some .int, 10, false, false, 6, 143, 5),
  (yX10_torn, cX10_torn, 1, some .int, 10, false, false, 0, 0, 1),
  (yX10_count, cX10_count, 2, some .int, 10, false, false, 0, 0, 2),
  (yX10_beginNew, cX10_beginNew, 2, none, 10, false, false, 4, 94, 1)]
def zmt_3 : List zM := [(yX10_latchByCell, cX10_latchByCell, 3, none, 10, false, true, 1, 23, 2),
  (yX10_isSetting, cX10_isSetting, 1, some .boolean, 10, false, false, 0, 0, 1),
  (yX10_isSheet, cX10_isSheet, 1, some .boolean, 10, false, false, 0, 0, 1),
  (yX10_isLane, cX10_isLane, 1, some .boolean, 10, false, false, 0, 0, 1),
  (yX11_init, cX11_init, 2, none, 11, true, false, 4, 90, 1),
  (yX11_in, cX11_in, 6, some .boolean, 11, false, true, 0, 0, 3),
  (yX11_flag, cX11_flag, 1, some .int, 11, false, false, 0, 0, 1),
  (yX11_feed, cX11_feed, 2, some .int, 11, false, false, 1, 25, 2),
  (yX11_end, cX11_end, 3, some .int, 11, false, false, 1, 25, 2),
  (yX11_requires, cX11_requires, 3, none, 11, false, false, 0, 0, 3),
  (yX11_byteAt, cX11_byteAt, 2, some .int, 11, false, false, 0, 0, 2),
  (yX11_is, cX11_is, 5, some .boolean, 11, false, false, 1, 21, 5),
  (yX11_isSeg, cX11_isSeg, 1, some .boolean, 11, false, false, 2, 45, 1),
  (yX11_isGo, cX11_isGo, 1, some .boolean, 11, false, false, 2, 45, 1),
  (yX11_kindNow, cX11_kindNow, 1, some .int, 11, false, false, 2, 45, 1),
  (yX11_reads, cX11_reads, 2, none, 11, false, false, 1, 25, 1),
  (yX11_isSign, cX11_isSign, 2, some .boolean, 11, false, false, 1, 21, 2),
  (yX11_readNumber, cX11_readNumber, 4, some .int, 11, false, false, 2, 46, 3),
  (yX11_readSign, cX11_readSign, 2, none, 11, false, false, 2, 46, 2),
  (yX11_readSegment, cX11_readSegment, 4, none, 11, false, false, 3, 69, 1),
  (yX11_itemComes, cX11_itemComes, 5, none, 11, false, false, 0, 0, 4),
  (yX11_endComes, cX11_endComes, 2, none, 11, false, false, 1, 24, 1),
  (yX11_loopComes, cX11_loopComes, 3, none, 11, false, false, 1, 24, 3),
  (yX11_readItem, cX11_readItem, 3, none, 11, false, false, 3, 69, 2),
  (yX11_readProgram, cX11_readProgram, 4, none, 11, false, false, 4, 91, 1),
  (yX11_text, cX11_text, 2, some .int, 11, false, false, 5, 114, 1),
  (yX11_takesDraft, cX11_takesDraft, 2, none, 11, false, false, 4, 90, 1),
  (yX11_fault, cX11_fault, 1, some .int, 11, false, false, 0, 0, 1),
  (yX11_many, cX11_many, 2, some .int, 11, false, false, 0, 0, 2),
  (yX11_levelOf, cX11_levelOf, 3, some .int, 11, false, false, 0, 0, 3),
  (yX11_alikeFrom, cX11_alikeFrom, 4, some .int, 11, false, false, 1, 22, 3),
  (yX11_pools, cX11_pools, 4, none, 11, false, false, 2, 45, 2),
  (yX11_levels, cX11_levels, 3, some .int, 11, false, false, 1, 21, 1),
  (yX11_shared, cX11_shared, 3, some .int, 11, false, false, 1, 20, 1),
  (yX11_rule, cX11_rule, 2, some .int, 11, false, false, 2, 43, 2),
  (yX11_level, cX11_level, 2, some .int, 11, false, false, 0, 0, 2),
  (yX11_segment, cX11_segment, 3, some .int, 11, false, false, 1, 25, 3),
  (yX11_isItem, cX11_isItem, 2, some .boolean, 11, false, false, 1, 25, 2),
  (yX11_ofItem, cX11_ofItem, 3, some .int, 11, false, false, 0, 0, 3),
  (yX11_item, cX11_item, 3, some .int, 11, false, false, 2, 46, 3)]
def zmt_4 : List zM := [(yX11_goesOn, cX11_goesOn, 3, none, 11, false, false, 0, 0, 2),
  (yX11_stays, cX11_stays, 2, none, 11, false, false, 0, 0, 1),
  (yX11_marks, cX11_marks, 3, none, 11, false, false, 0, 0, 2),
  (yX11_behindEnd, cX11_behindEnd, 5, some .int, 11, false, false, 1, 22, 2),
  (yX11_settles, cX11_settles, 4, none, 11, false, false, 2, 46, 2),
  (yX11_begins, cX11_begins, 2, none, 11, false, false, 3, 69, 1),
  (yX11_segmentAt, cX11_segmentAt, 1, some .int, 11, false, false, 1, 22, 1),
  (yX11_placeAt, cX11_placeAt, 1, some .int, 11, false, false, 2, 42, 1),
  (yX11_steps, cX11_steps, 1, none, 11, false, false, 3, 69, 1),
  (yX11_levelNow, cX11_levelNow, 6, some .int, 11, false, false, 2, 42, 1),
  (yX11_cachedAt, cX11_cachedAt, 3, some .int, 11, false, false, 0, 0, 2),
  (yX11_leaves, cX11_leaves, 3, none, 11, false, false, 0, 0, 2),
  (yX11_comes, cX11_comes, 2, none, 11, false, false, 1, 22, 2),
  (yX11_isAsked, cX11_isAsked, 4, some .boolean, 11, false, false, 0, 0, 2),
  (yX11_arrive, cX11_arrive, 4, none, 11, false, false, 2, 43, 1),
  (yX11_outs, cX11_outs, 2, none, 11, false, false, 0, 0, 2),
  (yX11_sounds, cX11_sounds, 3, none, 11, false, false, 4, 89, 1),
  (yX11_seeks, cX11_seeks, 2, none, 11, false, false, 4, 89, 1),
  (yX11_asks, cX11_asks, 2, none, 11, false, false, 5, 110, 1),
  (yX11_ticks, cX11_ticks, 1, none, 11, false, false, 6, 131, 1),
  (yX11_hasUntil, cX11_hasUntil, 3, some .boolean, 11, false, false, 1, 22, 1),
  (yX11_unfolds, cX11_unfolds, 2, none, 11, false, false, 3, 69, 1),
  (yX11_plain, cX11_plain, 3, some .int, 11, false, false, 4, 90, 2),
  (yX11_whole, cX11_whole, 5, some .int, 11, false, false, 2, 44, 1),
  (yX11_latchesOn, cX11_latchesOn, 1, some .int, 11, false, false, 0, 0, 1),
  (yX11_player, cX11_player, 2, some .int, 11, false, false, 1, 25, 2),
  (yX11_turns, cX11_turns, 2, some .int, 11, false, false, 2, 46, 2),
  (yX11_tick, cX11_tick, 3, some .int, 11, false, false, 7, 151, 2),
  (yX11_out, cX11_out, 2, some .int, 11, false, false, 0, 0, 2),
  (yX11_marked, cX11_marked, 3, some .int, 11, false, false, 1, 25, 3),
  (yX11_page, cX11_page, 3, some .int, 11, false, false, 1, 25, 3),
  (yX11_trigger, cX11_trigger, 3, some .int, 11, false, false, 1, 25, 2),
  (yX11_leastOf, cX11_leastOf, 1, some .int, 11, false, false, 0, 0, 1),
  (yX11_mostOf, cX11_mostOf, 1, some .int, 11, false, false, 0, 0, 1),
  (yX11_set, cX11_set, 4, some .int, 11, false, false, 1, 25, 3),
  (yX11_again, cX11_again, 1, some .int, 11, false, false, 4, 90, 1),
  (yX11_gets, cX11_gets, 1, some .int, 11, false, false, 0, 0, 1),
  (yX11_drawsItem, cX11_drawsItem, 3, none, 11, false, false, 2, 46, 2),
  (yX11_draw, cX11_draw, 6, some .int, 11, false, false, 5, 111, 3),
  (yX11_keep, cX11_keep, 4, some .int, 11, false, false, 1, 25, 2)]
def zmt_5 : List zM := [(yX11_back, cX11_back, 3, some .int, 11, false, false, 1, 25, 2),
  (yX11_isSheet, cX11_isSheet, 2, some .boolean, 11, false, false, 1, 25, 2),
  (yX11_sheet, cX11_sheet, 5, some .int, 11, false, false, 2, 46, 4),
  (yX11_lay, cX11_lay, 4, some .int, 11, false, false, 2, 46, 4),
  (yX11_run, cX11_run, 9, some .int, 11, false, true, 7, 151, 5),
  (yX11_torn, cX11_torn, 1, some .int, 11, false, false, 0, 0, 1),
  (yX11_count, cX11_count, 2, some .int, 11, false, false, 1, 20, 2),
  (yJ6_bitCount_0f7a4, cJ6_bitCount_0f7a4, 1, some .int, 17, false, false, 0, 0, 1),
  (yJ9_floorMod_7cf53, cJ9_floorMod_7cf53, 3, some .int, 16, false, false, 0, 0, 2),
  (yJ9_min_7cf53, cJ9_min_7cf53, 2, some .int, 16, false, false, 0, 0, 2),
  (yJ0_length_8abf5, cJ0_length_8abf5, 1, some .int, 13, false, false, 1, 20, 1),
  (yJ0_charAt_5068e, cJ0_charAt_5068e, 2, some .char, 13, false, false, 3, 64, 2),
  (yJ0_coder_7d493, cJ0_coder_7d493, 1, some .byte, 13, false, false, 0, 0, 1),
  (yJ0_isLatin1_aae02, cJ0_isLatin1_aae02, 1, some .boolean, 13, false, false, 0, 0, 1),
  (yJ0_checkIndex_df160, cJ0_checkIndex_df160, 2, none, 13, false, false, 1, 22, 2),
  (yJ1_charAt_3b067, cJ1_charAt_3b067, 2, some .char, 14, false, false, 2, 43, 2),
  (yJ3_checkIndex_8e157, cJ3_checkIndex_8e157, 3, some .int, 15, false, false, 0, 0, 3),
  (x, code, 4, some .boolean, 12, false, false, 13, 468, 1)]
def zmt : List zM := zmt_0 ++ (zmt_1 ++ (zmt_2 ++ (zmt_3 ++ (zmt_4 ++ (zmt_5)))))
def zmr (m : Nat) : zM := zmt.getD m (x, code, 4, some .boolean, 12, false, false, 13, 468, 1)
def zy (m : Nat) : MethodName := (zmr m).1
def zb (m : Nat) : ByteArray := (zmr m).2.1
def zL (m : Nat) : Nat := (zmr m).2.2.1
def zret (m : Nat) : Option FieldType := (zmr m).2.2.2.1
def zo (m : Nat) : Nat := (zmr m).2.2.2.2.1
def zin (m : Nat) : Bool := (zmr m).2.2.2.2.2.1
def zhl (m : Nat) : Bool := (zmr m).2.2.2.2.2.2.1
def zfr (m : Nat) : Nat := (zmr m).2.2.2.2.2.2.2.1
def zlo (m : Nat) : Nat := (zmr m).2.2.2.2.2.2.2.2.1
def zna (m : Nat) : Nat := (zmr m).2.2.2.2.2.2.2.2.2
def zon (o : Nat) : String := (["PooledWaves$Cursor", "PooledWaves$Drawer", "PooledWaves$MarkLog", "PooledWaves$Pages", "PooledWaves$Player", "PooledWaves$Pool", "PooledWaves$Program", "PooledWaves$Reader", "PooledWaves$Sheet", "PooledWaves$Tape", "PooledWaves", "PooledWavesModel", "PooledWavesLaw", "java/lang/String", "java/lang/StringLatin1", "jdk/internal/util/Preconditions", "java/lang/Math", "java/lang/Integer"] : List String).getD o ""
/-- the cells, by their number: (0, class), (1 int, 2 byte, 3 boolean, 4 long, 5 Player, 6 Sheet; length) -/
def zkL : List (Nat × Nat) := [(9, 0), (0, 10), (0, 9), (2, 300), (0, 7), (1, 16), (0, 1), (1, 16), (0, 4), (0, 0), (1, 24), (0, 3), (1, 6), (1, 16), (1, 16), (0, 2), (1, 40), (1, 40), (1, 200), (1, 5), (0, 0), (1, 24), (5, 2), (3, 2), (6, 4), (0, 6), (0, 5), (1, 128), (1, 8), (1, 8), (1, 8), (1, 24), (1, 24), (1, 24), (1, 24), (1, 24), (1, 4), (1, 5), (0, 6), (0, 5), (1, 128), (1, 8), (1, 8), (1, 8), (1, 24), (1, 24), (1, 24), (1, 24), (1, 24), (1, 4), (1, 5), (0, 4), (0, 0), (1, 24), (0, 3), (1, 6), (1, 16), (1, 16), (0, 2), (1, 40), (1, 40), (1, 200), (1, 5), (0, 0), (1, 24), (0, 4), (0, 0), (1, 24), (0, 3), (1, 6), (1, 16), (1, 16), (0, 2), (1, 40), (1, 40), (1, 200), (1, 5), (0, 0), (1, 24), (0, 8), (4, 30), (0, 8), (4, 30), (0, 8), (4, 30), (0, 8), (4, 30), (0, 11), (1, 234), (1, 234), (1, 128), (1, 8), (1, 8), (1, 392), (1, 784), (3, 2), (1, 300), (1, 4), (3, 4), (1, 392), (1, 18), (1, 4), (1, 4), (1, 120)]
def zslen : List Nat := [2, 3, 4, 4, 4, 5]
def zsbyt : List (List Int) := [[103, 111], [115, 101, 103], [112, 108, 97, 121], [109, 97, 114, 107], [108, 111, 111, 112], [117, 110, 116, 105, 108]]
def zkd (p : Nat) : Nat × Nat := if p ≤ 103 then zkL.getD p (9, 0) else if p = 899 then (1, 0) else if p = 900 ∨ p = 901 ∨ p = 902 then (1, 5) else if 1000 ≤ p ∧ p < 1000 + 6 then (0, 20) else if 1100 ≤ p ∧ p < 1100 + 6 then (2, zslen.getD (p - 1100) 0) else (9, 0)
abbrev zNP : Nat := 103
def znF (ci : Nat) : Nat := ([4, 3, 3, 5, 10, 6, 10, 8, 3, 6, 10, 29] : List Nat).getD ci 0
/-- a field: 0 int, 1 boolean, 2 reference -/
def zft (ci k : Nat) : Nat := (([[0, 0, 2, 0], [2, 0, 0], [2, 2, 0], [2, 0, 2, 2, 0], [2, 2, 2, 2, 2, 0, 0, 0, 0, 2], [2, 2, 2, 2, 0, 0], [2, 2, 2, 2, 2, 2, 0, 2, 0, 2], [2, 0, 0, 2, 0, 0, 0, 0], [2, 0, 0], [2, 0, 0, 0, 0, 0], [2, 2, 2, 2, 2, 2, 2, 2, 2, 0], [2, 2, 2, 0, 2, 2, 2, 2, 2, 2, 0, 0, 0, 0, 0, 0, 0, 2, 2, 0, 2, 1, 2, 0, 0, 2, 2, 2, 0]] : List (List Nat)).getD ci []).getD k 0
def zfin (ci k : Nat) : Bool := (([[false, false, true, false], [true, false, false], [true, true, false], [true, false, true, true, false], [true, true, true, true, true, false, false, false, false, true], [true, true, true, true, false, false], [true, true, true, true, true, true, false, true, false, true], [true, false, false, true, false, false, false, false], [true, false, false], [true, false, false, false, false, false], [true, true, true, true, true, true, true, false, false, false], [true, true, true, false, true, true, true, true, true, true, false, false, false, false, false, false, false, true, true, false, true, false, true, false, false, true, true, true, false]] : List (List Bool)).getD ci []).getD k false
def zflL : List (Nat × Nat × Nat × Nat × Nat) := [(0, 9, 0, 0, 0), (0, 15, 0, 2, 2), (0, 19, 0, 1, 0), (0, 22, 0, 3, 0), (0, 35, 6, 0, 2), (0, 41, 5, 1, 2), (0, 46, 6, 6, 0), (0, 49, 6, 2, 2), (0, 68, 6, 1, 2), (0, 81, 6, 3, 2), (1, 9, 1, 0, 2), (1, 15, 1, 2, 0), (1, 19, 1, 1, 0), (1, 27, 6, 0, 2), (1, 40, 6, 8, 0), (1, 58, 6, 6, 0), (2, 9, 2, 0, 2), (2, 15, 2, 1, 2), (2, 18, 2, 2, 0), (3, 9, 3, 0, 2), (3, 15, 3, 2, 2), (3, 18, 3, 3, 2), (3, 21, 3, 1, 0), (3, 25, 3, 4, 0), (4, 12, 4, 0, 2), (4, 21, 4, 1, 2), (4, 28, 4, 2, 2), (4, 32, 4, 3, 2), (4, 44, 4, 4, 2), (4, 47, 4, 9, 2), (4, 55, 4, 5, 0), (4, 59, 4, 6, 0), (4, 62, 4, 7, 0), (4, 65, 4, 8, 0), (4, 88, 0, 0, 0), (4, 91, 0, 1, 0), (4, 94, 2, 2, 0), (4, 97, 3, 1, 0), (4, 100, 3, 4, 0), (4, 103, 0, 3, 0), (4, 145, 6, 0, 2), (5, 9, 5, 0, 2), (5, 15, 5, 1, 2), (5, 18, 5, 2, 2), (5, 21, 5, 3, 2), (5, 24, 5, 4, 0), (5, 28, 5, 5, 0), (6, 12, 6, 0, 2), (6, 18, 6, 1, 2), (6, 22, 6, 2, 2), (6, 25, 6, 3, 2), (6, 28, 6, 4, 2), (6, 31, 6, 5, 2), (6, 34, 6, 7, 2), (6, 37, 6, 9, 2), (6, 43, 6, 6, 0), (6, 47, 6, 8, 0), (6, 50, 5, 5, 0), (6, 61, 5, 2, 2), (7, 9, 7, 3, 2), (7, 15, 7, 0, 2), (7, 29, 7, 7, 0), (7, 36, 9, 2, 0), (7, 43, 7, 1, 0), (7, 46, 9, 3, 0), (7, 49, 7, 2, 0), (7, 52, 6, 0, 2), (7, 80, 5, 5, 0), (7, 85, 7, 4, 0), (7, 96, 9, 5, 0), (7, 102, 6, 8, 0), (7, 109, 7, 5, 0), (7, 130, 7, 6, 0), (8, 9, 8, 0, 2), (8, 15, 8, 2, 0), (8, 19, 8, 1, 0), (9, 9, 9, 0, 2), (9, 15, 9, 1, 0), (9, 19, 9, 4, 0), (9, 22, 9, 3, 0), (9, 29, 9, 2, 0), (9, 35, 9, 5, 0), (10, 12, 10, 0, 2), (10, 21, 10, 1, 2), (10, 28, 10, 2, 2), (10, 35, 10, 3, 2), (10, 39, 10, 4, 2), (10, 43, 10, 5, 2), (10, 49, 10, 6, 2), (10, 56, 10, 7, 2), (10, 60, 10, 8, 2), (10, 68, 9, 1, 0), (10, 76, 7, 2, 0), (10, 82, 6, 6, 0), (10, 85, 7, 1, 0), (10, 88, 6, 0, 2), (10, 92, 5, 5, 0), (10, 97, 5, 4, 0), (10, 113, 4, 4, 2), (10, 117, 5, 0, 2), (10, 120, 5, 1, 2), (10, 123, 5, 2, 2), (10, 125, 5, 3, 2), (10, 128, 6, 1, 2), (10, 131, 6, 2, 2), (10, 134, 6, 3, 2), (10, 137, 6, 4, 2), (10, 144, 6, 9, 2), (10, 151, 4, 0, 2), (10, 155, 0, 2, 2), (10, 164, 4, 8, 0), (10, 167, 4, 5, 0), (10, 176, 4, 3, 2), (10, 179, 4, 2, 2), (10, 191, 2, 0, 2), (10, 194, 2, 1, 2), (10, 197, 4, 1, 2), (10, 200, 3, 1, 0), (10, 205, 3, 4, 0), (10, 208, 3, 0, 2), (10, 211, 3, 2, 2), (10, 214, 3, 3, 2), (10, 233, 0, 0, 0), (10, 244, 4, 7, 0), (10, 257, 8, 1, 0), (10, 263, 8, 0, 2), (10, 267, 10, 9, 0), (10, 274, 8, 2, 0), (11, 7, 11, 0, 2), (11, 13, 11, 1, 2), (11, 16, 11, 2, 2), (11, 19, 11, 4, 2), (11, 22, 11, 5, 2), (11, 25, 11, 6, 2), (11, 28, 11, 7, 2), (11, 31, 11, 8, 2), (11, 35, 11, 9, 2), (11, 38, 11, 17, 2), (11, 41, 11, 18, 2), (11, 44, 11, 20, 2), (11, 47, 11, 22, 2), (11, 50, 11, 25, 2), (11, 53, 11, 26, 2), (11, 56, 11, 27, 2), (11, 68, 11, 10, 0), (11, 72, 11, 15, 0), (11, 75, 11, 12, 0), (11, 78, 11, 16, 0), (11, 81, 11, 13, 0), (11, 84, 11, 11, 0), (11, 103, 11, 14, 0), (11, 125, 11, 19, 0), (11, 162, 11, 3, 0), (11, 195, 11, 21, 1), (11, 239, 11, 23, 0), (11, 287, 11, 24, 0), (11, 305, 11, 28, 0), (13, 9, 20, 0, 2), (13, 15, 20, 1, 0)]
def zfl (o i : Nat) : Option (Nat × Nat × Nat) := (zflL.find? (fun e => e.1 == o && e.2.1 == i)).map (fun e => e.2.2)
def zmlL : List (Nat × Nat × Nat × Nat) := [(0, 3, 10, 0), (0, 25, 11, 0), (0, 31, 0, 6), (0, 52, 0, 48), (0, 56, 0, 68), (0, 60, 0, 3), (0, 64, 0, 9), (0, 71, 0, 23), (0, 77, 0, 10), (0, 84, 0, 11), (0, 88, 0, 12), (1, 3, 10, 0), (1, 22, 0, 53), (1, 31, 0, 16), (1, 36, 1, 17), (1, 43, 0, 15), (1, 47, 0, 18), (1, 52, 0, 45), (1, 61, 0, 56), (1, 65, 0, 57), (1, 68, 0, 19), (1, 71, 0, 59), (1, 74, 0, 55), (1, 78, 0, 58), (2, 3, 10, 0), (2, 22, 11, 0), (2, 28, 1, 208), (2, 34, 1, 209), (2, 37, 0, 24), (3, 3, 10, 0), (3, 28, 11, 0), (3, 34, 1, 34), (3, 38, 0, 32), (3, 42, 0, 30), (4, 3, 10, 0), (4, 11, 3, 0), (4, 20, 3, 26), (4, 27, 3, 20), (4, 39, 12, 0), (4, 50, 0, 1), (4, 53, 0, 27), (4, 54, 0, 21), (4, 68, 0, 9), (4, 72, 0, 2), (4, 76, 0, 28), (4, 79, 0, 22), (4, 82, 11, 0), (4, 106, 1, 207), (4, 112, 0, 31), (4, 116, 0, 3), (4, 120, 0, 40), (4, 124, 0, 42), (4, 127, 0, 5), (4, 131, 0, 29), (4, 135, 0, 7), (4, 139, 0, 41), (4, 142, 0, 8), (4, 151, 0, 51), (4, 156, 0, 33), (5, 3, 10, 0), (5, 31, 0, 46), (5, 35, 1, 209), (5, 41, 11, 0), (5, 47, 0, 47), (6, 3, 10, 0), (6, 11, 3, 43), (6, 40, 0, 44), (6, 53, 0, 54), (6, 57, 0, 61), (6, 64, 0, 62), (6, 68, 0, 55), (6, 71, 0, 63), (6, 76, 0, 65), (6, 79, 0, 66), (6, 82, 0, 48), (6, 86, 0, 67), (6, 89, 0, 68), (7, 3, 10, 0), (7, 19, 0, 53), (7, 24, 0, 85), (7, 33, 0, 86), (7, 39, 0, 71), (7, 56, 0, 72), (7, 60, 0, 73), (7, 63, 0, 74), (7, 66, 0, 77), (7, 69, 0, 79), (7, 74, 0, 90), (7, 88, 0, 89), (7, 92, 0, 45), (7, 99, 0, 76), (7, 105, 0, 75), (7, 112, 0, 54), (7, 124, 0, 60), (7, 127, 0, 59), (7, 133, 0, 78), (7, 136, 0, 56), (7, 140, 0, 57), (7, 143, 0, 55), (7, 146, 0, 58), (8, 3, 10, 0), (9, 3, 10, 0), (9, 25, 1, 88), (9, 32, 0, 87), (9, 39, 0, 210), (9, 44, 0, 211), (10, 3, 10, 0), (10, 11, 3, 83), (10, 18, 2, 69), (10, 27, 3, 13), (10, 34, 3, 35), (10, 55, 3, 52), (10, 63, 3, 80), (10, 64, 0, 84), (10, 72, 0, 70), (10, 79, 0, 119), (10, 100, 0, 49), (10, 104, 0, 50), (10, 107, 0, 51), (10, 110, 1, 121), (10, 140, 0, 64), (10, 148, 0, 38), (10, 160, 0, 39), (10, 170, 1, 209), (10, 183, 0, 24), (10, 188, 0, 25), (10, 217, 0, 4), (10, 226, 0, 30), (10, 230, 0, 36), (10, 236, 0, 14), (10, 240, 0, 37), (10, 247, 1, 122), (10, 250, 1, 123), (10, 253, 0, 81), (10, 260, 0, 82), (10, 270, 0, 120), (11, 1, 10, 0), (11, 59, 0, 165), (11, 64, 1, 125), (11, 87, 0, 130), (11, 91, 0, 131), (11, 106, 0, 129), (11, 110, 0, 135), (11, 113, 0, 136), (11, 117, 0, 137), (11, 121, 0, 138), (11, 128, 0, 140), (11, 132, 0, 142), (11, 136, 0, 134), (11, 140, 0, 141), (11, 143, 0, 143), (11, 146, 0, 132), (11, 150, 0, 139), (11, 153, 0, 133), (11, 156, 0, 144), (11, 159, 0, 146), (11, 165, 0, 151), (11, 168, 0, 148), (11, 171, 0, 149), (11, 174, 0, 150), (11, 177, 1, 126), (11, 181, 0, 152), (11, 184, 0, 153), (11, 187, 0, 157), (11, 192, 0, 158), (11, 199, 0, 162), (11, 202, 0, 163), (11, 205, 0, 160), (11, 209, 0, 164), (11, 212, 0, 161), (11, 215, 0, 166), (11, 218, 0, 171), (11, 221, 0, 172), (11, 224, 0, 167), (11, 227, 0, 170), (11, 230, 0, 175), (11, 233, 0, 169), (11, 236, 0, 168), (11, 242, 0, 177), (11, 245, 0, 173), (11, 248, 0, 174), (11, 251, 0, 176), (11, 254, 0, 178), (11, 259, 0, 181), (11, 262, 0, 180), (11, 267, 0, 184), (11, 272, 0, 179), (11, 281, 1, 192), (11, 284, 1, 193), (11, 291, 0, 196), (11, 296, 0, 197), (11, 299, 1, 201), (12, 9, 2, 91), (12, 12, 2, 124), (12, 13, 0, 92), (12, 17, 0, 127), (12, 18, 0, 93), (12, 21, 0, 128), (12, 22, 0, 94), (12, 26, 0, 145), (12, 27, 0, 95), (12, 30, 0, 147), (12, 31, 0, 96), (12, 34, 0, 154), (12, 35, 0, 97), (12, 38, 0, 155), (12, 39, 0, 98), (12, 43, 0, 156), (12, 44, 0, 99), (12, 47, 0, 159), (12, 48, 0, 100), (12, 51, 0, 182), (12, 52, 0, 101), (12, 55, 0, 183), (12, 56, 0, 102), (12, 59, 0, 185), (12, 60, 0, 103), (12, 63, 0, 186), (12, 64, 0, 104), (12, 67, 0, 187), (12, 68, 0, 105), (12, 71, 0, 188), (12, 72, 0, 106), (12, 75, 0, 189), (12, 76, 0, 107), (12, 79, 0, 190), (12, 80, 0, 108), (12, 83, 0, 191), (12, 84, 0, 109), (12, 87, 0, 194), (12, 88, 0, 110), (12, 91, 0, 195), (12, 92, 0, 111), (12, 95, 0, 198), (12, 96, 0, 112), (12, 99, 0, 199), (12, 100, 0, 113), (12, 103, 0, 200), (12, 104, 0, 114), (12, 108, 0, 202), (12, 109, 0, 115), (12, 112, 0, 203), (12, 113, 0, 116), (12, 117, 0, 204), (12, 118, 0, 117), (12, 121, 0, 205), (12, 122, 0, 118), (12, 125, 0, 206), (13, 335, 0, 212), (13, 492, 0, 213), (13, 495, 1, 215), (13, 1059, 1, 216), (14, 9, 1, 214)]
def zml (o i : Nat) : Option (Nat × Nat) := (zmlL.find? (fun e => e.1 == o && e.2.1 == i)).map (fun e => e.2.2)
def zctL : List (Nat × Nat × Int) := [(1, 35, 1000000), (1, 51, 1103515245), (6, 75, 2147483647), (9, 38, 65535), (10, 147, 2147483647), (11, 290, 1103515245), (17, 265, 1431655765), (17, 266, 858993459), (17, 267, 252645135)]
def zct (o i : Nat) : Option (Int) := (zctL.find? (fun e => e.1 == o && e.2.1 == i)).map (fun e => e.2.2)
def zclL : List (Nat × Nat × Int) := [(10, 275, 4), (11, 62, 127), (11, 95, 97), (11, 97, 122), (11, 99, 48), (11, 101, 57), (11, 190, 3), (11, 257, 9999), (11, 265, 9), (11, 270, 30), (11, 275, 2), (11, 277, 6), (11, 279, 10), (11, 294, 8), (11, 303, 20)]
def zcl (o i : Nat) : Option (Int) := (zclL.find? (fun e => e.1 == o && e.2.1 == i)).map (fun e => e.2.2)
def zstL : List (Nat × Nat × Nat) := [(7, 72, 0), (7, 78, 1), (7, 116, 2), (7, 118, 3), (7, 120, 4), (7, 122, 5)]
def zst (o i : Nat) : Option (Nat) := (zstL.find? (fun e => e.1 == o && e.2.1 == i)).map (fun e => e.2.2)
def zgsL : List (Nat × Nat × Int) := [(4, 36, (900)), (10, 220, (901)), (10, 223, (902)), (13, 38, (-1)), (13, 1053, (1200))]
def zgs (o i : Nat) : Option (Int) := (zgsL.find? (fun e => e.1 == o && e.2.1 == i)).map (fun e => e.2.2)
def zcnL : List (Nat × Nat × Nat) := [(4, 9, 0), (4, 18, 3), (4, 25, 2), (4, 40, 30), (6, 9, 5), (10, 9, 9), (10, 16, 7), (10, 25, 1), (10, 32, 4), (10, 47, 8), (10, 53, 6), (12, 7, 10), (12, 10, 11)]
def zcn (o i : Nat) : Option (Nat) := (zcnL.find? (fun e => e.1 == o && e.2.1 == i)).map (fun e => e.2.2)
theorem zfl_0_9 : zfl 0 9 = some (0, 0, 0) := by decide +kernel
theorem zfl_0_15 : zfl 0 15 = some (0, 2, 2) := by decide +kernel
theorem zfl_0_19 : zfl 0 19 = some (0, 1, 0) := by decide +kernel
theorem zfl_0_22 : zfl 0 22 = some (0, 3, 0) := by decide +kernel
theorem zfl_0_35 : zfl 0 35 = some (6, 0, 2) := by decide +kernel
theorem zfl_0_41 : zfl 0 41 = some (5, 1, 2) := by decide +kernel
theorem zfl_0_46 : zfl 0 46 = some (6, 6, 0) := by decide +kernel
theorem zfl_0_49 : zfl 0 49 = some (6, 2, 2) := by decide +kernel
theorem zfl_0_68 : zfl 0 68 = some (6, 1, 2) := by decide +kernel
theorem zfl_0_81 : zfl 0 81 = some (6, 3, 2) := by decide +kernel
theorem zfl_1_9 : zfl 1 9 = some (1, 0, 2) := by decide +kernel
theorem zfl_1_15 : zfl 1 15 = some (1, 2, 0) := by decide +kernel
theorem zfl_1_19 : zfl 1 19 = some (1, 1, 0) := by decide +kernel
theorem zfl_1_27 : zfl 1 27 = some (6, 0, 2) := by decide +kernel
theorem zfl_1_40 : zfl 1 40 = some (6, 8, 0) := by decide +kernel
theorem zfl_1_58 : zfl 1 58 = some (6, 6, 0) := by decide +kernel
theorem zfl_2_9 : zfl 2 9 = some (2, 0, 2) := by decide +kernel
theorem zfl_2_15 : zfl 2 15 = some (2, 1, 2) := by decide +kernel
theorem zfl_2_18 : zfl 2 18 = some (2, 2, 0) := by decide +kernel
theorem zfl_3_9 : zfl 3 9 = some (3, 0, 2) := by decide +kernel
theorem zfl_3_15 : zfl 3 15 = some (3, 2, 2) := by decide +kernel
theorem zfl_3_18 : zfl 3 18 = some (3, 3, 2) := by decide +kernel
theorem zfl_3_21 : zfl 3 21 = some (3, 1, 0) := by decide +kernel
theorem zfl_3_25 : zfl 3 25 = some (3, 4, 0) := by decide +kernel
theorem zfl_4_12 : zfl 4 12 = some (4, 0, 2) := by decide +kernel
theorem zfl_4_21 : zfl 4 21 = some (4, 1, 2) := by decide +kernel
theorem zfl_4_28 : zfl 4 28 = some (4, 2, 2) := by decide +kernel
theorem zfl_4_32 : zfl 4 32 = some (4, 3, 2) := by decide +kernel
theorem zfl_4_44 : zfl 4 44 = some (4, 4, 2) := by decide +kernel
theorem zfl_4_47 : zfl 4 47 = some (4, 9, 2) := by decide +kernel
theorem zfl_4_55 : zfl 4 55 = some (4, 5, 0) := by decide +kernel
theorem zfl_4_59 : zfl 4 59 = some (4, 6, 0) := by decide +kernel
theorem zfl_4_62 : zfl 4 62 = some (4, 7, 0) := by decide +kernel
theorem zfl_4_65 : zfl 4 65 = some (4, 8, 0) := by decide +kernel
theorem zfl_4_88 : zfl 4 88 = some (0, 0, 0) := by decide +kernel
theorem zfl_4_91 : zfl 4 91 = some (0, 1, 0) := by decide +kernel
theorem zfl_4_94 : zfl 4 94 = some (2, 2, 0) := by decide +kernel
theorem zfl_4_97 : zfl 4 97 = some (3, 1, 0) := by decide +kernel
theorem zfl_4_100 : zfl 4 100 = some (3, 4, 0) := by decide +kernel
theorem zfl_4_103 : zfl 4 103 = some (0, 3, 0) := by decide +kernel
theorem zfl_4_145 : zfl 4 145 = some (6, 0, 2) := by decide +kernel
theorem zfl_5_9 : zfl 5 9 = some (5, 0, 2) := by decide +kernel
theorem zfl_5_15 : zfl 5 15 = some (5, 1, 2) := by decide +kernel
theorem zfl_5_18 : zfl 5 18 = some (5, 2, 2) := by decide +kernel
theorem zfl_5_21 : zfl 5 21 = some (5, 3, 2) := by decide +kernel
theorem zfl_5_24 : zfl 5 24 = some (5, 4, 0) := by decide +kernel
theorem zfl_5_28 : zfl 5 28 = some (5, 5, 0) := by decide +kernel
theorem zfl_6_12 : zfl 6 12 = some (6, 0, 2) := by decide +kernel
theorem zfl_6_18 : zfl 6 18 = some (6, 1, 2) := by decide +kernel
theorem zfl_6_22 : zfl 6 22 = some (6, 2, 2) := by decide +kernel
theorem zfl_6_25 : zfl 6 25 = some (6, 3, 2) := by decide +kernel
theorem zfl_6_28 : zfl 6 28 = some (6, 4, 2) := by decide +kernel
theorem zfl_6_31 : zfl 6 31 = some (6, 5, 2) := by decide +kernel
theorem zfl_6_34 : zfl 6 34 = some (6, 7, 2) := by decide +kernel
theorem zfl_6_37 : zfl 6 37 = some (6, 9, 2) := by decide +kernel
theorem zfl_6_43 : zfl 6 43 = some (6, 6, 0) := by decide +kernel
theorem zfl_6_47 : zfl 6 47 = some (6, 8, 0) := by decide +kernel
theorem zfl_6_50 : zfl 6 50 = some (5, 5, 0) := by decide +kernel
theorem zfl_6_61 : zfl 6 61 = some (5, 2, 2) := by decide +kernel
theorem zfl_7_9 : zfl 7 9 = some (7, 3, 2) := by decide +kernel
theorem zfl_7_15 : zfl 7 15 = some (7, 0, 2) := by decide +kernel
theorem zfl_7_29 : zfl 7 29 = some (7, 7, 0) := by decide +kernel
theorem zfl_7_36 : zfl 7 36 = some (9, 2, 0) := by decide +kernel
theorem zfl_7_43 : zfl 7 43 = some (7, 1, 0) := by decide +kernel
theorem zfl_7_46 : zfl 7 46 = some (9, 3, 0) := by decide +kernel
theorem zfl_7_49 : zfl 7 49 = some (7, 2, 0) := by decide +kernel
theorem zfl_7_52 : zfl 7 52 = some (6, 0, 2) := by decide +kernel
theorem zfl_7_80 : zfl 7 80 = some (5, 5, 0) := by decide +kernel
theorem zfl_7_85 : zfl 7 85 = some (7, 4, 0) := by decide +kernel
theorem zfl_7_96 : zfl 7 96 = some (9, 5, 0) := by decide +kernel
theorem zfl_7_102 : zfl 7 102 = some (6, 8, 0) := by decide +kernel
theorem zfl_7_109 : zfl 7 109 = some (7, 5, 0) := by decide +kernel
theorem zfl_7_130 : zfl 7 130 = some (7, 6, 0) := by decide +kernel
theorem zfl_8_9 : zfl 8 9 = some (8, 0, 2) := by decide +kernel
theorem zfl_8_15 : zfl 8 15 = some (8, 2, 0) := by decide +kernel
theorem zfl_8_19 : zfl 8 19 = some (8, 1, 0) := by decide +kernel
theorem zfl_9_9 : zfl 9 9 = some (9, 0, 2) := by decide +kernel
theorem zfl_9_15 : zfl 9 15 = some (9, 1, 0) := by decide +kernel
theorem zfl_9_19 : zfl 9 19 = some (9, 4, 0) := by decide +kernel
theorem zfl_9_22 : zfl 9 22 = some (9, 3, 0) := by decide +kernel
theorem zfl_9_29 : zfl 9 29 = some (9, 2, 0) := by decide +kernel
theorem zfl_9_35 : zfl 9 35 = some (9, 5, 0) := by decide +kernel
theorem zfl_10_12 : zfl 10 12 = some (10, 0, 2) := by decide +kernel
theorem zfl_10_21 : zfl 10 21 = some (10, 1, 2) := by decide +kernel
theorem zfl_10_28 : zfl 10 28 = some (10, 2, 2) := by decide +kernel
theorem zfl_10_35 : zfl 10 35 = some (10, 3, 2) := by decide +kernel
theorem zfl_10_39 : zfl 10 39 = some (10, 4, 2) := by decide +kernel
theorem zfl_10_43 : zfl 10 43 = some (10, 5, 2) := by decide +kernel
theorem zfl_10_49 : zfl 10 49 = some (10, 6, 2) := by decide +kernel
theorem zfl_10_56 : zfl 10 56 = some (10, 7, 2) := by decide +kernel
theorem zfl_10_60 : zfl 10 60 = some (10, 8, 2) := by decide +kernel
theorem zfl_10_68 : zfl 10 68 = some (9, 1, 0) := by decide +kernel
theorem zfl_10_76 : zfl 10 76 = some (7, 2, 0) := by decide +kernel
theorem zfl_10_82 : zfl 10 82 = some (6, 6, 0) := by decide +kernel
theorem zfl_10_85 : zfl 10 85 = some (7, 1, 0) := by decide +kernel
theorem zfl_10_88 : zfl 10 88 = some (6, 0, 2) := by decide +kernel
theorem zfl_10_92 : zfl 10 92 = some (5, 5, 0) := by decide +kernel
theorem zfl_10_97 : zfl 10 97 = some (5, 4, 0) := by decide +kernel
theorem zfl_10_113 : zfl 10 113 = some (4, 4, 2) := by decide +kernel
theorem zfl_10_117 : zfl 10 117 = some (5, 0, 2) := by decide +kernel
theorem zfl_10_120 : zfl 10 120 = some (5, 1, 2) := by decide +kernel
theorem zfl_10_123 : zfl 10 123 = some (5, 2, 2) := by decide +kernel
theorem zfl_10_125 : zfl 10 125 = some (5, 3, 2) := by decide +kernel
theorem zfl_10_128 : zfl 10 128 = some (6, 1, 2) := by decide +kernel
theorem zfl_10_131 : zfl 10 131 = some (6, 2, 2) := by decide +kernel
theorem zfl_10_134 : zfl 10 134 = some (6, 3, 2) := by decide +kernel
theorem zfl_10_137 : zfl 10 137 = some (6, 4, 2) := by decide +kernel
theorem zfl_10_144 : zfl 10 144 = some (6, 9, 2) := by decide +kernel
theorem zfl_10_151 : zfl 10 151 = some (4, 0, 2) := by decide +kernel
theorem zfl_10_155 : zfl 10 155 = some (0, 2, 2) := by decide +kernel
theorem zfl_10_164 : zfl 10 164 = some (4, 8, 0) := by decide +kernel
theorem zfl_10_167 : zfl 10 167 = some (4, 5, 0) := by decide +kernel
theorem zfl_10_176 : zfl 10 176 = some (4, 3, 2) := by decide +kernel
theorem zfl_10_179 : zfl 10 179 = some (4, 2, 2) := by decide +kernel
theorem zfl_10_191 : zfl 10 191 = some (2, 0, 2) := by decide +kernel
theorem zfl_10_194 : zfl 10 194 = some (2, 1, 2) := by decide +kernel
theorem zfl_10_197 : zfl 10 197 = some (4, 1, 2) := by decide +kernel
theorem zfl_10_200 : zfl 10 200 = some (3, 1, 0) := by decide +kernel
theorem zfl_10_205 : zfl 10 205 = some (3, 4, 0) := by decide +kernel
theorem zfl_10_208 : zfl 10 208 = some (3, 0, 2) := by decide +kernel
theorem zfl_10_211 : zfl 10 211 = some (3, 2, 2) := by decide +kernel
theorem zfl_10_214 : zfl 10 214 = some (3, 3, 2) := by decide +kernel
theorem zfl_10_233 : zfl 10 233 = some (0, 0, 0) := by decide +kernel
theorem zfl_10_244 : zfl 10 244 = some (4, 7, 0) := by decide +kernel
theorem zfl_10_257 : zfl 10 257 = some (8, 1, 0) := by decide +kernel
theorem zfl_10_263 : zfl 10 263 = some (8, 0, 2) := by decide +kernel
theorem zfl_10_267 : zfl 10 267 = some (10, 9, 0) := by decide +kernel
theorem zfl_10_274 : zfl 10 274 = some (8, 2, 0) := by decide +kernel
theorem zfl_11_7 : zfl 11 7 = some (11, 0, 2) := by decide +kernel
theorem zfl_11_13 : zfl 11 13 = some (11, 1, 2) := by decide +kernel
theorem zfl_11_16 : zfl 11 16 = some (11, 2, 2) := by decide +kernel
theorem zfl_11_19 : zfl 11 19 = some (11, 4, 2) := by decide +kernel
theorem zfl_11_22 : zfl 11 22 = some (11, 5, 2) := by decide +kernel
theorem zfl_11_25 : zfl 11 25 = some (11, 6, 2) := by decide +kernel
theorem zfl_11_28 : zfl 11 28 = some (11, 7, 2) := by decide +kernel
theorem zfl_11_31 : zfl 11 31 = some (11, 8, 2) := by decide +kernel
theorem zfl_11_35 : zfl 11 35 = some (11, 9, 2) := by decide +kernel
theorem zfl_11_38 : zfl 11 38 = some (11, 17, 2) := by decide +kernel
theorem zfl_11_41 : zfl 11 41 = some (11, 18, 2) := by decide +kernel
theorem zfl_11_44 : zfl 11 44 = some (11, 20, 2) := by decide +kernel
theorem zfl_11_47 : zfl 11 47 = some (11, 22, 2) := by decide +kernel
theorem zfl_11_50 : zfl 11 50 = some (11, 25, 2) := by decide +kernel
theorem zfl_11_53 : zfl 11 53 = some (11, 26, 2) := by decide +kernel
theorem zfl_11_56 : zfl 11 56 = some (11, 27, 2) := by decide +kernel
theorem zfl_11_68 : zfl 11 68 = some (11, 10, 0) := by decide +kernel
theorem zfl_11_72 : zfl 11 72 = some (11, 15, 0) := by decide +kernel
theorem zfl_11_75 : zfl 11 75 = some (11, 12, 0) := by decide +kernel
theorem zfl_11_78 : zfl 11 78 = some (11, 16, 0) := by decide +kernel
theorem zfl_11_81 : zfl 11 81 = some (11, 13, 0) := by decide +kernel
theorem zfl_11_84 : zfl 11 84 = some (11, 11, 0) := by decide +kernel
theorem zfl_11_103 : zfl 11 103 = some (11, 14, 0) := by decide +kernel
theorem zfl_11_125 : zfl 11 125 = some (11, 19, 0) := by decide +kernel
theorem zfl_11_162 : zfl 11 162 = some (11, 3, 0) := by decide +kernel
theorem zfl_11_195 : zfl 11 195 = some (11, 21, 1) := by decide +kernel
theorem zfl_11_239 : zfl 11 239 = some (11, 23, 0) := by decide +kernel
theorem zfl_11_287 : zfl 11 287 = some (11, 24, 0) := by decide +kernel
theorem zfl_11_305 : zfl 11 305 = some (11, 28, 0) := by decide +kernel
theorem zfl_13_9 : zfl 13 9 = some (20, 0, 2) := by decide +kernel
theorem zfl_13_15 : zfl 13 15 = some (20, 1, 0) := by decide +kernel
theorem zml_0_3 : zml 0 3 = some (10, 0) := by decide +kernel
theorem zml_0_25 : zml 0 25 = some (11, 0) := by decide +kernel
theorem zml_0_31 : zml 0 31 = some (0, 6) := by decide +kernel
theorem zml_0_52 : zml 0 52 = some (0, 48) := by decide +kernel
theorem zml_0_56 : zml 0 56 = some (0, 68) := by decide +kernel
theorem zml_0_60 : zml 0 60 = some (0, 3) := by decide +kernel
theorem zml_0_64 : zml 0 64 = some (0, 9) := by decide +kernel
theorem zml_0_71 : zml 0 71 = some (0, 23) := by decide +kernel
theorem zml_0_77 : zml 0 77 = some (0, 10) := by decide +kernel
theorem zml_0_84 : zml 0 84 = some (0, 11) := by decide +kernel
theorem zml_0_88 : zml 0 88 = some (0, 12) := by decide +kernel
theorem zml_1_3 : zml 1 3 = some (10, 0) := by decide +kernel
theorem zml_1_22 : zml 1 22 = some (0, 53) := by decide +kernel
theorem zml_1_31 : zml 1 31 = some (0, 16) := by decide +kernel
theorem zml_1_36 : zml 1 36 = some (1, 17) := by decide +kernel
theorem zml_1_43 : zml 1 43 = some (0, 15) := by decide +kernel
theorem zml_1_47 : zml 1 47 = some (0, 18) := by decide +kernel
theorem zml_1_52 : zml 1 52 = some (0, 45) := by decide +kernel
theorem zml_1_61 : zml 1 61 = some (0, 56) := by decide +kernel
theorem zml_1_65 : zml 1 65 = some (0, 57) := by decide +kernel
theorem zml_1_68 : zml 1 68 = some (0, 19) := by decide +kernel
theorem zml_1_71 : zml 1 71 = some (0, 59) := by decide +kernel
theorem zml_1_74 : zml 1 74 = some (0, 55) := by decide +kernel
theorem zml_1_78 : zml 1 78 = some (0, 58) := by decide +kernel
theorem zml_2_3 : zml 2 3 = some (10, 0) := by decide +kernel
theorem zml_2_22 : zml 2 22 = some (11, 0) := by decide +kernel
theorem zml_2_28 : zml 2 28 = some (1, 208) := by decide +kernel
theorem zml_2_34 : zml 2 34 = some (1, 209) := by decide +kernel
theorem zml_2_37 : zml 2 37 = some (0, 24) := by decide +kernel
theorem zml_3_3 : zml 3 3 = some (10, 0) := by decide +kernel
theorem zml_3_28 : zml 3 28 = some (11, 0) := by decide +kernel
theorem zml_3_34 : zml 3 34 = some (1, 34) := by decide +kernel
theorem zml_3_38 : zml 3 38 = some (0, 32) := by decide +kernel
theorem zml_3_42 : zml 3 42 = some (0, 30) := by decide +kernel
theorem zml_4_3 : zml 4 3 = some (10, 0) := by decide +kernel
theorem zml_4_11 : zml 4 11 = some (3, 0) := by decide +kernel
theorem zml_4_20 : zml 4 20 = some (3, 26) := by decide +kernel
theorem zml_4_27 : zml 4 27 = some (3, 20) := by decide +kernel
theorem zml_4_39 : zml 4 39 = some (12, 0) := by decide +kernel
theorem zml_4_50 : zml 4 50 = some (0, 1) := by decide +kernel
theorem zml_4_53 : zml 4 53 = some (0, 27) := by decide +kernel
theorem zml_4_54 : zml 4 54 = some (0, 21) := by decide +kernel
theorem zml_4_68 : zml 4 68 = some (0, 9) := by decide +kernel
theorem zml_4_72 : zml 4 72 = some (0, 2) := by decide +kernel
theorem zml_4_76 : zml 4 76 = some (0, 28) := by decide +kernel
theorem zml_4_79 : zml 4 79 = some (0, 22) := by decide +kernel
theorem zml_4_82 : zml 4 82 = some (11, 0) := by decide +kernel
theorem zml_4_106 : zml 4 106 = some (1, 207) := by decide +kernel
theorem zml_4_112 : zml 4 112 = some (0, 31) := by decide +kernel
theorem zml_4_116 : zml 4 116 = some (0, 3) := by decide +kernel
theorem zml_4_120 : zml 4 120 = some (0, 40) := by decide +kernel
theorem zml_4_124 : zml 4 124 = some (0, 42) := by decide +kernel
theorem zml_4_127 : zml 4 127 = some (0, 5) := by decide +kernel
theorem zml_4_131 : zml 4 131 = some (0, 29) := by decide +kernel
theorem zml_4_135 : zml 4 135 = some (0, 7) := by decide +kernel
theorem zml_4_139 : zml 4 139 = some (0, 41) := by decide +kernel
theorem zml_4_142 : zml 4 142 = some (0, 8) := by decide +kernel
theorem zml_4_151 : zml 4 151 = some (0, 51) := by decide +kernel
theorem zml_4_156 : zml 4 156 = some (0, 33) := by decide +kernel
theorem zml_5_3 : zml 5 3 = some (10, 0) := by decide +kernel
theorem zml_5_31 : zml 5 31 = some (0, 46) := by decide +kernel
theorem zml_5_35 : zml 5 35 = some (1, 209) := by decide +kernel
theorem zml_5_41 : zml 5 41 = some (11, 0) := by decide +kernel
theorem zml_5_47 : zml 5 47 = some (0, 47) := by decide +kernel
theorem zml_6_3 : zml 6 3 = some (10, 0) := by decide +kernel
theorem zml_6_11 : zml 6 11 = some (3, 43) := by decide +kernel
theorem zml_6_40 : zml 6 40 = some (0, 44) := by decide +kernel
theorem zml_6_53 : zml 6 53 = some (0, 54) := by decide +kernel
theorem zml_6_57 : zml 6 57 = some (0, 61) := by decide +kernel
theorem zml_6_64 : zml 6 64 = some (0, 62) := by decide +kernel
theorem zml_6_68 : zml 6 68 = some (0, 55) := by decide +kernel
theorem zml_6_71 : zml 6 71 = some (0, 63) := by decide +kernel
theorem zml_6_76 : zml 6 76 = some (0, 65) := by decide +kernel
theorem zml_6_79 : zml 6 79 = some (0, 66) := by decide +kernel
theorem zml_6_82 : zml 6 82 = some (0, 48) := by decide +kernel
theorem zml_6_86 : zml 6 86 = some (0, 67) := by decide +kernel
theorem zml_6_89 : zml 6 89 = some (0, 68) := by decide +kernel
theorem zml_7_3 : zml 7 3 = some (10, 0) := by decide +kernel
theorem zml_7_19 : zml 7 19 = some (0, 53) := by decide +kernel
theorem zml_7_24 : zml 7 24 = some (0, 85) := by decide +kernel
theorem zml_7_33 : zml 7 33 = some (0, 86) := by decide +kernel
theorem zml_7_39 : zml 7 39 = some (0, 71) := by decide +kernel
theorem zml_7_56 : zml 7 56 = some (0, 72) := by decide +kernel
theorem zml_7_60 : zml 7 60 = some (0, 73) := by decide +kernel
theorem zml_7_63 : zml 7 63 = some (0, 74) := by decide +kernel
theorem zml_7_66 : zml 7 66 = some (0, 77) := by decide +kernel
theorem zml_7_69 : zml 7 69 = some (0, 79) := by decide +kernel
theorem zml_7_74 : zml 7 74 = some (0, 90) := by decide +kernel
theorem zml_7_88 : zml 7 88 = some (0, 89) := by decide +kernel
theorem zml_7_92 : zml 7 92 = some (0, 45) := by decide +kernel
theorem zml_7_99 : zml 7 99 = some (0, 76) := by decide +kernel
theorem zml_7_105 : zml 7 105 = some (0, 75) := by decide +kernel
theorem zml_7_112 : zml 7 112 = some (0, 54) := by decide +kernel
theorem zml_7_124 : zml 7 124 = some (0, 60) := by decide +kernel
theorem zml_7_127 : zml 7 127 = some (0, 59) := by decide +kernel
theorem zml_7_133 : zml 7 133 = some (0, 78) := by decide +kernel
theorem zml_7_136 : zml 7 136 = some (0, 56) := by decide +kernel
theorem zml_7_140 : zml 7 140 = some (0, 57) := by decide +kernel
theorem zml_7_143 : zml 7 143 = some (0, 55) := by decide +kernel
theorem zml_7_146 : zml 7 146 = some (0, 58) := by decide +kernel
theorem zml_8_3 : zml 8 3 = some (10, 0) := by decide +kernel
theorem zml_9_3 : zml 9 3 = some (10, 0) := by decide +kernel
theorem zml_9_25 : zml 9 25 = some (1, 88) := by decide +kernel
theorem zml_9_32 : zml 9 32 = some (0, 87) := by decide +kernel
theorem zml_9_39 : zml 9 39 = some (0, 210) := by decide +kernel
theorem zml_9_44 : zml 9 44 = some (0, 211) := by decide +kernel
theorem zml_10_3 : zml 10 3 = some (10, 0) := by decide +kernel
theorem zml_10_11 : zml 10 11 = some (3, 83) := by decide +kernel
theorem zml_10_18 : zml 10 18 = some (2, 69) := by decide +kernel
theorem zml_10_27 : zml 10 27 = some (3, 13) := by decide +kernel
theorem zml_10_34 : zml 10 34 = some (3, 35) := by decide +kernel
theorem zml_10_55 : zml 10 55 = some (3, 52) := by decide +kernel
theorem zml_10_63 : zml 10 63 = some (3, 80) := by decide +kernel
theorem zml_10_64 : zml 10 64 = some (0, 84) := by decide +kernel
theorem zml_10_72 : zml 10 72 = some (0, 70) := by decide +kernel
theorem zml_10_79 : zml 10 79 = some (0, 119) := by decide +kernel
theorem zml_10_100 : zml 10 100 = some (0, 49) := by decide +kernel
theorem zml_10_104 : zml 10 104 = some (0, 50) := by decide +kernel
theorem zml_10_107 : zml 10 107 = some (0, 51) := by decide +kernel
theorem zml_10_110 : zml 10 110 = some (1, 121) := by decide +kernel
theorem zml_10_140 : zml 10 140 = some (0, 64) := by decide +kernel
theorem zml_10_148 : zml 10 148 = some (0, 38) := by decide +kernel
theorem zml_10_160 : zml 10 160 = some (0, 39) := by decide +kernel
theorem zml_10_170 : zml 10 170 = some (1, 209) := by decide +kernel
theorem zml_10_183 : zml 10 183 = some (0, 24) := by decide +kernel
theorem zml_10_188 : zml 10 188 = some (0, 25) := by decide +kernel
theorem zml_10_217 : zml 10 217 = some (0, 4) := by decide +kernel
theorem zml_10_226 : zml 10 226 = some (0, 30) := by decide +kernel
theorem zml_10_230 : zml 10 230 = some (0, 36) := by decide +kernel
theorem zml_10_236 : zml 10 236 = some (0, 14) := by decide +kernel
theorem zml_10_240 : zml 10 240 = some (0, 37) := by decide +kernel
theorem zml_10_247 : zml 10 247 = some (1, 122) := by decide +kernel
theorem zml_10_250 : zml 10 250 = some (1, 123) := by decide +kernel
theorem zml_10_253 : zml 10 253 = some (0, 81) := by decide +kernel
theorem zml_10_260 : zml 10 260 = some (0, 82) := by decide +kernel
theorem zml_10_270 : zml 10 270 = some (0, 120) := by decide +kernel
theorem zml_11_1 : zml 11 1 = some (10, 0) := by decide +kernel
theorem zml_11_59 : zml 11 59 = some (0, 165) := by decide +kernel
theorem zml_11_64 : zml 11 64 = some (1, 125) := by decide +kernel
theorem zml_11_87 : zml 11 87 = some (0, 130) := by decide +kernel
theorem zml_11_91 : zml 11 91 = some (0, 131) := by decide +kernel
theorem zml_11_106 : zml 11 106 = some (0, 129) := by decide +kernel
theorem zml_11_110 : zml 11 110 = some (0, 135) := by decide +kernel
theorem zml_11_113 : zml 11 113 = some (0, 136) := by decide +kernel
theorem zml_11_117 : zml 11 117 = some (0, 137) := by decide +kernel
theorem zml_11_121 : zml 11 121 = some (0, 138) := by decide +kernel
theorem zml_11_128 : zml 11 128 = some (0, 140) := by decide +kernel
theorem zml_11_132 : zml 11 132 = some (0, 142) := by decide +kernel
theorem zml_11_136 : zml 11 136 = some (0, 134) := by decide +kernel
theorem zml_11_140 : zml 11 140 = some (0, 141) := by decide +kernel
theorem zml_11_143 : zml 11 143 = some (0, 143) := by decide +kernel
theorem zml_11_146 : zml 11 146 = some (0, 132) := by decide +kernel
theorem zml_11_150 : zml 11 150 = some (0, 139) := by decide +kernel
theorem zml_11_153 : zml 11 153 = some (0, 133) := by decide +kernel
theorem zml_11_156 : zml 11 156 = some (0, 144) := by decide +kernel
theorem zml_11_159 : zml 11 159 = some (0, 146) := by decide +kernel
theorem zml_11_165 : zml 11 165 = some (0, 151) := by decide +kernel
theorem zml_11_168 : zml 11 168 = some (0, 148) := by decide +kernel
theorem zml_11_171 : zml 11 171 = some (0, 149) := by decide +kernel
theorem zml_11_174 : zml 11 174 = some (0, 150) := by decide +kernel
theorem zml_11_177 : zml 11 177 = some (1, 126) := by decide +kernel
theorem zml_11_181 : zml 11 181 = some (0, 152) := by decide +kernel
theorem zml_11_184 : zml 11 184 = some (0, 153) := by decide +kernel
theorem zml_11_187 : zml 11 187 = some (0, 157) := by decide +kernel
theorem zml_11_192 : zml 11 192 = some (0, 158) := by decide +kernel
theorem zml_11_199 : zml 11 199 = some (0, 162) := by decide +kernel
theorem zml_11_202 : zml 11 202 = some (0, 163) := by decide +kernel
theorem zml_11_205 : zml 11 205 = some (0, 160) := by decide +kernel
theorem zml_11_209 : zml 11 209 = some (0, 164) := by decide +kernel
theorem zml_11_212 : zml 11 212 = some (0, 161) := by decide +kernel
theorem zml_11_215 : zml 11 215 = some (0, 166) := by decide +kernel
theorem zml_11_218 : zml 11 218 = some (0, 171) := by decide +kernel
theorem zml_11_221 : zml 11 221 = some (0, 172) := by decide +kernel
theorem zml_11_224 : zml 11 224 = some (0, 167) := by decide +kernel
theorem zml_11_227 : zml 11 227 = some (0, 170) := by decide +kernel
theorem zml_11_230 : zml 11 230 = some (0, 175) := by decide +kernel
theorem zml_11_233 : zml 11 233 = some (0, 169) := by decide +kernel
theorem zml_11_236 : zml 11 236 = some (0, 168) := by decide +kernel
theorem zml_11_242 : zml 11 242 = some (0, 177) := by decide +kernel
theorem zml_11_245 : zml 11 245 = some (0, 173) := by decide +kernel
theorem zml_11_248 : zml 11 248 = some (0, 174) := by decide +kernel
theorem zml_11_251 : zml 11 251 = some (0, 176) := by decide +kernel
theorem zml_11_254 : zml 11 254 = some (0, 178) := by decide +kernel
theorem zml_11_259 : zml 11 259 = some (0, 181) := by decide +kernel
theorem zml_11_262 : zml 11 262 = some (0, 180) := by decide +kernel
theorem zml_11_267 : zml 11 267 = some (0, 184) := by decide +kernel
theorem zml_11_272 : zml 11 272 = some (0, 179) := by decide +kernel
theorem zml_11_281 : zml 11 281 = some (1, 192) := by decide +kernel
theorem zml_11_284 : zml 11 284 = some (1, 193) := by decide +kernel
theorem zml_11_291 : zml 11 291 = some (0, 196) := by decide +kernel
theorem zml_11_296 : zml 11 296 = some (0, 197) := by decide +kernel
theorem zml_11_299 : zml 11 299 = some (1, 201) := by decide +kernel
theorem zml_12_9 : zml 12 9 = some (2, 91) := by decide +kernel
theorem zml_12_12 : zml 12 12 = some (2, 124) := by decide +kernel
theorem zml_12_13 : zml 12 13 = some (0, 92) := by decide +kernel
theorem zml_12_17 : zml 12 17 = some (0, 127) := by decide +kernel
theorem zml_12_18 : zml 12 18 = some (0, 93) := by decide +kernel
theorem zml_12_21 : zml 12 21 = some (0, 128) := by decide +kernel
theorem zml_12_22 : zml 12 22 = some (0, 94) := by decide +kernel
theorem zml_12_26 : zml 12 26 = some (0, 145) := by decide +kernel
theorem zml_12_27 : zml 12 27 = some (0, 95) := by decide +kernel
theorem zml_12_30 : zml 12 30 = some (0, 147) := by decide +kernel
theorem zml_12_31 : zml 12 31 = some (0, 96) := by decide +kernel
theorem zml_12_34 : zml 12 34 = some (0, 154) := by decide +kernel
theorem zml_12_35 : zml 12 35 = some (0, 97) := by decide +kernel
theorem zml_12_38 : zml 12 38 = some (0, 155) := by decide +kernel
theorem zml_12_39 : zml 12 39 = some (0, 98) := by decide +kernel
theorem zml_12_43 : zml 12 43 = some (0, 156) := by decide +kernel
theorem zml_12_44 : zml 12 44 = some (0, 99) := by decide +kernel
theorem zml_12_47 : zml 12 47 = some (0, 159) := by decide +kernel
theorem zml_12_48 : zml 12 48 = some (0, 100) := by decide +kernel
theorem zml_12_51 : zml 12 51 = some (0, 182) := by decide +kernel
theorem zml_12_52 : zml 12 52 = some (0, 101) := by decide +kernel
theorem zml_12_55 : zml 12 55 = some (0, 183) := by decide +kernel
theorem zml_12_56 : zml 12 56 = some (0, 102) := by decide +kernel
theorem zml_12_59 : zml 12 59 = some (0, 185) := by decide +kernel
theorem zml_12_60 : zml 12 60 = some (0, 103) := by decide +kernel
theorem zml_12_63 : zml 12 63 = some (0, 186) := by decide +kernel
theorem zml_12_64 : zml 12 64 = some (0, 104) := by decide +kernel
theorem zml_12_67 : zml 12 67 = some (0, 187) := by decide +kernel
theorem zml_12_68 : zml 12 68 = some (0, 105) := by decide +kernel
theorem zml_12_71 : zml 12 71 = some (0, 188) := by decide +kernel
theorem zml_12_72 : zml 12 72 = some (0, 106) := by decide +kernel
theorem zml_12_75 : zml 12 75 = some (0, 189) := by decide +kernel
theorem zml_12_76 : zml 12 76 = some (0, 107) := by decide +kernel
theorem zml_12_79 : zml 12 79 = some (0, 190) := by decide +kernel
theorem zml_12_80 : zml 12 80 = some (0, 108) := by decide +kernel
theorem zml_12_83 : zml 12 83 = some (0, 191) := by decide +kernel
theorem zml_12_84 : zml 12 84 = some (0, 109) := by decide +kernel
theorem zml_12_87 : zml 12 87 = some (0, 194) := by decide +kernel
theorem zml_12_88 : zml 12 88 = some (0, 110) := by decide +kernel
theorem zml_12_91 : zml 12 91 = some (0, 195) := by decide +kernel
theorem zml_12_92 : zml 12 92 = some (0, 111) := by decide +kernel
theorem zml_12_95 : zml 12 95 = some (0, 198) := by decide +kernel
theorem zml_12_96 : zml 12 96 = some (0, 112) := by decide +kernel
theorem zml_12_99 : zml 12 99 = some (0, 199) := by decide +kernel
theorem zml_12_100 : zml 12 100 = some (0, 113) := by decide +kernel
theorem zml_12_103 : zml 12 103 = some (0, 200) := by decide +kernel
theorem zml_12_104 : zml 12 104 = some (0, 114) := by decide +kernel
theorem zml_12_108 : zml 12 108 = some (0, 202) := by decide +kernel
theorem zml_12_109 : zml 12 109 = some (0, 115) := by decide +kernel
theorem zml_12_112 : zml 12 112 = some (0, 203) := by decide +kernel
theorem zml_12_113 : zml 12 113 = some (0, 116) := by decide +kernel
theorem zml_12_117 : zml 12 117 = some (0, 204) := by decide +kernel
theorem zml_12_118 : zml 12 118 = some (0, 117) := by decide +kernel
theorem zml_12_121 : zml 12 121 = some (0, 205) := by decide +kernel
theorem zml_12_122 : zml 12 122 = some (0, 118) := by decide +kernel
theorem zml_12_125 : zml 12 125 = some (0, 206) := by decide +kernel
theorem zml_13_335 : zml 13 335 = some (0, 212) := by decide +kernel
theorem zml_13_492 : zml 13 492 = some (0, 213) := by decide +kernel
theorem zml_13_495 : zml 13 495 = some (1, 215) := by decide +kernel
theorem zml_13_1059 : zml 13 1059 = some (1, 216) := by decide +kernel
theorem zml_14_9 : zml 14 9 = some (1, 214) := by decide +kernel
theorem zct_1_35 : zct 1 35 = some 1000000 := by decide +kernel
theorem zct_1_51 : zct 1 51 = some 1103515245 := by decide +kernel
theorem zct_6_75 : zct 6 75 = some 2147483647 := by decide +kernel
theorem zct_9_38 : zct 9 38 = some 65535 := by decide +kernel
theorem zct_10_147 : zct 10 147 = some 2147483647 := by decide +kernel
theorem zct_11_290 : zct 11 290 = some 1103515245 := by decide +kernel
theorem zct_17_265 : zct 17 265 = some 1431655765 := by decide +kernel
theorem zct_17_266 : zct 17 266 = some 858993459 := by decide +kernel
theorem zct_17_267 : zct 17 267 = some 252645135 := by decide +kernel
theorem zcl_10_275 : zcl 10 275 = some 4 := by decide +kernel
theorem zcl_11_62 : zcl 11 62 = some 127 := by decide +kernel
theorem zcl_11_95 : zcl 11 95 = some 97 := by decide +kernel
theorem zcl_11_97 : zcl 11 97 = some 122 := by decide +kernel
theorem zcl_11_99 : zcl 11 99 = some 48 := by decide +kernel
theorem zcl_11_101 : zcl 11 101 = some 57 := by decide +kernel
theorem zcl_11_190 : zcl 11 190 = some 3 := by decide +kernel
theorem zcl_11_257 : zcl 11 257 = some 9999 := by decide +kernel
theorem zcl_11_265 : zcl 11 265 = some 9 := by decide +kernel
theorem zcl_11_270 : zcl 11 270 = some 30 := by decide +kernel
theorem zcl_11_275 : zcl 11 275 = some 2 := by decide +kernel
theorem zcl_11_277 : zcl 11 277 = some 6 := by decide +kernel
theorem zcl_11_279 : zcl 11 279 = some 10 := by decide +kernel
theorem zcl_11_294 : zcl 11 294 = some 8 := by decide +kernel
theorem zcl_11_303 : zcl 11 303 = some 20 := by decide +kernel
theorem zst_7_72 : zst 7 72 = some 0 := by decide +kernel
theorem zst_7_78 : zst 7 78 = some 1 := by decide +kernel
theorem zst_7_116 : zst 7 116 = some 2 := by decide +kernel
theorem zst_7_118 : zst 7 118 = some 3 := by decide +kernel
theorem zst_7_120 : zst 7 120 = some 4 := by decide +kernel
theorem zst_7_122 : zst 7 122 = some 5 := by decide +kernel
theorem zgs_4_36 : zgs 4 36 = some (900) := by decide +kernel
theorem zgs_10_220 : zgs 10 220 = some (901) := by decide +kernel
theorem zgs_10_223 : zgs 10 223 = some (902) := by decide +kernel
theorem zgs_13_38 : zgs 13 38 = some (-1) := by decide +kernel
theorem zgs_13_1053 : zgs 13 1053 = some (1200) := by decide +kernel
theorem zcn_4_9 : zcn 4 9 = some 0 := by decide +kernel
theorem zcn_4_18 : zcn 4 18 = some 3 := by decide +kernel
theorem zcn_4_25 : zcn 4 25 = some 2 := by decide +kernel
theorem zcn_4_40 : zcn 4 40 = some 30 := by decide +kernel
theorem zcn_6_9 : zcn 6 9 = some 5 := by decide +kernel
theorem zcn_10_9 : zcn 10 9 = some 9 := by decide +kernel
theorem zcn_10_16 : zcn 10 16 = some 7 := by decide +kernel
theorem zcn_10_25 : zcn 10 25 = some 1 := by decide +kernel
theorem zcn_10_32 : zcn 10 32 = some 4 := by decide +kernel
theorem zcn_10_47 : zcn 10 47 = some 8 := by decide +kernel
theorem zcn_10_53 : zcn 10 53 = some 6 := by decide +kernel
theorem zcn_12_7 : zcn 12 7 = some 10 := by decide +kernel
theorem zcn_12_10 : zcn 12 10 = some 11 := by decide +kernel
end
section
/-! ===== the words of the tables behind the machine (by program: wip/whole/gen3.py) ===== -/
def zgt : List Cond := lw_tbl.filter goodWord
theorem zgt_of {w : Cond} (i : Nat) (h : lw_tbl[i]? = some w) (g : goodWord w = true) : w ∈ zgt := List.mem_filter.mpr ⟨List.mem_of_getElem? h, g⟩
theorem zgt_good : GoodIn zgt zgt := fun w h => ⟨h, good_of_word (List.mem_filter.mp h).2⟩
def zwq (q : Cond × Nat) : Bool := decide (lw_tbl[q.2]? = some q.1) && goodWord q.1
theorem zwq_in {q : Cond × Nat} (h : zwq q = true) : q.1 ∈ zgt := by
  unfold zwq at h
  rw [Bool.and_eq_true, decide_eq_true_eq] at h
  exact zgt_of _ h.1 h.2
def zT (ci : Nat) : u_T := (vwCl.getD ci (RX0, TX0, 4)).2.1
def zCn (ci : Nat) : String := (vwCl.getD ci (RX0, TX0, 4)).1
def zflQ : List ((Nat × Nat × Nat × Nat × Nat) × Nat) := [((0, 9, 0, 0, 0), 202), ((0, 15, 0, 2, 2), 207), ((0, 19, 0, 1, 0), 205), ((0, 22, 0, 3, 0), 209), ((0, 35, 6, 0, 2), 364), ((0, 41, 5, 1, 2), 334), ((0, 46, 6, 6, 0), 382), ((0, 49, 6, 2, 2), 371), ((0, 68, 6, 1, 2), 369), ((0, 81, 6, 3, 2), 375), ((1, 9, 1, 0, 2), 180), ((1, 15, 1, 2, 0), 182), ((1, 19, 1, 1, 0), 181), ((1, 27, 6, 0, 2), 362), ((1, 40, 6, 8, 0), 385), ((1, 58, 6, 6, 0), 381), ((2, 9, 2, 0, 2), 255), ((2, 15, 2, 1, 2), 257), ((2, 18, 2, 2, 0), 259), ((3, 9, 3, 0, 2), 226), ((3, 15, 3, 2, 2), 231), ((3, 18, 3, 3, 2), 233), ((3, 21, 3, 1, 0), 228), ((3, 25, 3, 4, 0), 235), ((4, 12, 4, 0, 2), 277), ((4, 21, 4, 1, 2), 279), ((4, 28, 4, 2, 2), 281), ((4, 32, 4, 3, 2), 283), ((4, 44, 4, 4, 2), 285), ((4, 47, 4, 9, 2), 294), ((4, 55, 4, 5, 0), 287), ((4, 59, 4, 6, 0), 289), ((4, 62, 4, 7, 0), 290), ((4, 65, 4, 8, 0), 292), ((4, 88, 0, 0, 0), 203), ((4, 91, 0, 1, 0), 206), ((4, 94, 2, 2, 0), 260), ((4, 97, 3, 1, 0), 229), ((4, 100, 3, 4, 0), 236), ((4, 103, 0, 3, 0), 210), ((4, 145, 6, 0, 2), 366), ((5, 9, 5, 0, 2), 331), ((5, 15, 5, 1, 2), 333), ((5, 18, 5, 2, 2), 336), ((5, 21, 5, 3, 2), 339), ((5, 24, 5, 4, 0), 341), ((5, 28, 5, 5, 0), 343), ((6, 12, 6, 0, 2), 361), ((6, 18, 6, 1, 2), 367), ((6, 22, 6, 2, 2), 370), ((6, 25, 6, 3, 2), 373), ((6, 28, 6, 4, 2), 376), ((6, 31, 6, 5, 2), 378), ((6, 34, 6, 7, 2), 383), ((6, 37, 6, 9, 2), 387), ((6, 43, 6, 6, 0), 379), ((6, 47, 6, 8, 0), 384), ((6, 50, 5, 5, 0), 345), ((6, 61, 5, 2, 2), 337), ((7, 9, 7, 3, 2), 151), ((7, 15, 7, 0, 2), 146), ((7, 29, 7, 7, 0), 155), ((7, 36, 9, 2, 0), 119), ((7, 43, 7, 1, 0), 147), ((7, 46, 9, 3, 0), 121), ((7, 49, 7, 2, 0), 149), ((7, 52, 6, 0, 2), 363), ((7, 80, 5, 5, 0), 344), ((7, 85, 7, 4, 0), 152), ((7, 96, 9, 5, 0), 125), ((7, 102, 6, 8, 0), 386), ((7, 109, 7, 5, 0), 153), ((7, 130, 7, 6, 0), 154), ((8, 9, 8, 0, 2), 415), ((8, 15, 8, 2, 0), 419), ((8, 19, 8, 1, 0), 417), ((9, 9, 9, 0, 2), 116), ((9, 15, 9, 1, 0), 117), ((9, 19, 9, 4, 0), 123), ((9, 22, 9, 3, 0), 122), ((9, 29, 9, 2, 0), 120), ((9, 35, 9, 5, 0), 124), ((10, 12, 10, 0, 2), 429), ((10, 21, 10, 1, 2), 430), ((10, 28, 10, 2, 2), 431), ((10, 35, 10, 3, 2), 432), ((10, 39, 10, 4, 2), 433), ((10, 43, 10, 5, 2), 434), ((10, 49, 10, 6, 2), 435), ((10, 56, 10, 7, 2), 436), ((10, 60, 10, 8, 2), 437), ((10, 68, 9, 1, 0), 118), ((10, 76, 7, 2, 0), 150), ((10, 82, 6, 6, 0), 380), ((10, 85, 7, 1, 0), 148), ((10, 88, 6, 0, 2), 365), ((10, 92, 5, 5, 0), 346), ((10, 97, 5, 4, 0), 342), ((10, 113, 4, 4, 2), 286), ((10, 117, 5, 0, 2), 332), ((10, 120, 5, 1, 2), 335), ((10, 123, 5, 2, 2), 338), ((10, 125, 5, 3, 2), 340), ((10, 128, 6, 1, 2), 368), ((10, 131, 6, 2, 2), 372), ((10, 134, 6, 3, 2), 374), ((10, 137, 6, 4, 2), 377), ((10, 144, 6, 9, 2), 388), ((10, 151, 4, 0, 2), 278), ((10, 155, 0, 2, 2), 208), ((10, 164, 4, 8, 0), 293), ((10, 167, 4, 5, 0), 288), ((10, 176, 4, 3, 2), 284), ((10, 179, 4, 2, 2), 282), ((10, 191, 2, 0, 2), 256), ((10, 194, 2, 1, 2), 258), ((10, 197, 4, 1, 2), 280), ((10, 200, 3, 1, 0), 230), ((10, 205, 3, 4, 0), 237), ((10, 208, 3, 0, 2), 227), ((10, 211, 3, 2, 2), 232), ((10, 214, 3, 3, 2), 234), ((10, 233, 0, 0, 0), 204), ((10, 244, 4, 7, 0), 291), ((10, 257, 8, 1, 0), 418), ((10, 263, 8, 0, 2), 416), ((10, 267, 10, 9, 0), 438), ((10, 274, 8, 2, 0), 420), ((11, 7, 11, 0, 2), 1041), ((11, 13, 11, 1, 2), 1042), ((11, 16, 11, 2, 2), 1043), ((11, 19, 11, 4, 2), 1045), ((11, 22, 11, 5, 2), 1046), ((11, 25, 11, 6, 2), 1047), ((11, 28, 11, 7, 2), 1048), ((11, 31, 11, 8, 2), 1049), ((11, 35, 11, 9, 2), 1050), ((11, 38, 11, 17, 2), 1058), ((11, 41, 11, 18, 2), 1059), ((11, 44, 11, 20, 2), 1061), ((11, 47, 11, 22, 2), 1063), ((11, 50, 11, 25, 2), 1066), ((11, 53, 11, 26, 2), 1067), ((11, 56, 11, 27, 2), 1068), ((11, 68, 11, 10, 0), 1051), ((11, 72, 11, 15, 0), 1056), ((11, 75, 11, 12, 0), 1053), ((11, 78, 11, 16, 0), 1057), ((11, 81, 11, 13, 0), 1054), ((11, 84, 11, 11, 0), 1052), ((11, 103, 11, 14, 0), 1055), ((11, 125, 11, 19, 0), 1060), ((11, 162, 11, 3, 0), 1044), ((11, 195, 11, 21, 1), 1062), ((11, 239, 11, 23, 0), 1064), ((11, 287, 11, 24, 0), 1065), ((11, 305, 11, 28, 0), 1069), ((13, 9, 20, 0, 2), 1439), ((13, 15, 20, 1, 0), 1440)]
theorem zflQ_eq : zflQ.map (fun q => q.1) = zflL := by decide +kernel
def zflC (e : Nat × Nat × Nat × Nat × Nat) : Cond := if e.2.2.1 = 20 then (if e.2.2.2.1 = 0 then .fieldLink (zon e.1) e.2.1 "java/lang/String" "value" "[B" else .fieldLink (zon e.1) e.2.1 "java/lang/String" "coder" "B") else .fieldLink (zon e.1) e.2.1 (zT e.2.2.1 e.2.2.2.1).1 (zT e.2.2.1 e.2.2.2.1).2.1 (zT e.2.2.1 e.2.2.2.1).2.2.1
theorem zflQ_ok : zflQ.all (fun q => zwq (zflC q.1, q.2) && (q.1.2.2.1 == 20 && ((q.1.2.2.2.1 == 0 && q.1.2.2.2.2 == 2) || (q.1.2.2.2.1 == 1 && q.1.2.2.2.2 == 0)) || (decide (q.1.2.2.1 < 12) && decide (q.1.2.2.2.1 < znF q.1.2.2.1) && (q.1.2.2.2.2 == zft q.1.2.2.1 q.1.2.2.2.1)))) = true := by decide +kernel
def zmtP : List (Nat × Nat) := [(200, 88), (674, 88), (859, 88), (815, 88), (895, 88), (823, 88), (827, 88), (838, 88), (848, 88), (686, 88), (697, 88), (701, 88), (705, 88), (178, 86), (916, 86), (925, 86), (921, 86), (931, 86), (935, 86), (941, 86), (253, 90), (682, 90), (961, 90), (690, 90), (877, 90), (882, 90), (224, 89), (678, 89), (956, 89), (831, 89), (811, 89), (803, 89), (807, 89), (864, 89), (834, 89), (194, 87), (670, 87), (952, 87), (781, 87), (799, 87), (819, 87), (844, 87), (854, 87), (329, 92), (487, 92), (577, 92), (581, 92), (585, 92), (764, 92), (717, 92), (721, 92), (725, 92), (323, 91), (483, 91), (603, 91), (657, 91), (645, 91), (649, 91), (661, 91), (611, 91), (607, 91), (616, 91), (625, 91), (620, 91), (748, 91), (752, 91), (760, 91), (768, 91), (756, 91), (144, 85), (479, 85), (507, 85), (511, 85), (569, 85), (595, 85), (629, 85), (599, 85), (637, 85), (641, 85), (653, 85), (413, 93), (981, 93), (989, 93), (114, 84), (467, 84), (491, 84), (495, 84), (502, 84), (498, 84), (573, 84), (516, 84), (106, 83), (463, 83), (471, 83), (475, 83), (709, 83), (713, 83), (732, 83), (736, 83), (740, 83), (744, 83), (772, 83), (777, 83), (791, 83), (795, 83), (868, 83), (873, 83), (887, 83), (891, 83), (899, 83), (908, 83), (912, 83), (948, 83), (967, 83), (971, 83), (985, 83), (993, 83), (1002, 83), (1006, 83), (666, 83), (997, 83), (728, 83), (974, 83), (977, 83), (1011, 94), (1136, 94), (1251, 94), (1132, 94), (1140, 94), (1160, 94), (1152, 94), (1168, 94), (1164, 94), (1188, 94), (1196, 94), (1148, 94), (1184, 94), (1176, 94), (1180, 94), (1172, 94), (1204, 94), (1200, 94), (1212, 94), (1208, 94), (1192, 94), (1144, 94), (1216, 94), (1236, 94), (1228, 94), (1232, 94), (1224, 94), (1220, 94), (1244, 94), (1248, 94), (1240, 94), (1255, 94), (1259, 94), (1267, 94), (1028, 94), (1263, 94), (1020, 94), (1040, 94), (1032, 94), (1036, 94), (1024, 94), (1016, 94), (1285, 94), (1339, 94), (1281, 94), (1289, 94), (1343, 94), (1331, 94), (1327, 94), (1359, 94), (1323, 94), (1347, 94), (1335, 94), (1355, 94), (1351, 94), (1319, 94), (1297, 94), (1277, 94), (1272, 94), (1293, 94), (1306, 94), (1301, 94), (1310, 94), (1314, 94), (1363, 94), (1367, 94), (1371, 94), (1376, 94), (1385, 94), (1388, 94), (1380, 94), (1392, 94), (1401, 94), (1406, 94), (1396, 94), (1410, 94), (1414, 94), (1421, 94), (1418, 94), (1425, 94), (1429, 94), (1434, 94), (1438, 94), (784, 101), (693, 99), (588, 99), (520, 95), (530, 95), (524, 95), (534, 95), (540, 95), (537, 96), (545, 97)]
def zmOk (c : Nat) : Bool := zwq (.code (zy c) (zb c) (zL c) (zret c), (zmtP.getD c (0, 0)).1) && zwq (.initialized (zy c).cls, (zmtP.getD c (0, 0)).2) && decide ((zy c).cls ≠ "java/lang/invoke/MethodHandle") && decide ((zy c).cls ≠ "java/lang/invoke/VarHandle") && plainFor (zy c) && decide (zon (zo c) = (zy c).cls) && (zin c == decide ((zy c).name = "<init>"))
theorem zmOk_0 : (List.range 31).all (fun j => zmOk (0 + j)) = true := by decide +kernel
theorem zmOk_1 : (List.range 31).all (fun j => zmOk (31 + j)) = true := by decide +kernel
theorem zmOk_2 : (List.range 31).all (fun j => zmOk (62 + j)) = true := by decide +kernel
theorem zmOk_3 : (List.range 31).all (fun j => zmOk (93 + j)) = true := by decide +kernel
theorem zmOk_4 : (List.range 31).all (fun j => zmOk (124 + j)) = true := by decide +kernel
theorem zmOk_5 : (List.range 31).all (fun j => zmOk (155 + j)) = true := by decide +kernel
theorem zmOk_6 : (List.range 31).all (fun j => zmOk (186 + j)) = true := by decide +kernel
def zmlQ : List ((Nat × Nat × Nat × Nat) × Nat × Nat × Nat) := [((0, 3, 10, 0), 201, 108, 109), ((0, 25, 11, 0), 860, 590, 591), ((0, 31, 0, 6), 824, 826, 24), ((0, 52, 0, 48), 839, 762, 763), ((0, 56, 0, 68), 840, 754, 755), ((0, 60, 0, 3), 849, 813, 814), ((0, 64, 0, 9), 850, 684, 685), ((0, 71, 0, 23), 687, 688, 689), ((0, 77, 0, 10), 694, 696, 16), ((0, 84, 0, 11), 698, 700, 17), ((0, 88, 0, 12), 702, 704, 18), ((1, 3, 10, 0), 179, 108, 109), ((1, 22, 0, 53), 917, 481, 482), ((1, 31, 0, 16), 918, 920, 27), ((1, 36, 1, 17), 929, 930, 0), ((1, 43, 0, 15), 922, 924, 28), ((1, 47, 0, 18), 932, 934, 29), ((1, 52, 0, 45), 927, 575, 576), ((1, 61, 0, 56), 936, 643, 644), ((1, 65, 0, 57), 937, 647, 648), ((1, 68, 0, 19), 938, 940, 30), ((1, 71, 0, 59), 944, 609, 610), ((1, 74, 0, 55), 942, 655, 656), ((1, 78, 0, 58), 943, 659, 660), ((2, 3, 10, 0), 254, 108, 109), ((2, 22, 11, 0), 962, 590, 591), ((2, 28, 1, 208), 691, 692, 0), ((2, 34, 1, 209), 878, 587, 0), ((2, 37, 0, 24), 883, 875, 876), ((3, 3, 10, 0), 225, 108, 109), ((3, 28, 11, 0), 957, 590, 591), ((3, 34, 1, 34), 832, 833, 0), ((3, 38, 0, 32), 804, 806, 22), ((3, 42, 0, 30), 808, 809, 810), ((4, 3, 10, 0), 195, 108, 109), ((4, 11, 3, 0), 198, 199, 0), ((4, 20, 3, 26), 222, 223, 0), ((4, 27, 3, 20), 251, 252, 0), ((4, 39, 12, 0), 270, 273, 272), ((4, 50, 0, 1), 671, 672, 673), ((4, 53, 0, 27), 675, 676, 677), ((4, 54, 0, 21), 679, 680, 681), ((4, 68, 0, 9), 683, 684, 685), ((4, 72, 0, 2), 856, 857, 858), ((4, 76, 0, 28), 953, 954, 955), ((4, 79, 0, 22), 958, 959, 960), ((4, 82, 11, 0), 963, 590, 591), ((4, 106, 1, 207), 782, 783, 0), ((4, 112, 0, 31), 800, 801, 802), ((4, 116, 0, 3), 812, 813, 814), ((4, 120, 0, 40), 816, 818, 23), ((4, 124, 0, 42), 851, 853, 26), ((4, 127, 0, 5), 820, 821, 822), ((4, 131, 0, 29), 828, 829, 830), ((4, 135, 0, 7), 835, 836, 837), ((4, 139, 0, 41), 841, 843, 25), ((4, 142, 0, 8), 845, 846, 847), ((4, 151, 0, 51), 855, 723, 724), ((4, 156, 0, 33), 861, 862, 863), ((5, 3, 10, 0), 330, 108, 109), ((5, 31, 0, 46), 578, 580, 4), ((5, 35, 1, 209), 586, 587, 0), ((5, 41, 11, 0), 589, 590, 591), ((5, 47, 0, 47), 582, 584, 5), ((6, 3, 10, 0), 324, 108, 109), ((6, 11, 3, 43), 327, 328, 0), ((6, 40, 0, 44), 484, 485, 486), ((6, 53, 0, 54), 612, 601, 602), ((6, 57, 0, 61), 613, 615, 8), ((6, 64, 0, 62), 622, 624, 10), ((6, 68, 0, 55), 662, 655, 656), ((6, 71, 0, 63), 617, 619, 9), ((6, 76, 0, 65), 749, 751, 19), ((6, 79, 0, 66), 757, 759, 20), ((6, 82, 0, 48), 761, 762, 763), ((6, 86, 0, 67), 765, 767, 21), ((6, 89, 0, 68), 753, 754, 755), ((7, 3, 10, 0), 145, 108, 109), ((7, 19, 0, 53), 480, 481, 482), ((7, 24, 0, 85), 488, 489, 490), ((7, 33, 0, 86), 492, 493, 494), ((7, 39, 0, 71), 504, 506, 1), ((7, 56, 0, 72), 508, 510, 2), ((7, 60, 0, 73), 566, 568, 3), ((7, 63, 0, 74), 592, 594, 6), ((7, 66, 0, 77), 634, 636, 12), ((7, 69, 0, 79), 650, 652, 14), ((7, 74, 0, 90), 513, 514, 515), ((7, 88, 0, 89), 570, 571, 572), ((7, 92, 0, 45), 574, 575, 576), ((7, 99, 0, 76), 596, 598, 7), ((7, 105, 0, 75), 626, 628, 11), ((7, 112, 0, 54), 600, 601, 602), ((7, 124, 0, 60), 604, 605, 606), ((7, 127, 0, 59), 608, 609, 610), ((7, 133, 0, 78), 638, 640, 13), ((7, 136, 0, 56), 642, 643, 644), ((7, 140, 0, 57), 646, 647, 648), ((7, 143, 0, 55), 654, 655, 656), ((7, 146, 0, 58), 658, 659, 660), ((8, 3, 10, 0), 414, 108, 109), ((9, 3, 10, 0), 115, 108, 109), ((9, 25, 1, 88), 496, 497, 0), ((9, 32, 0, 87), 499, 501, 0), ((9, 39, 0, 210), 517, 518, 519), ((9, 44, 0, 211), 527, 528, 529), ((10, 3, 10, 0), 107, 108, 109), ((10, 11, 3, 83), 112, 113, 0), ((10, 18, 2, 69), 142, 143, 0), ((10, 27, 3, 13), 176, 177, 0), ((10, 34, 3, 35), 192, 193, 0), ((10, 55, 3, 52), 321, 322, 0), ((10, 63, 3, 80), 411, 412, 0), ((10, 64, 0, 84), 464, 465, 466), ((10, 72, 0, 70), 476, 477, 478), ((10, 79, 0, 119), 663, 665, 15), ((10, 100, 0, 49), 714, 715, 716), ((10, 104, 0, 50), 718, 719, 720), ((10, 107, 0, 51), 722, 723, 724), ((10, 110, 1, 121), 726, 727, 0), ((10, 140, 0, 64), 745, 746, 747), ((10, 148, 0, 38), 778, 779, 780), ((10, 160, 0, 39), 796, 797, 798), ((10, 170, 1, 209), 869, 587, 0), ((10, 183, 0, 24), 874, 875, 876), ((10, 188, 0, 25), 879, 880, 881), ((10, 217, 0, 4), 892, 893, 894), ((10, 226, 0, 30), 904, 809, 810), ((10, 230, 0, 36), 667, 668, 669), ((10, 236, 0, 14), 913, 914, 915), ((10, 240, 0, 37), 949, 950, 951), ((10, 247, 1, 122), 972, 973, 0), ((10, 250, 1, 123), 975, 976, 0), ((10, 253, 0, 81), 978, 979, 980), ((10, 260, 0, 82), 986, 987, 988), ((10, 270, 0, 120), 994, 996, 31), ((11, 1, 10, 0), 1012, 108, 109), ((11, 59, 0, 165), 1013, 1015, 32), ((11, 64, 1, 125), 1134, 1135, 0), ((11, 87, 0, 130), 1149, 1151, 40), ((11, 91, 0, 131), 1165, 1167, 43), ((11, 106, 0, 129), 1157, 1159, 41), ((11, 110, 0, 135), 1145, 1147, 39), ((11, 113, 0, 136), 1181, 1183, 47), ((11, 117, 0, 137), 1173, 1175, 45), ((11, 121, 0, 138), 1177, 1179, 46), ((11, 128, 0, 140), 1201, 1203, 52), ((11, 132, 0, 142), 1209, 1211, 54), ((11, 136, 0, 134), 1193, 1195, 50), ((11, 140, 0, 141), 1197, 1199, 51), ((11, 143, 0, 143), 1205, 1207, 53), ((11, 146, 0, 132), 1161, 1163, 42), ((11, 150, 0, 139), 1169, 1171, 44), ((11, 153, 0, 133), 1185, 1187, 48), ((11, 156, 0, 144), 1189, 1191, 49), ((11, 159, 0, 146), 1213, 1215, 55), ((11, 165, 0, 151), 1217, 1219, 56), ((11, 168, 0, 148), 1225, 1227, 58), ((11, 171, 0, 149), 1229, 1231, 59), ((11, 174, 0, 150), 1221, 1223, 57), ((11, 177, 1, 126), 1249, 1250, 0), ((11, 181, 0, 152), 1241, 1243, 60), ((11, 184, 0, 153), 1245, 1247, 61), ((11, 187, 0, 157), 1264, 1266, 62), ((11, 192, 0, 158), 1025, 1027, 35), ((11, 199, 0, 162), 1029, 1031, 36), ((11, 202, 0, 163), 1033, 1035, 37), ((11, 205, 0, 160), 1017, 1019, 33), ((11, 209, 0, 164), 1021, 1023, 34), ((11, 212, 0, 161), 1037, 1039, 38), ((11, 215, 0, 166), 1282, 1284, 65), ((11, 218, 0, 171), 1328, 1330, 72), ((11, 221, 0, 172), 1324, 1326, 71), ((11, 224, 0, 167), 1336, 1338, 74), ((11, 227, 0, 170), 1340, 1342, 75), ((11, 230, 0, 175), 1344, 1346, 76), ((11, 233, 0, 169), 1286, 1288, 66), ((11, 236, 0, 168), 1278, 1280, 64), ((11, 242, 0, 177), 1352, 1354, 78), ((11, 245, 0, 173), 1356, 1358, 79), ((11, 248, 0, 174), 1320, 1322, 70), ((11, 251, 0, 176), 1332, 1334, 73), ((11, 254, 0, 178), 1348, 1350, 77), ((11, 259, 0, 181), 1274, 1276, 63), ((11, 262, 0, 180), 1294, 1296, 67), ((11, 267, 0, 184), 1303, 1305, 68), ((11, 272, 0, 179), 1316, 1318, 69), ((11, 281, 1, 192), 1383, 1384, 0), ((11, 284, 1, 193), 1386, 1387, 0), ((11, 291, 0, 196), 1398, 1400, 80), ((11, 296, 0, 197), 1403, 1405, 81), ((11, 299, 1, 201), 1419, 1420, 0), ((12, 9, 2, 91), 104, 105, 0), ((12, 12, 2, 124), 1009, 1010, 0), ((12, 13, 0, 92), 460, 461, 462), ((12, 17, 0, 127), 1129, 1130, 1131), ((12, 18, 0, 93), 468, 469, 470), ((12, 21, 0, 128), 1137, 1138, 1139), ((12, 22, 0, 94), 472, 473, 474), ((12, 26, 0, 145), 1141, 1142, 1143), ((12, 27, 0, 95), 706, 707, 708), ((12, 30, 0, 147), 1233, 1234, 1235), ((12, 31, 0, 96), 710, 711, 712), ((12, 34, 0, 154), 1237, 1238, 1239), ((12, 35, 0, 97), 729, 730, 731), ((12, 38, 0, 155), 1252, 1253, 1254), ((12, 39, 0, 98), 733, 734, 735), ((12, 43, 0, 156), 1256, 1257, 1258), ((12, 44, 0, 99), 737, 738, 739), ((12, 47, 0, 159), 1260, 1261, 1262), ((12, 48, 0, 100), 741, 742, 743), ((12, 51, 0, 182), 1269, 1270, 1271), ((12, 52, 0, 101), 769, 770, 771), ((12, 55, 0, 183), 1290, 1291, 1292), ((12, 56, 0, 102), 774, 775, 776), ((12, 59, 0, 185), 1298, 1299, 1300), ((12, 60, 0, 103), 788, 789, 790), ((12, 63, 0, 186), 1307, 1308, 1309), ((12, 64, 0, 104), 792, 793, 794), ((12, 67, 0, 187), 1311, 1312, 1313), ((12, 68, 0, 105), 865, 866, 867), ((12, 71, 0, 188), 1360, 1361, 1362), ((12, 72, 0, 106), 870, 871, 872), ((12, 75, 0, 189), 1364, 1365, 1366), ((12, 76, 0, 107), 884, 885, 886), ((12, 79, 0, 190), 1368, 1369, 1370), ((12, 80, 0, 108), 888, 889, 890), ((12, 83, 0, 191), 1373, 1374, 1375), ((12, 84, 0, 109), 896, 897, 898), ((12, 87, 0, 194), 1377, 1378, 1379), ((12, 88, 0, 110), 905, 906, 907), ((12, 91, 0, 195), 1389, 1390, 1391), ((12, 92, 0, 111), 909, 910, 911), ((12, 95, 0, 198), 1393, 1394, 1395), ((12, 96, 0, 112), 945, 946, 947), ((12, 99, 0, 199), 1407, 1408, 1409), ((12, 100, 0, 113), 964, 965, 966), ((12, 103, 0, 200), 1411, 1412, 1413), ((12, 104, 0, 114), 968, 969, 970), ((12, 108, 0, 202), 1415, 1416, 1417), ((12, 109, 0, 115), 982, 983, 984), ((12, 112, 0, 203), 1422, 1423, 1424), ((12, 113, 0, 116), 990, 991, 992), ((12, 117, 0, 204), 1426, 1427, 1428), ((12, 118, 0, 117), 999, 1000, 1001), ((12, 121, 0, 205), 1431, 1432, 1433), ((12, 122, 0, 118), 1003, 1004, 1005), ((12, 125, 0, 206), 1435, 1436, 1437), ((13, 335, 0, 212), 521, 522, 523), ((13, 492, 0, 213), 531, 532, 533), ((13, 495, 1, 215), 535, 536, 0), ((13, 1059, 1, 216), 543, 544, 0), ((14, 9, 1, 214), 538, 539, 0)]
theorem zmlQ_eq : zmlQ.map (fun q => q.1) = zmlL := by decide +kernel
def znw (w : Cond) (i : Nat) : Bool := decide (lw_tbl[i]? = some w) && w.onTables
def zpn (y : MethodName) : Option Nat := (parseMethodDescriptor y.desc).map (fun d => d.parameters.length)
def zmlR (q : (Nat × Nat × Nat × Nat) × Nat × Nat × Nat) : Bool :=
  let o := q.1.1; let i := q.1.2.1; let k := q.1.2.2.1; let c := q.1.2.2.2
  if k = 0 then zwq (.methodLink (zon o) i (zy c), q.2.1) && zwq (.instanceMethod (zy c), q.2.2.1) && zwq (.selects (zy c).cls (zy c) (zy c), q.2.2.2) && decide (c < 217) && decide (zpn (zy c) = some (zna c - 1)) && decide (1 ≤ zna c)
  else if k = 1 then zwq (.methodLink (zon o) i (zy c), q.2.1) && zwq (.static (zy c), q.2.2.1) && decide (c < 217) && decide (zpn (zy c) = some (zna c))
  else if k = 2 then zwq (.methodLink (zon o) i (zy c), q.2.1) && zwq (.instanceMethod (zy c), q.2.2.1) && decide (c < 217) && decide (zpn (zy c) = some (zna c - 1)) && decide (1 ≤ zna c) && decide ((zy c).name = "<init>") && decide (zret c = none)
  else if k = 3 then znw (.methodLinkNest (zon o) i (zy c) "PooledWaves") q.2.1 && zwq (.instanceMethod (zy c), q.2.2.1) && decide (c < 217) && decide (zpn (zy c) = some (zna c - 1)) && decide (1 ≤ zna c) && decide ((zy c).name = "<init>") && decide (zret c = none)
  else if k = 10 then zwq (.methodLink (zon o) i objectInit, q.2.1) && zwq (.instanceMethod objectInit, q.2.2.1) && zwq (.code objectInit ⟨#[0xb1]⟩ 1 none, q.2.2.2)
  else if k = 11 then zwq (.methodLink (zon o) i arraycopyName, q.2.1) && zwq (.static arraycopyName, q.2.2.1) && zwq (.native arraycopyName, q.2.2.2)
  else k == 12 && zwq (.methodLink (zon o) i ⟨"[I", "clone", "()Ljava/lang/Object;"⟩, q.2.1)
theorem zmlQ_len : zmlQ.length = 253 := by decide +kernel
theorem zmlQ_ok0 : ((zmlQ.drop 0).take 40).all zmlR = true := by decide +kernel
theorem zmlQ_ok1 : ((zmlQ.drop 40).take 40).all zmlR = true := by decide +kernel
theorem zmlQ_ok2 : ((zmlQ.drop 80).take 40).all zmlR = true := by decide +kernel
theorem zmlQ_ok3 : ((zmlQ.drop 120).take 40).all zmlR = true := by decide +kernel
theorem zmlQ_ok4 : ((zmlQ.drop 160).take 40).all zmlR = true := by decide +kernel
theorem zmlQ_ok5 : ((zmlQ.drop 200).take 40).all zmlR = true := by decide +kernel
theorem zmlQ_ok6 : ((zmlQ.drop 240).take 40).all zmlR = true := by decide +kernel
def zctQ : List ((Nat × Nat × Int) × Nat) := [((1, 35, 1000000), 928), ((1, 51, 1103515245), 926), ((6, 75, 2147483647), 621), ((9, 38, 65535), 503), ((10, 147, 2147483647), 773), ((11, 290, 1103515245), 1402), ((17, 265, 1431655765), 785), ((17, 266, 858993459), 786), ((17, 267, 252645135), 787)]
theorem zctQ_eq : zctQ.map (fun q => q.1) = zctL := by decide +kernel
theorem zctQ_ok : zctQ.all (fun q => zwq (.constant (zon q.1.1) q.1.2.1 (Int32.ofInt q.1.2.2), q.2)) = true := by decide +kernel
def zclQ : List ((Nat × Nat × Int) × Nat) := [((10, 275, 4), 998), ((11, 62, 127), 1133), ((11, 95, 97), 1153), ((11, 97, 122), 1154), ((11, 99, 48), 1155), ((11, 101, 57), 1156), ((11, 190, 3), 1268), ((11, 257, 9999), 1273), ((11, 265, 9), 1302), ((11, 270, 30), 1315), ((11, 275, 2), 1372), ((11, 277, 6), 1381), ((11, 279, 10), 1382), ((11, 294, 8), 1397), ((11, 303, 20), 1430)]
theorem zclQ_eq : zclQ.map (fun q => q.1) = zclL := by decide +kernel
theorem zclQ_ok : zclQ.all (fun q => zwq (.constantLong (zon q.1.1) q.1.2.1 (Int64.ofInt q.1.2.2), q.2)) = true := by decide +kernel
def zcnQ : List ((Nat × Nat × Nat) × Nat × Nat) := [((4, 9, 0), 196, 197), ((4, 18, 3), 220, 221), ((4, 25, 2), 249, 250), ((4, 40, 30), 276, 0), ((6, 9, 5), 325, 326), ((10, 9, 9), 110, 111), ((10, 16, 7), 140, 141), ((10, 25, 1), 174, 175), ((10, 32, 4), 190, 191), ((10, 47, 8), 317, 410), ((10, 53, 6), 319, 320), ((12, 7, 10), 102, 103), ((12, 10, 11), 1007, 1008)]
theorem zcnQ_eq : zcnQ.map (fun q => q.1) = zcnL := by decide +kernel
theorem zcnQ_ok : zcnQ.all (fun q => if q.1.2.2 = 30 then zwq (.classLink (zon q.1.1) q.1.2.1 "[I", q.2.1) else decide (q.1.2.2 < 12) && zwq (.classLink (zon q.1.1) q.1.2.1 (zCn q.1.2.2), q.2.1) && zwq (.instantiable (zCn q.1.2.2) (znF q.1.2.2), q.2.2)) = true := by decide +kernel
def zgsQ : List ((Nat × Nat × Int) × Nat) := [((4, 36, 900), 268), ((10, 220, 901), 900), ((10, 223, 902), 902), ((13, 38, -1), 525), ((13, 1053, 1200), 541)]
theorem zgsQ_eq : zgsQ.map (fun q => q.1) = zgsL := by decide +kernel
/-- the statics: class, name, descriptor -/
def zsN (c : Int) : String × String × String := if c = 900 then ("PooledWaves", "SETTING_AT_FIRST", "[I") else if c = 901 then ("PooledWaves", "SETTING_LEAST", "[I") else if c = 902 then ("PooledWaves", "SETTING_MOST", "[I") else if c = -1 then ("java/lang/String", "COMPACT_STRINGS", "Z") else ("jdk/internal/util/Preconditions", "SIOOBE_FORMATTER", "Ljava/util/function/BiFunction;")
theorem zgsQ_ok : zgsQ.all (fun q => (q.1.1 == 4 && q.1.2.2 == 900 && znw (.fieldLinkNest (zon q.1.1) q.1.2.1 (zsN q.1.2.2).1 (zsN q.1.2.2).2.1 (zsN q.1.2.2).2.2 "PooledWaves") q.2) || (q.1.1 != 4 && zwq (.fieldLink (zon q.1.1) q.1.2.1 (zsN q.1.2.2).1 (zsN q.1.2.2).2.1 (zsN q.1.2.2).2.2, q.2)) && (q.1.2.2 == 900 || q.1.2.2 == 901 || q.1.2.2 == 902 || q.1.2.2 == -1 || q.1.2.2 == 1200)) = true := by decide +kernel
def zuP : List (List Nat) := [[211, 213, 215, 217], [183, 185, 187], [261, 263, 265], [238, 240, 242, 244, 246], [295, 297, 299, 301, 303, 305, 307, 309, 311, 313], [347, 349, 351, 353, 355, 357], [389, 391, 393, 395, 397, 399, 401, 403, 405, 407], [156, 158, 160, 162, 164, 166, 168, 170], [421, 423, 425], [126, 128, 130, 132, 134, 136], [439, 441, 443, 445, 447, 449, 451, 453, 455, 457], [1070, 1072, 1074, 1076, 1078, 1080, 1082, 1084, 1086, 1088, 1090, 1092, 1094, 1096, 1098, 1100, 1102, 1104, 1106, 1108, 1110, 1112, 1114, 1116, 1118, 1120, 1122, 1124, 1126]]
theorem zu_ok : (List.range 12).all (fun ci => (List.range (znF ci)).all (fun k => zwq (u_lay (zCn ci) (zT ci) k, (zuP.getD ci []).getD k 0))) = true := by decide +kernel
theorem zv_ok : (List.range 12).all (fun ci => decide (vwCl[ci]?.map (fun q => (q.1, q.2.2)) = some (zCn ci, znF ci))) = true := by decide +kernel
end
section
/-! ===== the abstract machine: cells by number, whole numbers as integers ===== -/
abbrev zV : Type := Option (Int ⊕ Int ⊕ Nat)
abbrev vI (a : Int) : zV := some (.inl a)
abbrev vL (a : Int) : zV := some (.inr (.inl a))
abbrev vR (q : Nat) : zV := some (.inr (.inr q))
/-- the memory of numbers, that of references, how many cells there are, the script's length -/
abbrev zH : Type := (Nat → Int → Int) × (Nat → Int → Nat) × Nat × Nat
/-- what an instruction comes to: goes on; a call (callee, its values, where it goes on, the rest of the stack); an answer; nothing -/
abbrev zA : Type := (Nat × List zV × List zV × zH) ⊕ ((Nat × List zV × Nat × List zV) ⊕ (Option zV ⊕ Unit))
abbrev zno : zA := .inr (.inr (.inr ()))
abbrev zgo (pc : Nat) (L st : List zV) (h : zH) : zA := .inl (pc, L, st, h)
def wr (a : Int) : Int := (Int32.ofInt a).toInt
def wb (a : Int) : Int := (Int32.ofInt a).toInt8.toInt32.toInt
def wc (a : Int) : Int := ((Int32.ofInt a).toUInt32 % 65536).toInt32.toInt
def wl (a : Int) : Int := (Int64.ofInt a).toInt
def w2 (f : Int32 → Int32 → Int32) (a b : Int) : Int := (f (Int32.ofInt a) (Int32.ofInt b)).toInt
def zusr (a b : Int32) : Int32 := (a.toUInt32 >>> (b.toUInt32 &&& Int32.toUInt32 31)).toInt32
def sI (I : Nat → Int → Int) (p : Nat) (k x : Int) : Nat → Int → Int := fun q j => if q = p ∧ j = k then x else I q j
def sR (R : Nat → Int → Nat) (p : Nat) (k : Int) (x : Nat) : Nat → Int → Nat := fun q j => if q = p ∧ j = k then x else R q j
def zfill (I : Nat → Int → Int) (p : Nat) : Nat → Int → Int := fun q j => if q = p then 0 else I q j
def zfilR (R : Nat → Int → Nat) (p : Nat) : Nat → Int → Nat := fun q j => if q = p then 0 else R q j
def zcpy (I : Nat → Int → Int) (s : Nat) (sp : Int) (d : Nat) (dp n : Int) : Nat → Int → Int := fun q j => if q = d ∧ dp ≤ j ∧ j < dp + n then I s (sp + (j - dp)) else I q j
def zal (h : zH) (p : Nat) : Nat := if p = 899 then h.2.2.2 else (zkd p).2
/-- a cell of the world, or one that is only read -/
abbrev zok (h : zH) (p : Nat) : Prop := p ≤ h.2.2.1 ∨ 899 ≤ p
def zcnd (c : ClassFile.Cond) (a b : Int) : Bool := match c with
  | .eq => decide (a = b) | .ne => decide (a ≠ b) | .lt => decide (a < b) | .ge => decide (b ≤ a) | .gt => decide (b < a) | .le => decide (a ≤ b)
def zjmp (pc : Nat) (off : Int) (L st : List zV) (h : zH) : zA := if 0 ≤ (pc : Int) + off then zgo ((pc : Int) + off).toNat L st h else zno
def zbin (f : Int → Int → Int) (pc : Nat) (L st : List zV) (h : zH) : zA := match st with
  | some (.inl b) :: some (.inl a) :: st => zgo pc L (vI (f a b) :: st) h
  | _ => zno
def zdv (f : Int → Int → Int) (pc : Nat) (L st : List zV) (h : zH) : zA := match st with
  | some (.inl b) :: some (.inl a) :: st => if b = 0 then zno else zgo pc L (vI (f a b) :: st) h
  | _ => zno
def zldI (k pc : Nat) (L st : List zV) (h : zH) : zA := match L[k]? with
  | some (some (.inl a)) => zgo pc L (vI a :: st) h
  | _ => zno
def zldL (k pc : Nat) (L st : List zV) (h : zH) : zA := match L[k]? with
  | some (some (.inr (.inl a))) => zgo pc L (vL a :: st) h
  | _ => zno
def zldR (k pc : Nat) (L st : List zV) (h : zH) : zA := match L[k]? with
  | some (some (.inr (.inr q))) => zgo pc L (vR q :: st) h
  | _ => zno
def znl (v : zV) : Bool := match v with
  | some (.inr (.inl _)) => false
  | _ => true
/-- no long ends at place k -/
def zsO (m : Nat) (L : List zV) (k : Nat) : Bool := !zhl m || (match k with | 0 => true | j + 1 => znl (L.getD j none))
def zstI (m k pc : Nat) (L st : List zV) (h : zH) : zA := match st with
  | some (.inl a) :: st => if k < L.length ∧ zsO m L k = true then zgo pc (L.set k (vI a)) st h else zno
  | _ => zno
def zstR (m k pc : Nat) (L st : List zV) (h : zH) : zA := match st with
  | some (.inr (.inr q)) :: st => if k < L.length ∧ zsO m L k = true then zgo pc (L.set k (vR q)) st h else zno
  | _ => zno
def zstJ (m k pc : Nat) (L st : List zV) (h : zH) : zA := match st with
  | some (.inr (.inl a)) :: st => if k + 1 < L.length ∧ zhl m = true ∧ zsO m L k = true then zgo pc ((L.set k (vL a)).set (k + 1) none) st h else zno
  | _ => zno
def zinc (m k : Nat) (n : Int) (pc : Nat) (L st : List zV) (h : zH) : zA := match L[k]? with
  | some (some (.inl a)) => if zsO m L k = true then zgo pc (L.set k (vI (wr (a + n)))) st h else zno
  | _ => zno
def zif (c : ClassFile.Cond) (off : Int) (pc len : Nat) (L st : List zV) (h : zH) : zA := match st with
  | some (.inl a) :: st => if 0 ≤ (pc : Int) + off then (if zcnd c a 0 = true then zgo ((pc : Int) + off).toNat L st h else zgo (pc + len) L st h) else zno
  | _ => zno
def zicmp (c : ClassFile.Cond) (off : Int) (pc len : Nat) (L st : List zV) (h : zH) : zA := match st with
  | some (.inl b) :: some (.inl a) :: st => if 0 ≤ (pc : Int) + off then (if zcnd c a b = true then zgo ((pc : Int) + off).toNat L st h else zgo (pc + len) L st h) else zno
  | _ => zno
def zifnull (off : Int) (pc len : Nat) (L st : List zV) (h : zH) : zA := match st with
  | some (.inr (.inr q)) :: st => if q = 0 then zjmp pc off L st h else if q = 1200 then zno else zgo (pc + len) L st h
  | _ => zno
def ztab (dflt lo hi : Int) (offs : Array Int) (pc : Nat) (L st : List zV) (h : zH) : zA := match st with
  | some (.inl a) :: st => if a < lo ∨ hi < a then zjmp pc dflt L st h else (match offs[(a - lo).toNat]? with
    | some off => zjmp pc off L st h
    | none => zno)
  | _ => zno
def zlook (dflt : Int) (ps : Array (Int × Int)) (pc : Nat) (L st : List zV) (h : zH) : zA := match st with
  | some (.inl a) :: st => if (ps.toList.zip (ps.toList.drop 1)).all (fun (a, next) => a.1 < next.1) = true then zjmp pc (Op.lookupswitch.offset ps.toList dflt a) L st h else zno
  | _ => zno
def zget (o idx pc : Nat) (L st : List zV) (h : zH) : zA := match zfl o idx, st with
  | some (ci, k, t), some (.inr (.inr p)) :: st => if zkd p = (0, ci) ∧ zok h p then (if t = 2 then zgo pc L (vR (h.2.1 p k) :: st) h else zgo pc L (vI (h.1 p k) :: st) h) else zno
  | _, _ => zno
def zput (m o idx pc : Nat) (L st : List zV) (h : zH) : zA := match zfl o idx, st with
  | some (ci, k, t), some (.inl a) :: some (.inr (.inr p)) :: st => if zkd p = (0, ci) ∧ p ≤ h.2.2.1 ∧ (t = 0 ∨ t = 1 ∧ (a = 0 ∨ a = 1)) ∧ (zfin ci k = false ∨ zin m = true ∧ zo m = ci) then zgo pc L st (sI h.1 p k a, h.2) else zno
  | some (ci, k, t), some (.inr (.inr q)) :: some (.inr (.inr p)) :: st => if zkd p = (0, ci) ∧ p ≤ h.2.2.1 ∧ t = 2 ∧ q ≤ h.2.2.1 ∧ (zfin ci k = false ∨ zin m = true ∧ zo m = ci) then zgo pc L st (h.1, sR h.2.1 p k q, h.2.2) else zno
  | _, _ => zno
def zgst (o idx pc : Nat) (L st : List zV) (h : zH) : zA := match zgs o idx with
  | some c => if c = -1 then zgo pc L (vI 1 :: st) h else if 0 ≤ c then zgo pc L (vR c.toNat :: st) h else zno
  | none => zno
/-- a load from an array whose kind is one of ks -/
def zald (ks : List Nat) (pc : Nat) (L st : List zV) (h : zH) : zA := match st with
  | some (.inl i) :: some (.inr (.inr p)) :: st => if (zkd p).1 ∈ ks ∧ zok h p ∧ 0 ≤ i ∧ i < zal h p then (if (zkd p).1 ≤ 3 then zgo pc L (vI (h.1 p i) :: st) h else if (zkd p).1 = 4 then zgo pc L (vL (h.1 p i) :: st) h else zgo pc L (vR (h.2.1 p i) :: st) h) else zno
  | _ => zno
def zast (k : Nat) (pc : Nat) (L st : List zV) (h : zH) : zA := match st with
  | some (.inl x) :: some (.inl i) :: some (.inr (.inr p)) :: st => if (zkd p).1 = k ∧ p ≤ h.2.2.1 ∧ 0 ≤ i ∧ i < (zkd p).2 then zgo pc L st (sI h.1 p i x, h.2) else zno
  | _ => zno
def zbast (pc : Nat) (L st : List zV) (h : zH) : zA := match st with
  | some (.inl x) :: some (.inl i) :: some (.inr (.inr p)) :: st => if p ≤ h.2.2.1 ∧ 0 ≤ i ∧ i < (zkd p).2 then (if (zkd p).1 = 2 then zgo pc L st (sI h.1 p i (wb x), h.2) else if (zkd p).1 = 3 ∧ (x = 0 ∨ x = 1) then zgo pc L st (sI h.1 p i x, h.2) else zno) else zno
  | _ => zno
def zlast (pc : Nat) (L st : List zV) (h : zH) : zA := match st with
  | some (.inr (.inl x)) :: some (.inl i) :: some (.inr (.inr p)) :: st => if (zkd p).1 = 4 ∧ p ≤ h.2.2.1 ∧ 0 ≤ i ∧ i < (zkd p).2 ∧ -2147483648 ≤ x ∧ x ≤ 2147483647 then zgo pc L st (sI h.1 p i x, h.2) else zno
  | _ => zno
/-- Players into an array of kind 5, Sheets into one of kind 6 -/
def zaast (pc : Nat) (L st : List zV) (h : zH) : zA := match st with
  | some (.inr (.inr q)) :: some (.inl i) :: some (.inr (.inr p)) :: st => if ((zkd p).1 = 5 ∧ zkd q = (0, 4) ∨ (zkd p).1 = 6 ∧ zkd q = (0, 8)) ∧ q ≤ h.2.2.1 ∧ p ≤ h.2.2.1 ∧ 0 ≤ i ∧ i < (zkd p).2 then zgo pc L st (h.1, sR h.2.1 p i q, h.2.2) else zno
  | _ => zno
def zlen (pc : Nat) (L st : List zV) (h : zH) : zA := match st with
  | some (.inr (.inr p)) :: st => if 1 ≤ (zkd p).1 ∧ (zkd p).1 ≤ 6 ∧ zok h p ∧ zal h p < 2147483648 then zgo pc L (vI (zal h p) :: st) h else zno
  | _ => zno
/-- a new cell: it has the next number, all is 0 in it -/
def zmk (h : zH) : zH := (zfill h.1 (h.2.2.1 + 1), zfilR h.2.1 (h.2.2.1 + 1), h.2.2.1 + 1, h.2.2.2)
def znew (o idx pc : Nat) (L st : List zV) (h : zH) : zA := match zcn o idx with
  | some ci => if zkd (h.2.2.1 + 1) = (0, ci) ∧ h.2.2.1 < zNP then zgo pc L (vR (h.2.2.1 + 1) :: st) (zmk h) else zno
  | none => zno
def zat (t : ArrayType) : Nat := match t with
  | .int => 1 | .byte => 2 | .boolean => 3 | .long => 4 | _ => 8
def znewa (t : ArrayType) (pc : Nat) (L st : List zV) (h : zH) : zA := match st with
  | some (.inl a) :: st => if (zkd (h.2.2.1 + 1)).1 = zat t ∧ 0 ≤ a ∧ a = (zkd (h.2.2.1 + 1)).2 ∧ h.2.2.1 < zNP then zgo pc L (vR (h.2.2.1 + 1) :: st) (zmk h) else zno
  | _ => zno
def zanew (o idx pc : Nat) (L st : List zV) (h : zH) : zA := match zcn o idx, st with
  | some ci, some (.inl a) :: st => if ((zkd (h.2.2.1 + 1)).1 = 5 ∧ ci = 4 ∨ (zkd (h.2.2.1 + 1)).1 = 6 ∧ ci = 8) ∧ 0 ≤ a ∧ a = (zkd (h.2.2.1 + 1)).2 ∧ h.2.2.1 < zNP then zgo pc L (vR (h.2.2.1 + 1) :: st) (zmk h) else zno
  | _, _ => zno
/-- the words that the values take -/
def zcat (v : zV) : Nat := match v with
  | some (.inr (.inl _)) => 2
  | _ => 1
def zent : List zV → List zV
  | [] => []
  | v :: l => (if zcat v = 2 then [v, none] else [v]) ++ zent l
def zin0 (m : Nat) (as : List zV) : List zV := zent as ++ List.replicate (zL m - (zent as).length) none
/-- a call: kind 0 of an object's method, 1 static, 2 and 3 a constructor -/
def zcall (m o idx pc k1 k2 : Nat) (L st : List zV) (h : zH) : zA := match zml o idx with
  | some (k, c) =>
    if k = k1 ∨ k = k2 then
      (if zna c ≤ st.length ∧ c < 217 ∧ zfr c + 1 ≤ zfr m ∧ 8 + (zL c + 11) + zlo c ≤ zlo m ∧ (((st.drop (zna c)).map zcat).sum ≤ 8) ∧ ((st.take (zna c)).all (fun v => v.isSome && (zhl c || znl v)) = true) ∧ (zent (st.take (zna c)).reverse).length ≤ zL c then
        (if k = 1 then .inr (.inl (c, (st.take (zna c)).reverse, pc, st.drop (zna c)))
         else match (st.take (zna c)).reverse with
          | some (.inr (.inr p)) :: _ => if (zkd p = (0, zo c) ∧ p ≤ h.2.2.1) ∨ (zo c = 13 ∧ zkd p = (0, 20)) then .inr (.inl (c, (st.take (zna c)).reverse, pc, st.drop (zna c))) else zno
          | _ => zno)
      else zno)
    else if k = 10 ∧ k2 = 3 then (match st with
      | some (.inr (.inr p)) :: st => if 1 ≤ p ∧ p ≤ h.2.2.1 ∧ 1 ≤ zfr m ∧ (st.map zcat).sum + 12 ≤ zlo m then zgo pc L st h else zno
      | _ => zno)
    else if k = 11 ∧ k1 = 1 then (match st with
      | some (.inl n) :: some (.inl dp) :: some (.inr (.inr d)) :: some (.inl sp) :: some (.inr (.inr q)) :: st => if (zkd d).1 = 1 ∧ d ≤ h.2.2.1 ∧ (zkd q).1 = 1 ∧ q ≤ h.2.2.1 ∧ 0 ≤ n ∧ 0 ≤ dp ∧ 0 ≤ sp ∧ sp + n ≤ (zkd q).2 ∧ dp + n ≤ (zkd d).2 ∧ 1 ≤ zfr m ∧ (st.map zcat).sum + 30 ≤ zlo m then zgo pc L st (zcpy h.1 q sp d dp n, h.2) else zno
      | _ => zno)
    else if k = 12 ∧ k1 = 0 then (match st with
      | some (.inr (.inr q)) :: st => if q = 900 ∧ zkd (h.2.2.1 + 1) = (1, 5) ∧ h.2.2.1 < zNP ∧ 1 ≤ zfr m ∧ (st.map zcat).sum + 30 ≤ zlo m then zgo pc L (vR (h.2.2.1 + 1) :: st) (zcpy (zmk h).1 900 0 (h.2.2.1 + 1) 0 5, (zmk h).2) else zno
      | _ => zno)
    else zno
  | none => zno
def zrt (m : Nat) (st : List zV) : zA := match st with
  | [some (.inl a)] => (match zret m with
    | some .int => .inr (.inr (.inl (some (vI a))))
    | some .boolean => if a = 0 ∨ a = 1 then .inr (.inr (.inl (some (vI a)))) else zno
    | some .char => if 0 ≤ a ∧ a < 65536 then .inr (.inr (.inl (some (vI a)))) else zno
    | some .byte => if -128 ≤ a ∧ a < 128 then .inr (.inr (.inl (some (vI a)))) else zno
    | _ => zno)
  | _ => zno
/-- how long an instruction is (0: a switch) -/
def ziln (i : Instr) : Nat := match i with
  | .iconst _ => 1 | .bipush _ => 2 | .sipush _ => 3 | .lconst _ => 1 | .aconst_null => 1
  | .iload _ => 2 | .iload_n _ => 1 | .lload _ => 2 | .lload_n _ => 1 | .aload _ => 2 | .aload_n _ => 1
  | .istore _ => 2 | .istore_n _ => 1 | .astore _ => 2 | .astore_n _ => 1 | .lstore _ => 2 | .iinc _ _ => 3
  | .goto _ => 3 | .ifCond _ _ => 3 | .if_icmp _ _ => 3 | .ifnull _ => 3 | .tableswitch _ _ _ _ => 0 | .lookupswitch _ _ => 0
  | .ldc _ => 2 | .ldc_w _ => 3 | .ldc2_w _ => 3 | .getfield _ => 3 | .putfield _ => 3 | .getstatic _ => 3
  | .new _ => 3 | .newarray _ => 2 | .anewarray _ => 3 | .checkcast _ => 3
  | .invokevirtual _ => 3 | .invokestatic _ => 3 | .invokespecial _ => 3
  | _ => 1
def zac0 (m : Nat) (i : Instr) (pc len : Nat) (L st : List zV) (h : zH) : zA :=
  match i with
  | .iconst a => if -1 ≤ a ∧ a ≤ 5 then zgo (pc + len) L (vI a :: st) h else zno
  | .bipush a => if -128 ≤ a ∧ a < 128 then zgo (pc + len) L (vI a :: st) h else zno
  | .sipush a => if -32768 ≤ a ∧ a < 32768 then zgo (pc + len) L (vI a :: st) h else zno
  | .lconst a => zgo (pc + len) L (vL (a : Nat) :: st) h
  | .aconst_null => zgo (pc + len) L (vR 0 :: st) h
  | .iload k => zldI k (pc + len) L st h
  | .iload_n k => zldI k (pc + len) L st h
  | .lload k => zldL k (pc + len) L st h
  | .lload_n k => zldL k (pc + len) L st h
  | .aload k => zldR k (pc + len) L st h
  | .aload_n k => zldR k (pc + len) L st h
  | .istore k => zstI m k (pc + len) L st h
  | .istore_n k => zstI m k (pc + len) L st h
  | .astore k => zstR m k (pc + len) L st h
  | .astore_n k => zstR m k (pc + len) L st h
  | .lstore k => zstJ m k (pc + len) L st h
  | .iinc k n => zinc m k n (pc + len) L st h
  | .iadd => zbin (fun a b => wr (a + b)) (pc + len) L st h
  | .isub => zbin (fun a b => wr (a - b)) (pc + len) L st h
  | .imul => zbin (fun a b => wr (a * b)) (pc + len) L st h
  | .idiv => zdv (fun a b => wr (a.tdiv b)) (pc + len) L st h
  | .irem => zdv (fun a b => a.tmod b) (pc + len) L st h
  | .iand => zbin (w2 (· &&& ·)) (pc + len) L st h
  | .ior => zbin (w2 (· ||| ·)) (pc + len) L st h
  | .ixor => zbin (w2 (· ^^^ ·)) (pc + len) L st h
  | .ishl => zbin (w2 (fun a b => a <<< (b &&& 31))) (pc + len) L st h
  | .ishr => zbin (w2 (fun a b => a >>> (b &&& 31))) (pc + len) L st h
  | .iushr => zbin (w2 zusr) (pc + len) L st h
  | .i2l => (match st with | some (.inl a) :: st => zgo (pc + len) L (vL a :: st) h | _ => zno)
  | .l2i => (match st with | some (.inr (.inl a)) :: st => zgo (pc + len) L (vI (wr a) :: st) h | _ => zno)
  | .i2b => (match st with | some (.inl a) :: st => zgo (pc + len) L (vI (wb a) :: st) h | _ => zno)
  | .i2c => (match st with | some (.inl a) :: st => zgo (pc + len) L (vI (wc a) :: st) h | _ => zno)
  | .ladd => (match st with | some (.inr (.inl b)) :: some (.inr (.inl a)) :: st => zgo (pc + len) L (vL (wl (a + b)) :: st) h | _ => zno)
  | .lcmp => (match st with | some (.inr (.inl b)) :: some (.inr (.inl a)) :: st => zgo (pc + len) L (vI (if a < b then -1 else if a = b then 0 else 1) :: st) h | _ => zno)
  | .dup => (match st with | v :: st => if zcat v = 1 ∧ v.isSome = true then zgo (pc + len) L (v :: v :: st) h else zno | _ => zno)
  | .dup2 => (match st with | v :: w :: st => if zcat v = 1 ∧ zcat w = 1 ∧ v.isSome = true ∧ w.isSome = true then zgo (pc + len) L (v :: w :: v :: w :: st) h else zno | _ => zno)
  | .pop => (match st with | v :: st => if zcat v = 1 ∧ v.isSome = true then zgo (pc + len) L st h else zno | _ => zno)
  | .goto off => zjmp pc off L st h
  | .ifCond c off => zif c off pc len L st h
  | .if_icmp c off => zicmp c off pc len L st h
  | .ifnull off => zifnull off pc len L st h
  | .tableswitch dflt lo hi offs => ztab dflt lo hi offs pc L st h
  | .lookupswitch dflt ps => zlook dflt ps pc L st h
  | .ldc k => (match zct (zo m) k with
    | some a => if -2147483648 ≤ a ∧ a ≤ 2147483647 then zgo (pc + len) L (vI a :: st) h else zno
    | none => match zst (zo m) k with
      | some j => zgo (pc + len) L (vR (1000 + j) :: st) h
      | none => zno)
  | .ldc_w k => (match zct (zo m) k with
    | some a => if -2147483648 ≤ a ∧ a ≤ 2147483647 then zgo (pc + len) L (vI a :: st) h else zno
    | none => zno)
  | .ldc2_w k => (match zcl (zo m) k with
    | some a => if -2147483648 ≤ a ∧ a ≤ 2147483647 then zgo (pc + len) L (vL a :: st) h else zno
    | none => zno)
  | .getfield k => zget (zo m) k (pc + len) L st h
  | .putfield k => zput m (zo m) k (pc + len) L st h
  | .getstatic k => zgst (zo m) k (pc + len) L st h
  | .iaload => zald [1] (pc + len) L st h
  | .baload => zald [2, 3] (pc + len) L st h
  | .laload => zald [4] (pc + len) L st h
  | .aaload => zald [5, 6] (pc + len) L st h
  | .iastore => zast 1 (pc + len) L st h
  | .bastore => zbast (pc + len) L st h
  | .lastore => zlast (pc + len) L st h
  | .aastore => zaast (pc + len) L st h
  | .arraylength => zlen (pc + len) L st h
  | .new k => znew (zo m) k (pc + len) L st h
  | .newarray t => znewa t (pc + len) L st h
  | .anewarray k => zanew (zo m) k (pc + len) L st h
  | .checkcast k => (match zcn (zo m) k, st with
    | some 30, some (.inr (.inr p)) :: st => if (zkd p).1 = 1 ∧ p ≤ h.2.2.1 then zgo (pc + len) L (vR p :: st) h else zno
    | _, _ => zno)
  | .invokevirtual k => zcall m (zo m) k (pc + len) 0 0 L st h
  | .invokestatic k => zcall m (zo m) k (pc + len) 1 1 L st h
  | .invokespecial k => zcall m (zo m) k (pc + len) 2 3 L st h
  | .ireturn => zrt m st
  | .return_ => if st = [] ∧ zret m = none then .inr (.inr (.inl none)) else zno
  | _ => zno
def zact (m : Nat) (i : Instr) (pc len : Nat) (L st : List zV) (h : zH) : zA := if ziln i = 0 ∨ ziln i = len then zac0 m i pc len L st h else zno
def zpush (r : Option zV) (st : List zV) : List zV := match r with
  | some v => v :: st
  | none => st
/-- the machine, n steps at most -/
def zev : Nat → Nat → Nat → List zV → List zV → zH → Option (Option zV × zH)
  | 0, _, _, _, _, _ => none
  | n + 1, m, pc, L, st, h => match decode (zb m) pc with
    | .ok (i, len) => (match zact m i pc len L st h with
      | .inl (pc', L', st', h') => zev n m pc' L' st' h'
      | .inr (.inl (c, as, pc', st')) => (match zev n c 0 (zin0 c as) [] h with
        | some (r, h') => zev n m pc' L (zpush r st') h'
        | none => none)
      | .inr (.inr (.inl r)) => some (r, h)
      | .inr (.inr (.inr _)) => none)
    | .error _ => none
theorem zev_step {m pc : Nat} {L st : List zV} {h : zH} {i : Instr} {len : Nat} (hd : decode (zb m) pc = .ok (i, len)) (n : Nat) : zev (n + 1) m pc L st h = match zact m i pc len L st h with
      | .inl (pc', L', st', h') => zev n m pc' L' st' h'
      | .inr (.inl (c, as, pc', st')) => (match zev n c 0 (zin0 c as) [] h with
        | some (r, h') => zev n m pc' L (zpush r st') h'
        | none => none)
      | .inr (.inr (.inl r)) => some (r, h)
      | .inr (.inr (.inr _)) => none := by
  rw [zev, hd]
theorem zev_mono : ∀ (n : Nat) {m pc : Nat} {L st : List zV} {h : zH} {o : Option zV × zH}, zev n m pc L st h = some o → zev (n + 1) m pc L st h = some o := by
  intro n
  induction n with
  | zero => intro m pc L st h o e; cases e
  | succ n ih =>
    intro m pc L st h o e
    cases hd : decode (zb m) pc with
    | error z => rw [zev, hd] at e; cases e
    | ok q =>
      obtain ⟨i, len⟩ := q
      rw [zev_step hd] at e ⊢
      cases ha : zact m i pc len L st h with
      | inl q =>
        obtain ⟨pc', L', st', h'⟩ := q
        rw [ha] at e
        exact ih e
      | inr q =>
        cases q with
        | inl q =>
          obtain ⟨c, as, pc', st'⟩ := q
          rw [ha] at e
          simp only at e ⊢
          cases hc : zev n c 0 (zin0 c as) [] h with
          | none => rw [hc] at e; cases e
          | some r =>
            rw [hc] at e
            rw [ih hc]
            exact ih e
        | inr q =>
          rw [ha] at e
          cases q with
          | inl r => exact e
          | inr _ => cases e
theorem zev_le {n k : Nat} (hk : n ≤ k) {m pc : Nat} {L st : List zV} {h : zH} {o : Option zV × zH} (e : zev n m pc L st h = some o) : zev k m pc L st h = some o := by
  induction k with
  | zero => rw [Nat.le_zero.mp hk] at e; exact e
  | succ k ih =>
    rcases Nat.lt_or_eq_of_le hk with q | q
    · exact zev_mono k (ih (Nat.le_of_lt_succ q))
    · rw [← q]; exact e
/-- the machine's answer, if it comes to one -/
noncomputable def zX (m pc : Nat) (L st : List zV) (h : zH) : Option (Option zV × zH) := by
  classical exact if w : ∃ o, ∃ n, zev n m pc L st h = some o then some w.choose else none
theorem zX_some {m pc : Nat} {L st : List zV} {h : zH} {o : Option zV × zH} : zX m pc L st h = some o ↔ ∃ n, zev n m pc L st h = some o := by
  unfold zX
  constructor
  · intro e
    split at e
    · rename_i w
      rw [← Option.some.inj e]
      exact w.choose_spec
    · cases e
  · rintro ⟨n, e⟩
    have w : ∃ o, ∃ n, zev n m pc L st h = some o := ⟨o, n, e⟩
    rw [dif_pos w]
    obtain ⟨k, ek⟩ := w.choose_spec
    have h1 := zev_le (Nat.le_max_left n k) e
    have h2 := zev_le (Nat.le_max_right n k) ek
    rw [h1] at h2
    exact h2.symm
theorem zX_ext {m pc m' pc' : Nat} {L st L' st' : List zV} {h h' : zH} (w : ∀ o, (∃ n, zev n m pc L st h = some o) ↔ ∃ n, zev n m' pc' L' st' h' = some o) : zX m pc L st h = zX m' pc' L' st' h' := by
  apply Option.ext
  intro o
  rw [zX_some, zX_some]
  exact w o
theorem zX_go {m pc : Nat} {L st : List zV} {h : zH} {i : Instr} {len : Nat} (hd : decode (zb m) pc = .ok (i, len)) {pc' : Nat} {L' st' : List zV} {h' : zH} (ha : zact m i pc len L st h = .inl (pc', L', st', h')) : zX m pc L st h = zX m pc' L' st' h' := by
  refine zX_ext fun o => ⟨?_, ?_⟩
  · rintro ⟨n, e⟩
    cases n with
    | zero => cases e
    | succ n => rw [zev_step hd, ha] at e; exact ⟨n, e⟩
  · rintro ⟨n, e⟩
    exact ⟨n + 1, by rw [zev_step hd, ha]; exact e⟩
/-- a method from its entry -/
noncomputable def zrun (c : Nat) (as : List zV) (h : zH) : Option (Option zV × zH) := zX c 0 (zin0 c as) [] h
theorem zX_call {m pc : Nat} {L st : List zV} {h : zH} {i : Instr} {len : Nat} (hd : decode (zb m) pc = .ok (i, len)) {c pc' : Nat} {as st' : List zV} (ha : zact m i pc len L st h = .inr (.inl (c, as, pc', st'))) : zX m pc L st h = (zrun c as h).bind (fun q => zX m pc' L (zpush q.1 st') q.2) := by
  apply Option.ext
  intro o
  rw [zX_some]
  constructor
  · rintro ⟨n, e⟩
    cases n with
    | zero => cases e
    | succ n =>
      rw [zev_step hd, ha] at e
      simp only at e
      cases hc : zev n c 0 (zin0 c as) [] h with
      | none => rw [hc] at e; cases e
      | some r =>
        rw [hc] at e
        have h1 : zrun c as h = some r := zX_some.mpr ⟨n, hc⟩
        rw [h1]
        exact zX_some.mpr ⟨n, e⟩
  · intro e
    cases hc : zrun c as h with
    | none => rw [hc] at e; cases e
    | some r =>
      rw [hc] at e
      obtain ⟨n1, e1⟩ := zX_some.mp hc
      obtain ⟨n2, e2⟩ := zX_some.mp (show zX m pc' L (zpush r.1 st') r.2 = some o from e)
      refine ⟨max n1 n2 + 1, ?_⟩
      rw [zev_step hd, ha]
      simp only
      rw [zev_le (Nat.le_max_left n1 n2) e1]
      exact zev_le (Nat.le_max_right n1 n2) e2
theorem zX_ret {m pc : Nat} {L st : List zV} {h : zH} {i : Instr} {len : Nat} (hd : decode (zb m) pc = .ok (i, len)) {r : Option zV} (ha : zact m i pc len L st h = .inr (.inr (.inl r))) : zX m pc L st h = some (r, h) := zX_some.mpr ⟨1, by rw [zev_step hd, ha]⟩
end
section
/-! ===== the abstract machine's cells over the heap ===== -/
abbrev zRI (a : Int) : Prop := -2147483648 ≤ a ∧ a ≤ 2147483647
abbrev zRL (a : Int) : Prop := -9223372036854775808 ≤ a ∧ a ≤ 9223372036854775807
theorem zi_to {a : Int} (h : zRI a) : (Int32.ofInt a).toInt = a := Int32.toInt_ofInt_of_le (by omega) (by omega)
theorem zl_to {a : Int} (h : zRL a) : (Int64.ofInt a).toInt = a := Int64.toInt_ofInt_of_le (by omega) (by omega)
theorem wr_id {a : Int} (h1 : -2147483648 ≤ a) (h2 : a ≤ 2147483647) : wr a = a := zi_to ⟨h1, h2⟩
theorem zt_RI (x : Int32) : zRI x.toInt := ⟨by have := x.le_toInt; omega, by have := x.toInt_lt; omega⟩
theorem zt_RL (x : Int64) : zRL x.toInt := ⟨by have := x.le_toInt; omega, by have := x.toInt_lt; omega⟩
theorem wr_RI (a : Int) : zRI (wr a) := zt_RI _
theorem zi_wr (a : Int) : Int32.ofInt (wr a) = Int32.ofInt a := by unfold wr; exact Int32.ofInt_toInt _
theorem w2_RI (f : Int32 → Int32 → Int32) (a b : Int) : zRI (w2 f a b) := zt_RI _
theorem zi_w2 (f : Int32 → Int32 → Int32) (a b : Int) : Int32.ofInt (w2 f a b) = f (Int32.ofInt a) (Int32.ofInt b) := by unfold w2; exact Int32.ofInt_toInt _
theorem zi_lt {a b : Int} (ha : zRI a) (hb : zRI b) : Int32.ofInt a < Int32.ofInt b ↔ a < b := by rw [Int32.lt_iff_toInt_lt, zi_to ha, zi_to hb]
theorem zi_le {a b : Int} (ha : zRI a) (hb : zRI b) : Int32.ofInt a ≤ Int32.ofInt b ↔ a ≤ b := by rw [Int32.le_iff_toInt_le, zi_to ha, zi_to hb]
theorem zi_eq {a b : Int} (ha : zRI a) (hb : zRI b) : Int32.ofInt a = Int32.ofInt b ↔ a = b := by rw [← Int32.toInt_inj, zi_to ha, zi_to hb]
theorem zi_0 : Int32.ofInt 0 = 0 := rfl
theorem zR0 : zRI 0 := ⟨by omega, by omega⟩
theorem zi_nat {a : Int} (h : zRI a) (h0 : 0 ≤ a) : (Int32.ofInt a).toNatClampNeg = a.toNat := by rw [← Int32.toNat_toInt, zi_to h]
theorem zi_in {a : Int} {n : Nat} (h : zRI a) (h0 : 0 ≤ a) (hn : a < n) : vp_in (Int32.ofInt a) n := by
  unfold vp_in
  rw [zi_nat h h0]
  rintro (q | q)
  · have := (zi_lt h zR0).mp (by rw [zi_0]; exact q)
    omega
  · omega
theorem zi_neg {a : Int} (h : zRI a) (h0 : 0 ≤ a) : ¬ Int32.ofInt a < 0 := fun q => by
  have := (zi_lt h zR0).mp (by rw [zi_0]; exact q)
  omega
theorem zi_div {a b : Int} (ha : zRI a) (hb : zRI b) : Int32.ofInt (wr (a.tdiv b)) = Int32.ofInt a / Int32.ofInt b := by
  rw [zi_wr]
  exact Int32.ofInt_tdiv ha.1 ha.2 hb.1 hb.2
theorem zi_rem {a b : Int} (ha : zRI a) (hb : zRI b) : Int32.ofInt (a.tmod b) = Int32.ofInt a - Int32.ofInt a / Int32.ofInt b * Int32.ofInt b := by
  rw [← zi_div ha hb, zi_wr, ← Int32.ofInt_mul, ← Int32.ofInt_sub]
  congr 1
  have := Int.tmod_add_mul_tdiv a b
  have h2 : b * a.tdiv b = a.tdiv b * b := Int.mul_comm _ _
  omega
theorem zi_remR {a b : Int} (ha : zRI a) : zRI (a.tmod b) := by
  have h := Int.natAbs_tmod a b
  have h2 : a.natAbs % b.natAbs ≤ a.natAbs := Nat.mod_le _ _
  rcases Int.le_total 0 a with q | q
  · have h3 := Int.tmod_nonneg b q
    omega
  · have h4 : a.tmod b ≤ 0 := by
      have h5 := Int.tmod_nonneg b (show 0 ≤ -a by omega)
      rw [Int.neg_tmod] at h5
      omega
    by_cases h6 : a = -2147483648
    · subst h6
      omega
    · omega
def zrfo (ad : Nat → Nat) (q : Nat) : Option Nat := if q = 0 then none else some (ad q)
def zcv (ad : Nat → Nat) (sv : Value) (v : zV) : Value := match v with
  | some (.inl a) => .int (Int32.ofInt a)
  | some (.inr (.inl a)) => .long (Int64.ofInt a)
  | some (.inr (.inr q)) => if q = 1200 then sv else va_rf (zrfo ad q)
  | none => .int 0
def zfv (ad : Nat → Nat) (h : zH) (p ci k : Nat) : Value := if zft ci k = 2 then va_rf (zrfo ad (h.2.1 p k)) else .int (Int32.ofInt (h.1 p k))
def zcell (cs : Nat → ClassId) (ad : Nat → Nat) (h : zH) (p : Nat) : va_E :=
  if (zkd p).1 = 0 then .inr ((zkd p).2, (List.range (znF (zkd p).2)).map (fun k => zfv ad h p (zkd p).2 k))
  else if (zkd p).1 ≤ 3 then .inl (cs (zkd p).1, (zkd p).2, .inl (fun j => Int32.ofInt (h.1 p j)))
  else if (zkd p).1 = 4 then .inl (cs 4, (zkd p).2, .inr (.inl (fun j => Int64.ofInt (h.1 p j))))
  else .inl (cs (zkd p).1, (zkd p).2, .inr (.inr (.inr (.inr (fun j => zrfo ad (h.2.1 p j))))))
def zws (cs : Nat → ClassId) (ad : Nat → Nat) (h : zH) : va_W := (List.range h.2.2.1).map (fun j => (ad (j + 1), zcell cs ad h (j + 1)))
theorem zws_at (cs : Nat → ClassId) (ad : Nat → Nat) {h : zH} {p : Nat} (h1 : 1 ≤ p) (h2 : p ≤ h.2.2.1) : (zws cs ad h)[p - 1]? = some (ad p, zcell cs ad h p) := by
  unfold zws
  rw [List.getElem?_map, List.getElem?_range (by omega)]
  simp only [Option.map_some]
  rw [show p - 1 + 1 = p by omega]
theorem zws_inv {cs : Nat → ClassId} {ad : Nat → Nat} {h : zH} {k : Nat} {q : Nat × va_E} (e : (zws cs ad h)[k]? = some q) : k < h.2.2.1 ∧ q = (ad (k + 1), zcell cs ad h (k + 1)) := by
  unfold zws at e
  rw [List.getElem?_map] at e
  cases hr : (List.range h.2.2.1)[k]? with
  | none => rw [hr] at e; cases e
  | some j =>
    rw [hr] at e
    have hk : k < h.2.2.1 := by
      have := (List.getElem?_eq_some_iff.mp hr).1
      simpa using this
    rw [List.getElem?_range hk] at hr
    cases hr
    exact ⟨hk, (Option.some.inj e).symm⟩
theorem zws_set {cs : Nat → ClassId} {ad : Nat → Nat} {h h' : zH} {p : Nat} (h1 : 1 ≤ p) (h2 : p ≤ h.2.2.1) (hn : h'.2.2.1 = h.2.2.1) (hq : ∀ q, q ≠ p → zcell cs ad h' q = zcell cs ad h q) {e : va_E} (he : e = zcell cs ad h' p) : (zws cs ad h).set (p - 1) (ad p, e) = zws cs ad h' := by
  subst he
  apply List.ext_getElem?
  intro k
  by_cases hk : k < h.2.2.1
  · rw [List.getElem?_set]
    have e1 : (zws cs ad h')[k]? = some (ad (k + 1), zcell cs ad h' (k + 1)) := by
      have := zws_at cs ad (h := h') (p := k + 1) (by omega) (by omega)
      simpa using this
    rw [e1]
    by_cases hp : p - 1 = k
    · rw [if_pos hp, if_pos (by unfold zws; simp; omega), ← hp, show p - 1 + 1 = p by omega]
    · rw [if_neg hp, hq (k + 1) (by omega)]
      have := zws_at cs ad (h := h) (p := k + 1) (by omega) (by omega)
      simpa using this
  · rw [List.getElem?_eq_none (by unfold zws; simp; omega), List.getElem?_eq_none (by unfold zws; simp; omega)]
theorem zws_push {cs : Nat → ClassId} {ad ad' : Nat → Nat} {h h' : zH} (hn : h'.2.2.1 = h.2.2.1 + 1) (ha : ∀ q, 1 ≤ q → q ≤ h.2.2.1 → ad' q = ad q) (hq : ∀ q, 1 ≤ q → q ≤ h.2.2.1 → zcell cs ad' h' q = zcell cs ad h q) {e : va_E} {a : Nat} (hea : a = ad' (h.2.2.1 + 1)) (he : e = zcell cs ad' h' (h.2.2.1 + 1)) : zws cs ad h ++ [(a, e)] = zws cs ad' h' := by
  subst he; subst hea
  unfold zws
  rw [hn, List.range_succ, List.map_append]
  congr 1
  apply List.map_congr_left
  intro j hj
  have hj := List.mem_range.mp hj
  rw [ha (j + 1) (by omega) (by omega), hq (j + 1) (by omega) (by omega)]
theorem zcell_sI {cs : Nat → ClassId} {ad : Nat → Nat} {h : zH} {p : Nat} {k x : Int} {q : Nat} (hq : q ≠ p) : zcell cs ad (sI h.1 p k x, h.2) q = zcell cs ad h q := by
  have e : ∀ j, sI h.1 p k x q j = h.1 q j := fun j => by unfold sI; rw [if_neg (fun z => hq z.1)]
  unfold zcell zfv
  simp only [e]
theorem zcell_sR {cs : Nat → ClassId} {ad : Nat → Nat} {h : zH} {p : Nat} {k : Int} {x : Nat} {q : Nat} (hq : q ≠ p) : zcell cs ad (h.1, sR h.2.1 p k x, h.2.2) q = zcell cs ad h q := by
  have e : ∀ j, sR h.2.1 p k x q j = h.2.1 q j := fun j => by unfold sR; rw [if_neg (fun z => hq z.1)]
  unfold zcell zfv
  simp only [e]
theorem zcell_cpy {cs : Nat → ClassId} {ad : Nat → Nat} {h : zH} {a p : Nat} {sp dp n : Int} {q : Nat} (hq : q ≠ p) : zcell cs ad (zcpy h.1 a sp p dp n, h.2) q = zcell cs ad h q := by
  have e : ∀ j, zcpy h.1 a sp p dp n q j = h.1 q j := fun j => by unfold zcpy; rw [if_neg (fun z => hq z.1)]
  unfold zcell zfv
  simp only [e]
def zokI (h : zH) : Prop := ∀ p k, zRI (h.1 p k)
/-- references of the world stay within it -/
def zokR (h : zH) : Prop := (∀ p k, p ≤ h.2.2.1 → h.2.1 p k ≤ h.2.2.1) ∧ ∀ j, j < 6 → h.2.1 (1000 + j) 0 = 1100 + j
theorem zcell_mk {cs : Nat → ClassId} {ad ad' : Nat → Nat} {h : zH} (hr : zokR h) (ha : ∀ q, q ≤ h.2.2.1 → ad' q = ad q) {q : Nat} (hq : q ≤ h.2.2.1) : zcell cs ad' (zmk h) q = zcell cs ad h q := by
  have e1 : ∀ j, (zmk h).1 q j = h.1 q j := fun j => by unfold zmk zfill; simp only; rw [if_neg (by omega)]
  have e2 : ∀ j, (zmk h).2.1 q j = h.2.1 q j := fun j => by unfold zmk zfilR; simp only; rw [if_neg (by omega)]
  have e3 : ∀ j, zrfo ad' (h.2.1 q j) = zrfo ad (h.2.1 q j) := fun j => by unfold zrfo; rw [ha _ (hr.1 q j hq)]
  unfold zcell zfv
  simp only [e1, e2, e3]
/-- locals -/
def zlr (ad : Nat → Nat) (sv : Value) (L : List zV) (ls : Array Slot) : Prop := ls.size = L.length ∧ lv_wf ls ∧ ∀ (k : Nat) (w : Int ⊕ Int ⊕ Nat), L[k]? = some (some w) → ls[k]? = some (.val (zcv ad sv (some w)))
/-- a value is in its bounds -/
def zvo (n : Nat) (v : zV) : Prop := match v with
  | some (.inl a) => zRI a
  | some (.inr (.inl a)) => zRL a
  | some (.inr (.inr q)) => q ≤ n ∨ 899 ≤ q
  | none => True
theorem zvo_mono {n n' : Nat} (hn : n ≤ n') {v : zV} (h : zvo n v) : zvo n' v := by
  obtain _ | (a | a | q) := v
  · trivial
  · exact h
  · exact h
  · exact h.elim (fun z => Or.inl (by omega)) Or.inr
theorem zcv_ext {ad ad' : Nat → Nat} {sv : Value} {n : Nat} (ha : ∀ q, q ≤ n ∨ 899 ≤ q → ad' q = ad q) {v : zV} (h : zvo n v) : zcv ad' sv v = zcv ad sv v := by
  obtain _ | (a | a | q) := v
  · rfl
  · rfl
  · rfl
  · unfold zcv zrfo
    simp only
    rw [ha q h]
theorem zcat_cv {ad : Nat → Nat} {sv : Value} (hsv : sv.category = 1) (v : zV) : (zcv ad sv v).category = zcat v := by
  obtain _ | (a | a | q) := v
  · rfl
  · rfl
  · rfl
  · show (if q = 1200 then sv else va_rf (zrfo ad q)).category = 1
    by_cases h : q = 1200
    · rw [if_pos h]; exact hsv
    · rw [if_neg h]
      unfold zrfo va_rf
      by_cases h0 : q = 0
      · rw [if_pos h0]; rfl
      · rw [if_neg h0]; rfl
theorem zcat_sum {ad : Nat → Nat} {sv : Value} (hsv : sv.category = 1) (st : List zV) : ((st.map (zcv ad sv)).map fun v => v.category).sum = (st.map zcat).sum := by
  rw [List.map_map]
  congr 1
  apply List.map_congr_left
  intro v _
  exact zcat_cv hsv v
end
section
/-! ===== the machine's steps are the JVM's ===== -/
theorem zfind {α : Type} {L : List (Nat × Nat × α)} {o i : Nat} {v : α} (h : (L.find? (fun e => e.1 == o && e.2.1 == i)).map (fun e => e.2.2) = some v) : (o, i, v) ∈ L := by
  cases hf : L.find? (fun e => e.1 == o && e.2.1 == i) with
  | none => rw [hf] at h; cases h
  | some e =>
    rw [hf] at h
    have h1 := List.find?_some hf
    have h2 := List.mem_of_find?_eq_some hf
    simp only [Bool.and_eq_true, beq_iff_eq] at h1
    obtain ⟨a, b, w⟩ := e
    obtain ⟨rfl, rfl⟩ := h1
    cases h
    exact h2
theorem zfl_ok {o i ci k t : Nat} (h : zfl o i = some (ci, k, t)) : zflC (o, i, ci, k, t) ∈ zgt ∧ (ci = 20 ∧ (k = 0 ∧ t = 2 ∨ k = 1 ∧ t = 0) ∨ ci < 12 ∧ k < znF ci ∧ t = zft ci k) := by
  have h1 := zfind h
  rw [← zflQ_eq] at h1
  obtain ⟨q, hq, e⟩ := List.mem_map.mp h1
  have h2 := List.all_eq_true.mp zflQ_ok q hq
  rw [e] at h2
  simp only [Bool.and_eq_true, Bool.or_eq_true, beq_iff_eq, decide_eq_true_eq] at h2
  refine ⟨zwq_in h2.1, ?_⟩
  rcases h2.2 with ⟨a, b⟩ | ⟨⟨a, b⟩, d⟩
  · exact Or.inl ⟨a, b⟩
  · exact Or.inr ⟨a, b, d⟩
theorem zcls {ci : Nat} (h : ci < 12) : vwCl[ci]? = some (zCn ci, zT ci, znF ci) ∧ ∀ w ∈ u_ws (zCn ci) (zT ci) (znF ci), w ∈ zgt := by
  have h1 := List.all_eq_true.mp zv_ok ci (List.mem_range.mpr h)
  rw [decide_eq_true_eq] at h1
  have h2 := List.all_eq_true.mp zu_ok ci (List.mem_range.mpr h)
  refine ⟨?_, ?_⟩
  · cases hc : vwCl[ci]? with
    | none => rw [hc] at h1; cases h1
    | some q =>
      rw [hc] at h1
      obtain ⟨a, b, d⟩ := q
      have e : zT ci = b := by
        unfold zT
        rw [List.getD_eq_getElem?_getD, hc]
        rfl
      have h3 := Option.some.inj h1
      rw [e, ← (Prod.mk.inj h3).1, ← (Prod.mk.inj h3).2]
  · intro w hw
    obtain ⟨k, hk, e⟩ := List.mem_map.mp hw
    rw [← e]
    exact zwq_in (List.all_eq_true.mp h2 k hk)
theorem zty {ci : Nat} (h : ci < 12) : ∃ ty : Nat → FieldType, (∀ k, k < znF ci → parseFieldDescriptor (zT ci k).2.2.1 = some (ty k)) ∧ (∀ k, k < znF ci → (zft ci k = 0 ∧ ty k = .int ∨ zft ci k = 1 ∧ ty k = .boolean ∨ zft ci k = 2 ∧ ((∃ n, ty k = .object n) ∨ ∃ t, ty k = .array t))) := by
  have key : ∀ ci : Nat, ci < 12 → ∀ k : Nat, k < znF ci → ∃ t : FieldType, parseFieldDescriptor (zT ci k).2.2.1 = some t ∧ (zft ci k = 0 ∧ t = .int ∨ zft ci k = 1 ∧ t = .boolean ∨ zft ci k = 2 ∧ ((∃ n, t = .object n) ∨ ∃ t', t = .array t')) := by
    have hz : (List.range 12).all (fun ci => (List.range (znF ci)).all (fun k => match parseFieldDescriptor (zT ci k).2.2.1 with
      | some .int => zft ci k == 0
      | some .boolean => zft ci k == 1
      | some (.object _) => zft ci k == 2
      | some (.array _) => zft ci k == 2
      | _ => false)) = true := by decide +kernel
    intro ci hc k hk
    have h1 := List.all_eq_true.mp (List.all_eq_true.mp hz ci (List.mem_range.mpr hc)) k (List.mem_range.mpr hk)
    cases hp : parseFieldDescriptor (zT ci k).2.2.1 with
    | none => rw [hp] at h1; cases h1
    | some t =>
      rw [hp] at h1
      cases t <;> first | (cases h1; done) | (refine ⟨_, rfl, ?_⟩; have h1 := beq_iff_eq.mp h1; simp [h1])
  refine ⟨fun k => if hk : k < znF ci then (key ci h k hk).choose else .int, ?_, ?_⟩
  · intro k hk
    simp only [dif_pos hk]
    exact (key ci h k hk).choose_spec.1
  · intro k hk
    simp only [dif_pos hk]
    exact (key ci h k hk).choose_spec.2
theorem znm {ci : Nat} (h : ci < 12) : ∀ a, a < znF ci → ∀ b, b < znF ci → a ≠ b → (zT ci a).2.1 ≠ (zT ci b).2.1 := by
  have hz : (List.range 12).all (fun ci => (List.range (znF ci)).all (fun a => (List.range (znF ci)).all (fun b => decide (a = b) || decide ((zT ci a).2.1 ≠ (zT ci b).2.1)))) = true := by decide +kernel
  intro a ha b hb hab
  have h1 := List.all_eq_true.mp (List.all_eq_true.mp (List.all_eq_true.mp hz ci (List.mem_range.mpr h)) a (List.mem_range.mpr ha)) b (List.mem_range.mpr hb)
  simp only [Bool.or_eq_true, decide_eq_true_eq] at h1
  exact h1.resolve_left hab
theorem zfn {ci k : Nat} (h : ci < 12) (hk : k < znF ci) : (zT ci k).2.2.2 = zfin ci k ∧ (zT ci k).1 = zCn ci ∧ zon ci = zCn ci := by
  have hz : (List.range 12).all (fun ci => (List.range (znF ci)).all (fun k => decide ((zT ci k).2.2.2 = zfin ci k) && decide ((zT ci k).1 = zCn ci) && decide (zon ci = zCn ci))) = true := by decide +kernel
  have h1 := List.all_eq_true.mp (List.all_eq_true.mp hz ci (List.mem_range.mpr h)) k (List.mem_range.mpr hk)
  simp only [Bool.and_eq_true, decide_eq_true_eq] at h1
  exact ⟨h1.1.1, h1.1.2, h1.2⟩
def ztys (cs : Nat → ClassId) : List (ClassId × FieldType) := [(cs 1, .int), (cs 2, .byte), (cs 3, .boolean), (cs 4, .long), (cs 5, .object "PooledWaves$Player"), (cs 6, .object "PooledWaves$Sheet")]
/-- the words that a state carries beside the tables' -/
def znws : List Cond := lw_tbl.filter (fun w => match w with
  | .methodLinkNest _ _ _ _ => true
  | .fieldLinkNest _ _ _ _ _ _ => true
  | .castable _ _ => true
  | _ => false)
def zsT (k : Nat) : String := (["go", "seg", "play", "mark", "loop", "until"] : List String).getD k ""
def zsX (k : Nat) : Nat := ([72, 78, 116, 118, 120, 122] : List Nat).getD k 0
/-- the array that is cloned -/
def zO9 (t : Nat) (f : Int → Int) (A : Nat → Prop) (U : State) (HH : Heap) : Prop := ∃ cell : Cell, HH[t]? = some cell ∧ cell.vm.isStatics = false ∧ cell.vm ≠ .unknown ∧ U.vm.findClass "[I" = some cell.cls ∧ cell.slots.size = 5 ∧ (∀ j : Nat, j < 5 → cell.slots[j]? = some (.int (Int32.ofInt (f j)))) ∧ ¬ A t
/-- what is only read: the script, the static arrays, the texts -/
def zRO (A : Nat → Prop) (ad : Nat → Nat) (sv : Value) (U : State) (HH : Heap) (h : zH) : Prop :=
  va_T .int (ad 899) h.2.2.2 (fun j => .int (Int32.ofInt (h.1 899 j))) A U HH ∧
  (∀ k, k = 900 ∨ k = 901 ∨ k = 902 → va_T .int (ad k) 5 (fun j => .int (Int32.ofInt (h.1 k j))) A U HH ∧ va_Z (zsN k).1 (zsN k).2.1 (zsN k).2.2 (.ref (ad k)) A U HH) ∧
  va_Z (zsN (-1)).1 (zsN (-1)).2.1 (zsN (-1)).2.2 (.int 1) A U HH ∧ va_Z (zsN 1200).1 (zsN 1200).2.1 (zsN 1200).2.2 sv A U HH ∧
  (∀ k, k < 6 → va_O "java/lang/String" (ad (1000 + k)) A U HH ∧ va_OF "java/lang/String" "coder" "B" (.int (Int32.ofInt (h.1 (1000 + k) 1))) (ad (1000 + k)) A U HH ∧ va_OF "java/lang/String" "value" "[B" (.ref (ad (1100 + k))) (ad (1000 + k)) A U HH ∧ va_T .byte (ad (1100 + k)) (zslen.getD k 0) (fun j => .int (Int32.ofInt (h.1 (1100 + k) j))) A U HH ∧ h.2.1 (1000 + k) 0 = 1100 + k ∧ vk_R "PooledWaves$Reader" (zsX k) (zsT k) (ad (1000 + k)) U) ∧
  (∀ w ∈ znws, va_Nw w U) ∧ va_AO "PooledWaves$Player" U ∧ va_AO "PooledWaves$Sheet" U ∧ zO9 (ad 900) (h.1 900) A U HH
theorem zRO.moved {A : Nat → Prop} {ad : Nat → Nat} {sv : Value} {s U : State} {HH : Heap} {h : zH} (hW : s.WarmedH U.vm) (r : zRO A ad sv s HH h) : zRO A ad sv U HH h := by
  obtain ⟨r1, r2, r3, r4, r5, r6, r7, r8, r9⟩ := r
  have hv := hW.alike
  refine ⟨r1.moved hv, fun k hk => ⟨(r2 k hk).1.moved hv, (r2 k hk).2.moved hv⟩, r3.moved hv, r4.moved hv, fun k hk => ?_, fun w hw => ?_, r7.moved hv, r8.moved hv, ?_⟩
  · obtain ⟨a1, a2, a3, a4, a5, a6⟩ := r5 k hk
    exact ⟨va_O.moved hv a1, va_OF.moved hv a2, va_OF.moved hv a3, a4.moved hv, a5, a6.warm hW⟩
  · have hz := r6 w hw
    have h2 := (List.mem_filter.mp hw).2
    cases w <;> first | (cases h2; done) | exact va_Nw.warmM hW hz | exact va_Nw.warmF hW hz | exact va_Nw.warmC hW hz
  · obtain ⟨cell, a1, a2, a3, a4, a5⟩ := r9
    exact ⟨cell, a1, a2, a3, by rw [hv.findClass]; exact a4, a5⟩
theorem zRO.kept {A : Nat → Prop} {ad : Nat → Nat} {sv : Value} {U : State} {H H1 : Heap} {h : zH} (hq : ∀ a : Nat, a < H.size → ¬ A a → H1[a]? = H[a]?) (r : zRO A ad sv U H h) : zRO A ad sv U H1 h := by
  obtain ⟨r1, r2, r3, r4, r5, r6, r7, r8, r9⟩ := r
  refine ⟨r1.kept hq, fun k hk => ⟨(r2 k hk).1.kept hq, (r2 k hk).2.kept hq⟩, r3.kept hq, r4.kept hq, fun k hk => ?_, r6, r7, r8, ?_⟩
  · obtain ⟨a1, a2, a3, a4, a5, a6⟩ := r5 k hk
    exact ⟨a1.kept hq, a2.kept hq, a3.kept hq, a4.kept hq, a5, a6⟩
  · obtain ⟨cell, a1, a2, a3, a4, a5, a6, a7⟩ := r9
    exact ⟨cell, by rw [hq _ (Array.getElem?_eq_some_iff.mp a1).1 a7]; exact a1, a2, a3, a4, a5, a6, a7⟩
theorem zRO.narrow {A B : Nat → Prop} {ad : Nat → Nat} {sv : Value} {U : State} {H : Heap} {h : zH} (hAB : ∀ q, B q → A q) (r : zRO A ad sv U H h) : zRO B ad sv U H h := by
  obtain ⟨r1, r2, r3, r4, r5, r6, r7, r8, r9⟩ := r
  refine ⟨r1.narrow hAB, fun k hk => ⟨(r2 k hk).1.narrow hAB, (r2 k hk).2.narrow hAB⟩, r3.narrow hAB, r4.narrow hAB, fun k hk => ?_, r6, r7, r8, ?_⟩
  · obtain ⟨a1, a2, a3, a4, a5, a6⟩ := r5 k hk
    exact ⟨a1.narrow hAB, a2.narrow hAB, a3.narrow hAB, a4.narrow hAB, a5, a6⟩
  · obtain ⟨cell, a1, a2, a3, a4, a5, a6, a7⟩ := r9
    exact ⟨cell, a1, a2, a3, a4, a5, a6, fun z => a7 (hAB _ z)⟩
/-- two heaps are alike in what is only read -/
theorem zRO.same {A : Nat → Prop} {ad ad' : Nat → Nat} {sv : Value} {U : State} {H : Heap} {h h' : zH} (e1 : ∀ p, 899 ≤ p → h'.1 p = h.1 p) (e2 : ∀ p, 899 ≤ p → h'.2.1 p = h.2.1 p) (e3 : h'.2.2.2 = h.2.2.2) (e4 : ∀ p, 899 ≤ p → ad' p = ad p) (r : zRO A ad sv U H h) : zRO A ad' sv U H h' := by
  obtain ⟨r1, r2, r3, r4, r5, r6, r7, r8, r9⟩ := r
  refine ⟨?_, fun k hk => ?_, r3, r4, fun k hk => ?_, r6, r7, r8, by rw [e4 900 (by omega), e1 900 (by omega)]; exact r9⟩
  · rw [e4 899 (by omega), e3, e1 899 (by omega)]; exact r1
  · rw [e4 k (by omega), e1 k (by omega)]; exact r2 k hk
  · rw [e4 (1000 + k) (by omega), e4 (1100 + k) (by omega), e1 (1000 + k) (by omega), e1 (1100 + k) (by omega), e2 (1000 + k) (by omega)]; exact r5 k hk
def zWd (D : va_G) (cs : Nat → ClassId) (A : Nat → Prop) (s : State) (sv : Value) (H : Heap) (locs : List Loc) (ad : Nat → Nat) (h : zH) : Prop :=
  va_P D vwCl (zws cs ad h) H ∧ va_D A (zws cs ad h) ∧ va_S A s.heap H locs ∧ zokI h ∧ zokR h ∧ h.2.2.1 ≤ zNP ∧ zRO A ad sv s s.heap h
def zsz (p : Nat) : Nat := if (zkd p).1 = 0 then znF (zkd p).2 else (zkd p).2
def zsl : Nat → Nat
  | 0 => 0
  | n + 1 => zsl n + zsz (n + 1)
theorem zsl_mono {a b : Nat} (h : a ≤ b) : zsl a ≤ zsl b := by
  induction b with
  | zero => rw [Nat.le_zero.mp h]; exact Nat.le_refl _
  | succ b ih =>
    rcases Nat.lt_or_eq_of_le h with q | q
    · exact Nat.le_trans (ih (Nat.le_of_lt_succ q)) (Nat.le_add_right _ _)
    · rw [q]; exact Nat.le_refl _
section ZS
variable {p : Program} {l : Launch} {e : Env} {R : Room} {s : State} {mi : MethodId} {args : Array Value} {below : List Frame} {meth : Method} {c : Code} {Q : State → Prop} {D : va_G} {cs : Nat → ClassId} {A : Nat → Prop} {sv : Value} {m n0 nf : Nat} {ad0 : Nat → Nat}
/-- the frame in which a method runs -/
def zCx (p : Program) (R : Room) (s : State) (mi : MethodId) (args : Array Value) (meth : Method) (c : Code) (D : va_G) (cs : Nat → ClassId) (A : Nat → Prop) (sv : Value) (m n0 nf : Nat) : Prop :=
  p.tables.exec = Jvm.exec ∧ c.code = zb m ∧ c.maxLocals = zL m ∧ s.vm.findClass (zon (zo m)) = some mi.cls ∧ (∀ w ∈ zgt, w.before args s = true) ∧ meth.locks = false ∧ (zin m = true → meth.name = "<init>") ∧ zfr m ≤ R.frames ∧ zlo m ≤ R.locals ∧ nf - n0 ≤ R.cells ∧ zsl nf - zsl n0 ≤ R.slots ∧ va_K D vwCl (ztys cs) s ∧ (sv = .null ∨ ∃ x, sv = .ref x) ∧ (∀ q, s.heap.size ≤ q → A q)
def zG (p : Program) (l : Launch) (e : Env) (R : Room) (s : State) (mi : MethodId) (args : Array Value) (below : List Frame) (meth : Method) (c : Code) (Q : State → Prop) (D : va_G) (cs : Nat → ClassId) (A : Nat → Prop) (sv : Value) (m n0 : Nat) (ad0 : Nat → Nat) (pc : Nat) (L st : List zV) (h : zH) : Prop :=
  ∀ (ad : Nat → Nat) (H : Heap) (locs : List Loc) (ls : Array Slot), zWd D cs A s sv H locs ad h → zlr ad sv L ls → L.length = zL m → (∀ v ∈ L, zvo h.2.2.1 v) → (zhl m = false → ∀ v ∈ L, znl v = true) → (∀ v ∈ st, v.isSome = true ∧ zvo h.2.2.1 v) → n0 ≤ h.2.2.1 → (∀ q, q ≤ n0 ∨ 899 ≤ q → ad q = ad0 q) →
    W p l e R s mi args below meth c H locs (h.2.2.1 - n0) (zsl h.2.2.1 - zsl n0) Q (F0 mi pc ls (st.map (zcv ad sv)))
/-- a step that changes the stack alone -/
theorem zG_st {pc pc' : Nat} {L st st' : List zV} {h : zH} (K : zG p l e R s mi args below meth c Q D cs A sv m n0 ad0 pc' L st' h)
    (hv : zokI h → zokR h → (∀ v ∈ L, zvo h.2.2.1 v) → (∀ v ∈ st, v.isSome = true ∧ zvo h.2.2.1 v) → ∀ v ∈ st', v.isSome = true ∧ zvo h.2.2.1 v)
    (T : ∀ (ad : Nat → Nat) (H : Heap) (locs : List Loc) (ls : Array Slot), zWd D cs A s sv H locs ad h → zlr ad sv L ls → (∀ v ∈ L, zvo h.2.2.1 v) → (∀ v ∈ st, v.isSome = true ∧ zvo h.2.2.1 v) → W p l e R s mi args below meth c H locs (h.2.2.1 - n0) (zsl h.2.2.1 - zsl n0) Q (F0 mi pc' ls (st'.map (zcv ad sv))) → W p l e R s mi args below meth c H locs (h.2.2.1 - n0) (zsl h.2.2.1 - zsl n0) Q (F0 mi pc ls (st.map (zcv ad sv)))) :
    zG p l e R s mi args below meth c Q D cs A sv m n0 ad0 pc L st h := by
  intro ad H locs ls hw hl hL hvo hnl hso hn had
  exact T ad H locs ls hw hl hvo hso (K ad H locs ls hw hl hL hvo hnl (hv hw.2.2.2.1 hw.2.2.2.2.1 hvo hso) hn had)
end ZS
end
section
/-! ===== instruction by instruction ===== -/
section ZS1
variable {p : Program} {l : Launch} {e : Env} {R : Room} {s : State} {mi : MethodId} {args : Array Value} {below : List Frame} {meth : Method} {c : Code} {Q : State → Prop} {D : va_G} {cs : Nat → ClassId} {A : Nat → Prop} {sv : Value} {m n0 nf : Nat} {ad0 : Nat → Nat}
variable {pc len : Nat} {L st : List zV} {h : zH} {q : Nat × List zV × List zV × zH}
theorem zbin_inv {f : Int → Int → Int} (ha : zbin f pc L st h = .inl q) : ∃ a b s1, st = vI b :: vI a :: s1 ∧ q = (pc, L, vI (f a b) :: s1, h) := by
  unfold zbin at ha
  split at ha
  · rename_i b a s1; exact ⟨a, b, s1, rfl, (Sum.inl.inj ha).symm⟩
  · cases ha
theorem zdv_inv {f : Int → Int → Int} (ha : zdv f pc L st h = .inl q) : ∃ a b s1, st = vI b :: vI a :: s1 ∧ b ≠ 0 ∧ q = (pc, L, vI (f a b) :: s1, h) := by
  unfold zdv at ha
  split at ha
  · rename_i b a s1
    split at ha
    · cases ha
    · rename_i hb; exact ⟨a, b, s1, rfl, hb, (Sum.inl.inj ha).symm⟩
  · cases ha
theorem zldI_inv {k : Nat} (ha : zldI k pc L st h = .inl q) : ∃ a, L[k]? = some (vI a) ∧ q = (pc, L, vI a :: st, h) := by
  unfold zldI at ha
  split at ha
  · rename_i a hk; exact ⟨a, hk, (Sum.inl.inj ha).symm⟩
  · cases ha
theorem zldL_inv {k : Nat} (ha : zldL k pc L st h = .inl q) : ∃ a, L[k]? = some (vL a) ∧ q = (pc, L, vL a :: st, h) := by
  unfold zldL at ha
  split at ha
  · rename_i a hk; exact ⟨a, hk, (Sum.inl.inj ha).symm⟩
  · cases ha
theorem zldR_inv {k : Nat} (ha : zldR k pc L st h = .inl q) : ∃ a, L[k]? = some (vR a) ∧ q = (pc, L, vR a :: st, h) := by
  unfold zldR at ha
  split at ha
  · rename_i a hk; exact ⟨a, hk, (Sum.inl.inj ha).symm⟩
  · cases ha
theorem zjmp_inv {off : Int} (ha : zjmp pc off L st h = .inl q) : ∃ t : Nat, (pc : Int) + off = (t : Int) ∧ q = (t, L, st, h) := by
  unfold zjmp at ha
  split at ha
  · rename_i h0; exact ⟨((pc : Int) + off).toNat, by omega, (Sum.inl.inj ha).symm⟩
  · cases ha
theorem zcons {v : zV} {n : Nat} {st : List zV} (hv : v.isSome = true ∧ zvo n v) (h : ∀ w ∈ st, w.isSome = true ∧ zvo n w) : ∀ w ∈ v :: st, w.isSome = true ∧ zvo n w := List.forall_mem_cons.mpr ⟨hv, h⟩
/-- a constant -/
theorem zs_push {v : zV} {pc' : Nat} (hv : v.isSome = true ∧ zvo h.2.2.1 v) (K : zG p l e R s mi args below meth c Q D cs A sv m n0 ad0 pc' L (v :: st) h)
    (row : ∀ (ad : Nat → Nat) (H : Heap) (locs : List Loc) (ls : Array Slot) (cells slots : Nat) (rest : List Value), va_S A s.heap H locs → zRO A ad sv s s.heap h → W p l e R s mi args below meth c H locs cells slots Q (F0 mi pc' ls (zcv ad sv v :: rest)) → W p l e R s mi args below meth c H locs cells slots Q (F0 mi pc ls rest)) : zG p l e R s mi args below meth c Q D cs A sv m n0 ad0 pc L st h :=
  zG_st K (fun _ _ _ hs => zcons hv hs) (fun ad H locs ls hw _ _ _ k => row ad H locs ls _ _ _ hw.2.2.1 hw.2.2.2.2.2.2 k)
theorem zs_iconst {a : Int} (cx : zCx p R s mi args meth c D cs A sv m n0 nf) (hd : decode (zb m) pc = .ok (.iconst a, len)) (hlen : ziln (.iconst a) = 0 ∨ ziln (.iconst a) = len) (ha : zac0 m (.iconst a) pc len L st h = .inl q) (K : zG p l e R s mi args below meth c Q D cs A sv m n0 ad0 q.1 q.2.1 q.2.2.1 q.2.2.2) : zG p l e R s mi args below meth c Q D cs A sv m n0 ad0 pc L st h := by
  obtain rfl : len = 1 := by simp only [ziln] at hlen; omega
  simp only [zac0] at ha
  split at ha
  · rename_i hr
    cases Sum.inl.inj ha
    exact zs_push (v := vI a) ⟨rfl, show zRI a from ⟨by omega, by omega⟩⟩ K (fun ad H locs ls _ _ rest _ _ k => lv_iconst cx.1 cx.2.1 hd rfl k)
  · cases ha
theorem zs_bipush {a : Int} (cx : zCx p R s mi args meth c D cs A sv m n0 nf) (hd : decode (zb m) pc = .ok (.bipush a, len)) (hlen : ziln (.bipush a) = 0 ∨ ziln (.bipush a) = len) (ha : zac0 m (.bipush a) pc len L st h = .inl q) (K : zG p l e R s mi args below meth c Q D cs A sv m n0 ad0 q.1 q.2.1 q.2.2.1 q.2.2.2) : zG p l e R s mi args below meth c Q D cs A sv m n0 ad0 pc L st h := by
  obtain rfl : len = 2 := by simp only [ziln] at hlen; omega
  simp only [zac0] at ha
  split at ha
  · rename_i hr
    cases Sum.inl.inj ha
    exact zs_push (v := vI a) ⟨rfl, show zRI a from ⟨by omega, by omega⟩⟩ K (fun ad H locs ls _ _ rest _ _ k => lv_bipush cx.1 cx.2.1 hd (Int8.toInt32_ofInt (by show (-128 : Int) ≤ a; omega) (by show a ≤ (127 : Int); omega)) k)
  · cases ha
theorem zs_sipush {a : Int} (cx : zCx p R s mi args meth c D cs A sv m n0 nf) (hd : decode (zb m) pc = .ok (.sipush a, len)) (hlen : ziln (.sipush a) = 0 ∨ ziln (.sipush a) = len) (ha : zac0 m (.sipush a) pc len L st h = .inl q) (K : zG p l e R s mi args below meth c Q D cs A sv m n0 ad0 q.1 q.2.1 q.2.2.1 q.2.2.2) : zG p l e R s mi args below meth c Q D cs A sv m n0 ad0 pc L st h := by
  obtain rfl : len = 3 := by simp only [ziln] at hlen; omega
  simp only [zac0] at ha
  split at ha
  · rename_i hr
    cases Sum.inl.inj ha
    exact zs_push (v := vI a) ⟨rfl, show zRI a from ⟨by omega, by omega⟩⟩ K (fun ad H locs ls _ _ rest _ _ k => lv_sipush cx.1 cx.2.1 hd (Int16.toInt32_ofInt (by show (-32768 : Int) ≤ a; omega) (by show a ≤ (32767 : Int); omega)) k)
  · cases ha
theorem zs_lconst {a : Fin 2} (cx : zCx p R s mi args meth c D cs A sv m n0 nf) (hd : decode (zb m) pc = .ok (.lconst a, len)) (hlen : ziln (.lconst a) = 0 ∨ ziln (.lconst a) = len) (ha : zac0 m (.lconst a) pc len L st h = .inl q) (K : zG p l e R s mi args below meth c Q D cs A sv m n0 ad0 q.1 q.2.1 q.2.2.1 q.2.2.2) : zG p l e R s mi args below meth c Q D cs A sv m n0 ad0 pc L st h := by
  obtain rfl : len = 1 := by simp only [ziln] at hlen; omega
  simp only [zac0] at ha
  cases Sum.inl.inj ha
  exact zs_push (v := vL ((a : Nat) : Int)) ⟨rfl, show zRL ((a : Nat) : Int) from ⟨by omega, by omega⟩⟩ K (fun ad H locs ls _ _ rest _ _ k => lv_lconst cx.1 cx.2.1 hd (Int64.ofInt_eq_ofNat).symm k)
theorem zs_null (cx : zCx p R s mi args meth c D cs A sv m n0 nf) (hd : decode (zb m) pc = .ok (.aconst_null, len)) (hlen : ziln .aconst_null = 0 ∨ ziln .aconst_null = len) (ha : zac0 m .aconst_null pc len L st h = .inl q) (K : zG p l e R s mi args below meth c Q D cs A sv m n0 ad0 q.1 q.2.1 q.2.2.1 q.2.2.2) : zG p l e R s mi args below meth c Q D cs A sv m n0 ad0 pc L st h := by
  obtain rfl : len = 1 := by simp only [ziln] at hlen; omega
  simp only [zac0] at ha
  cases Sum.inl.inj ha
  exact zs_push (v := vR 0) ⟨rfl, Or.inl (Nat.zero_le _)⟩ K (fun ad H locs ls _ _ rest _ _ k => lv_null cx.1 cx.2.1 hd k)
theorem zct_ok {o i : Nat} {a : Int} (hc : zct o i = some a) : Cond.constant (zon o) i (Int32.ofInt a) ∈ zgt := by
  have h1 := zfind hc
  rw [← zctQ_eq] at h1
  obtain ⟨x, hx, e⟩ := List.mem_map.mp h1
  have h2 := List.all_eq_true.mp zctQ_ok x hx
  rw [e] at h2
  exact zwq_in h2
theorem zcl_ok {o i : Nat} {a : Int} (hc : zcl o i = some a) : Cond.constantLong (zon o) i (Int64.ofInt a) ∈ zgt := by
  have h1 := zfind hc
  rw [← zclQ_eq] at h1
  obtain ⟨x, hx, e⟩ := List.mem_map.mp h1
  have h2 := List.all_eq_true.mp zclQ_ok x hx
  rw [e] at h2
  exact zwq_in h2
theorem zst_ok {o i k : Nat} (hc : zst o i = some k) : o = 7 ∧ k < 6 ∧ i = zsX k := by
  have h1 := zfind hc
  have hz : zstL.all (fun x => (x.1 == 7) && decide (x.2.2 < 6) && (x.2.1 == zsX x.2.2)) = true := by decide +kernel
  have h2 := List.all_eq_true.mp hz _ h1
  simp only [Bool.and_eq_true, beq_iff_eq, decide_eq_true_eq] at h2
  exact ⟨h2.1.1, h2.1.2, h2.2⟩
theorem zs_ldc {a : Nat} (cx : zCx p R s mi args meth c D cs A sv m n0 nf) (hd : decode (zb m) pc = .ok (.ldc a, len)) (hlen : ziln (.ldc a) = 0 ∨ ziln (.ldc a) = len) (ha : zac0 m (.ldc a) pc len L st h = .inl q) (K : zG p l e R s mi args below meth c Q D cs A sv m n0 ad0 q.1 q.2.1 q.2.2.1 q.2.2.2) : zG p l e R s mi args below meth c Q D cs A sv m n0 ad0 pc L st h := by
  obtain rfl : len = 2 := by simp only [ziln] at hlen; omega
  simp only [zac0] at ha
  split at ha
  · rename_i x hx
    split at ha
    · rename_i hr
      cases Sum.inl.inj ha
      exact zs_push (v := vI x) ⟨rfl, show zRI x from hr⟩ K (fun ad H locs ls _ _ rest _ _ k => lv_ldc cx.1 cx.2.1 cx.2.2.2.1 (cx.2.2.2.2.1 _ (zct_ok hx)) hd k)
    · cases ha
  · split at ha
    · rename_i j hj
      cases Sum.inl.inj ha
      obtain ⟨e1, e2, e3⟩ := zst_ok hj
      refine zs_push (v := vR (1000 + j)) ⟨rfl, Or.inr (by omega)⟩ K (fun ad H locs ls _ _ rest _ hro k => ?_)
      have hw := (hro.2.2.2.2.1 j e2).2.2.2.2.2
      rw [← e3] at hw
      have ho := cx.2.2.2.1
      rw [e1] at ho
      refine va_ldcS cx.1 cx.2.1 (own := "PooledWaves$Reader") ho hw hd ?_
      have e4 : zcv ad sv (vR (1000 + j)) = .ref (ad (1000 + j)) := by
        unfold zcv zrfo
        simp only
        rw [if_neg (by omega), if_neg (by omega)]
        rfl
      rw [e4] at k
      exact k
    · cases ha
theorem zs_ldcw {a : Nat} (cx : zCx p R s mi args meth c D cs A sv m n0 nf) (hd : decode (zb m) pc = .ok (.ldc_w a, len)) (hlen : ziln (.ldc_w a) = 0 ∨ ziln (.ldc_w a) = len) (ha : zac0 m (.ldc_w a) pc len L st h = .inl q) (K : zG p l e R s mi args below meth c Q D cs A sv m n0 ad0 q.1 q.2.1 q.2.2.1 q.2.2.2) : zG p l e R s mi args below meth c Q D cs A sv m n0 ad0 pc L st h := by
  obtain rfl : len = 3 := by simp only [ziln] at hlen; omega
  simp only [zac0] at ha
  split at ha
  · rename_i x hx
    split at ha
    · rename_i hr
      cases Sum.inl.inj ha
      exact zs_push (v := vI x) ⟨rfl, show zRI x from hr⟩ K (fun ad H locs ls _ _ rest _ _ k => lv_ldcw cx.1 cx.2.1 cx.2.2.2.1 (cx.2.2.2.2.1 _ (zct_ok hx)) hd k)
    · cases ha
  · cases ha
theorem zs_ldc2 {a : Nat} (cx : zCx p R s mi args meth c D cs A sv m n0 nf) (hd : decode (zb m) pc = .ok (.ldc2_w a, len)) (hlen : ziln (.ldc2_w a) = 0 ∨ ziln (.ldc2_w a) = len) (ha : zac0 m (.ldc2_w a) pc len L st h = .inl q) (K : zG p l e R s mi args below meth c Q D cs A sv m n0 ad0 q.1 q.2.1 q.2.2.1 q.2.2.2) : zG p l e R s mi args below meth c Q D cs A sv m n0 ad0 pc L st h := by
  obtain rfl : len = 3 := by simp only [ziln] at hlen; omega
  simp only [zac0] at ha
  split at ha
  · rename_i x hx
    split at ha
    · rename_i hr
      cases Sum.inl.inj ha
      exact zs_push (v := vL x) ⟨rfl, show zRL x from ⟨by omega, by omega⟩⟩ K (fun ad H locs ls _ _ rest _ _ k => lv_ldc2 cx.1 cx.2.1 cx.2.2.2.1 (cx.2.2.2.2.1 _ (zcl_ok hx)) hd k)
    · cases ha
  · cases ha
theorem zgs_ok {o i : Nat} {a : Int} (hc : zgs o i = some a) : (a = 900 ∨ a = 901 ∨ a = 902 ∨ a = -1 ∨ a = 1200) ∧ (Cond.fieldLink (zon o) i (zsN a).1 (zsN a).2.1 (zsN a).2.2 ∈ zgt ∨ Cond.fieldLinkNest (zon o) i (zsN a).1 (zsN a).2.1 (zsN a).2.2 "PooledWaves" ∈ znws) := by
  have h1 := zfind hc
  rw [← zgsQ_eq] at h1
  obtain ⟨x, hx, e⟩ := List.mem_map.mp h1
  have h2 := List.all_eq_true.mp zgsQ_ok x hx
  rw [e] at h2
  simp only [Bool.and_eq_true, Bool.or_eq_true, beq_iff_eq] at h2
  rcases h2 with ⟨⟨_, h4⟩, h5⟩ | ⟨⟨_, h5⟩, h4⟩
  · unfold znw at h5
    rw [Bool.and_eq_true, decide_eq_true_eq] at h5
    exact ⟨Or.inl h4, Or.inr (List.mem_filter.mpr ⟨List.mem_of_getElem? h5.1, rfl⟩)⟩
  · exact ⟨by omega, Or.inl (zwq_in h5)⟩
theorem zs_getstatic {a : Nat} (cx : zCx p R s mi args meth c D cs A sv m n0 nf) (hd : decode (zb m) pc = .ok (.getstatic a, len)) (hlen : ziln (.getstatic a) = 0 ∨ ziln (.getstatic a) = len) (ha : zac0 m (.getstatic a) pc len L st h = .inl q) (K : zG p l e R s mi args below meth c Q D cs A sv m n0 ad0 q.1 q.2.1 q.2.2.1 q.2.2.2) : zG p l e R s mi args below meth c Q D cs A sv m n0 ad0 pc L st h := by
  obtain rfl : len = 3 := by simp only [ziln] at hlen; omega
  simp only [zac0, zgst] at ha
  split at ha
  · rename_i x hx
    obtain ⟨hxs, hlk⟩ := zgs_ok hx
    have row : ∀ (v : Value) (H : Heap) (locs : List Loc) (ls : Array Slot) (cells slots : Nat) (rest : List Value), va_S A s.heap H locs → (∀ w ∈ znws, va_Nw w s) → va_Z (zsN x).1 (zsN x).2.1 (zsN x).2.2 v A s s.heap → W p l e R s mi args below meth c H locs cells slots Q (F0 mi (pc + 3) ls (v :: rest)) → W p l e R s mi args below meth c H locs cells slots Q (F0 mi pc ls rest) := by
      intro v H locs ls cells slots rest hS hN hZ k
      rcases hlk with hk | hk
      · exact va_gets cx.1 cx.2.1 hZ hS cx.2.2.2.1 (cx.2.2.2.2.1 _ hk) (fun _ z => z) hd k
      · exact va_getsN cx.1 cx.2.1 hZ hS cx.2.2.2.1 (va_Nw.use rfl (hN _ hk)) (fun _ z => z) hd k
    split at ha
    · rename_i h1
      cases Sum.inl.inj ha
      refine zs_push (v := vI 1) ⟨rfl, show zRI 1 from ⟨by omega, by omega⟩⟩ K (fun ad H locs ls _ _ rest hS hro k => row (.int 1) H locs ls _ _ rest hS hro.2.2.2.2.2.1 ?_ k)
      rw [h1]; exact hro.2.2.1
    · split at ha
      · rename_i h1 h2
        cases Sum.inl.inj ha
        refine zs_push (v := vR x.toNat) ⟨rfl, Or.inr (by omega)⟩ K (fun ad H locs ls _ _ rest hS hro k => row (zcv ad sv (vR x.toNat)) H locs ls _ _ rest hS hro.2.2.2.2.2.1 ?_ k)
        rcases hxs with rfl | rfl | rfl | rfl | rfl
        · exact (hro.2.1 900 (Or.inl rfl)).2
        · exact (hro.2.1 901 (Or.inr (Or.inl rfl))).2
        · exact (hro.2.1 902 (Or.inr (Or.inr rfl))).2
        · exact absurd rfl h1
        · exact hro.2.2.2.1
      · cases ha
  · cases ha
/-- a local -/
theorem zs_load {v : zV} {k pc' : Nat} (hk : L[k]? = some v) (hv : v.isSome = true) (K : zG p l e R s mi args below meth c Q D cs A sv m n0 ad0 pc' L (v :: st) h)
    (row : ∀ (ad : Nat → Nat) (H : Heap) (locs : List Loc) (ls : Array Slot) (cells slots : Nat) (rest : List Value), ls[k]? = some (.val (zcv ad sv v)) → W p l e R s mi args below meth c H locs cells slots Q (F0 mi pc' ls (zcv ad sv v :: rest)) → W p l e R s mi args below meth c H locs cells slots Q (F0 mi pc ls rest)) : zG p l e R s mi args below meth c Q D cs A sv m n0 ad0 pc L st h := by
  refine zG_st K (fun _ _ hL hs => zcons ⟨hv, hL v (List.mem_of_getElem? hk)⟩ hs) (fun ad H locs ls hw hl _ _ k => row ad H locs ls _ _ _ ?_ k)
  cases v with
  | none => cases hv
  | some w => exact hl.2.2 _ w hk
theorem zs_iload {a : Nat} (cx : zCx p R s mi args meth c D cs A sv m n0 nf) (hd : decode (zb m) pc = .ok (.iload a, len)) (hlen : ziln (.iload a) = 0 ∨ ziln (.iload a) = len) (ha : zac0 m (.iload a) pc len L st h = .inl q) (K : zG p l e R s mi args below meth c Q D cs A sv m n0 ad0 q.1 q.2.1 q.2.2.1 q.2.2.2) : zG p l e R s mi args below meth c Q D cs A sv m n0 ad0 pc L st h := by
  obtain rfl : len = 2 := by simp only [ziln] at hlen; omega
  simp only [zac0] at ha
  obtain ⟨x, hx, rfl⟩ := zldI_inv ha
  exact zs_load hx rfl K (fun ad H locs ls _ _ rest hk k => lv_iload cx.1 cx.2.1 hd hk k)
theorem zs_iload_n {a : Fin 4} (cx : zCx p R s mi args meth c D cs A sv m n0 nf) (hd : decode (zb m) pc = .ok (.iload_n a, len)) (hlen : ziln (.iload_n a) = 0 ∨ ziln (.iload_n a) = len) (ha : zac0 m (.iload_n a) pc len L st h = .inl q) (K : zG p l e R s mi args below meth c Q D cs A sv m n0 ad0 q.1 q.2.1 q.2.2.1 q.2.2.2) : zG p l e R s mi args below meth c Q D cs A sv m n0 ad0 pc L st h := by
  obtain rfl : len = 1 := by simp only [ziln] at hlen; omega
  simp only [zac0] at ha
  obtain ⟨x, hx, rfl⟩ := zldI_inv ha
  exact zs_load hx rfl K (fun ad H locs ls _ _ rest hk k => lv_iload_n cx.1 cx.2.1 hd rfl hk k)
theorem zs_lload {a : Nat} (cx : zCx p R s mi args meth c D cs A sv m n0 nf) (hd : decode (zb m) pc = .ok (.lload a, len)) (hlen : ziln (.lload a) = 0 ∨ ziln (.lload a) = len) (ha : zac0 m (.lload a) pc len L st h = .inl q) (K : zG p l e R s mi args below meth c Q D cs A sv m n0 ad0 q.1 q.2.1 q.2.2.1 q.2.2.2) : zG p l e R s mi args below meth c Q D cs A sv m n0 ad0 pc L st h := by
  obtain rfl : len = 2 := by simp only [ziln] at hlen; omega
  simp only [zac0] at ha
  obtain ⟨x, hx, rfl⟩ := zldL_inv ha
  exact zs_load hx rfl K (fun ad H locs ls _ _ rest hk k => lv_lload cx.1 cx.2.1 hd hk k)
theorem zs_lload_n {a : Fin 4} (cx : zCx p R s mi args meth c D cs A sv m n0 nf) (hd : decode (zb m) pc = .ok (.lload_n a, len)) (hlen : ziln (.lload_n a) = 0 ∨ ziln (.lload_n a) = len) (ha : zac0 m (.lload_n a) pc len L st h = .inl q) (K : zG p l e R s mi args below meth c Q D cs A sv m n0 ad0 q.1 q.2.1 q.2.2.1 q.2.2.2) : zG p l e R s mi args below meth c Q D cs A sv m n0 ad0 pc L st h := by
  obtain rfl : len = 1 := by simp only [ziln] at hlen; omega
  simp only [zac0] at ha
  obtain ⟨x, hx, rfl⟩ := zldL_inv ha
  exact zs_load hx rfl K (fun ad H locs ls _ _ rest hk k => lv_lload_n cx.1 cx.2.1 hd rfl hk k)
theorem zcv_ref (hsv : sv = .null ∨ ∃ x, sv = .ref x) (ad : Nat → Nat) (x : Nat) : zcv ad sv (vR x) = .null ∨ ∃ a, zcv ad sv (vR x) = .ref a := by
  show (if x = 1200 then sv else va_rf (zrfo ad x)) = .null ∨ ∃ a, (if x = 1200 then sv else va_rf (zrfo ad x)) = .ref a
  by_cases h1 : x = 1200
  · rw [if_pos h1]; exact hsv
  · rw [if_neg h1]
    unfold zrfo
    by_cases h0 : x = 0
    · rw [if_pos h0]; exact Or.inl rfl
    · rw [if_neg h0]; exact Or.inr ⟨_, rfl⟩
theorem zr_aload {cc : ByteArray} {ls : Array Slot} {rest : List Value} {H : Heap} {locs : List Loc} {cells slots : Nat} (hexec : p.tables.exec = Jvm.exec) (hb : c.code = cc) {i : Nat} {v : Value} (hv : v = .null ∨ ∃ a, v = .ref a) (hdg : decode cc pc = .ok (.aload i, 2)) (hl : ls[i]? = some (.val v)) (k : W p l e R s mi args below meth c H locs cells slots Q (F0 mi (pc + 2) ls (v :: rest))) : W p l e R s mi args below meth c H locs cells slots Q (F0 mi pc ls rest) := by
  intro T hT X
  obtain ⟨t, a, b⟩ := k T hT X
  refine ⟨t, ?_, b⟩
  rcases hv with rfl | ⟨x, rfl⟩ <;>
  · jvm_step X.here [X.here.top, hexec, hb, hdg, hl, Value.isRef]
    exact a
theorem zr_aload_n {cc : ByteArray} {ls : Array Slot} {rest : List Value} {H : Heap} {locs : List Loc} {cells slots : Nat} (hexec : p.tables.exec = Jvm.exec) (hb : c.code = cc) {i : Fin 4} {v : Value} (hv : v = .null ∨ ∃ a, v = .ref a) (hdg : decode cc pc = .ok (.aload_n i, 1)) (hl : ls[(i : Nat)]? = some (.val v)) (k : W p l e R s mi args below meth c H locs cells slots Q (F0 mi (pc + 1) ls (v :: rest))) : W p l e R s mi args below meth c H locs cells slots Q (F0 mi pc ls rest) := by
  intro T hT X
  obtain ⟨t, a, b⟩ := k T hT X
  refine ⟨t, ?_, b⟩
  rcases hv with rfl | ⟨x, rfl⟩ <;>
  · jvm_step X.here [X.here.top, hexec, hb, hdg, hl, Value.isRef]
    exact a
theorem zs_aload {a : Nat} (cx : zCx p R s mi args meth c D cs A sv m n0 nf) (hd : decode (zb m) pc = .ok (.aload a, len)) (hlen : ziln (.aload a) = 0 ∨ ziln (.aload a) = len) (ha : zac0 m (.aload a) pc len L st h = .inl q) (K : zG p l e R s mi args below meth c Q D cs A sv m n0 ad0 q.1 q.2.1 q.2.2.1 q.2.2.2) : zG p l e R s mi args below meth c Q D cs A sv m n0 ad0 pc L st h := by
  obtain rfl : len = 2 := by simp only [ziln] at hlen; omega
  simp only [zac0] at ha
  obtain ⟨x, hx, rfl⟩ := zldR_inv ha
  exact zs_load hx rfl K (fun ad H locs ls _ _ rest hk k => zr_aload cx.1 cx.2.1 (zcv_ref cx.2.2.2.2.2.2.2.2.2.2.2.2.1 ad x) hd hk k)
theorem zs_aload_n {a : Fin 4} (cx : zCx p R s mi args meth c D cs A sv m n0 nf) (hd : decode (zb m) pc = .ok (.aload_n a, len)) (hlen : ziln (.aload_n a) = 0 ∨ ziln (.aload_n a) = len) (ha : zac0 m (.aload_n a) pc len L st h = .inl q) (K : zG p l e R s mi args below meth c Q D cs A sv m n0 ad0 q.1 q.2.1 q.2.2.1 q.2.2.2) : zG p l e R s mi args below meth c Q D cs A sv m n0 ad0 pc L st h := by
  obtain rfl : len = 1 := by simp only [ziln] at hlen; omega
  simp only [zac0] at ha
  obtain ⟨x, hx, rfl⟩ := zldR_inv ha
  exact zs_load hx rfl K (fun ad H locs ls _ _ rest hk k => zr_aload_n cx.1 cx.2.1 (zcv_ref cx.2.2.2.2.2.2.2.2.2.2.2.2.1 ad x) hd hk k)
end ZS1
end
section
section ZS2
variable {p : Program} {l : Launch} {e : Env} {R : Room} {s : State} {mi : MethodId} {args : Array Value} {below : List Frame} {meth : Method} {c : Code} {Q : State → Prop} {D : va_G} {cs : Nat → ClassId} {A : Nat → Prop} {sv : Value} {m n0 nf : Nat} {ad0 : Nat → Nat}
variable {pc len : Nat} {L st : List zV} {h : zH} {q : Nat × List zV × List zV × zH}
theorem zs_bin {f : Int → Int → Int} {pc' : Nat} (ha : zbin f pc' L st h = .inl q) (K : zG p l e R s mi args below meth c Q D cs A sv m n0 ad0 q.1 q.2.1 q.2.2.1 q.2.2.2) (hR : ∀ a b, zRI a → zRI b → zRI (f a b))
    (row : ∀ (H : Heap) (locs : List Loc) (ls : Array Slot) (cells slots : Nat) (rest : List Value) (a b : Int), zRI a → zRI b → W p l e R s mi args below meth c H locs cells slots Q (F0 mi pc' ls (.int (Int32.ofInt (f a b)) :: rest)) → W p l e R s mi args below meth c H locs cells slots Q (F0 mi pc ls (.int (Int32.ofInt b) :: .int (Int32.ofInt a) :: rest))) : zG p l e R s mi args below meth c Q D cs A sv m n0 ad0 pc L st h := by
  obtain ⟨a, b, s1, rfl, rfl⟩ := zbin_inv ha
  refine zG_st K (fun _ _ _ hs => ?_) (fun ad H locs ls hw _ _ hs k => ?_)
  · have h1 := List.forall_mem_cons.mp hs
    have h2 := List.forall_mem_cons.mp h1.2
    exact zcons ⟨rfl, hR a b h2.1.2 h1.1.2⟩ h2.2
  · have h1 := List.forall_mem_cons.mp hs
    have h2 := List.forall_mem_cons.mp h1.2
    exact row H locs ls _ _ _ a b h2.1.2 h1.1.2 k
theorem zs_dv {f : Int → Int → Int} {pc' : Nat} (ha : zdv f pc' L st h = .inl q) (K : zG p l e R s mi args below meth c Q D cs A sv m n0 ad0 q.1 q.2.1 q.2.2.1 q.2.2.2) (hR : ∀ a b, zRI a → zRI b → zRI (f a b))
    (row : ∀ (H : Heap) (locs : List Loc) (ls : Array Slot) (cells slots : Nat) (rest : List Value) (a b : Int), zRI a → zRI b → ¬ Int32.ofInt b = 0 → W p l e R s mi args below meth c H locs cells slots Q (F0 mi pc' ls (.int (Int32.ofInt (f a b)) :: rest)) → W p l e R s mi args below meth c H locs cells slots Q (F0 mi pc ls (.int (Int32.ofInt b) :: .int (Int32.ofInt a) :: rest))) : zG p l e R s mi args below meth c Q D cs A sv m n0 ad0 pc L st h := by
  obtain ⟨a, b, s1, rfl, hne, rfl⟩ := zdv_inv ha
  refine zG_st K (fun _ _ _ hs => ?_) (fun ad H locs ls hw _ _ hs k => ?_)
  · have h1 := List.forall_mem_cons.mp hs
    have h2 := List.forall_mem_cons.mp h1.2
    exact zcons ⟨rfl, hR a b h2.1.2 h1.1.2⟩ h2.2
  · have h1 := List.forall_mem_cons.mp hs
    have h2 := List.forall_mem_cons.mp h1.2
    exact row H locs ls _ _ _ a b h2.1.2 h1.1.2 (fun z => hne ((zi_eq h1.1.2 zR0).mp (z.trans zi_0.symm))) k
theorem zl1 {i : Instr} (hi : ziln i = 1) (hlen : ziln i = 0 ∨ ziln i = len) : len = 1 := by omega
theorem zl3 {i : Instr} (hi : ziln i = 3) (hlen : ziln i = 0 ∨ ziln i = len) : len = 3 := by omega
theorem zl2 {i : Instr} (hi : ziln i = 2) (hlen : ziln i = 0 ∨ ziln i = len) : len = 2 := by omega
theorem zs_iadd (cx : zCx p R s mi args meth c D cs A sv m n0 nf) (hd : decode (zb m) pc = .ok (.iadd, len)) (hlen : ziln .iadd = 0 ∨ ziln .iadd = len) (ha : zac0 m .iadd pc len L st h = .inl q) (K : zG p l e R s mi args below meth c Q D cs A sv m n0 ad0 q.1 q.2.1 q.2.2.1 q.2.2.2) : zG p l e R s mi args below meth c Q D cs A sv m n0 ad0 pc L st h := by
  obtain rfl := zl1 rfl hlen
  exact zs_bin (f := fun a b => wr (a + b)) ha K (fun _ _ _ _ => wr_RI _) (fun H locs ls _ _ rest a b _ _ k => lv_iadd cx.1 cx.2.1 hd (by rw [zi_wr, Int32.ofInt_add] at k; exact k))
theorem zs_isub (cx : zCx p R s mi args meth c D cs A sv m n0 nf) (hd : decode (zb m) pc = .ok (.isub, len)) (hlen : ziln .isub = 0 ∨ ziln .isub = len) (ha : zac0 m .isub pc len L st h = .inl q) (K : zG p l e R s mi args below meth c Q D cs A sv m n0 ad0 q.1 q.2.1 q.2.2.1 q.2.2.2) : zG p l e R s mi args below meth c Q D cs A sv m n0 ad0 pc L st h := by
  obtain rfl := zl1 rfl hlen
  exact zs_bin (f := fun a b => wr (a - b)) ha K (fun _ _ _ _ => wr_RI _) (fun H locs ls _ _ rest a b _ _ k => lv_isub cx.1 cx.2.1 hd (by rw [zi_wr, Int32.ofInt_sub] at k; exact k))
theorem zs_imul (cx : zCx p R s mi args meth c D cs A sv m n0 nf) (hd : decode (zb m) pc = .ok (.imul, len)) (hlen : ziln .imul = 0 ∨ ziln .imul = len) (ha : zac0 m .imul pc len L st h = .inl q) (K : zG p l e R s mi args below meth c Q D cs A sv m n0 ad0 q.1 q.2.1 q.2.2.1 q.2.2.2) : zG p l e R s mi args below meth c Q D cs A sv m n0 ad0 pc L st h := by
  obtain rfl := zl1 rfl hlen
  exact zs_bin (f := fun a b => wr (a * b)) ha K (fun _ _ _ _ => wr_RI _) (fun H locs ls _ _ rest a b _ _ k => lv_imul cx.1 cx.2.1 hd (by rw [zi_wr, Int32.ofInt_mul] at k; exact k))
theorem zs_idiv (cx : zCx p R s mi args meth c D cs A sv m n0 nf) (hd : decode (zb m) pc = .ok (.idiv, len)) (hlen : ziln .idiv = 0 ∨ ziln .idiv = len) (ha : zac0 m .idiv pc len L st h = .inl q) (K : zG p l e R s mi args below meth c Q D cs A sv m n0 ad0 q.1 q.2.1 q.2.2.1 q.2.2.2) : zG p l e R s mi args below meth c Q D cs A sv m n0 ad0 pc L st h := by
  obtain rfl := zl1 rfl hlen
  exact zs_dv (f := fun a b => wr (a.tdiv b)) ha K (fun _ _ _ _ => wr_RI _) (fun H locs ls _ _ rest a b h1 h2 hne k => lv_idiv cx.1 cx.2.1 hd hne (by rw [zi_div h1 h2] at k; exact k))
theorem zs_irem (cx : zCx p R s mi args meth c D cs A sv m n0 nf) (hd : decode (zb m) pc = .ok (.irem, len)) (hlen : ziln .irem = 0 ∨ ziln .irem = len) (ha : zac0 m .irem pc len L st h = .inl q) (K : zG p l e R s mi args below meth c Q D cs A sv m n0 ad0 q.1 q.2.1 q.2.2.1 q.2.2.2) : zG p l e R s mi args below meth c Q D cs A sv m n0 ad0 pc L st h := by
  obtain rfl := zl1 rfl hlen
  exact zs_dv (f := fun a b => a.tmod b) ha K (fun _ _ h1 _ => zi_remR h1) (fun H locs ls _ _ rest a b h1 h2 hne k => lv_irem cx.1 cx.2.1 hd hne (by rw [zi_rem h1 h2] at k; exact k))
theorem zs_iand (cx : zCx p R s mi args meth c D cs A sv m n0 nf) (hd : decode (zb m) pc = .ok (.iand, len)) (hlen : ziln .iand = 0 ∨ ziln .iand = len) (ha : zac0 m .iand pc len L st h = .inl q) (K : zG p l e R s mi args below meth c Q D cs A sv m n0 ad0 q.1 q.2.1 q.2.2.1 q.2.2.2) : zG p l e R s mi args below meth c Q D cs A sv m n0 ad0 pc L st h := by
  obtain rfl := zl1 rfl hlen
  exact zs_bin (f := w2 (· &&& ·)) ha K (fun _ _ _ _ => w2_RI _ _ _) (fun H locs ls _ _ rest a b _ _ k => lv_iand cx.1 cx.2.1 hd (by rw [zi_w2] at k; exact k))
theorem zs_ior (cx : zCx p R s mi args meth c D cs A sv m n0 nf) (hd : decode (zb m) pc = .ok (.ior, len)) (hlen : ziln .ior = 0 ∨ ziln .ior = len) (ha : zac0 m .ior pc len L st h = .inl q) (K : zG p l e R s mi args below meth c Q D cs A sv m n0 ad0 q.1 q.2.1 q.2.2.1 q.2.2.2) : zG p l e R s mi args below meth c Q D cs A sv m n0 ad0 pc L st h := by
  obtain rfl := zl1 rfl hlen
  exact zs_bin (f := w2 (· ||| ·)) ha K (fun _ _ _ _ => w2_RI _ _ _) (fun H locs ls _ _ rest a b _ _ k => lv_ior cx.1 cx.2.1 hd (by rw [zi_w2] at k; exact k))
theorem zs_ixor (cx : zCx p R s mi args meth c D cs A sv m n0 nf) (hd : decode (zb m) pc = .ok (.ixor, len)) (hlen : ziln .ixor = 0 ∨ ziln .ixor = len) (ha : zac0 m .ixor pc len L st h = .inl q) (K : zG p l e R s mi args below meth c Q D cs A sv m n0 ad0 q.1 q.2.1 q.2.2.1 q.2.2.2) : zG p l e R s mi args below meth c Q D cs A sv m n0 ad0 pc L st h := by
  obtain rfl := zl1 rfl hlen
  exact zs_bin (f := w2 (· ^^^ ·)) ha K (fun _ _ _ _ => w2_RI _ _ _) (fun H locs ls _ _ rest a b _ _ k => lv_ixor cx.1 cx.2.1 hd (by rw [zi_w2] at k; exact k))
theorem zs_ishl (cx : zCx p R s mi args meth c D cs A sv m n0 nf) (hd : decode (zb m) pc = .ok (.ishl, len)) (hlen : ziln .ishl = 0 ∨ ziln .ishl = len) (ha : zac0 m .ishl pc len L st h = .inl q) (K : zG p l e R s mi args below meth c Q D cs A sv m n0 ad0 q.1 q.2.1 q.2.2.1 q.2.2.2) : zG p l e R s mi args below meth c Q D cs A sv m n0 ad0 pc L st h := by
  obtain rfl := zl1 rfl hlen
  exact zs_bin (f := w2 (fun a b => a <<< (b &&& 31))) ha K (fun _ _ _ _ => w2_RI _ _ _) (fun H locs ls _ _ rest a b _ _ k => lv_ishl cx.1 cx.2.1 hd (by rw [zi_w2] at k; exact k))
theorem zs_ishr (cx : zCx p R s mi args meth c D cs A sv m n0 nf) (hd : decode (zb m) pc = .ok (.ishr, len)) (hlen : ziln .ishr = 0 ∨ ziln .ishr = len) (ha : zac0 m .ishr pc len L st h = .inl q) (K : zG p l e R s mi args below meth c Q D cs A sv m n0 ad0 q.1 q.2.1 q.2.2.1 q.2.2.2) : zG p l e R s mi args below meth c Q D cs A sv m n0 ad0 pc L st h := by
  obtain rfl := zl1 rfl hlen
  exact zs_bin (f := w2 (fun a b => a >>> (b &&& 31))) ha K (fun _ _ _ _ => w2_RI _ _ _) (fun H locs ls _ _ rest a b _ _ k => lv_ishr cx.1 cx.2.1 hd (by rw [zi_w2] at k; exact k))
theorem zs_iushr (cx : zCx p R s mi args meth c D cs A sv m n0 nf) (hd : decode (zb m) pc = .ok (.iushr, len)) (hlen : ziln .iushr = 0 ∨ ziln .iushr = len) (ha : zac0 m .iushr pc len L st h = .inl q) (K : zG p l e R s mi args below meth c Q D cs A sv m n0 ad0 q.1 q.2.1 q.2.2.1 q.2.2.2) : zG p l e R s mi args below meth c Q D cs A sv m n0 ad0 pc L st h := by
  obtain rfl := zl1 rfl hlen
  exact zs_bin (f := w2 zusr) ha K (fun _ _ _ _ => w2_RI _ _ _) (fun H locs ls _ _ rest a b _ _ k => lv_iushr cx.1 cx.2.1 hd rfl (by rw [zi_w2] at k; exact k))
theorem zs_i2l (cx : zCx p R s mi args meth c D cs A sv m n0 nf) (hd : decode (zb m) pc = .ok (.i2l, len)) (hlen : ziln .i2l = 0 ∨ ziln .i2l = len) (ha : zac0 m .i2l pc len L st h = .inl q) (K : zG p l e R s mi args below meth c Q D cs A sv m n0 ad0 q.1 q.2.1 q.2.2.1 q.2.2.2) : zG p l e R s mi args below meth c Q D cs A sv m n0 ad0 pc L st h := by
  obtain rfl := zl1 rfl hlen
  simp only [zac0] at ha
  split at ha
  · rename_i a s1
    cases Sum.inl.inj ha
    refine zG_st K (fun _ _ _ hs => ?_) (fun ad H locs ls hw _ _ hs k => ?_)
    · have h1 := List.forall_mem_cons.mp hs
      have h3 : zRI a := h1.1.2
      exact zcons ⟨rfl, show zRL a from ⟨by omega, by omega⟩⟩ h1.2
    · have h1 := List.forall_mem_cons.mp hs
      have h3 : zRI a := h1.1.2
      exact lv_i2l cx.1 cx.2.1 hd (Int32.toInt64_ofInt h3.1 h3.2) k
  · cases ha
theorem zs_l2i (cx : zCx p R s mi args meth c D cs A sv m n0 nf) (hd : decode (zb m) pc = .ok (.l2i, len)) (hlen : ziln .l2i = 0 ∨ ziln .l2i = len) (ha : zac0 m .l2i pc len L st h = .inl q) (K : zG p l e R s mi args below meth c Q D cs A sv m n0 ad0 q.1 q.2.1 q.2.2.1 q.2.2.2) : zG p l e R s mi args below meth c Q D cs A sv m n0 ad0 pc L st h := by
  obtain rfl := zl1 rfl hlen
  simp only [zac0] at ha
  split at ha
  · rename_i a s1
    cases Sum.inl.inj ha
    refine zG_st K (fun _ _ _ hs => zcons ⟨rfl, wr_RI _⟩ (List.forall_mem_cons.mp hs).2) (fun ad H locs ls hw _ _ hs k => ?_)
    exact lv_l2i cx.1 cx.2.1 hd (Int64.toInt32_ofInt.trans (zi_wr a).symm) k
  · cases ha
theorem zs_i2b (cx : zCx p R s mi args meth c D cs A sv m n0 nf) (hd : decode (zb m) pc = .ok (.i2b, len)) (hlen : ziln .i2b = 0 ∨ ziln .i2b = len) (ha : zac0 m .i2b pc len L st h = .inl q) (K : zG p l e R s mi args below meth c Q D cs A sv m n0 ad0 q.1 q.2.1 q.2.2.1 q.2.2.2) : zG p l e R s mi args below meth c Q D cs A sv m n0 ad0 pc L st h := by
  obtain rfl := zl1 rfl hlen
  simp only [zac0] at ha
  split at ha
  · rename_i a s1
    cases Sum.inl.inj ha
    refine zG_st K (fun _ _ _ hs => zcons ⟨rfl, zt_RI _⟩ (List.forall_mem_cons.mp hs).2) (fun ad H locs ls hw _ _ hs k => ?_)
    exact lv_i2b cx.1 cx.2.1 hd (Int32.ofInt_toInt _).symm k
  · cases ha
theorem zs_i2c (cx : zCx p R s mi args meth c D cs A sv m n0 nf) (hd : decode (zb m) pc = .ok (.i2c, len)) (hlen : ziln .i2c = 0 ∨ ziln .i2c = len) (ha : zac0 m .i2c pc len L st h = .inl q) (K : zG p l e R s mi args below meth c Q D cs A sv m n0 ad0 q.1 q.2.1 q.2.2.1 q.2.2.2) : zG p l e R s mi args below meth c Q D cs A sv m n0 ad0 pc L st h := by
  obtain rfl := zl1 rfl hlen
  simp only [zac0] at ha
  split at ha
  · rename_i a s1
    cases Sum.inl.inj ha
    refine zG_st K (fun _ _ _ hs => zcons ⟨rfl, zt_RI _⟩ (List.forall_mem_cons.mp hs).2) (fun ad H locs ls hw _ _ hs k => ?_)
    exact lv_i2c cx.1 cx.2.1 hd (Int32.ofInt_toInt _).symm k
  · cases ha
theorem zs_ladd (cx : zCx p R s mi args meth c D cs A sv m n0 nf) (hd : decode (zb m) pc = .ok (.ladd, len)) (hlen : ziln .ladd = 0 ∨ ziln .ladd = len) (ha : zac0 m .ladd pc len L st h = .inl q) (K : zG p l e R s mi args below meth c Q D cs A sv m n0 ad0 q.1 q.2.1 q.2.2.1 q.2.2.2) : zG p l e R s mi args below meth c Q D cs A sv m n0 ad0 pc L st h := by
  obtain rfl := zl1 rfl hlen
  simp only [zac0] at ha
  split at ha
  · rename_i b a s1
    cases Sum.inl.inj ha
    refine zG_st K (fun _ _ _ hs => zcons ⟨rfl, zt_RL _⟩ (List.forall_mem_cons.mp (List.forall_mem_cons.mp hs).2).2) (fun ad H locs ls hw _ _ hs k => ?_)
    refine lv_ladd cx.1 cx.2.1 hd ?_
    have e1 : Int64.ofInt (wl (a + b)) = Int64.ofInt a + Int64.ofInt b := by unfold wl; rw [Int64.ofInt_toInt, Int64.ofInt_add]
    have k' : W p l e R s mi args below meth c H locs (h.2.2.1 - n0) (zsl h.2.2.1 - zsl n0) Q (F0 mi (pc + 1) ls (.long (Int64.ofInt (wl (a + b))) :: s1.map (zcv ad sv))) := k
    rw [e1] at k'
    exact k'
  · cases ha
theorem zs_lcmp (cx : zCx p R s mi args meth c D cs A sv m n0 nf) (hd : decode (zb m) pc = .ok (.lcmp, len)) (hlen : ziln .lcmp = 0 ∨ ziln .lcmp = len) (ha : zac0 m .lcmp pc len L st h = .inl q) (K : zG p l e R s mi args below meth c Q D cs A sv m n0 ad0 q.1 q.2.1 q.2.2.1 q.2.2.2) : zG p l e R s mi args below meth c Q D cs A sv m n0 ad0 pc L st h := by
  obtain rfl := zl1 rfl hlen
  simp only [zac0] at ha
  split at ha
  · rename_i b a s1
    cases Sum.inl.inj ha
    refine zG_st K (fun _ _ _ hs => zcons ⟨rfl, ?_⟩ (List.forall_mem_cons.mp (List.forall_mem_cons.mp hs).2).2) (fun ad H locs ls hw _ _ hs k => ?_)
    · show zRI (if a < b then -1 else if a = b then 0 else 1)
      split
      · exact ⟨by omega, by omega⟩
      · split <;> exact ⟨by omega, by omega⟩
    · refine W.lcmp cx.1 cx.2.1 hd ?_
      have h1 := List.forall_mem_cons.mp hs
      have h2 := List.forall_mem_cons.mp h1.2
      have ra : zRL a := h2.1.2
      have rb : zRL b := h1.1.2
      have e1 : lg_cmp (Int64.ofInt a) (Int64.ofInt b) = Int32.ofInt (if a < b then -1 else if a = b then 0 else 1) := by
        unfold lg_cmp
        simp only [gt_iff_lt, Int64.lt_iff_toInt_lt, ← Int64.toInt_inj, zl_to ra, zl_to rb]
        by_cases h3 : b < a
        · rw [if_pos h3, if_neg (by omega), if_neg (by omega)]; rfl
        · rw [if_neg h3]
          by_cases h4 : a = b
          · rw [if_pos h4, if_neg (by omega), if_pos h4]; rfl
          · rw [if_neg h4, if_pos (by omega)]; rfl
      rw [e1]
      exact k
  · cases ha
theorem zs_dup (cx : zCx p R s mi args meth c D cs A sv m n0 nf) (hd : decode (zb m) pc = .ok (.dup, len)) (hlen : ziln .dup = 0 ∨ ziln .dup = len) (ha : zac0 m .dup pc len L st h = .inl q) (K : zG p l e R s mi args below meth c Q D cs A sv m n0 ad0 q.1 q.2.1 q.2.2.1 q.2.2.2) (hsv : sv.category = 1) : zG p l e R s mi args below meth c Q D cs A sv m n0 ad0 pc L st h := by
  obtain rfl := zl1 rfl hlen
  simp only [zac0] at ha
  split at ha
  · rename_i v s1
    split at ha
    · rename_i hc
      cases Sum.inl.inj ha
      refine zG_st K (fun _ _ _ hs => zcons (List.forall_mem_cons.mp hs).1 hs) (fun ad H locs ls hw _ _ hs k => ?_)
      exact lv_dup cx.1 cx.2.1 hd ((zcat_cv hsv v).trans hc.1) k
    · cases ha
  · cases ha
theorem zs_dup2 (cx : zCx p R s mi args meth c D cs A sv m n0 nf) (hd : decode (zb m) pc = .ok (.dup2, len)) (hlen : ziln .dup2 = 0 ∨ ziln .dup2 = len) (ha : zac0 m .dup2 pc len L st h = .inl q) (K : zG p l e R s mi args below meth c Q D cs A sv m n0 ad0 q.1 q.2.1 q.2.2.1 q.2.2.2) (hsv : sv.category = 1) : zG p l e R s mi args below meth c Q D cs A sv m n0 ad0 pc L st h := by
  obtain rfl := zl1 rfl hlen
  simp only [zac0] at ha
  split at ha
  · rename_i v w s1
    split at ha
    · rename_i hc
      cases Sum.inl.inj ha
      refine zG_st K (fun _ _ _ hs => zcons (List.forall_mem_cons.mp hs).1 (zcons (List.forall_mem_cons.mp (List.forall_mem_cons.mp hs).2).1 hs)) (fun ad H locs ls hw _ _ hs k => ?_)
      exact lv_dup2_11 cx.1 cx.2.1 hd ((zcat_cv hsv v).trans hc.1) ((zcat_cv hsv w).trans hc.2.1) k
    · cases ha
  · cases ha
theorem zs_pop (cx : zCx p R s mi args meth c D cs A sv m n0 nf) (hd : decode (zb m) pc = .ok (.pop, len)) (hlen : ziln .pop = 0 ∨ ziln .pop = len) (ha : zac0 m .pop pc len L st h = .inl q) (K : zG p l e R s mi args below meth c Q D cs A sv m n0 ad0 q.1 q.2.1 q.2.2.1 q.2.2.2) (hsv : sv.category = 1) : zG p l e R s mi args below meth c Q D cs A sv m n0 ad0 pc L st h := by
  obtain rfl := zl1 rfl hlen
  simp only [zac0] at ha
  split at ha
  · rename_i v s1
    split at ha
    · rename_i hc
      cases Sum.inl.inj ha
      refine zG_st K (fun _ _ _ hs => (List.forall_mem_cons.mp hs).2) (fun ad H locs ls hw _ _ hs k => ?_)
      exact lv_pop cx.1 cx.2.1 hd ((zcat_cv hsv v).trans hc.1) k
    · cases ha
  · cases ha
/-- branches -/
theorem zs_goto {off : Int} (cx : zCx p R s mi args meth c D cs A sv m n0 nf) (hd : decode (zb m) pc = .ok (.goto off, len)) (hlen : ziln (.goto off) = 0 ∨ ziln (.goto off) = len) (ha : zac0 m (.goto off) pc len L st h = .inl q) (K : zG p l e R s mi args below meth c Q D cs A sv m n0 ad0 q.1 q.2.1 q.2.2.1 q.2.2.2) : zG p l e R s mi args below meth c Q D cs A sv m n0 ad0 pc L st h := by
  obtain rfl := zl3 rfl hlen
  simp only [zac0] at ha
  obtain ⟨t, ht, rfl⟩ := zjmp_inv ha
  exact zG_st K (fun _ _ _ hs => hs) (fun ad H locs ls hw _ _ hs k => lv_goto cx.1 cx.2.1 hd ht k)
theorem zs_br {a b : Int} {s1 : List zV} {t pc' : Nat} {cd : ClassFile.Cond} (hq : (if zcnd cd a b = true then zgo t L s1 h else zgo pc' L s1 h) = .inl q) (K : zG p l e R s mi args below meth c Q D cs A sv m n0 ad0 q.1 q.2.1 q.2.2.1 q.2.2.2) (hst : (∀ v ∈ st, v.isSome = true ∧ zvo h.2.2.1 v) → ∀ v ∈ s1, v.isSome = true ∧ zvo h.2.2.1 v)
    (row : ∀ (ad : Nat → Nat) (H : Heap) (locs : List Loc) (ls : Array Slot) (cells slots : Nat), (∀ v ∈ st, v.isSome = true ∧ zvo h.2.2.1 v) → (zcnd cd a b = true → W p l e R s mi args below meth c H locs cells slots Q (F0 mi t ls (s1.map (zcv ad sv)))) → (zcnd cd a b = false → W p l e R s mi args below meth c H locs cells slots Q (F0 mi pc' ls (s1.map (zcv ad sv)))) → W p l e R s mi args below meth c H locs cells slots Q (F0 mi pc ls (st.map (zcv ad sv)))) : zG p l e R s mi args below meth c Q D cs A sv m n0 ad0 pc L st h := by
  cases hc : zcnd cd a b with
  | true =>
    rw [hc, if_pos rfl] at hq
    cases Sum.inl.inj hq
    exact zG_st K (fun _ _ _ hs => hst hs) (fun ad H locs ls hw _ _ hs k => row ad H locs ls _ _ hs (fun _ => k) (fun z => by rw [hc] at z; cases z))
  | false =>
    rw [hc, if_neg (by decide)] at hq
    cases Sum.inl.inj hq
    exact zG_st K (fun _ _ _ hs => hst hs) (fun ad H locs ls hw _ _ hs k => row ad H locs ls _ _ hs (fun z => by rw [hc] at z; cases z) (fun _ => k))
theorem zs_if {cd : ClassFile.Cond} {off : Int} (cx : zCx p R s mi args meth c D cs A sv m n0 nf) (hd : decode (zb m) pc = .ok (.ifCond cd off, len)) (hlen : ziln (.ifCond cd off) = 0 ∨ ziln (.ifCond cd off) = len) (ha : zac0 m (.ifCond cd off) pc len L st h = .inl q) (K : zG p l e R s mi args below meth c Q D cs A sv m n0 ad0 q.1 q.2.1 q.2.2.1 q.2.2.2) : zG p l e R s mi args below meth c Q D cs A sv m n0 ad0 pc L st h := by
  obtain rfl := zl3 rfl hlen
  simp only [zac0, zif] at ha
  split at ha
  · rename_i a s1
    split at ha
    · rename_i h0
      have ht : (pc : Int) + off = ((((pc : Int) + off).toNat : Nat) : Int) := by omega
      refine zs_br ha K (fun hs => (List.forall_mem_cons.mp hs).2) (fun ad H locs ls _ _ hs k1 k2 => ?_)
      have ra : zRI a := (List.forall_mem_cons.mp hs).1.2
      cases cd
      · exact lv_if_eq cx.1 cx.2.1 hd ht (fun z => k1 (decide_eq_true ((zi_eq ra zR0).mp z))) (fun z => k2 (decide_eq_false (fun w => z ((zi_eq ra zR0).mpr w))))
      · exact lv_if_ne cx.1 cx.2.1 hd ht (fun z => k1 (decide_eq_true (fun w => z ((zi_eq ra zR0).mpr w)))) (fun z => k2 (decide_eq_false (fun w => w ((zi_eq ra zR0).mp z))))
      · exact lv_if_lt cx.1 cx.2.1 hd ht (fun z => k1 (decide_eq_true ((zi_lt ra zR0).mp z))) (fun z => k2 (decide_eq_false (fun w => z ((zi_lt ra zR0).mpr w))))
      · exact lv_if_ge cx.1 cx.2.1 hd ht (fun z => k1 (decide_eq_true ((zi_le zR0 ra).mp z))) (fun z => k2 (decide_eq_false (fun w => z ((zi_le zR0 ra).mpr w))))
      · exact lv_if_gt cx.1 cx.2.1 hd ht (fun z => k1 (decide_eq_true ((zi_lt zR0 ra).mp z))) (fun z => k2 (decide_eq_false (fun w => z ((zi_lt zR0 ra).mpr w))))
      · exact lv_if_le cx.1 cx.2.1 hd ht (fun z => k1 (decide_eq_true ((zi_le ra zR0).mp z))) (fun z => k2 (decide_eq_false (fun w => z ((zi_le ra zR0).mpr w))))
    · cases ha
  · cases ha
theorem zs_icmp {cd : ClassFile.Cond} {off : Int} (cx : zCx p R s mi args meth c D cs A sv m n0 nf) (hd : decode (zb m) pc = .ok (.if_icmp cd off, len)) (hlen : ziln (.if_icmp cd off) = 0 ∨ ziln (.if_icmp cd off) = len) (ha : zac0 m (.if_icmp cd off) pc len L st h = .inl q) (K : zG p l e R s mi args below meth c Q D cs A sv m n0 ad0 q.1 q.2.1 q.2.2.1 q.2.2.2) : zG p l e R s mi args below meth c Q D cs A sv m n0 ad0 pc L st h := by
  obtain rfl := zl3 rfl hlen
  simp only [zac0, zicmp] at ha
  split at ha
  · rename_i b a s1
    split at ha
    · rename_i h0
      have ht : (pc : Int) + off = ((((pc : Int) + off).toNat : Nat) : Int) := by omega
      refine zs_br ha K (fun hs => (List.forall_mem_cons.mp (List.forall_mem_cons.mp hs).2).2) (fun ad H locs ls _ _ hs k1 k2 => ?_)
      have rb : zRI b := (List.forall_mem_cons.mp hs).1.2
      have ra : zRI a := (List.forall_mem_cons.mp (List.forall_mem_cons.mp hs).2).1.2
      cases cd
      · exact lv_icmp_eq cx.1 cx.2.1 hd ht (fun z => k1 (decide_eq_true ((zi_eq ra rb).mp z))) (fun z => k2 (decide_eq_false (fun w => z ((zi_eq ra rb).mpr w))))
      · exact lv_icmp_ne cx.1 cx.2.1 hd ht (fun z => k1 (decide_eq_true (fun w => z ((zi_eq ra rb).mpr w)))) (fun z => k2 (decide_eq_false (fun w => w ((zi_eq ra rb).mp z))))
      · exact lv_icmp_lt cx.1 cx.2.1 hd ht (fun z => k1 (decide_eq_true ((zi_lt ra rb).mp z))) (fun z => k2 (decide_eq_false (fun w => z ((zi_lt ra rb).mpr w))))
      · exact lv_icmp_ge cx.1 cx.2.1 hd ht (fun z => k1 (decide_eq_true ((zi_le rb ra).mp z))) (fun z => k2 (decide_eq_false (fun w => z ((zi_le rb ra).mpr w))))
      · exact lv_icmp_gt cx.1 cx.2.1 hd ht (fun z => k1 (decide_eq_true ((zi_lt rb ra).mp z))) (fun z => k2 (decide_eq_false (fun w => z ((zi_lt rb ra).mpr w))))
      · exact lv_icmp_le cx.1 cx.2.1 hd ht (fun z => k1 (decide_eq_true ((zi_le ra rb).mp z))) (fun z => k2 (decide_eq_false (fun w => z ((zi_le ra rb).mpr w))))
    · cases ha
  · cases ha
theorem zs_ifnull {off : Int} (cx : zCx p R s mi args meth c D cs A sv m n0 nf) (hd : decode (zb m) pc = .ok (.ifnull off, len)) (hlen : ziln (.ifnull off) = 0 ∨ ziln (.ifnull off) = len) (ha : zac0 m (.ifnull off) pc len L st h = .inl q) (K : zG p l e R s mi args below meth c Q D cs A sv m n0 ad0 q.1 q.2.1 q.2.2.1 q.2.2.2) : zG p l e R s mi args below meth c Q D cs A sv m n0 ad0 pc L st h := by
  obtain rfl := zl3 rfl hlen
  simp only [zac0, zifnull] at ha
  split at ha
  · rename_i x s1
    split at ha
    · rename_i h0
      obtain ⟨t, ht, rfl⟩ := zjmp_inv ha
      subst h0
      exact zG_st K (fun _ _ _ hs => (List.forall_mem_cons.mp hs).2) (fun ad H locs ls hw _ _ hs k => lv_ifnullN cx.1 cx.2.1 hd ht k)
    · rename_i h0
      split at ha
      · cases ha
      · rename_i h1
        cases Sum.inl.inj ha
        refine zG_st K (fun _ _ _ hs => (List.forall_mem_cons.mp hs).2) (fun ad H locs ls hw _ _ hs k => ?_)
        have e1 : zcv ad sv (vR x) = .ref (ad x) := by
          unfold zcv zrfo
          simp only
          rw [if_neg h1, if_neg h0]
          rfl
        have k2 := lv_ifnull (x := ad x) cx.1 cx.2.1 hd k
        rw [← e1] at k2
        exact k2
  · cases ha
theorem zs_tab {dflt lo hi : Int} {offs : Array Int} (cx : zCx p R s mi args meth c D cs A sv m n0 nf) (hd : decode (zb m) pc = .ok (.tableswitch dflt lo hi offs, len)) (ha : zac0 m (.tableswitch dflt lo hi offs) pc len L st h = .inl q) (K : zG p l e R s mi args below meth c Q D cs A sv m n0 ad0 q.1 q.2.1 q.2.2.1 q.2.2.2) : zG p l e R s mi args below meth c Q D cs A sv m n0 ad0 pc L st h := by
  simp only [zac0, ztab] at ha
  split at ha
  · rename_i a s1
    split at ha
    · rename_i h0
      obtain ⟨t, ht, rfl⟩ := zjmp_inv ha
      refine zG_st K (fun _ _ _ hs => (List.forall_mem_cons.mp hs).2) (fun ad H locs ls hw _ _ hs k => ?_)
      have ra : zRI a := (List.forall_mem_cons.mp hs).1.2
      exact lv_tableOut cx.1 cx.2.1 hd (by rw [zi_to ra]; exact h0) ht k
    · rename_i h0
      split at ha
      · rename_i off ho
        obtain ⟨t, ht, rfl⟩ := zjmp_inv ha
        refine zG_st K (fun _ _ _ hs => (List.forall_mem_cons.mp hs).2) (fun ad H locs ls hw _ _ hs k => ?_)
        have ra : zRI a := (List.forall_mem_cons.mp hs).1.2
        exact lv_tableIn cx.1 cx.2.1 hd (by rw [zi_to ra]; omega) (by rw [zi_to ra]; omega) (by rw [zi_to ra]; exact ho) ht k
      · cases ha
  · cases ha
theorem zs_look {dflt : Int} {ps : Array (Int × Int)} (cx : zCx p R s mi args meth c D cs A sv m n0 nf) (hd : decode (zb m) pc = .ok (.lookupswitch dflt ps, len)) (ha : zac0 m (.lookupswitch dflt ps) pc len L st h = .inl q) (K : zG p l e R s mi args below meth c Q D cs A sv m n0 ad0 q.1 q.2.1 q.2.2.1 q.2.2.2) : zG p l e R s mi args below meth c Q D cs A sv m n0 ad0 pc L st h := by
  simp only [zac0, zlook] at ha
  split at ha
  · rename_i a s1
    split at ha
    · rename_i h0
      obtain ⟨t, ht, rfl⟩ := zjmp_inv ha
      refine zG_st K (fun _ _ _ hs => (List.forall_mem_cons.mp hs).2) (fun ad H locs ls hw _ _ hs k => ?_)
      have ra : zRI a := (List.forall_mem_cons.mp hs).1.2
      exact lv_lookup cx.1 cx.2.1 hd h0 (by rw [zi_to ra]) ht k
    · cases ha
  · cases ha
end ZS2
end
section
theorem zkd_0 : zkd 0 = (9, 0) := by decide +kernel
theorem zkd_lo : ∀ p : Nat, p ≤ 103 → (zkd p).1 = 0 → (zkd p).2 < 12 := by decide +kernel
theorem zkd_lo2 : ∀ p : Nat, p ≤ 103 → (zkd p).1 ≤ 6 ∨ (zkd p).1 = 9 := by decide +kernel
theorem zkd_hi {p : Nat} (hp : 104 ≤ p) : zkd p = (9, 0) ∨ (p = 899 ∧ zkd p = (1, 0)) ∨ ((p = 900 ∨ p = 901 ∨ p = 902) ∧ zkd p = (1, 5)) ∨ (∃ j, j < 6 ∧ p = 1000 + j ∧ zkd p = (0, 20)) ∨ ∃ j, j < 6 ∧ p = 1100 + j ∧ zkd p = (2, zslen.getD j 0) := by
  have e : zkd p = if p ≤ 103 then zkL.getD p (9, 0) else if p = 899 then (1, 0) else if p = 900 ∨ p = 901 ∨ p = 902 then (1, 5) else if 1000 ≤ p ∧ p < 1000 + 6 then (0, 20) else if 1100 ≤ p ∧ p < 1100 + 6 then (2, zslen.getD (p - 1100) 0) else (9, 0) := rfl
  rw [if_neg (by omega)] at e
  by_cases h1 : p = 899
  · rw [if_pos h1] at e; exact Or.inr (Or.inl ⟨h1, e⟩)
  rw [if_neg h1] at e
  by_cases h2 : p = 900 ∨ p = 901 ∨ p = 902
  · rw [if_pos h2] at e; exact Or.inr (Or.inr (Or.inl ⟨h2, e⟩))
  rw [if_neg h2] at e
  by_cases h3 : 1000 ≤ p ∧ p < 1000 + 6
  · rw [if_pos h3] at e; exact Or.inr (Or.inr (Or.inr (Or.inl ⟨p - 1000, by omega, by omega, e⟩)))
  rw [if_neg h3] at e
  by_cases h4 : 1100 ≤ p ∧ p < 1100 + 6
  · rw [if_pos h4] at e; exact Or.inr (Or.inr (Or.inr (Or.inr ⟨p - 1100, by omega, by omega, e⟩)))
  rw [if_neg h4] at e
  exact Or.inl e
theorem zcv_p {ad : Nat → Nat} {sv : Value} {x : Nat} (h0 : x ≠ 0) (h1 : x ≠ 1200) : zcv ad sv (vR x) = .ref (ad x) := by
  unfold zcv zrfo
  simp only
  rw [if_neg h1, if_neg h0]
  rfl
theorem zcv_rf {ad : Nat → Nat} {sv : Value} {x : Nat} (h1 : x ≠ 1200) : zcv ad sv (vR x) = va_rf (zrfo ad x) := by
  unfold zcv
  simp only
  rw [if_neg h1]
theorem zcell_o {cs : Nat → ClassId} {ad : Nat → Nat} {h : zH} {p ci : Nat} (e : zkd p = (0, ci)) : zcell cs ad h p = .inr (ci, (List.range (znF ci)).map (fun k => zfv ad h p ci k)) := by
  unfold zcell
  rw [e, if_pos rfl]
theorem zcell_i {cs : Nat → ClassId} {ad : Nat → Nat} {h : zH} {p : Nat} (e0 : (zkd p).1 ≠ 0) (e : (zkd p).1 ≤ 3) : zcell cs ad h p = .inl (cs (zkd p).1, (zkd p).2, .inl (fun j => Int32.ofInt (h.1 p j))) := by
  unfold zcell
  rw [if_neg e0, if_pos e]
theorem zcell_l {cs : Nat → ClassId} {ad : Nat → Nat} {h : zH} {p : Nat} (e : (zkd p).1 = 4) : zcell cs ad h p = .inl (cs 4, (zkd p).2, .inr (.inl (fun j => Int64.ofInt (h.1 p j)))) := by
  unfold zcell
  rw [if_neg (by omega), if_neg (by omega), if_pos e]
theorem zcell_r {cs : Nat → ClassId} {ad : Nat → Nat} {h : zH} {p : Nat} (e : 5 ≤ (zkd p).1) : zcell cs ad h p = .inl (cs (zkd p).1, (zkd p).2, .inr (.inr (.inr (.inr (fun j => zrfo ad (h.2.1 p j)))))) := by
  unfold zcell
  rw [if_neg (by omega), if_neg (by omega), if_neg (by omega)]
section ZS3
variable {p : Program} {l : Launch} {e : Env} {R : Room} {s : State} {mi : MethodId} {args : Array Value} {below : List Frame} {meth : Method} {c : Code} {Q : State → Prop} {D : va_G} {cs : Nat → ClassId} {A : Nat → Prop} {sv : Value} {m n0 nf : Nat} {ad0 : Nat → Nat}
variable {pc len : Nat} {L st : List zV} {h : zH} {q : Nat × List zV × List zV × zH}
theorem zs_getfield {a : Nat} (cx : zCx p R s mi args meth c D cs A sv m n0 nf) (hd : decode (zb m) pc = .ok (.getfield a, len)) (hlen : ziln (.getfield a) = 0 ∨ ziln (.getfield a) = len) (ha : zac0 m (.getfield a) pc len L st h = .inl q) (K : zG p l e R s mi args below meth c Q D cs A sv m n0 ad0 q.1 q.2.1 q.2.2.1 q.2.2.2) : zG p l e R s mi args below meth c Q D cs A sv m n0 ad0 pc L st h := by
  obtain rfl := zl3 rfl hlen
  simp only [zac0, zget] at ha
  split at ha
  · rename_i ci k t x s1 hf
    split at ha
    · rename_i hc
      obtain ⟨hk, hz⟩ := hc
      obtain ⟨hin, hcase⟩ := zfl_ok hf
      have hlk := cx.2.2.2.2.1 _ hin
      have key : ∀ (v : zV), (v.isSome = true) → (zokI h → zokR h → zvo h.2.2.1 v) → zG p l e R s mi args below meth c Q D cs A sv m n0 ad0 (pc + 3) L (v :: s1) h → (∀ (ad : Nat → Nat) (H : Heap) (locs : List Loc) (ls : Array Slot) (cells slots : Nat) (rest : List Value), zWd D cs A s sv H locs ad h → W p l e R s mi args below meth c H locs cells slots Q (F0 mi (pc + 3) ls (zcv ad sv v :: rest)) → W p l e R s mi args below meth c H locs cells slots Q (F0 mi pc ls (zcv ad sv (vR x) :: rest))) → zG p l e R s mi args below meth c Q D cs A sv m n0 ad0 pc L (vR x :: s1) h := by
        intro v h1 h2 K' row
        exact zG_st K' (fun i1 i2 _ hs => zcons ⟨h1, h2 i1 i2⟩ (List.forall_mem_cons.mp hs).2) (fun ad H locs ls hw _ _ hs k => row ad H locs ls _ _ _ hw k)
      have hx0 : x ≠ 0 := fun z => by rw [z, zkd_0] at hk; cases hk
      rcases hcase with ⟨rfl, hkt⟩ | ⟨hci, hkN, ht⟩
      · have hx : ∃ j, j < 6 ∧ x = 1000 + j := by
          by_cases hxl : x ≤ 103
          · have := zkd_lo x hxl (by rw [hk])
            rw [hk] at this
            exact absurd this (by decide)
          · rcases zkd_hi (p := x) (by omega) with z | ⟨_, z⟩ | ⟨_, z⟩ | ⟨j, hj, e1, _⟩ | ⟨j, _, _, z⟩
            · rw [z] at hk; cases hk
            · rw [z] at hk; cases hk
            · rw [z] at hk; cases hk
            · exact ⟨j, hj, e1⟩
            · rw [z] at hk; cases hk
        obtain ⟨j, hj, rfl⟩ := hx
        rcases hkt with ⟨rfl, rfl⟩ | ⟨rfl, rfl⟩
        · rw [if_pos rfl] at ha
          cases Sum.inl.inj ha
          refine key (vR (h.2.1 (1000 + j) (0 : Nat))) rfl ?_ K (fun ad H locs ls _ _ rest hw k => ?_)
          · intro _ i2
            have a5 := i2.2 j hj
            show h.2.1 (1000 + j) ((0 : Nat) : Int) ≤ h.2.2.1 ∨ 899 ≤ h.2.1 (1000 + j) ((0 : Nat) : Int)
            have a6 : h.2.1 (1000 + j) ((0 : Nat) : Int) = 1100 + j := a5
            omega
          · obtain ⟨_, _, hS, _, _, _, hro⟩ := hw
            obtain ⟨_, _, a3, _, a5, _⟩ := hro.2.2.2.2.1 j hj
            rw [zcv_p hx0 (by omega)]
            have a5' : h.2.1 (1000 + j) ((0 : Nat) : Int) = 1100 + j := a5
            rw [a5', zcv_p (by omega) (by omega)] at k
            exact vk_getf cx.1 cx.2.1 a3 hS cx.2.2.2.1 hlk (fun _ z => z) hd k
        · rw [if_neg (by omega)] at ha
          cases Sum.inl.inj ha
          refine key (vI (h.1 (1000 + j) (1 : Nat))) rfl (fun i1 _ => i1 _ _) K (fun ad H locs ls _ _ rest hw k => ?_)
          obtain ⟨_, _, hS, _, _, _, hro⟩ := hw
          obtain ⟨_, a2, _, _, a5, _⟩ := hro.2.2.2.2.1 j hj
          rw [zcv_p hx0 (by omega)]
          exact vk_getf cx.1 cx.2.1 a2 hS cx.2.2.2.1 hlk (fun _ z => z) hd k
      · have hxn : x ≤ 103 := by
          rcases Nat.lt_or_ge x 104 with z | z
          · omega
          · rcases zkd_hi z with z | ⟨_, z⟩ | ⟨_, z⟩ | ⟨j, hj, e1, z⟩ | ⟨j, _, _, z⟩ <;> rw [z] at hk <;> cases hk
            omega
        have hxh : x ≤ h.2.2.1 := by
          rcases hz with z | z
          · exact z
          · omega
        obtain ⟨hvc, hu⟩ := zcls hci
        have hne : ci ≠ 20 := by omega
        have hlk' : (Cond.fieldLink (zon (zo m)) a (zT ci k).1 (zT ci k).2.1 (zT ci k).2.2.1).before args s = true := by
          have e1 : zflC (zo m, a, ci, k, t) = Cond.fieldLink (zon (zo m)) a (zT ci k).1 (zT ci k).2.1 (zT ci k).2.2.1 := by unfold zflC; simp only; rw [if_neg hne]
          rw [← e1]; exact hlk
        have row : ∀ (ad : Nat → Nat) (H : Heap) (locs : List Loc) (ls : Array Slot) (cells slots : Nat) (rest : List Value), zWd D cs A s sv H locs ad h → W p l e R s mi args below meth c H locs cells slots Q (F0 mi (pc + 3) ls (zfv ad h x ci k :: rest)) → W p l e R s mi args below meth c H locs cells slots Q (F0 mi pc ls (zcv ad sv (vR x) :: rest)) := by
          intro ad H locs ls cells slots rest hw kk
          rw [zcv_p hx0 (by omega)]
          have he := zws_at cs ad (h := h) (p := x) (by omega) hxh
          rw [zcell_o hk] at he
          exact va_get cx.1 cx.2.1 cx.2.2.2.2.1 hu cx.2.2.2.1 cx.2.2.2.2.2.2.2.2.2.2.2.1 hw.1 (x - 1) he hvc k hkN hlk' (fun _ z => z) (by rw [List.getElem?_map, List.getElem?_range hkN]; rfl) hd kk
        subst ht
        by_cases h2 : zft ci k = 2
        · rw [if_pos h2] at ha
          cases Sum.inl.inj ha
          refine key (vR (h.2.1 x k)) rfl (fun _ i2 => Or.inl (i2.1 x k hxh)) K (fun ad H locs ls _ _ rest hw kk => row ad H locs ls _ _ rest hw ?_)
          have hr := hw.2.2.2.2.1.1 x k hxh
          have hn := hw.2.2.2.2.2.1
          rw [zcv_rf (by show h.2.1 x k ≠ 1200; have : zNP = 103 := rfl; omega)] at kk
          unfold zfv
          rw [if_pos h2]
          exact kk
        · rw [if_neg h2] at ha
          cases Sum.inl.inj ha
          refine key (vI (h.1 x k)) rfl (fun i1 _ => i1 _ _) K (fun ad H locs ls _ _ rest hw kk => row ad H locs ls _ _ rest hw ?_)
          unfold zfv
          rw [if_neg h2]
          exact kk
    · cases ha
  · cases ha
theorem zal_w {x : Nat} (hx : x ≤ 103) : zal h x = (zkd x).2 := by
  unfold zal
  rw [if_neg (by omega)]
theorem zs_arr {x : Nat} {i : Int} {s1 : List zV} {v : zV} {pc' : Nat} (h1 : v.isSome = true) (h2 : zokI h → zokR h → zvo h.2.2.1 v) (K : zG p l e R s mi args below meth c Q D cs A sv m n0 ad0 pc' L (v :: s1) h)
    (row : ∀ (ad : Nat → Nat) (H : Heap) (locs : List Loc) (ls : Array Slot) (cells slots : Nat) (rest : List Value), zWd D cs A s sv H locs ad h → zRI i → W p l e R s mi args below meth c H locs cells slots Q (F0 mi pc' ls (zcv ad sv v :: rest)) → W p l e R s mi args below meth c H locs cells slots Q (F0 mi pc ls (.int (Int32.ofInt i) :: zcv ad sv (vR x) :: rest))) : zG p l e R s mi args below meth c Q D cs A sv m n0 ad0 pc L (vI i :: vR x :: s1) h :=
  zG_st K (fun i1 i2 _ hs => zcons ⟨h1, h2 i1 i2⟩ (List.forall_mem_cons.mp (List.forall_mem_cons.mp hs).2).2) (fun ad H locs ls hw _ _ hs k => row ad H locs ls _ _ _ hw (List.forall_mem_cons.mp hs).1.2 k)
theorem zi_gt {i : Int} (ri : zRI i) (h0 : 0 ≤ i) : (((Int32.ofInt i).toNatClampNeg : Nat) : Int) = i := by
  rw [zi_nat ri h0]
  omega
theorem zs_ald {ks : List Nat} (hks : ∀ k ∈ ks, 1 ≤ k ∧ k ≤ 6) {pc' : Nat} (ha : zald ks pc' L st h = .inl q) (K : zG p l e R s mi args below meth c Q D cs A sv m n0 ad0 q.1 q.2.1 q.2.2.1 q.2.2.2)
    (r1 : 1 ∈ ks → (∀ (ad : Nat → Nat) (H : Heap) (locs : List Loc) (ls : Array Slot) (cells slots : Nat) (rest : List Value) (x : Nat) (i : Int), zWd D cs A s sv H locs ad h → zRI i → 0 ≤ i → i < (zkd x).2 → (zkd x).1 = 1 → 1 ≤ x → x ≤ h.2.2.1 → W p l e R s mi args below meth c H locs cells slots Q (F0 mi pc' ls (.int (Int32.ofInt (h.1 x i)) :: rest)) → W p l e R s mi args below meth c H locs cells slots Q (F0 mi pc ls (.int (Int32.ofInt i) :: .ref (ad x) :: rest))) ∧
      ∀ (ad : Nat → Nat) (H : Heap) (locs : List Loc) (ls : Array Slot) (cells slots : Nat) (rest : List Value) (t N : Nat) (f : Int → Int) (i : Int), va_S A s.heap H locs → va_T .int t N (fun j => .int (Int32.ofInt (f j))) A s s.heap → zRI i → 0 ≤ i → i < N → W p l e R s mi args below meth c H locs cells slots Q (F0 mi pc' ls (.int (Int32.ofInt (f i)) :: rest)) → W p l e R s mi args below meth c H locs cells slots Q (F0 mi pc ls (.int (Int32.ofInt i) :: .ref t :: rest)))
    (r2 : 2 ∈ ks ∨ 3 ∈ ks → (∀ (ad : Nat → Nat) (H : Heap) (locs : List Loc) (ls : Array Slot) (cells slots : Nat) (rest : List Value) (x : Nat) (i : Int), zWd D cs A s sv H locs ad h → zRI i → 0 ≤ i → i < (zkd x).2 → (zkd x).1 = 2 ∨ (zkd x).1 = 3 → 1 ≤ x → x ≤ h.2.2.1 → W p l e R s mi args below meth c H locs cells slots Q (F0 mi pc' ls (.int (Int32.ofInt (h.1 x i)) :: rest)) → W p l e R s mi args below meth c H locs cells slots Q (F0 mi pc ls (.int (Int32.ofInt i) :: .ref (ad x) :: rest))) ∧
      ∀ (ad : Nat → Nat) (H : Heap) (locs : List Loc) (ls : Array Slot) (cells slots : Nat) (rest : List Value) (t N : Nat) (f : Int → Int) (i : Int), va_S A s.heap H locs → va_T .byte t N (fun j => .int (Int32.ofInt (f j))) A s s.heap → zRI i → 0 ≤ i → i < N → W p l e R s mi args below meth c H locs cells slots Q (F0 mi pc' ls (.int (Int32.ofInt (f i)) :: rest)) → W p l e R s mi args below meth c H locs cells slots Q (F0 mi pc ls (.int (Int32.ofInt i) :: .ref t :: rest)))
    (r4 : 4 ∈ ks → ∀ (ad : Nat → Nat) (H : Heap) (locs : List Loc) (ls : Array Slot) (cells slots : Nat) (rest : List Value) (x : Nat) (i : Int), zWd D cs A s sv H locs ad h → zRI i → 0 ≤ i → i < (zkd x).2 → (zkd x).1 = 4 → 1 ≤ x → x ≤ h.2.2.1 → W p l e R s mi args below meth c H locs cells slots Q (F0 mi pc' ls (.long (Int64.ofInt (h.1 x i)) :: rest)) → W p l e R s mi args below meth c H locs cells slots Q (F0 mi pc ls (.int (Int32.ofInt i) :: .ref (ad x) :: rest)))
    (r5 : 5 ∈ ks ∨ 6 ∈ ks → ∀ (ad : Nat → Nat) (H : Heap) (locs : List Loc) (ls : Array Slot) (cells slots : Nat) (rest : List Value) (x : Nat) (i : Int), zWd D cs A s sv H locs ad h → zRI i → 0 ≤ i → i < (zkd x).2 → (zkd x).1 = 5 ∨ (zkd x).1 = 6 → 1 ≤ x → x ≤ h.2.2.1 → W p l e R s mi args below meth c H locs cells slots Q (F0 mi pc' ls (va_rf (zrfo ad (h.2.1 x i)) :: rest)) → W p l e R s mi args below meth c H locs cells slots Q (F0 mi pc ls (.int (Int32.ofInt i) :: .ref (ad x) :: rest))) : zG p l e R s mi args below meth c Q D cs A sv m n0 ad0 pc L st h := by
  unfold zald at ha
  split at ha
  · rename_i i x s1
    split at ha
    · rename_i hc
      obtain ⟨hk, hz, hi0, hi1⟩ := hc
      by_cases hx0 : x = 0
      · subst hx0
        rw [zkd_0] at ha
        simp only at ha
        rw [if_neg (by omega), if_neg (by omega)] at ha
        have : zal h 0 = 0 := by rw [zal_w (by omega), zkd_0]
        rw [this] at hi1
        exact absurd hi1 (by omega)
      by_cases hxl : x ≤ 103
      · have hxh : x ≤ h.2.2.1 := by
          rcases hz with z | z
          · exact z
          · omega
        rw [zal_w hxl] at hi1
        rcases zkd_lo2 x hxl with hk6 | hk9
        · have hz0 : (zkd x).1 ≠ 0 ∨ (zkd x).1 = 0 := by omega
          by_cases k3 : (zkd x).1 ≤ 3
          · rw [if_pos k3] at ha
            cases Sum.inl.inj ha
            refine zs_arr (v := vI (h.1 x i)) rfl (fun i1 _ => i1 _ _) K (fun ad H locs ls _ _ rest hw ri k => ?_)
            rw [zcv_p hx0 (by omega)]
            by_cases k1 : (zkd x).1 = 1
            · exact (r1 (k1 ▸ hk)).1 ad H locs ls _ _ rest x i hw ri hi0 hi1 k1 (by omega) hxh k
            · by_cases k0 : (zkd x).1 = 0
              · have := hks _ hk
                omega
              · have k23 : (zkd x).1 = 2 ∨ (zkd x).1 = 3 := by omega
                exact (r2 (k23.elim (fun z => Or.inl (z ▸ hk)) (fun z => Or.inr (z ▸ hk)))).1 ad H locs ls _ _ rest x i hw ri hi0 hi1 k23 (by omega) hxh k
          · rw [if_neg k3] at ha
            by_cases k4 : (zkd x).1 = 4
            · rw [if_pos k4] at ha
              cases Sum.inl.inj ha
              refine zs_arr (v := vL (h.1 x i)) rfl (fun i1 _ => ?_) K (fun ad H locs ls _ _ rest hw ri k => ?_)
              · have := i1 x i
                exact ⟨by omega, by omega⟩
              · rw [zcv_p hx0 (by omega)]
                exact r4 (k4 ▸ hk) ad H locs ls _ _ rest x i hw ri hi0 hi1 k4 (by omega) hxh k
            · rw [if_neg k4] at ha
              cases Sum.inl.inj ha
              have k56 : (zkd x).1 = 5 ∨ (zkd x).1 = 6 := by omega
              refine zs_arr (v := vR (h.2.1 x i)) rfl (fun _ i2 => Or.inl (i2.1 x i hxh)) K (fun ad H locs ls _ _ rest hw ri k => ?_)
              rw [zcv_p hx0 (by omega)]
              have hr := hw.2.2.2.2.1.1 x i hxh
              have hn := hw.2.2.2.2.2.1
              rw [zcv_rf (by show h.2.1 x i ≠ 1200; have : zNP = 103 := rfl; omega)] at k
              exact r5 (k56.elim (fun z => Or.inl (z ▸ hk)) (fun z => Or.inr (z ▸ hk))) ad H locs ls _ _ rest x i hw ri hi0 hi1 k56 (by omega) hxh k
        · have := hks _ hk
          omega
      · rcases zkd_hi (p := x) (by omega) with z | ⟨rfl, z⟩ | ⟨hx9, z⟩ | ⟨j, hj, e1, z⟩ | ⟨j, hj, rfl, z⟩
        · have := hks _ hk
          rw [z] at this
          exact absurd this.2 (by decide)
        · have k1 : (zkd 899).1 = 1 := by rw [z]
          rw [if_pos (by omega)] at ha
          cases Sum.inl.inj ha
          refine zs_arr (v := vI (h.1 899 i)) rfl (fun i1 _ => i1 _ _) K (fun ad H locs ls _ _ rest hw ri k => ?_)
          rw [zcv_p (by omega) (by omega)]
          exact (r1 (k1 ▸ hk)).2 ad H locs ls _ _ rest (ad 899) h.2.2.2 (h.1 899) i hw.2.2.1 hw.2.2.2.2.2.2.1 ri hi0 (by unfold zal at hi1; rw [if_pos rfl] at hi1; exact hi1) k
        · have k1 : (zkd x).1 = 1 := by rw [z]
          rw [if_pos (by omega)] at ha
          cases Sum.inl.inj ha
          refine zs_arr (v := vI (h.1 x i)) rfl (fun i1 _ => i1 _ _) K (fun ad H locs ls _ _ rest hw ri k => ?_)
          rw [zcv_p (by omega) (by omega)]
          refine (r1 (k1 ▸ hk)).2 ad H locs ls _ _ rest (ad x) 5 (h.1 x) i hw.2.2.1 (hw.2.2.2.2.2.2.2.1 x hx9).1 ri hi0 ?_ k
          unfold zal at hi1
          rw [if_neg (by omega), z] at hi1
          exact hi1
        · have := hks _ hk
          rw [z] at this
          exact absurd this.1 (by decide)
        · have k2 : (zkd (1100 + j)).1 = 2 := by rw [z]
          rw [if_pos (by omega)] at ha
          cases Sum.inl.inj ha
          refine zs_arr (v := vI (h.1 (1100 + j) i)) rfl (fun i1 _ => i1 _ _) K (fun ad H locs ls _ _ rest hw ri k => ?_)
          rw [zcv_p (by omega) (by omega)]
          refine (r2 (Or.inl (k2 ▸ hk))).2 ad H locs ls _ _ rest (ad (1100 + j)) _ (h.1 (1100 + j)) i hw.2.2.1 (hw.2.2.2.2.2.2.2.2.2.2.1 j hj).2.2.2.1 ri hi0 ?_ k
          unfold zal at hi1
          rw [if_neg (by omega), z] at hi1
          exact hi1
    · cases ha
  · cases ha
theorem zs_iaload (cx : zCx p R s mi args meth c D cs A sv m n0 nf) (hd : decode (zb m) pc = .ok (.iaload, len)) (hlen : ziln .iaload = 0 ∨ ziln .iaload = len) (ha : zac0 m .iaload pc len L st h = .inl q) (K : zG p l e R s mi args below meth c Q D cs A sv m n0 ad0 q.1 q.2.1 q.2.2.1 q.2.2.2) : zG p l e R s mi args below meth c Q D cs A sv m n0 ad0 pc L st h := by
  obtain rfl := zl1 rfl hlen
  simp only [zac0] at ha
  refine zs_ald (by decide) ha K (fun _ => ⟨fun ad H locs ls _ _ rest x i hw ri h0 h1 hk hx1 hxh k => ?_, fun ad H locs ls _ _ rest t N f i hS hT ri h0 h1 k => ?_⟩) (fun z => absurd z (by decide)) (fun z => absurd z (by decide)) (fun z => absurd z (by decide))
  · have he := zws_at cs ad (h := h) (p := x) hx1 hxh
    rw [zcell_i (by omega) (by omega), hk] at he
    refine va_iald cx.1 cx.2.1 cx.2.2.2.2.2.2.2.2.2.2.2.1 hw.1 (x - 1) 0 he rfl (zi_in ri h0 h1) hd ?_
    rw [zi_gt ri h0]; exact k
  · exact va_ti cx.1 cx.2.1 hT hS (zi_in ri h0 h1) (by show Value.int _ = Value.int _; rw [zi_gt ri h0]) hd k
theorem zs_baload (cx : zCx p R s mi args meth c D cs A sv m n0 nf) (hd : decode (zb m) pc = .ok (.baload, len)) (hlen : ziln .baload = 0 ∨ ziln .baload = len) (ha : zac0 m .baload pc len L st h = .inl q) (K : zG p l e R s mi args below meth c Q D cs A sv m n0 ad0 q.1 q.2.1 q.2.2.1 q.2.2.2) : zG p l e R s mi args below meth c Q D cs A sv m n0 ad0 pc L st h := by
  obtain rfl := zl1 rfl hlen
  simp only [zac0] at ha
  refine zs_ald (by decide) ha K (fun z => absurd z (by decide)) (fun _ => ⟨fun ad H locs ls _ _ rest x i hw ri h0 h1 hk hx1 hxh k => ?_, fun ad H locs ls _ _ rest t N f i hS hT ri h0 h1 k => ?_⟩) (fun z => absurd z (by decide)) (fun z => absurd z (by decide))
  · have he := zws_at cs ad (h := h) (p := x) hx1 hxh
    rw [zcell_i (by omega) (by omega)] at he
    rcases hk with hk | hk
    · rw [hk] at he
      refine va_bald cx.1 cx.2.1 cx.2.2.2.2.2.2.2.2.2.2.2.1 hw.1 (x - 1) 1 he rfl (zi_in ri h0 h1) hd ?_
      rw [zi_gt ri h0]; exact k
    · rw [hk] at he
      refine va_zald cx.1 cx.2.1 cx.2.2.2.2.2.2.2.2.2.2.2.1 hw.1 (x - 1) 2 he rfl (zi_in ri h0 h1) hd ?_
      rw [zi_gt ri h0]; exact k
  · exact va_tb cx.1 cx.2.1 hT hS (zi_in ri h0 h1) (by show Value.int _ = Value.int _; rw [zi_gt ri h0]) hd k
theorem zs_laload (cx : zCx p R s mi args meth c D cs A sv m n0 nf) (hd : decode (zb m) pc = .ok (.laload, len)) (hlen : ziln .laload = 0 ∨ ziln .laload = len) (ha : zac0 m .laload pc len L st h = .inl q) (K : zG p l e R s mi args below meth c Q D cs A sv m n0 ad0 q.1 q.2.1 q.2.2.1 q.2.2.2) : zG p l e R s mi args below meth c Q D cs A sv m n0 ad0 pc L st h := by
  obtain rfl := zl1 rfl hlen
  simp only [zac0] at ha
  refine zs_ald (by decide) ha K (fun z => absurd z (by decide)) (fun z => absurd z (by decide)) (fun _ ad H locs ls _ _ rest x i hw ri h0 h1 hk hx1 hxh k => ?_) (fun z => absurd z (by decide))
  have he := zws_at cs ad (h := h) (p := x) hx1 hxh
  rw [zcell_l hk] at he
  refine va_lald cx.1 cx.2.1 cx.2.2.2.2.2.2.2.2.2.2.2.1 hw.1 (x - 1) 3 he rfl (zi_in ri h0 h1) hd ?_
  rw [zi_gt ri h0]; exact k
theorem zs_aaload (cx : zCx p R s mi args meth c D cs A sv m n0 nf) (hd : decode (zb m) pc = .ok (.aaload, len)) (hlen : ziln .aaload = 0 ∨ ziln .aaload = len) (ha : zac0 m .aaload pc len L st h = .inl q) (K : zG p l e R s mi args below meth c Q D cs A sv m n0 ad0 q.1 q.2.1 q.2.2.1 q.2.2.2) : zG p l e R s mi args below meth c Q D cs A sv m n0 ad0 pc L st h := by
  obtain rfl := zl1 rfl hlen
  simp only [zac0] at ha
  refine zs_ald (by decide) ha K (fun z => absurd z (by decide)) (fun z => absurd z (by decide)) (fun z => absurd z (by decide)) (fun _ ad H locs ls _ _ rest x i hw ri h0 h1 hk hx1 hxh k => ?_)
  have he := zws_at cs ad (h := h) (p := x) hx1 hxh
  rw [zcell_r (by omega)] at he
  rcases hk with hk | hk
  · rw [hk] at he
    refine va_aldq cx.1 cx.2.1 cx.2.2.2.2.2.2.2.2.2.2.2.1 hw.1 (x - 1) 4 he rfl (zi_in ri h0 h1) hd ?_
    rw [zi_gt ri h0]; exact k
  · rw [hk] at he
    refine va_aldq cx.1 cx.2.1 cx.2.2.2.2.2.2.2.2.2.2.2.1 hw.1 (x - 1) 5 he rfl (zi_in ri h0 h1) hd ?_
    rw [zi_gt ri h0]; exact k
theorem zty_at (cs : Nat → ClassId) {k : Nat} (h1 : 1 ≤ k) (h6 : k ≤ 6) : ∃ t, (ztys cs)[k - 1]? = some (cs k, t) := by
  have h : k = 1 ∨ k = 2 ∨ k = 3 ∨ k = 4 ∨ k = 5 ∨ k = 6 := by omega
  rcases h with rfl | rfl | rfl | rfl | rfl | rfl <;> exact ⟨_, rfl⟩
theorem zs_alen (cx : zCx p R s mi args meth c D cs A sv m n0 nf) (hd : decode (zb m) pc = .ok (.arraylength, len)) (hlen : ziln .arraylength = 0 ∨ ziln .arraylength = len) (ha : zac0 m .arraylength pc len L st h = .inl q) (K : zG p l e R s mi args below meth c Q D cs A sv m n0 ad0 q.1 q.2.1 q.2.2.1 q.2.2.2) : zG p l e R s mi args below meth c Q D cs A sv m n0 ad0 pc L st h := by
  obtain rfl := zl1 rfl hlen
  simp only [zac0, zlen] at ha
  split at ha
  · rename_i x s1
    split at ha
    · rename_i hc
      obtain ⟨hk1, hk6, hz, hb⟩ := hc
      cases Sum.inl.inj ha
      have hx0 : x ≠ 0 := fun z => by rw [z, zkd_0] at hk6; exact absurd hk6 (by decide)
      refine zG_st K (fun _ _ _ hs => zcons ⟨rfl, show zRI (zal h x) from ⟨by omega, by omega⟩⟩ (List.forall_mem_cons.mp hs).2) (fun ad H locs ls hw _ _ hs k => ?_)
      have k' : W p l e R s mi args below meth c H locs (h.2.2.1 - n0) (zsl h.2.2.1 - zsl n0) Q (F0 mi (pc + 1) ls (.int (Int32.ofNat (zal h x)) :: s1.map (zcv ad sv))) := by
        rw [← Int32.ofInt_eq_ofNat]; exact k
      show W p l e R s mi args below meth c H locs (h.2.2.1 - n0) (zsl h.2.2.1 - zsl n0) Q (F0 mi pc ls (zcv ad sv (vR x) :: s1.map (zcv ad sv)))
      by_cases hxl : x ≤ 103
      · have hxh : x ≤ h.2.2.1 := by
          rcases hz with z | z
          · exact z
          · omega
        rw [zcv_p hx0 (by omega)]
        rw [zal_w hxl] at k'
        have he := zws_at cs ad (h := h) (p := x) (by omega) hxh
        obtain ⟨t, ht⟩ := zty_at cs hk1 hk6
        by_cases k3 : (zkd x).1 ≤ 3
        · rw [zcell_i (by omega) k3] at he
          exact va_alen cx.1 cx.2.1 cx.2.2.2.2.2.2.2.2.2.2.2.1 hw.1 (x - 1) _ he ht rfl hd k'
        · by_cases k4 : (zkd x).1 = 4
          · rw [zcell_l k4] at he
            rw [k4] at ht
            exact va_alen cx.1 cx.2.1 cx.2.2.2.2.2.2.2.2.2.2.2.1 hw.1 (x - 1) _ he ht rfl hd k'
          · rw [zcell_r (by omega)] at he
            exact va_alen cx.1 cx.2.1 cx.2.2.2.2.2.2.2.2.2.2.2.1 hw.1 (x - 1) _ he ht rfl hd k'
      · rcases zkd_hi (p := x) (by omega) with z | ⟨rfl, z⟩ | ⟨hx9, z⟩ | ⟨j, hj, e1, z⟩ | ⟨j, hj, rfl, z⟩
        · rw [z] at hk6; exact absurd hk6 (by decide)
        · rw [zcv_p (by omega) (by omega)]
          exact va_tlen cx.1 cx.2.1 hw.2.2.2.2.2.2.1 hw.2.2.1 (by unfold zal; rw [if_pos rfl]) hd k'
        · rw [zcv_p (by omega) (by omega)]
          exact va_tlen cx.1 cx.2.1 (hw.2.2.2.2.2.2.2.1 x hx9).1 hw.2.2.1 (by unfold zal; rw [if_neg (by omega), z]) hd k'
        · rw [z] at hk1; exact absurd hk1 (by decide)
        · rw [zcv_p (by omega) (by omega)]
          exact va_tlen cx.1 cx.2.1 (hw.2.2.2.2.2.2.2.2.2.2.1 j hj).2.2.2.1 hw.2.2.1 (by unfold zal; rw [if_neg (by omega), z]) hd k'
    · cases ha
  · cases ha
end ZS3
end
section
/-! ===== writes ===== -/
theorem zRO.wr {A : Nat → Prop} {ad : Nat → Nat} {sv : Value} {U : State} {H : Heap} {h : zH} {p : Nat} {k x : Int} (hp : p < 899) (r : zRO A ad sv U H h) : zRO A ad sv U H (sI h.1 p k x, h.2) :=
  zRO.same (h := h) (ad := ad) (r := r) (fun q hq => by funext j; show sI h.1 p k x q j = h.1 q j; unfold sI; rw [if_neg (by omega)]) (fun _ _ => rfl) rfl (fun _ _ => rfl)
theorem zRO.wR {A : Nat → Prop} {ad : Nat → Nat} {sv : Value} {U : State} {H : Heap} {h : zH} {p : Nat} {k : Int} {x : Nat} (hp : p < 899) (r : zRO A ad sv U H h) : zRO A ad sv U H (h.1, sR h.2.1 p k x, h.2.2) :=
  zRO.same (h := h) (ad := ad) (r := r) (fun _ _ => rfl) (fun q hq => by funext j; show sR h.2.1 p k x q j = h.2.1 q j; unfold sR; rw [if_neg (by omega)]) rfl (fun _ _ => rfl)
theorem zRO.cp {A : Nat → Prop} {ad : Nat → Nat} {sv : Value} {U : State} {H : Heap} {h : zH} {a p : Nat} {sp dp n : Int} (hp : p < 899) (r : zRO A ad sv U H h) : zRO A ad sv U H (zcpy h.1 a sp p dp n, h.2) :=
  zRO.same (h := h) (ad := ad) (r := r) (fun q hq => by funext j; show zcpy h.1 a sp p dp n q j = h.1 q j; unfold zcpy; rw [if_neg (by omega)]) (fun _ _ => rfl) rfl (fun _ _ => rfl)
theorem zokI.wr {h : zH} (i : zokI h) {p : Nat} {k x : Int} (hx : zRI x) : zokI (sI h.1 p k x, h.2) := fun q j => by
  show zRI (sI h.1 p k x q j)
  unfold sI
  split
  · exact hx
  · exact i q j
theorem zokI.cp {h : zH} (i : zokI h) {a p : Nat} {sp dp n : Int} : zokI (zcpy h.1 a sp p dp n, h.2) := fun q j => by
  show zRI (zcpy h.1 a sp p dp n q j)
  unfold zcpy
  split
  · exact i _ _
  · exact i q j
theorem zokR.wR {h : zH} (i : zokR h) {p : Nat} {k : Int} {x : Nat} (hp : p < 899) (hx : x ≤ h.2.2.1) : zokR (h.1, sR h.2.1 p k x, h.2.2) := by
  refine ⟨fun q j hq => ?_, fun j hj => ?_⟩
  · show sR h.2.1 p k x q j ≤ h.2.2.1
    unfold sR
    split
    · exact hx
    · exact i.1 q j hq
  · show sR h.2.1 p k x (1000 + j) 0 = 1100 + j
    unfold sR
    rw [if_neg (by omega)]
    exact i.2 j hj
theorem zmap_set {N k : Nat} {f g : Nat → Value} {v : Value} (hk : k < N) (h1 : g k = v) (h2 : ∀ j, j ≠ k → g j = f j) : ((List.range N).map f).set k v = (List.range N).map g := by
  apply List.ext_getElem?
  intro j
  rw [List.getElem?_set]
  by_cases hj : j < N
  · rw [List.getElem?_map, List.getElem?_range hj, List.getElem?_map, List.getElem?_range hj]
    by_cases e : k = j
    · subst e
      rw [if_pos rfl, if_pos (by simpa using hj)]
      simp [h1]
    · rw [if_neg e]
      simp [h2 j (fun z => e z.symm)]
  · have e1 : ((List.range N).map g)[j]? = none := List.getElem?_eq_none (by simp; omega)
    have e2 : ((List.range N).map f)[j]? = none := List.getElem?_eq_none (by simp; omega)
    rw [e1, e2, if_neg (by omega)]
theorem zobj_I {cs : Nat → ClassId} {ad : Nat → Nat} {h : zH} {p ci k : Nat} {x : Int} (e : zkd p = (0, ci)) (hk : k < znF ci) (ht : zft ci k ≠ 2) : (.inr (ci, ((List.range (znF ci)).map (fun k => zfv ad h p ci k)).set k (.int (Int32.ofInt x))) : va_E) = zcell cs ad (sI h.1 p k x, h.2) p := by
  rw [zcell_o e]
  congr 2
  refine zmap_set hk ?_ ?_
  · show zfv ad (sI h.1 p k x, h.2) p ci k = _
    unfold zfv sI
    rw [if_neg ht]
    simp
  · intro j hj
    show zfv ad (sI h.1 p k x, h.2) p ci j = zfv ad h p ci j
    unfold zfv sI
    simp only
    rw [if_neg (show ¬ (True ∧ (j : Int) = (k : Int)) from fun z => hj (by omega))]
theorem zobj_R {cs : Nat → ClassId} {ad : Nat → Nat} {h : zH} {p ci k x : Nat} (e : zkd p = (0, ci)) (hk : k < znF ci) (ht : zft ci k = 2) : (.inr (ci, ((List.range (znF ci)).map (fun k => zfv ad h p ci k)).set k (va_rf (zrfo ad x))) : va_E) = zcell cs ad (h.1, sR h.2.1 p k x, h.2.2) p := by
  rw [zcell_o e]
  congr 2
  refine zmap_set hk ?_ ?_
  · show zfv ad (h.1, sR h.2.1 p k x, h.2.2) p ci k = _
    unfold zfv sR
    rw [if_pos ht]
    simp
  · intro j hj
    show zfv ad (h.1, sR h.2.1 p k x, h.2.2) p ci j = zfv ad h p ci j
    unfold zfv sR
    simp only
    rw [if_neg (show ¬ (True ∧ (j : Int) = (k : Int)) from fun z => hj (by omega))]
section ZS4
variable {p : Program} {l : Launch} {e : Env} {R : Room} {s : State} {mi : MethodId} {args : Array Value} {below : List Frame} {meth : Method} {c : Code} {Q : State → Prop} {D : va_G} {cs : Nat → ClassId} {A : Nat → Prop} {sv : Value} {m n0 nf : Nat} {ad0 : Nat → Nat}
variable {pc len : Nat} {L st : List zV} {h : zH} {q : Nat × List zV × List zV × zH}
theorem zG_np (k : h.2.2.1 ≤ zNP → zG p l e R s mi args below meth c Q D cs A sv m n0 ad0 pc L st h) : zG p l e R s mi args below meth c Q D cs A sv m n0 ad0 pc L st h := fun ad H locs ls hw => k hw.2.2.2.2.2.1 ad H locs ls hw
/-- a step that writes -/
theorem zG_wr {pc' : Nat} {st' : List zV} {h' : zH} (K : zG p l e R s mi args below meth c Q D cs A sv m n0 ad0 pc' L st' h') (hn : h'.2.2.1 = h.2.2.1) (hI : (∀ v ∈ st, v.isSome = true ∧ zvo h.2.2.1 v) → zokI h → zokI h') (hR : zokR h → zokR h') (hro : ∀ ad, zRO A ad sv s s.heap h → zRO A ad sv s s.heap h')
    (hst : (∀ v ∈ st, v.isSome = true ∧ zvo h.2.2.1 v) → ∀ v ∈ st', v.isSome = true ∧ zvo h.2.2.1 v)
    (T : ∀ (ad : Nat → Nat) (H : Heap) (locs : List Loc) (ls : Array Slot) (cells slots : Nat), zWd D cs A s sv H locs ad h → (∀ v ∈ st, v.isSome = true ∧ zvo h.2.2.1 v) → (∀ (H1 : Heap) (locs1 : List Loc), va_P D vwCl (zws cs ad h') H1 → va_D A (zws cs ad h') → va_S A s.heap H1 locs1 → W p l e R s mi args below meth c H1 locs1 cells slots Q (F0 mi pc' ls (st'.map (zcv ad sv)))) → W p l e R s mi args below meth c H locs cells slots Q (F0 mi pc ls (st.map (zcv ad sv)))) : zG p l e R s mi args below meth c Q D cs A sv m n0 ad0 pc L st h := by
  intro ad H locs ls hw hl hL hvo hnl hso hn0 had
  refine T ad H locs ls _ _ hw hso (fun H1 locs1 hP hD hS => ?_)
  have k := K ad H1 locs1 ls ⟨hP, hD, hS, hI hso hw.2.2.2.1, hR hw.2.2.2.2.1, by rw [hn]; exact hw.2.2.2.2.2.1, hro ad hw.2.2.2.2.2.2⟩ hl hL (by rw [hn]; exact hvo) hnl (by rw [hn]; exact hst hso) (by rw [hn]; exact hn0) had
  rw [hn] at k
  exact k
theorem zs_putfield {a : Nat} (cx : zCx p R s mi args meth c D cs A sv m n0 nf) (hd : decode (zb m) pc = .ok (.putfield a, len)) (hlen : ziln (.putfield a) = 0 ∨ ziln (.putfield a) = len) (ha : zac0 m (.putfield a) pc len L st h = .inl q) (K : zG p l e R s mi args below meth c Q D cs A sv m n0 ad0 q.1 q.2.1 q.2.2.1 q.2.2.2) : zG p l e R s mi args below meth c Q D cs A sv m n0 ad0 pc L st h := by
  obtain rfl := zl3 rfl hlen
  have base : ∀ {ci k t x : Nat}, zfl (zo m) a = some (ci, k, t) → zkd x = (0, ci) → x ≤ h.2.2.1 → h.2.2.1 ≤ zNP → ci < 12 ∧ k < znF ci ∧ t = zft ci k ∧ x ≠ 0 ∧ x ≤ 103 ∧ (Cond.fieldLink (zon (zo m)) a (zT ci k).1 (zT ci k).2.1 (zT ci k).2.2.1).before args s = true := by
    intro ci k t x hf hk hxh hn
    obtain ⟨hin, hcase⟩ := zfl_ok hf
    have hNP : zNP = 103 := rfl
    have hx0 : x ≠ 0 := fun z => by rw [z, zkd_0] at hk; cases hk
    have hc12 := zkd_lo x (by omega) (by rw [hk])
    rw [hk] at hc12
    rcases hcase with ⟨rfl, _⟩ | ⟨h1, h2, h3⟩
    · exact absurd hc12 (by decide)
    · refine ⟨h1, h2, h3, hx0, by omega, ?_⟩
      have hlk := cx.2.2.2.2.1 _ hin
      have hne : ci ≠ 20 := by omega
      have e1 : zflC (zo m, a, ci, k, t) = Cond.fieldLink (zon (zo m)) a (zT ci k).1 (zT ci k).2.1 (zT ci k).2.2.1 := by unfold zflC; simp only; rw [if_neg hne]
      rw [← e1]; exact hlk
  simp only [zac0, zput] at ha
  split at ha
  · rename_i ci k t x y s1 hf
    split at ha
    · rename_i hc
      obtain ⟨hk, hxh, ht, hfin⟩ := hc
      cases Sum.inl.inj ha
      refine zG_np (fun hnp => ?_)
      obtain ⟨hci, hkN, htt, hx0, hx1, hlk⟩ := base hf hk hxh hnp
      obtain ⟨hvc, hu⟩ := zcls hci
      obtain ⟨ty, hty, htc⟩ := zty hci
      obtain ⟨f1, f2, f3⟩ := zfn hci hkN
      have ht2 : zft ci k ≠ 2 := by omega
      refine zG_wr K rfl (fun hs i => i.wr (List.forall_mem_cons.mp hs).1.2) (fun r => r) (fun ad r => r.wr (by omega)) (fun hs => (List.forall_mem_cons.mp (List.forall_mem_cons.mp hs).2).2) (fun ad H locs ls cells slots hw hs kk => ?_)
      have he := zws_at cs ad (h := h) (p := y) (by omega) hxh
      rw [zcell_o hk] at he
      have hset : (zws cs ad h).set (y - 1) (ad y, .inr (ci, ((List.range (znF ci)).map (fun k => zfv ad h y ci k)).set k (.int (Int32.ofInt x)))) = zws cs ad (sI h.1 y k x, h.2) := zws_set (h' := (sI h.1 y k x, h.2)) (by omega) hxh rfl (fun q hq => zcell_sI hq) (zobj_I hk hkN ht2)
      have hcv : (vI x :: vR y :: s1).map (zcv ad sv) = .int (Int32.ofInt x) :: .ref (ad y) :: s1.map (zcv ad sv) := by
        show _ :: zcv ad sv (vR y) :: _ = _
        rw [zcv_p hx0 (by omega)]
        rfl
      have hnar : narrow (ty k) (.int (Int32.ofInt x)) = .int (Int32.ofInt x) ∧ fits (ty k) (.int (Int32.ofInt x)) = true := by
        rcases htc k hkN with ⟨_, e1⟩ | ⟨e0, e1⟩ | ⟨e0, _⟩
        · rw [e1]; exact ⟨rfl, rfl⟩
        · rw [e1]
          have hx01 : x = 0 ∨ x = 1 := by omega
          rcases hx01 with rfl | rfl
          · exact ⟨by decide, by decide⟩
          · exact ⟨by decide, by decide⟩
        · exact absurd e0 ht2
      rw [hcv]
      by_cases hfi : zfin ci k = true
      · have hin2 : zin m = true ∧ zo m = ci := hfin.resolve_left (by rw [hfi]; decide)
        refine va_putF cx.1 cx.2.1 cx.2.2.2.2.1 hu ty hty (znm hci) cx.2.2.2.1 cx.2.2.2.2.2.2.2.2.2.2.2.1 hw.1 hw.2.1 hw.2.2.1 (y - 1) he hvc k hkN hlk (fun _ z => z) (by rw [f1]; exact hfi) (cx.2.2.2.2.2.2.1 hin2.1) (by rw [f2, hin2.2, f3]) (hty k hkN) hnar.1 hnar.2 (by simpa using hkN) hd (fun H1 locs1 hP hD hS => ?_)
        rw [hset] at hP hD
        exact kk H1 locs1 hP hD hS
      · refine va_put cx.1 cx.2.1 cx.2.2.2.2.1 hu ty hty (znm hci) cx.2.2.2.1 cx.2.2.2.2.2.2.2.2.2.2.2.1 hw.1 hw.2.1 hw.2.2.1 (y - 1) he hvc k hkN hlk (fun _ z => z) (by rw [f1]; simpa using hfi) (hty k hkN) hnar.1 hnar.2 (by simpa using hkN) hd (fun H1 locs1 hP hD hS => ?_)
        rw [hset] at hP hD
        exact kk H1 locs1 hP hD hS
    · cases ha
  · rename_i ci k t x y s1 hf
    split at ha
    · rename_i hc
      obtain ⟨hk, hxh, ht, hq, hfin⟩ := hc
      cases Sum.inl.inj ha
      refine zG_np (fun hnp => ?_)
      have hNP : zNP = 103 := rfl
      obtain ⟨hci, hkN, htt, hx0, hx1, hlk⟩ := base hf hk hxh hnp
      obtain ⟨hvc, hu⟩ := zcls hci
      obtain ⟨ty, hty, htc⟩ := zty hci
      obtain ⟨f1, f2, f3⟩ := zfn hci hkN
      have ht2 : zft ci k = 2 := by omega
      refine zG_wr K rfl (fun hs i => i) (fun r => r.wR (by omega) hq) (fun ad r => r.wR (by omega)) (fun hs => (List.forall_mem_cons.mp (List.forall_mem_cons.mp hs).2).2) (fun ad H locs ls cells slots hw hs kk => ?_)
      have he := zws_at cs ad (h := h) (p := y) (by omega) hxh
      rw [zcell_o hk] at he
      have hset : (zws cs ad h).set (y - 1) (ad y, .inr (ci, ((List.range (znF ci)).map (fun k => zfv ad h y ci k)).set k (va_rf (zrfo ad x)))) = zws cs ad (h.1, sR h.2.1 y k x, h.2.2) := zws_set (h' := (h.1, sR h.2.1 y k x, h.2.2)) (by omega) hxh rfl (fun q hq => zcell_sR hq) (zobj_R hk hkN ht2)
      have hcv : (vR x :: vR y :: s1).map (zcv ad sv) = va_rf (zrfo ad x) :: .ref (ad y) :: s1.map (zcv ad sv) := by
        show zcv ad sv (vR x) :: zcv ad sv (vR y) :: _ = _
        rw [zcv_p hx0 (by omega), zcv_rf (by omega)]
      have hnar : narrow (ty k) (va_rf (zrfo ad x)) = va_rf (zrfo ad x) ∧ fits (ty k) (va_rf (zrfo ad x)) = true := by
        rcases htc k hkN with ⟨e0, _⟩ | ⟨e0, _⟩ | ⟨_, ⟨n, e1⟩ | ⟨n, e1⟩⟩
        · omega
        · omega
        · rw [e1]
          cases zrfo ad x <;> exact ⟨rfl, rfl⟩
        · rw [e1]
          cases zrfo ad x <;> exact ⟨rfl, rfl⟩
      rw [hcv]
      by_cases hfi : zfin ci k = true
      · have hin2 : zin m = true ∧ zo m = ci := hfin.resolve_left (by rw [hfi]; decide)
        refine va_putF cx.1 cx.2.1 cx.2.2.2.2.1 hu ty hty (znm hci) cx.2.2.2.1 cx.2.2.2.2.2.2.2.2.2.2.2.1 hw.1 hw.2.1 hw.2.2.1 (y - 1) he hvc k hkN hlk (fun _ z => z) (by rw [f1]; exact hfi) (cx.2.2.2.2.2.2.1 hin2.1) (by rw [f2, hin2.2, f3]) (hty k hkN) hnar.1 hnar.2 (by simpa using hkN) hd (fun H1 locs1 hP hD hS => ?_)
        rw [hset] at hP hD
        exact kk H1 locs1 hP hD hS
      · refine va_put cx.1 cx.2.1 cx.2.2.2.2.1 hu ty hty (znm hci) cx.2.2.2.1 cx.2.2.2.2.2.2.2.2.2.2.2.1 hw.1 hw.2.1 hw.2.2.1 (y - 1) he hvc k hkN hlk (fun _ z => z) (by rw [f1]; simpa using hfi) (hty k hkN) hnar.1 hnar.2 (by simpa using hkN) hd (fun H1 locs1 hP hD hS => ?_)
        rw [hset] at hP hD
        exact kk H1 locs1 hP hD hS
    · cases ha
  · cases ha
theorem zarr_I {cs : Nat → ClassId} {ad : Nat → Nat} {h : zH} {x : Nat} {i y : Int} (e0 : (zkd x).1 ≠ 0) (e : (zkd x).1 ≤ 3) (ri : zRI i) (h0 : 0 ≤ i) {z : Int32} (hz : z = Int32.ofInt y) : (.inl (cs (zkd x).1, (zkd x).2, .inl (upd (fun j => Int32.ofInt (h.1 x j)) (Int32.ofInt i).toNatClampNeg z)) : va_E) = zcell cs ad (sI h.1 x i y, h.2) x := by
  rw [zcell_i e0 e]
  congr 4
  funext j
  subst hz
  show (if j = (Int32.ofInt i).toNatClampNeg then Int32.ofInt y else Int32.ofInt (h.1 x j)) = Int32.ofInt (sI h.1 x i y x j)
  rw [zi_nat ri h0]
  unfold sI
  by_cases hj : j = i.toNat
  · rw [if_pos hj, if_pos ⟨rfl, by omega⟩]
  · rw [if_neg hj, if_neg (by omega)]
theorem zs_iastore (cx : zCx p R s mi args meth c D cs A sv m n0 nf) (hd : decode (zb m) pc = .ok (.iastore, len)) (hlen : ziln .iastore = 0 ∨ ziln .iastore = len) (ha : zac0 m .iastore pc len L st h = .inl q) (K : zG p l e R s mi args below meth c Q D cs A sv m n0 ad0 q.1 q.2.1 q.2.2.1 q.2.2.2) : zG p l e R s mi args below meth c Q D cs A sv m n0 ad0 pc L st h := by
  obtain rfl := zl1 rfl hlen
  simp only [zac0, zast] at ha
  split at ha
  · rename_i y i x s1
    split at ha
    · rename_i hc
      obtain ⟨hk, hxh, hi0, hi1⟩ := hc
      cases Sum.inl.inj ha
      refine zG_np (fun hnp => ?_)
      have hNP : zNP = 103 := rfl
      have hx0 : x ≠ 0 := fun z => by rw [z, zkd_0] at hk; cases hk
      refine zG_wr K rfl (fun hs i => i.wr (List.forall_mem_cons.mp hs).1.2) (fun r => r) (fun ad r => r.wr (by omega)) (fun hs => (List.forall_mem_cons.mp (List.forall_mem_cons.mp (List.forall_mem_cons.mp hs).2).2).2) (fun ad H locs ls cells slots hw hs kk => ?_)
      have ri : zRI i := (List.forall_mem_cons.mp (List.forall_mem_cons.mp hs).2).1.2
      have he := zws_at cs ad (h := h) (p := x) (by omega) hxh
      rw [zcell_i (by omega) (by omega)] at he
      have hset := zws_set (cs := cs) (ad := ad) (h := h) (h' := (sI h.1 x i y, h.2)) (p := x) (by omega) hxh rfl (fun q hq => zcell_sI hq) (zarr_I (cs := cs) (ad := ad) (h := h) (x := x) (i := i) (y := y) (by omega) (by omega) ri hi0 rfl)
      have hcv : (vI y :: vI i :: vR x :: s1).map (zcv ad sv) = .int (Int32.ofInt y) :: .int (Int32.ofInt i) :: .ref (ad x) :: s1.map (zcv ad sv) := by
        show _ :: _ :: zcv ad sv (vR x) :: _ = _
        rw [zcv_p hx0 (by omega)]
        rfl
      rw [hcv]
      refine va_iast cx.1 cx.2.1 cx.2.2.2.2.2.2.2.2.2.2.2.1 hw.1 hw.2.1 hw.2.2.1 (x - 1) 0 he (by rw [hk]; rfl) (zi_in ri hi0 hi1) hd (fun H1 locs1 hP hD hS => ?_)
      rw [hset] at hP hD
      exact kk H1 locs1 hP hD hS
    · cases ha
  · cases ha
theorem wb_RI (a : Int) : zRI (wb a) := zt_RI _
theorem zs_bastore (cx : zCx p R s mi args meth c D cs A sv m n0 nf) (hd : decode (zb m) pc = .ok (.bastore, len)) (hlen : ziln .bastore = 0 ∨ ziln .bastore = len) (ha : zac0 m .bastore pc len L st h = .inl q) (K : zG p l e R s mi args below meth c Q D cs A sv m n0 ad0 q.1 q.2.1 q.2.2.1 q.2.2.2) : zG p l e R s mi args below meth c Q D cs A sv m n0 ad0 pc L st h := by
  obtain rfl := zl1 rfl hlen
  simp only [zac0, zbast] at ha
  split at ha
  · rename_i y i x s1
    split at ha
    · rename_i hc
      obtain ⟨hxh, hi0, hi1⟩ := hc
      refine zG_np (fun hnp => ?_)
      have hNP : zNP = 103 := rfl
      by_cases k2 : (zkd x).1 = 2
      · rw [if_pos k2] at ha
        cases Sum.inl.inj ha
        have hx0 : x ≠ 0 := fun z => by rw [z, zkd_0] at k2; cases k2
        refine zG_wr K rfl (fun hs i => i.wr (wb_RI _)) (fun r => r) (fun ad r => r.wr (by omega)) (fun hs => (List.forall_mem_cons.mp (List.forall_mem_cons.mp (List.forall_mem_cons.mp hs).2).2).2) (fun ad H locs ls cells slots hw hs kk => ?_)
        have ri : zRI i := (List.forall_mem_cons.mp (List.forall_mem_cons.mp hs).2).1.2
        have he := zws_at cs ad (h := h) (p := x) (by omega) hxh
        rw [zcell_i (by omega) (by omega)] at he
        have hset := zws_set (cs := cs) (ad := ad) (h := h) (h' := (sI h.1 x i (wb y), h.2)) (p := x) (by omega) hxh rfl (fun q hq => zcell_sI hq) (zarr_I (cs := cs) (ad := ad) (h := h) (x := x) (i := i) (y := wb y) (z := vp_nar .byte (Int32.ofInt y)) (by omega) (by omega) ri hi0 (by rw [vp_nar_byte]; unfold wb; rw [Int32.ofInt_toInt]))
        have hcv : (vI y :: vI i :: vR x :: s1).map (zcv ad sv) = .int (Int32.ofInt y) :: .int (Int32.ofInt i) :: .ref (ad x) :: s1.map (zcv ad sv) := by
          show _ :: _ :: zcv ad sv (vR x) :: _ = _
          rw [zcv_p hx0 (by omega)]
          rfl
        rw [hcv]
        refine va_bast cx.1 cx.2.1 cx.2.2.2.2.2.2.2.2.2.2.2.1 hw.1 hw.2.1 hw.2.2.1 (x - 1) 1 he (by rw [k2]; rfl) (zi_in ri hi0 hi1) hd (fun H1 locs1 hP hD hS => ?_)
        rw [hset] at hP hD
        exact kk H1 locs1 hP hD hS
      · rw [if_neg k2] at ha
        split at ha
        · rename_i hc3
          cases Sum.inl.inj ha
          have hx0 : x ≠ 0 := fun z => by rw [z, zkd_0] at hc3; exact absurd hc3.1 (by decide)
          have hy : zRI y := by rcases hc3.2 with rfl | rfl <;> exact ⟨by omega, by omega⟩
          refine zG_wr K rfl (fun hs i => i.wr hy) (fun r => r) (fun ad r => r.wr (by omega)) (fun hs => (List.forall_mem_cons.mp (List.forall_mem_cons.mp (List.forall_mem_cons.mp hs).2).2).2) (fun ad H locs ls cells slots hw hs kk => ?_)
          have ri : zRI i := (List.forall_mem_cons.mp (List.forall_mem_cons.mp hs).2).1.2
          have he := zws_at cs ad (h := h) (p := x) (by omega) hxh
          rw [zcell_i (by omega) (by omega)] at he
          have hset := zws_set (cs := cs) (ad := ad) (h := h) (h' := (sI h.1 x i y, h.2)) (p := x) (by omega) hxh rfl (fun q hq => zcell_sI hq) (zarr_I (cs := cs) (ad := ad) (h := h) (x := x) (i := i) (y := y) (z := vp_nar .boolean (Int32.ofInt y)) (by omega) (by omega) ri hi0 (by rcases hc3.2 with rfl | rfl <;> decide))
          have hcv : (vI y :: vI i :: vR x :: s1).map (zcv ad sv) = .int (Int32.ofInt y) :: .int (Int32.ofInt i) :: .ref (ad x) :: s1.map (zcv ad sv) := by
            show _ :: _ :: zcv ad sv (vR x) :: _ = _
            rw [zcv_p hx0 (by omega)]
            rfl
          rw [hcv]
          refine va_zast cx.1 cx.2.1 cx.2.2.2.2.2.2.2.2.2.2.2.1 hw.1 hw.2.1 hw.2.2.1 (x - 1) 2 he (by rw [hc3.1]; rfl) (zi_in ri hi0 hi1) hd (fun H1 locs1 hP hD hS => ?_)
          rw [hset] at hP hD
          exact kk H1 locs1 hP hD hS
        · cases ha
    · cases ha
  · cases ha
theorem zs_lastore (cx : zCx p R s mi args meth c D cs A sv m n0 nf) (hd : decode (zb m) pc = .ok (.lastore, len)) (hlen : ziln .lastore = 0 ∨ ziln .lastore = len) (ha : zac0 m .lastore pc len L st h = .inl q) (K : zG p l e R s mi args below meth c Q D cs A sv m n0 ad0 q.1 q.2.1 q.2.2.1 q.2.2.2) : zG p l e R s mi args below meth c Q D cs A sv m n0 ad0 pc L st h := by
  obtain rfl := zl1 rfl hlen
  simp only [zac0, zlast] at ha
  split at ha
  · rename_i y i x s1
    split at ha
    · rename_i hc
      obtain ⟨hk, hxh, hi0, hi1, hy1, hy2⟩ := hc
      cases Sum.inl.inj ha
      refine zG_np (fun hnp => ?_)
      have hNP : zNP = 103 := rfl
      have hx0 : x ≠ 0 := fun z => by rw [z, zkd_0] at hk; cases hk
      refine zG_wr K rfl (fun hs i => i.wr ⟨hy1, hy2⟩) (fun r => r) (fun ad r => r.wr (by omega)) (fun hs => (List.forall_mem_cons.mp (List.forall_mem_cons.mp (List.forall_mem_cons.mp hs).2).2).2) (fun ad H locs ls cells slots hw hs kk => ?_)
      have ri : zRI i := (List.forall_mem_cons.mp (List.forall_mem_cons.mp hs).2).1.2
      have he := zws_at cs ad (h := h) (p := x) (by omega) hxh
      rw [zcell_l hk] at he
      have hcell : (.inl (cs 4, (zkd x).2, .inr (.inl (vp_updL (fun j => Int64.ofInt (h.1 x j)) (Int32.ofInt i).toNatClampNeg (Int64.ofInt y)))) : va_E) = zcell cs ad (sI h.1 x i y, h.2) x := by
        rw [zcell_l hk]
        congr 5
        funext j
        show (if j = (Int32.ofInt i).toNatClampNeg then Int64.ofInt y else Int64.ofInt (h.1 x j)) = Int64.ofInt (sI h.1 x i y x j)
        rw [zi_nat ri hi0]
        unfold sI
        by_cases hj : j = i.toNat
        · rw [if_pos hj, if_pos ⟨rfl, by omega⟩]
        · rw [if_neg hj, if_neg (by omega)]
      have hset := zws_set (cs := cs) (ad := ad) (h := h) (h' := (sI h.1 x i y, h.2)) (p := x) (by omega) hxh rfl (fun q hq => zcell_sI hq) hcell
      have hcv : (vL y :: vI i :: vR x :: s1).map (zcv ad sv) = .long (Int64.ofInt y) :: .int (Int32.ofInt i) :: .ref (ad x) :: s1.map (zcv ad sv) := by
        show _ :: _ :: zcv ad sv (vR x) :: _ = _
        rw [zcv_p hx0 (by omega)]
        rfl
      rw [hcv]
      refine va_last cx.1 cx.2.1 cx.2.2.2.2.2.2.2.2.2.2.2.1 hw.1 hw.2.1 hw.2.2.1 (x - 1) 3 he rfl (zi_in ri hi0 hi1) hd (fun H1 locs1 hP hD hS => ?_)
      rw [hset] at hP hD
      exact kk H1 locs1 hP hD hS
    · cases ha
  · cases ha
theorem zs_aastore (cx : zCx p R s mi args meth c D cs A sv m n0 nf) (hd : decode (zb m) pc = .ok (.aastore, len)) (hlen : ziln .aastore = 0 ∨ ziln .aastore = len) (ha : zac0 m .aastore pc len L st h = .inl q) (K : zG p l e R s mi args below meth c Q D cs A sv m n0 ad0 q.1 q.2.1 q.2.2.1 q.2.2.2) : zG p l e R s mi args below meth c Q D cs A sv m n0 ad0 pc L st h := by
  obtain rfl := zl1 rfl hlen
  simp only [zac0, zaast] at ha
  split at ha
  · rename_i y i x s1
    split at ha
    · rename_i hc
      obtain ⟨hk, hyh, hxh, hi0, hi1⟩ := hc
      cases Sum.inl.inj ha
      refine zG_np (fun hnp => ?_)
      have hNP : zNP = 103 := rfl
      have hx0 : x ≠ 0 := fun z => by rw [z, zkd_0] at hk; rcases hk with ⟨w, _⟩ | ⟨w, _⟩ <;> cases w
      have hy0 : y ≠ 0 := fun z => by rw [z, zkd_0] at hk; rcases hk with ⟨_, w⟩ | ⟨_, w⟩ <;> cases w
      refine zG_wr K rfl (fun hs i => i) (fun r => r.wR (by omega) hyh) (fun ad r => r.wR (by omega)) (fun hs => (List.forall_mem_cons.mp (List.forall_mem_cons.mp (List.forall_mem_cons.mp hs).2).2).2) (fun ad H locs ls cells slots hw hs kk => ?_)
      have ri : zRI i := (List.forall_mem_cons.mp (List.forall_mem_cons.mp hs).2).1.2
      have he := zws_at cs ad (h := h) (p := x) (by omega) hxh
      rw [zcell_r (by omega)] at he
      have hey := zws_at cs ad (h := h) (p := y) (by omega) hyh
      have hcell : (.inl (cs (zkd x).1, (zkd x).2, .inr (.inr (.inr (.inr (va_up (fun j : Nat => zrfo ad (h.2.1 x j)) (Int32.ofInt i).toNatClampNeg (some (ad y))))))) : va_E) = zcell cs ad (h.1, sR h.2.1 x i y, h.2.2) x := by
        rw [zcell_r (by omega)]
        congr 7
        funext j
        show (if j = (Int32.ofInt i).toNatClampNeg then some (ad y) else zrfo ad (h.2.1 x j)) = zrfo ad (sR h.2.1 x i y x j)
        rw [zi_nat ri hi0]
        unfold sR
        by_cases hj : j = i.toNat
        · rw [if_pos hj, if_pos ⟨rfl, by omega⟩]
          unfold zrfo
          rw [if_neg hy0]
        · rw [if_neg hj, if_neg (by omega)]
      have hset := zws_set (cs := cs) (ad := ad) (h := h) (h' := (h.1, sR h.2.1 x i y, h.2.2)) (p := x) (by omega) hxh rfl (fun q hq => zcell_sR hq) hcell
      have hcv : (vR y :: vI i :: vR x :: s1).map (zcv ad sv) = .ref (ad y) :: .int (Int32.ofInt i) :: .ref (ad x) :: s1.map (zcv ad sv) := by
        show zcv ad sv (vR y) :: _ :: zcv ad sv (vR x) :: _ = _
        rw [zcv_p hx0 (by omega), zcv_p hy0 (by omega)]
        rfl
      rw [hcv]
      rcases hk with ⟨hk, hky⟩ | ⟨hk, hky⟩
      · rw [zcell_o hky] at hey
        refine va_astq cx.1 cx.2.1 cx.2.2.2.2.2.2.2.2.2.2.2.1 hw.1 hw.2.1 hw.2.2.1 (x - 1) 4 (y - 1) 4 (r := (RX4, TX4, 10)) he (by rw [hk]; rfl) hey rfl (zi_in ri hi0 hi1) hd (fun H1 locs1 hP hD hS => ?_)
        rw [hset] at hP hD
        exact kk H1 locs1 hP hD hS
      · rw [zcell_o hky] at hey
        refine va_astq cx.1 cx.2.1 cx.2.2.2.2.2.2.2.2.2.2.2.1 hw.1 hw.2.1 hw.2.2.1 (x - 1) 5 (y - 1) 8 (r := (RX8, TX8, 3)) he (by rw [hk]; rfl) hey rfl (zi_in ri hi0 hi1) hd (fun H1 locs1 hP hD hS => ?_)
        rw [hset] at hP hD
        exact kk H1 locs1 hP hD hS
    · cases ha
  · cases ha
end ZS4
end
section
/-! ===== locals, new cells, what the library does itself ===== -/
/-- the locals that are set -/
def zll (ad : Nat → Nat) (sv : Value) (L : List zV) : List (Nat × Value) := (List.range L.length).filterMap (fun k => match L[k]? with
  | some (some w) => some (k, zcv ad sv (some w))
  | _ => none)
theorem zll_mem {ad : Nat → Nat} {sv : Value} {L : List zV} {x : Nat × Value} : x ∈ zll ad sv L ↔ ∃ w, L[x.1]? = some (some w) ∧ x.2 = zcv ad sv (some w) := by
  unfold zll
  rw [List.mem_filterMap]
  constructor
  · rintro ⟨k, _, e⟩
    split at e
    · rename_i w hw
      cases Option.some.inj e
      exact ⟨w, hw, rfl⟩
    · cases e
  · rintro ⟨w, hw, e⟩
    refine ⟨x.1, List.mem_range.mpr (List.getElem?_eq_some_iff.mp hw).1, ?_⟩
    rw [hw]
    simp only
    rw [← e]
theorem zlr_has {ad : Nat → Nat} {sv : Value} {L : List zV} {ls : Array Slot} (h : zlr ad sv L ls) : lv_has ls L.length (zll ad sv L) := by
  refine ⟨h.1, h.2.1, fun x hx => ?_⟩
  obtain ⟨w, hw, e⟩ := zll_mem.mp hx
  rw [e]
  exact h.2.2 _ w hw
theorem znl_cat {w : Int ⊕ Int ⊕ Nat} : znl (some w) = true ↔ zcat (some w) = 1 := by
  obtain a | a | a := w <;> simp [znl, zcat]
/-- a value of one word into a local -/
theorem zlr_st1 {ad : Nat → Nat} {sv : Value} (hsv : sv.category = 1) {m : Nat} {L : List zV} {ls : Array Slot} {k : Nat} {w : Int ⊕ Int ⊕ Nat} (h : zlr ad sv L ls) (hk : k < L.length) (hc : zcat (some w) = 1) (hnl : zhl m = false → ∀ v ∈ L, znl v = true) (ho : zsO m L k = true) :
    ∃ ls', storeLocals ls k (zcv ad sv (some w)) = some ls' ∧ zlr ad sv (L.set k (some w)) ls' := by
  obtain ⟨ls', e1, h1, h2, h3⟩ := lv_store1 (v := zcv ad sv (some w)) (zlr_has h) hk ((zcat_cv hsv _).trans hc)
  refine ⟨ls', e1, by rw [List.length_set]; exact h1, h2, fun j u hj => ?_⟩
  rw [List.getElem?_set] at hj
  by_cases e : k = j
  · subst e
    rw [if_pos rfl, if_pos hk] at hj
    cases Option.some.inj (Option.some.inj hj)
    exact h3 (k, _) List.mem_cons_self
  · rw [if_neg e] at hj
    refine h3 (j, zcv ad sv (some u)) (List.mem_cons_of_mem _ (List.mem_filter.mpr ⟨zll_mem.mpr ⟨u, hj, rfl⟩, ?_⟩))
    have n1 : (j == k) = false := by simpa using fun z => e z.symm
    have n2 : (j + 1 == k && (zcv ad sv (some u)).category == 2) = false := by
      by_cases z : j + 1 = k
      · have hu : znl (some u) = true := by
          by_cases hh : zhl m = true
          · unfold zsO at ho
            rw [hh] at ho
            subst z
            simp only [Bool.not_true, Bool.false_or] at ho
            rw [List.getD_eq_getElem?_getD, hj] at ho
            exact ho
          · exact hnl (by simpa using hh) _ (List.mem_of_getElem? hj)
        rw [zcat_cv hsv, znl_cat.mp hu]
        simp
      · simp [z]
    show (!(j == k) && !(j + 1 == k && (zcv ad sv (some u)).category == 2)) = true
    rw [n1, n2]
    rfl
theorem zlr_st2 {ad : Nat → Nat} {sv : Value} (hsv : sv.category = 1) {m : Nat} {L : List zV} {ls : Array Slot} {k : Nat} {w : Int ⊕ Int ⊕ Nat} (h : zlr ad sv L ls) (hk : k + 1 < L.length) (hc : zcat (some w) = 2) (hh : zhl m = true) (ho : zsO m L k = true) :
    ∃ ls', storeLocals ls k (zcv ad sv (some w)) = some ls' ∧ zlr ad sv ((L.set k (some w)).set (k + 1) none) ls' := by
  obtain ⟨ls', e1, h1, h2, h3⟩ := lv_store2 (v := zcv ad sv (some w)) (zlr_has h) hk ((zcat_cv hsv _).trans hc)
  refine ⟨ls', e1, by rw [List.length_set, List.length_set]; exact h1, h2, fun j u hj => ?_⟩
  rw [List.getElem?_set] at hj
  by_cases e2 : k + 1 = j
  · subst e2
    rw [if_pos rfl, if_pos (by rw [List.length_set]; exact hk)] at hj
    cases hj
  · rw [if_neg e2, List.getElem?_set] at hj
    by_cases e : k = j
    · subst e
      rw [if_pos rfl, if_pos (by omega)] at hj
      cases Option.some.inj (Option.some.inj hj)
      exact h3 (k, _) List.mem_cons_self
    · rw [if_neg e] at hj
      refine h3 (j, zcv ad sv (some u)) (List.mem_cons_of_mem _ (List.mem_filter.mpr ⟨zll_mem.mpr ⟨u, hj, rfl⟩, ?_⟩))
      have n1 : (j == k) = false := by simpa using fun z => e z.symm
      have n3 : (j == k + 1) = false := by simpa using fun z => e2 z.symm
      have n2 : (j + 1 == k && (zcv ad sv (some u)).category == 2) = false := by
        by_cases z : j + 1 = k
        · have hu : znl (some u) = true := by
            unfold zsO at ho
            rw [hh] at ho
            subst z
            simp only [Bool.not_true, Bool.false_or] at ho
            rw [List.getD_eq_getElem?_getD, hj] at ho
            exact ho
          rw [zcat_cv hsv, znl_cat.mp hu]
          simp
        · simp [z]
      show (!(j == k) && (!(j == k + 1) && !(j + 1 == k && (zcv ad sv (some u)).category == 2))) = true
      rw [n1, n2, n3]
      rfl
section ZS5
variable {p : Program} {l : Launch} {e : Env} {R : Room} {s : State} {mi : MethodId} {args : Array Value} {below : List Frame} {meth : Method} {c : Code} {Q : State → Prop} {D : va_G} {cs : Nat → ClassId} {A : Nat → Prop} {sv : Value} {m n0 nf : Nat} {ad0 : Nat → Nat}
variable {pc len : Nat} {L st : List zV} {h : zH} {q : Nat × List zV × List zV × zH}
theorem zsvc (cx : zCx p R s mi args meth c D cs A sv m n0 nf) : sv.category = 1 := by
  rcases cx.2.2.2.2.2.2.2.2.2.2.2.2.1 with e | ⟨x, e⟩ <;> rw [e] <;> rfl
theorem zset_mem {L : List zV} {k : Nat} {v : zV} {P : zV → Prop} (h : ∀ w ∈ L, P w) (hv : P v) : ∀ w ∈ L.set k v, P w := fun w hw => (List.mem_or_eq_of_mem_set hw).elim (h w) (fun z => z ▸ hv)
/-- a step that sets a local -/
theorem zG_lc {pc' k : Nat} {w : Int ⊕ Int ⊕ Nat} {st' : List zV} (cx : zCx p R s mi args meth c D cs A sv m n0 nf) (hk : k < L.length) (ho : zsO m L k = true) (hc : zcat (some w) = 1) (K : zG p l e R s mi args below meth c Q D cs A sv m n0 ad0 pc' (L.set k (some w)) st' h)
    (hw : (∀ v ∈ L, zvo h.2.2.1 v) → (∀ v ∈ st, v.isSome = true ∧ zvo h.2.2.1 v) → zvo h.2.2.1 (some w) ∧ ∀ v ∈ st', v.isSome = true ∧ zvo h.2.2.1 v)
    (T : ∀ (ad : Nat → Nat) (H : Heap) (locs : List Loc) (ls ls' : Array Slot) (cells slots : Nat), zlr ad sv L ls → storeLocals ls k (zcv ad sv (some w)) = some ls' → W p l e R s mi args below meth c H locs cells slots Q (F0 mi pc' ls' (st'.map (zcv ad sv))) → W p l e R s mi args below meth c H locs cells slots Q (F0 mi pc ls (st.map (zcv ad sv)))) : zG p l e R s mi args below meth c Q D cs A sv m n0 ad0 pc L st h := by
  intro ad H locs ls hwd hl hL hvo hnl hso hn0 had
  obtain ⟨ls', e1, hl'⟩ := zlr_st1 (zsvc cx) hl hk hc hnl ho
  obtain ⟨w1, w2⟩ := hw hvo hso
  exact T ad H locs ls ls' _ _ hl e1 (K ad H locs ls' hwd hl' (by rw [List.length_set]; exact hL) (zset_mem hvo w1) (fun z => zset_mem (hnl z) (znl_cat.mpr hc)) w2 hn0 had)
theorem zr_store {cc : ByteArray} {ls ls' : Array Slot} {rest : List Value} {H : Heap} {locs : List Loc} {cells slots : Nat} (hexec : p.tables.exec = Jvm.exec) (hb : c.code = cc) {i : Nat} {x : Int32} (hdg : decode cc pc = .ok (.istore i, 2)) (hs : storeLocals ls i (.int x) = some ls') (k : W p l e R s mi args below meth c H locs cells slots Q (F0 mi (pc + 2) ls' rest)) : W p l e R s mi args below meth c H locs cells slots Q (F0 mi pc ls (.int x :: rest)) := by
  intro T hT X
  obtain ⟨t, a, b⟩ := k T hT X
  refine ⟨t, ?_, b⟩
  jvm_step X.here [X.here.top, ↓top_set X.here.top, hexec, hb, hdg, hs]
  exact a
theorem zr_store_n {cc : ByteArray} {ls ls' : Array Slot} {rest : List Value} {H : Heap} {locs : List Loc} {cells slots : Nat} (hexec : p.tables.exec = Jvm.exec) (hb : c.code = cc) {i : Fin 4} {x : Int32} (hdg : decode cc pc = .ok (.istore_n i, 1)) (hs : storeLocals ls (i : Nat) (.int x) = some ls') (k : W p l e R s mi args below meth c H locs cells slots Q (F0 mi (pc + 1) ls' rest)) : W p l e R s mi args below meth c H locs cells slots Q (F0 mi pc ls (.int x :: rest)) := by
  intro T hT X
  obtain ⟨t, a, b⟩ := k T hT X
  refine ⟨t, ?_, b⟩
  jvm_step X.here [X.here.top, ↓top_set X.here.top, hexec, hb, hdg, hs]
  exact a
theorem zr_astore {cc : ByteArray} {ls ls' : Array Slot} {rest : List Value} {H : Heap} {locs : List Loc} {cells slots : Nat} (hexec : p.tables.exec = Jvm.exec) (hb : c.code = cc) {i : Nat} {v : Value} (hv : v = .null ∨ ∃ a, v = .ref a) (hdg : decode cc pc = .ok (.astore i, 2)) (hs : storeLocals ls i v = some ls') (k : W p l e R s mi args below meth c H locs cells slots Q (F0 mi (pc + 2) ls' rest)) : W p l e R s mi args below meth c H locs cells slots Q (F0 mi pc ls (v :: rest)) := by
  intro T hT X
  obtain ⟨t, a, b⟩ := k T hT X
  refine ⟨t, ?_, b⟩
  rcases hv with rfl | ⟨x, rfl⟩ <;>
  · jvm_step X.here [X.here.top, ↓top_set X.here.top, hexec, hb, hdg, hs, Value.isRef]
    exact a
theorem zr_astore_n {cc : ByteArray} {ls ls' : Array Slot} {rest : List Value} {H : Heap} {locs : List Loc} {cells slots : Nat} (hexec : p.tables.exec = Jvm.exec) (hb : c.code = cc) {i : Fin 4} {v : Value} (hv : v = .null ∨ ∃ a, v = .ref a) (hdg : decode cc pc = .ok (.astore_n i, 1)) (hs : storeLocals ls (i : Nat) v = some ls') (k : W p l e R s mi args below meth c H locs cells slots Q (F0 mi (pc + 1) ls' rest)) : W p l e R s mi args below meth c H locs cells slots Q (F0 mi pc ls (v :: rest)) := by
  intro T hT X
  obtain ⟨t, a, b⟩ := k T hT X
  refine ⟨t, ?_, b⟩
  rcases hv with rfl | ⟨x, rfl⟩ <;>
  · jvm_step X.here [X.here.top, ↓top_set X.here.top, hexec, hb, hdg, hs, Value.isRef]
    exact a
theorem zr_lstore {cc : ByteArray} {ls ls' : Array Slot} {rest : List Value} {H : Heap} {locs : List Loc} {cells slots : Nat} (hexec : p.tables.exec = Jvm.exec) (hb : c.code = cc) {i : Nat} {x : Int64} (hdg : decode cc pc = .ok (.lstore i, 2)) (hs : storeLocals ls i (.long x) = some ls') (k : W p l e R s mi args below meth c H locs cells slots Q (F0 mi (pc + 2) ls' rest)) : W p l e R s mi args below meth c H locs cells slots Q (F0 mi pc ls (.long x :: rest)) := by
  intro T hT X
  obtain ⟨t, a, b⟩ := k T hT X
  refine ⟨t, ?_, b⟩
  jvm_step X.here [X.here.top, ↓top_set X.here.top, hexec, hb, hdg, hs]
  exact a
theorem zr_iinc {cc : ByteArray} {ls ls' : Array Slot} {rest : List Value} {H : Heap} {locs : List Loc} {cells slots : Nat} (hexec : p.tables.exec = Jvm.exec) (hb : c.code = cc) {i : Nat} {n : Int} {x : Int32} (hdg : decode cc pc = .ok (.iinc i n, 3)) (hg : ls[i]? = some (.val (.int x))) (hs : storeLocals ls i (.int (x + Int32.ofInt n)) = some ls') (k : W p l e R s mi args below meth c H locs cells slots Q (F0 mi (pc + 3) ls' rest)) : W p l e R s mi args below meth c H locs cells slots Q (F0 mi pc ls rest) := by
  intro T hT X
  obtain ⟨t, a, b⟩ := k T hT X
  refine ⟨t, ?_, b⟩
  jvm_step X.here [X.here.top, ↓top_set X.here.top, hexec, hb, hdg, hg, hs]
  exact a
theorem zs_istore {a : Nat} (cx : zCx p R s mi args meth c D cs A sv m n0 nf) (hd : decode (zb m) pc = .ok (.istore a, len)) (hlen : ziln (.istore a) = 0 ∨ ziln (.istore a) = len) (ha : zac0 m (.istore a) pc len L st h = .inl q) (K : zG p l e R s mi args below meth c Q D cs A sv m n0 ad0 q.1 q.2.1 q.2.2.1 q.2.2.2) : zG p l e R s mi args below meth c Q D cs A sv m n0 ad0 pc L st h := by
  obtain rfl := zl2 rfl hlen
  simp only [zac0, zstI] at ha
  split at ha
  · rename_i x s1
    split at ha
    · rename_i hc
      cases Sum.inl.inj ha
      exact zG_lc cx hc.1 hc.2 rfl K (fun _ hs => ⟨(List.forall_mem_cons.mp hs).1.2, (List.forall_mem_cons.mp hs).2⟩) (fun ad H locs ls ls' _ _ hl e1 k => zr_store cx.1 cx.2.1 hd e1 k)
    · cases ha
  · cases ha
theorem zs_istore_n {a : Fin 4} (cx : zCx p R s mi args meth c D cs A sv m n0 nf) (hd : decode (zb m) pc = .ok (.istore_n a, len)) (hlen : ziln (.istore_n a) = 0 ∨ ziln (.istore_n a) = len) (ha : zac0 m (.istore_n a) pc len L st h = .inl q) (K : zG p l e R s mi args below meth c Q D cs A sv m n0 ad0 q.1 q.2.1 q.2.2.1 q.2.2.2) : zG p l e R s mi args below meth c Q D cs A sv m n0 ad0 pc L st h := by
  obtain rfl := zl1 rfl hlen
  simp only [zac0, zstI] at ha
  split at ha
  · rename_i x s1
    split at ha
    · rename_i hc
      cases Sum.inl.inj ha
      exact zG_lc cx hc.1 hc.2 rfl K (fun _ hs => ⟨(List.forall_mem_cons.mp hs).1.2, (List.forall_mem_cons.mp hs).2⟩) (fun ad H locs ls ls' _ _ hl e1 k => zr_store_n cx.1 cx.2.1 hd e1 k)
    · cases ha
  · cases ha
theorem zs_astore {a : Nat} (cx : zCx p R s mi args meth c D cs A sv m n0 nf) (hd : decode (zb m) pc = .ok (.astore a, len)) (hlen : ziln (.astore a) = 0 ∨ ziln (.astore a) = len) (ha : zac0 m (.astore a) pc len L st h = .inl q) (K : zG p l e R s mi args below meth c Q D cs A sv m n0 ad0 q.1 q.2.1 q.2.2.1 q.2.2.2) : zG p l e R s mi args below meth c Q D cs A sv m n0 ad0 pc L st h := by
  obtain rfl := zl2 rfl hlen
  simp only [zac0, zstR] at ha
  split at ha
  · rename_i x s1
    split at ha
    · rename_i hc
      cases Sum.inl.inj ha
      exact zG_lc cx hc.1 hc.2 rfl K (fun _ hs => ⟨(List.forall_mem_cons.mp hs).1.2, (List.forall_mem_cons.mp hs).2⟩) (fun ad H locs ls ls' _ _ hl e1 k => zr_astore cx.1 cx.2.1 (zcv_ref cx.2.2.2.2.2.2.2.2.2.2.2.2.1 ad x) hd e1 k)
    · cases ha
  · cases ha
theorem zs_astore_n {a : Fin 4} (cx : zCx p R s mi args meth c D cs A sv m n0 nf) (hd : decode (zb m) pc = .ok (.astore_n a, len)) (hlen : ziln (.astore_n a) = 0 ∨ ziln (.astore_n a) = len) (ha : zac0 m (.astore_n a) pc len L st h = .inl q) (K : zG p l e R s mi args below meth c Q D cs A sv m n0 ad0 q.1 q.2.1 q.2.2.1 q.2.2.2) : zG p l e R s mi args below meth c Q D cs A sv m n0 ad0 pc L st h := by
  obtain rfl := zl1 rfl hlen
  simp only [zac0, zstR] at ha
  split at ha
  · rename_i x s1
    split at ha
    · rename_i hc
      cases Sum.inl.inj ha
      exact zG_lc cx hc.1 hc.2 rfl K (fun _ hs => ⟨(List.forall_mem_cons.mp hs).1.2, (List.forall_mem_cons.mp hs).2⟩) (fun ad H locs ls ls' _ _ hl e1 k => zr_astore_n cx.1 cx.2.1 (zcv_ref cx.2.2.2.2.2.2.2.2.2.2.2.2.1 ad x) hd e1 k)
    · cases ha
  · cases ha
theorem zs_lstore {a : Nat} (cx : zCx p R s mi args meth c D cs A sv m n0 nf) (hd : decode (zb m) pc = .ok (.lstore a, len)) (hlen : ziln (.lstore a) = 0 ∨ ziln (.lstore a) = len) (ha : zac0 m (.lstore a) pc len L st h = .inl q) (K : zG p l e R s mi args below meth c Q D cs A sv m n0 ad0 q.1 q.2.1 q.2.2.1 q.2.2.2) : zG p l e R s mi args below meth c Q D cs A sv m n0 ad0 pc L st h := by
  obtain rfl := zl2 rfl hlen
  simp only [zac0, zstJ] at ha
  split at ha
  · rename_i x s1
    split at ha
    · rename_i hc
      cases Sum.inl.inj ha
      intro ad H locs ls hwd hl hL hvo hnl hso hn0 had
      obtain ⟨ls', e1, hl'⟩ := zlr_st2 (zsvc cx) (w := .inr (.inl x)) hl hc.1 rfl hc.2.1 hc.2.2
      have hx := (List.forall_mem_cons.mp hso).1.2
      exact zr_lstore cx.1 cx.2.1 hd e1 (K ad H locs ls' hwd hl' (by show ((L.set a (vL x)).set (a + 1) none).length = zL m; rw [List.length_set, List.length_set]; exact hL) (zset_mem (zset_mem hvo hx) trivial) (fun z => by rw [hc.2.1] at z; cases z) (List.forall_mem_cons.mp hso).2 hn0 had)
    · cases ha
  · cases ha
theorem zs_iinc {a : Nat} {n : Int} (cx : zCx p R s mi args meth c D cs A sv m n0 nf) (hd : decode (zb m) pc = .ok (.iinc a n, len)) (hlen : ziln (.iinc a n) = 0 ∨ ziln (.iinc a n) = len) (ha : zac0 m (.iinc a n) pc len L st h = .inl q) (K : zG p l e R s mi args below meth c Q D cs A sv m n0 ad0 q.1 q.2.1 q.2.2.1 q.2.2.2) : zG p l e R s mi args below meth c Q D cs A sv m n0 ad0 pc L st h := by
  obtain rfl := zl3 rfl hlen
  simp only [zac0, zinc] at ha
  split at ha
  · rename_i x hx
    split at ha
    · rename_i hc
      cases Sum.inl.inj ha
      refine zG_lc cx (List.getElem?_eq_some_iff.mp hx).1 hc rfl K (fun _ hs => ⟨wr_RI _, hs⟩) (fun ad H locs ls ls' _ _ hl e1 k => ?_)
      have e2 : storeLocals ls a (.int (Int32.ofInt (wr (x + n)))) = some ls' := e1
      rw [zi_wr, Int32.ofInt_add] at e2
      exact zr_iinc cx.1 cx.2.1 hd (hl.2.2 _ (.inl x) hx) e2 k
    · cases ha
  · cases ha
end ZS5
end
section
/-! ===== new cells, what the library does itself ===== -/
theorem zml_in {o i k d : Nat} (hc : zml o i = some (k, d)) : ∃ x, x.1 = (o, i, k, d) ∧ zmlR x = true := by
  have h1 := zfind hc
  rw [← zmlQ_eq] at h1
  obtain ⟨x, hx, e⟩ := List.mem_map.mp h1
  refine ⟨x, e, ?_⟩
  obtain ⟨j, hj⟩ := List.getElem?_of_mem hx
  have hl : j < 253 := by
    have := (List.getElem?_eq_some_iff.mp hj).1
    rw [zmlQ_len] at this
    exact this
  have seg : ∀ b, b ≤ j → j < b + 40 → x ∈ (zmlQ.drop b).take 40 := fun b h1 h2 => by
    refine List.mem_of_getElem? (i := j - b) ?_
    rw [List.getElem?_take, if_pos (by omega), List.getElem?_drop, show b + (j - b) = j by omega]
    exact hj
  have hd : j < 40 ∨ (40 ≤ j ∧ j < 80) ∨ (80 ≤ j ∧ j < 120) ∨ (120 ≤ j ∧ j < 160) ∨ (160 ≤ j ∧ j < 200) ∨ (200 ≤ j ∧ j < 240) ∨ (240 ≤ j ∧ j < 280) := by omega
  rcases hd with z | z | z | z | z | z | z
  · exact List.all_eq_true.mp zmlQ_ok0 x (seg 0 (by omega) (by omega))
  · exact List.all_eq_true.mp zmlQ_ok1 x (seg 40 (by omega) (by omega))
  · exact List.all_eq_true.mp zmlQ_ok2 x (seg 80 (by omega) (by omega))
  · exact List.all_eq_true.mp zmlQ_ok3 x (seg 120 (by omega) (by omega))
  · exact List.all_eq_true.mp zmlQ_ok4 x (seg 160 (by omega) (by omega))
  · exact List.all_eq_true.mp zmlQ_ok5 x (seg 200 (by omega) (by omega))
  · exact List.all_eq_true.mp zmlQ_ok6 x (seg 240 (by omega) (by omega))
theorem zcn_ok {o i ci : Nat} (hc : zcn o i = some ci) : if ci = 30 then Cond.classLink (zon o) i "[I" ∈ zgt else ci < 12 ∧ Cond.classLink (zon o) i (zCn ci) ∈ zgt ∧ Cond.instantiable (zCn ci) (znF ci) ∈ zgt := by
  have h1 := zfind hc
  rw [← zcnQ_eq] at h1
  obtain ⟨x, hx, e⟩ := List.mem_map.mp h1
  have h2 := List.all_eq_true.mp zcnQ_ok x hx
  rw [e] at h2
  by_cases h3 : ci = 30
  · rw [if_pos h3]
    simp only [h3, if_true] at h2
    exact zwq_in h2
  · rw [if_neg h3]
    simp only [if_neg h3, Bool.and_eq_true, decide_eq_true_eq] at h2
    exact ⟨h2.1.1, zwq_in h2.1.2, zwq_in h2.2⟩
theorem zmOk_all {d : Nat} (hd : d < 217) : zmOk d = true := by
  have seg : ∀ b n, (List.range n).all (fun j => zmOk (b + j)) = true → b ≤ d → d < b + n → zmOk d = true := fun b n h h1 h2 => by
    have := List.all_eq_true.mp h (d - b) (List.mem_range.mpr (by omega))
    rw [show b + (d - b) = d by omega] at this
    exact this
  have hs : d < 31 ∨ (31 ≤ d ∧ d < 62) ∨ (62 ≤ d ∧ d < 93) ∨ (93 ≤ d ∧ d < 124) ∨ (124 ≤ d ∧ d < 155) ∨ (155 ≤ d ∧ d < 186) ∨ (186 ≤ d ∧ d < 217) := by omega
  rcases hs with z | z | z | z | z | z | z
  · exact seg 0 31 zmOk_0 (by omega) (by omega)
  · exact seg 31 31 zmOk_1 (by omega) (by omega)
  · exact seg 62 31 zmOk_2 (by omega) (by omega)
  · exact seg 93 31 zmOk_3 (by omega) (by omega)
  · exact seg 124 31 zmOk_4 (by omega) (by omega)
  · exact seg 155 31 zmOk_5 (by omega) (by omega)
  · exact seg 186 31 zmOk_6 (by omega) (by omega)
theorem zm_ok {d : Nat} (hd : d < 217) : Cond.code (zy d) (zb d) (zL d) (zret d) ∈ zgt ∧ Cond.initialized (zy d).cls ∈ zgt ∧ (zy d).cls ≠ "java/lang/invoke/MethodHandle" ∧ (zy d).cls ≠ "java/lang/invoke/VarHandle" ∧ plainFor (zy d) = true ∧ zon (zo d) = (zy d).cls ∧ (zin d = true → (zy d).name = "<init>") := by
  have h := zmOk_all hd
  unfold zmOk at h
  simp only [Bool.and_eq_true, decide_eq_true_eq] at h
  obtain ⟨⟨⟨⟨⟨⟨h1, h2⟩, h3⟩, h4⟩, h5⟩, h6⟩, h7⟩ := h
  refine ⟨zwq_in h1, zwq_in h2, h3, h4, h5, h6, fun z => ?_⟩
  rw [z] at h7
  simpa using h7
section ZS6
variable {p : Program} {l : Launch} {e : Env} {R : Room} {s : State} {mi : MethodId} {args : Array Value} {below : List Frame} {meth : Method} {c : Code} {Q : State → Prop} {D : va_G} {cs : Nat → ClassId} {A : Nat → Prop} {sv : Value} {m n0 nf : Nat} {ad0 : Nat → Nat}
variable {pc len : Nat} {L st : List zV} {h : zH} {q : Nat × List zV × List zV × zH}
def zad (ad : Nat → Nat) (n a : Nat) : Nat → Nat := fun x => if x = n then a else ad x
/-- a step that makes a cell -/
theorem zG_mk {pc' : Nat} {s1 : List zV} {h' : zH} {e0 : va_E} (cx : zCx p R s mi args meth c D cs A sv m n0 nf) (hnf : h'.2.2.1 ≤ nf) (K : zG p l e R s mi args below meth c Q D cs A sv m n0 ad0 pc' L (vR (h.2.2.1 + 1) :: s1) h') (hlt : h.2.2.1 < zNP) (hn : h'.2.2.1 = h.2.2.1 + 1) (hL' : h'.2.2.2 = h.2.2.2) (hI : zokI h → zokI h') (hR : zokR h → zokR h')
    (e1 : ∀ x, x ≠ h.2.2.1 + 1 → h'.1 x = h.1 x) (e2 : ∀ x, x ≠ h.2.2.1 + 1 → h'.2.1 x = h.2.1 x) (he0 : ∀ ad, zRO A ad sv s s.heap h → ∀ a, e0 = zcell cs (zad ad (h.2.2.1 + 1) a) h' (h.2.2.1 + 1))
    (hst : (∀ v ∈ st, v.isSome = true ∧ zvo h.2.2.1 v) → ∀ v ∈ s1, v.isSome = true ∧ zvo h.2.2.1 v)
    (T : ∀ (ad : Nat → Nat) (H : Heap) (locs : List Loc) (ls : Array Slot) (cells slots : Nat), zWd D cs A s sv H locs ad h → zlr ad sv L ls → L.length = zL m → (∀ v ∈ st, v.isSome = true ∧ zvo h.2.2.1 v) → cells + 1 ≤ R.cells → slots + zsz (h.2.2.1 + 1) ≤ R.slots → (∀ (a : Nat) (H1 : Heap), va_P D vwCl (zws cs ad h ++ [(a, e0)]) H1 → va_D A (zws cs ad h ++ [(a, e0)]) → va_S A s.heap H1 locs → W p l e R s mi args below meth c H1 locs (cells + 1) (slots + zsz (h.2.2.1 + 1)) Q (F0 mi pc' ls (.ref a :: s1.map (zcv ad sv)))) → W p l e R s mi args below meth c H locs cells slots Q (F0 mi pc ls (st.map (zcv ad sv)))) : zG p l e R s mi args below meth c Q D cs A sv m n0 ad0 pc L st h := by
  intro ad H locs ls hw hl hL hvo hnl hso hn0 had
  have hNP : zNP = 103 := rfl
  have c1 := cx.2.2.2.2.2.2.2.2.2.1
  have c2 := cx.2.2.2.2.2.2.2.2.2.2.1
  have m1 := zsl_mono hn0
  have m2 := zsl_mono (a := h.2.2.1 + 1) (b := nf) (by omega)
  have m3 : zsl (h.2.2.1 + 1) = zsl h.2.2.1 + zsz (h.2.2.1 + 1) := rfl
  refine T ad H locs ls _ _ hw hl hL hso (by omega) (by omega) (fun a H1 hP hD hS => ?_)
  have hz : ∀ x, x ≤ h.2.2.1 → zad ad (h.2.2.1 + 1) a x = ad x := fun x hx => by unfold zad; rw [if_neg (by omega)]
  have hz9 : ∀ x, 899 ≤ x → zad ad (h.2.2.1 + 1) a x = ad x := fun x hx => by unfold zad; rw [if_neg (by omega)]
  have hza : zad ad (h.2.2.1 + 1) a (h.2.2.1 + 1) = a := by unfold zad; rw [if_pos rfl]
  have hcell : ∀ x, 1 ≤ x → x ≤ h.2.2.1 → zcell cs (zad ad (h.2.2.1 + 1) a) h' x = zcell cs ad h x := by
    intro x _ hx
    have g1 : ∀ j, h'.1 x j = h.1 x j := fun j => by rw [e1 x (by omega)]
    have g2 : ∀ j, h'.2.1 x j = h.2.1 x j := fun j => by rw [e2 x (by omega)]
    have g3 : ∀ j, zrfo (zad ad (h.2.2.1 + 1) a) (h.2.1 x j) = zrfo ad (h.2.1 x j) := fun j => by unfold zrfo; rw [hz _ (hw.2.2.2.2.1.1 x j hx)]
    unfold zcell zfv
    simp only [g1, g2, g3]
  have hpush := zws_push (cs := cs) (ad := ad) (ad' := zad ad (h.2.2.1 + 1) a) (h := h) (h' := h') hn (fun x _ hx => hz x hx) hcell (e := e0) (a := a) hza.symm (he0 ad hw.2.2.2.2.2.2 a)
  rw [hpush] at hP hD
  have hext : ∀ x, x ≤ h.2.2.1 ∨ 899 ≤ x → zad ad (h.2.2.1 + 1) a x = ad x := fun x hx => hx.elim (hz x) (hz9 x)
  have hlr : zlr (zad ad (h.2.2.1 + 1) a) sv L ls := ⟨hl.1, hl.2.1, fun k w hk => by rw [zcv_ext hext (hvo _ (List.mem_of_getElem? hk))]; exact hl.2.2 k w hk⟩
  have k := K (zad ad (h.2.2.1 + 1) a) H1 locs ls ⟨hP, hD, hS, hI hw.2.2.2.1, hR hw.2.2.2.2.1, by omega, zRO.same (h := h) (ad := ad) (fun x hx => e1 x (by omega)) (fun x hx => e2 x (by omega)) hL' (fun x hx => hz9 x hx) hw.2.2.2.2.2.2⟩ hlr hL (fun v hv => zvo_mono (by omega) (hvo v hv)) hnl
    (zcons ⟨rfl, Or.inl (by omega)⟩ (fun v hv => ⟨(hst hso v hv).1, zvo_mono (by omega) (hst hso v hv).2⟩)) (by omega) (fun x hx => by rw [hext x (by omega)]; exact had x hx)
  have es : s1.map (zcv (zad ad (h.2.2.1 + 1) a) sv) = s1.map (zcv ad sv) := List.map_congr_left (fun v hv => zcv_ext hext (hst hso v hv).2)
  rw [hn] at k
  have k' : W p l e R s mi args below meth c H1 locs (h.2.2.1 + 1 - n0) (zsl (h.2.2.1 + 1) - zsl n0) Q (F0 mi pc' ls (zcv (zad ad (h.2.2.1 + 1) a) sv (vR (h.2.2.1 + 1)) :: s1.map (zcv (zad ad (h.2.2.1 + 1) a) sv))) := k
  rw [es, zcv_p (by omega) (by omega), hza] at k'
  rw [show h.2.2.1 - n0 + 1 = h.2.2.1 + 1 - n0 by omega, show zsl h.2.2.1 - zsl n0 + zsz (h.2.2.1 + 1) = zsl (h.2.2.1 + 1) - zsl n0 by omega]
  exact k'
theorem zmk_I (i : zokI h) : zokI (zmk h) := fun x j => by
  show zRI (zfill h.1 (h.2.2.1 + 1) x j)
  unfold zfill
  split
  · exact zR0
  · exact i x j
theorem zmk_R (hlt : h.2.2.1 < zNP) (r : zokR h) : zokR (zmk h) := by
  have hNP : zNP = 103 := rfl
  refine ⟨fun x j hx => ?_, fun j hj => ?_⟩
  · show zfilR h.2.1 (h.2.2.1 + 1) x j ≤ h.2.2.1 + 1
    unfold zfilR
    split
    · omega
    · rename_i hne
      have hx' : x ≤ h.2.2.1 + 1 := hx
      have := r.1 x j (by omega)
      omega
  · show zfilR h.2.1 (h.2.2.1 + 1) (1000 + j) 0 = 1100 + j
    unfold zfilR
    rw [if_neg (by omega)]
    exact r.2 j hj
theorem zmk_1 {x : Nat} (hx : x ≠ h.2.2.1 + 1) : (zmk h).1 x = h.1 x := by
  funext j
  show zfill h.1 (h.2.2.1 + 1) x j = h.1 x j
  unfold zfill
  rw [if_neg hx]
theorem zmk_2 {x : Nat} (hx : x ≠ h.2.2.1 + 1) : (zmk h).2.1 x = h.2.1 x := by
  funext j
  show zfilR h.2.1 (h.2.2.1 + 1) x j = h.2.1 x j
  unfold zfilR
  rw [if_neg hx]
theorem zmk_n1 (j : Int) : (zmk h).1 (h.2.2.1 + 1) j = 0 := by
  show zfill h.1 (h.2.2.1 + 1) (h.2.2.1 + 1) j = 0
  unfold zfill
  rw [if_pos rfl]
theorem zmk_n2 (j : Int) : (zmk h).2.1 (h.2.2.1 + 1) j = 0 := by
  show zfilR h.2.1 (h.2.2.1 + 1) (h.2.2.1 + 1) j = 0
  unfold zfilR
  rw [if_pos rfl]
theorem zs_new {a : Nat} (cx : zCx p R s mi args meth c D cs A sv m n0 nf) (hd : decode (zb m) pc = .ok (.new a, len)) (hlen : ziln (.new a) = 0 ∨ ziln (.new a) = len) (ha : zac0 m (.new a) pc len L st h = .inl q) (hnf : q.2.2.2.2.2.1 ≤ nf) (K : zG p l e R s mi args below meth c Q D cs A sv m n0 ad0 q.1 q.2.1 q.2.2.1 q.2.2.2) : zG p l e R s mi args below meth c Q D cs A sv m n0 ad0 pc L st h := by
  obtain rfl := zl3 rfl hlen
  simp only [zac0, znew] at ha
  split at ha
  · rename_i ci hc
    split at ha
    · rename_i hk
      cases Sum.inl.inj ha
      have hcn := zcn_ok hc
      have hci : ci < 12 := by
        have := zkd_lo (h.2.2.1 + 1) (by have : zNP = 103 := rfl; omega) (by rw [hk.1])
        rw [hk.1] at this
        exact this
      rw [if_neg (by omega)] at hcn
      obtain ⟨hvc, hu⟩ := zcls hci
      obtain ⟨ty, hty, htc⟩ := zty hci
      refine zG_mk (e0 := .inr (ci, (List.range (znF ci)).map (fun k => if zft ci k = 2 then Value.null else .int 0))) cx hnf K hk.2 rfl rfl zmk_I (zmk_R hk.2) (fun x hx => zmk_1 hx) (fun x hx => zmk_2 hx) (fun ad _ a => ?_) (fun hs => hs) (fun ad H locs ls cells slots hw hl hL hs hc1 hc2 kk => ?_)
      · rw [zcell_o hk.1]
        congr 2
        apply List.map_congr_left
        intro k _
        unfold zfv
        rw [zmk_n1, zmk_n2]
        rfl
      · have hsz : zsz (h.2.2.1 + 1) = znF ci := by unfold zsz; rw [hk.1, if_pos rfl]
        rw [hsz] at hc2 kk
        refine va_new cx.1 cx.2.1 cx.2.2.2.2.1 hu ty hty cx.2.2.2.1 (cx.2.2.2.2.1 _ hcn.2.1) (cx.2.2.2.2.1 _ hcn.2.2) ?_ cx.2.2.2.2.2.2.2.2.2.2.2.1 hw.1 hw.2.1 hw.2.2.1 cx.2.2.2.2.2.2.2.2.2.2.2.2.2 hvc (fun j hj => ?_) hc1 hc2 hd (fun x H1 hP hD hS => kk x H1 hP hD hS)
        · have hz : (List.range 12).all (fun ci => decide (Cond.initialized (zCn ci) ∈ tables_1) && goodWord (Cond.initialized (zCn ci))) = true := by decide +kernel
          have h2 := List.all_eq_true.mp hz ci (List.mem_range.mpr hci)
          simp only [Bool.and_eq_true, decide_eq_true_eq] at h2
          exact cx.2.2.2.2.1 _ (List.mem_filter.mpr ⟨List.mem_append_right _ h2.1, h2.2⟩)
        · unfold vp_V
          rw [List.getD_eq_getElem?_getD, List.getElem?_map, List.getElem?_range hj]
          show defaultValue (ty j) = if zft ci j = 2 then Value.null else .int 0
          rcases htc j hj with ⟨z1, z2⟩ | ⟨z1, z2⟩ | ⟨z1, ⟨n, z2⟩ | ⟨n, z2⟩⟩ <;> rw [z1, z2] <;> rfl
    · cases ha
  · cases ha
end ZS6
end
section
section ZS7
variable {p : Program} {l : Launch} {e : Env} {R : Room} {s : State} {mi : MethodId} {args : Array Value} {below : List Frame} {meth : Method} {c : Code} {Q : State → Prop} {D : va_G} {cs : Nat → ClassId} {A : Nat → Prop} {sv : Value} {m n0 nf : Nat} {ad0 : Nat → Nat}
variable {pc len : Nat} {L st : List zV} {h : zH} {q : Nat × List zV × List zV × zH}
/-- the class of an array is the one of the tables -/
theorem zcs_eq {k : Nat} {ty : FieldType} {cA : ClassId} (hK : va_K D vwCl (ztys cs) s) (hk : (ztys cs)[k]? = some (cs (k + 1), ty)) (hK2 : va_K D vwCl (ztys cs ++ [(cA, ty)]) s) : cA = cs (k + 1) := by
  have h1 := (hK.2 k _ hk).2
  have h2 := (hK2.2 6 (cA, ty) rfl).2
  cases ty with
  | object C =>
    obtain ⟨_, _, _, _, _, g1⟩ := h1
    obtain ⟨_, _, _, _, _, g2⟩ := h2
    exact Option.some.inj (g2.symm.trans g1)
  | _ => exact Option.some.inj ((show s.vm.findClass _ = some cA from h2).symm.trans h1)
theorem zkd_len : ∀ x : Nat, x ≤ 103 → (zkd x).2 ≤ 784 := by decide +kernel
theorem zs_newarray {t : ArrayType} (cx : zCx p R s mi args meth c D cs A sv m n0 nf) (hd : decode (zb m) pc = .ok (.newarray t, len)) (hlen : ziln (.newarray t) = 0 ∨ ziln (.newarray t) = len) (ha : zac0 m (.newarray t) pc len L st h = .inl q) (hnf : q.2.2.2.2.2.1 ≤ nf) (K : zG p l e R s mi args below meth c Q D cs A sv m n0 ad0 q.1 q.2.1 q.2.2.1 q.2.2.2) : zG p l e R s mi args below meth c Q D cs A sv m n0 ad0 pc L st h := by
  obtain rfl := zl2 rfl hlen
  simp only [zac0, znewa] at ha
  split at ha
  · rename_i x s1
    split at ha
    · rename_i hk
      obtain ⟨hkt, hx0, hxe, hlt⟩ := hk
      cases Sum.inl.inj ha
      have hNP : zNP = 103 := rfl
      have hle := zkd_len (h.2.2.1 + 1) (by omega)
      have rx : zRI x := ⟨by omega, by omega⟩
      have hxn : (Int32.ofInt x).toNatClampNeg = (zkd (h.2.2.1 + 1)).2 := by rw [zi_nat rx hx0]; omega
      have hk2 := zkd_lo2 (h.2.2.1 + 1) (by omega)
      have ht : t = .int ∨ t = .byte ∨ t = .boolean ∨ t = .long := by
        cases t <;> simp [zat] at hkt <;> first | exact Or.inl rfl | exact Or.inr (Or.inl rfl) | exact Or.inr (Or.inr (Or.inl rfl)) | exact Or.inr (Or.inr (Or.inr rfl)) | omega
      have hsz : zsz (h.2.2.1 + 1) = (zkd (h.2.2.1 + 1)).2 := by
        unfold zsz
        rw [if_neg]
        rcases ht with rfl | rfl | rfl | rfl <;> rw [hkt] <;> decide
      have hac : ∀ ty : FieldType, (ty = .int ∨ ty = .byte ∨ ty = .boolean ∨ ty = .long) → (Cond.arrayClass ty).before args s = true := by
        have hz : Cond.arrayClass .int ∈ zgt ∧ Cond.arrayClass .byte ∈ zgt ∧ Cond.arrayClass .boolean ∈ zgt ∧ Cond.arrayClass .long ∈ zgt := by
          have h0 : Cond.arrayClass .int ∈ tables_1 ∧ Cond.arrayClass .byte ∈ tables_1 ∧ Cond.arrayClass .boolean ∈ tables_1 ∧ Cond.arrayClass .long ∈ tables_1 := by decide +kernel
          exact ⟨List.mem_filter.mpr ⟨List.mem_append_right _ h0.1, rfl⟩, List.mem_filter.mpr ⟨List.mem_append_right _ h0.2.1, rfl⟩, List.mem_filter.mpr ⟨List.mem_append_right _ h0.2.2.1, rfl⟩, List.mem_filter.mpr ⟨List.mem_append_right _ h0.2.2.2, rfl⟩⟩
        rintro ty (rfl | rfl | rfl | rfl)
        · exact cx.2.2.2.2.1 _ hz.1
        · exact cx.2.2.2.2.1 _ hz.2.1
        · exact cx.2.2.2.2.1 _ hz.2.2.1
        · exact cx.2.2.2.2.1 _ hz.2.2.2
      have small : ∀ k : Nat, (zkd (h.2.2.1 + 1)).1 = k + 1 → k < 3 → ∀ ty : FieldType, newarray.typeOf t = ty → (ztys cs)[k]? = some (cs (k + 1), ty) → defaultValue ty = .int 0 → componentBytes ty ≤ 8 → (Cond.arrayClass (newarray.typeOf t)).before args s = true → zG p l e R s mi args below meth c Q D cs A sv m n0 ad0 pc L (vI x :: s1) h := by
        intro k hk hk3 ty hty htk hdv hcb hac
        refine zG_mk (e0 := .inl (cs (k + 1), (zkd (h.2.2.1 + 1)).2, .inl (fun _ => 0))) cx hnf K hlt rfl rfl zmk_I (zmk_R hlt) (fun x hx => zmk_1 hx) (fun x hx => zmk_2 hx) (fun ad _ a => ?_) (fun hs => (List.forall_mem_cons.mp hs).2) (fun ad H locs ls cells slots hw hl hL hs hc1 hc2 kk => ?_)
        · rw [zcell_i (by omega) (by omega), hk]
          congr 4
          funext j
          rw [zmk_n1]
          rfl
        · rw [hsz] at hc2 kk
          refine va_newa cx.1 cx.2.1 (atype := t) hac hty cx.2.2.2.2.2.2.2.2.2.2.2.1 hw.1 hw.2.1 hw.2.2.1 cx.2.2.2.2.2.2.2.2.2.2.2.2.2 (a0 := ((zkd (h.2.2.1 + 1)).2, .inl (fun _ => 0))) (fun cA => by rw [vp_cell_i, hdv]) (zi_neg rx hx0) hxn (by have := Nat.mul_le_mul hle hcb; omega) hc1 hc2 hd (fun a cA H1 hK2 hP hD hS => ?_)
          have hcA := zcs_eq cx.2.2.2.2.2.2.2.2.2.2.2.1 htk hK2
          subst hcA
          exact kk a H1 hP hD hS
      rcases ht with rfl | rfl | rfl | rfl
      · exact small 0 hkt (by omega) .int rfl rfl rfl (by decide) (hac _ (Or.inl rfl))
      · exact small 1 hkt (by omega) .byte rfl rfl rfl (by decide) (hac _ (Or.inr (Or.inl rfl)))
      · exact small 2 hkt (by omega) .boolean rfl rfl rfl (by decide) (hac _ (Or.inr (Or.inr (Or.inl rfl))))
      · have k4 : (zkd (h.2.2.1 + 1)).1 = 4 := hkt
        refine zG_mk (e0 := .inl (cs 4, (zkd (h.2.2.1 + 1)).2, .inr (.inl (fun _ => 0)))) cx hnf K hlt rfl rfl zmk_I (zmk_R hlt) (fun x hx => zmk_1 hx) (fun x hx => zmk_2 hx) (fun ad _ a => ?_) (fun hs => (List.forall_mem_cons.mp hs).2) (fun ad H locs ls cells slots hw hl hL hs hc1 hc2 kk => ?_)
        · rw [zcell_l k4]
          congr 5
          funext j
          rw [zmk_n1]
          rfl
        · rw [hsz] at hc2 kk
          refine va_newa cx.1 cx.2.1 (atype := .long) (hac _ (Or.inr (Or.inr (Or.inr rfl)))) rfl cx.2.2.2.2.2.2.2.2.2.2.2.1 hw.1 hw.2.1 hw.2.2.1 cx.2.2.2.2.2.2.2.2.2.2.2.2.2 (a0 := ((zkd (h.2.2.1 + 1)).2, .inr (.inl (fun _ => 0)))) (fun cA => by rw [vp_cell_l]; rfl) (zi_neg rx hx0) hxn (by have := Nat.mul_le_mul hle (show componentBytes (newarray.typeOf .long) ≤ 8 by decide); omega) hc1 hc2 hd (fun a cA H1 hK2 hP hD hS => ?_)
          have hcA := zcs_eq (k := 3) cx.2.2.2.2.2.2.2.2.2.2.2.1 rfl hK2
          subst hcA
          exact kk a H1 hP hD hS
    · cases ha
  · cases ha
theorem zs_anewarray {t : Nat} (cx : zCx p R s mi args meth c D cs A sv m n0 nf) (hd : decode (zb m) pc = .ok (.anewarray t, len)) (hlen : ziln (.anewarray t) = 0 ∨ ziln (.anewarray t) = len) (ha : zac0 m (.anewarray t) pc len L st h = .inl q) (hnf : q.2.2.2.2.2.1 ≤ nf) (K : zG p l e R s mi args below meth c Q D cs A sv m n0 ad0 q.1 q.2.1 q.2.2.1 q.2.2.2) : zG p l e R s mi args below meth c Q D cs A sv m n0 ad0 pc L st h := by
  obtain rfl := zl3 rfl hlen
  simp only [zac0, zanew] at ha
  split at ha
  · rename_i ci x s1 hc
    split at ha
    · rename_i hk
      obtain ⟨hkt, hx0, hxe, hlt⟩ := hk
      cases Sum.inl.inj ha
      have hNP : zNP = 103 := rfl
      have hle := zkd_len (h.2.2.1 + 1) (by omega)
      have rx : zRI x := ⟨by omega, by omega⟩
      have hxn : (Int32.ofInt x).toNatClampNeg = (zkd (h.2.2.1 + 1)).2 := by rw [zi_nat rx hx0]; omega
      have hcn := zcn_ok hc
      rw [if_neg (by omega)] at hcn
      have hsz : zsz (h.2.2.1 + 1) = (zkd (h.2.2.1 + 1)).2 := by
        unfold zsz
        rw [if_neg (by omega)]
      have gen : ∀ k : Nat, (zkd (h.2.2.1 + 1)).1 = k + 1 → 4 ≤ k → ∀ C : String, (ztys cs)[k]? = some (cs (k + 1), .object C) → zCn ci = C → (∀ ad, zRO A ad sv s s.heap h → va_AO C s) → zG p l e R s mi args below meth c Q D cs A sv m n0 ad0 pc L (vI x :: s1) h := by
        intro k hk hk3 C htk hC hao
        refine zG_mk (e0 := .inl (cs (k + 1), (zkd (h.2.2.1 + 1)).2, .inr (.inr (.inr (.inr (fun _ => none)))))) cx hnf K hlt rfl rfl zmk_I (zmk_R hlt) (fun x hx => zmk_1 hx) (fun x hx => zmk_2 hx) (fun ad _ a => ?_) (fun hs => (List.forall_mem_cons.mp hs).2) (fun ad H locs ls cells slots hw hl hL hs hc1 hc2 kk => ?_)
        · rw [zcell_r (by omega), hk]
          congr 7
          funext j
          rw [zmk_n2]
          rfl
        · rw [hsz] at hc2 kk
          refine va_newq cx.1 cx.2.1 (C := C) cx.2.2.2.1 (hC ▸ cx.2.2.2.2.1 _ hcn.2.1) (hao ad hw.2.2.2.2.2.2) cx.2.2.2.2.2.2.2.2.2.2.2.1 hw.1 hw.2.1 hw.2.2.1 cx.2.2.2.2.2.2.2.2.2.2.2.2.2 (zi_neg rx hx0) hxn (by omega) hc1 hc2 hd (fun a cA H1 hK2 hP hD hS => ?_)
          have hcA := zcs_eq cx.2.2.2.2.2.2.2.2.2.2.2.1 htk hK2
          subst hcA
          exact kk a H1 hP hD hS
      rcases hkt with ⟨k5, rfl⟩ | ⟨k6, rfl⟩
      · exact gen 4 k5 (by omega) "PooledWaves$Player" rfl (by decide +kernel) (fun ad r => r.2.2.2.2.2.2.1)
      · exact gen 5 k6 (by omega) "PooledWaves$Sheet" rfl (by decide +kernel) (fun ad r => r.2.2.2.2.2.2.2.1)
    · cases ha
  · cases ha
theorem zs_checkcast {a : Nat} (cx : zCx p R s mi args meth c D cs A sv m n0 nf) (hd : decode (zb m) pc = .ok (.checkcast a, len)) (hlen : ziln (.checkcast a) = 0 ∨ ziln (.checkcast a) = len) (ha : zac0 m (.checkcast a) pc len L st h = .inl q) (K : zG p l e R s mi args below meth c Q D cs A sv m n0 ad0 q.1 q.2.1 q.2.2.1 q.2.2.2) : zG p l e R s mi args below meth c Q D cs A sv m n0 ad0 pc L st h := by
  obtain rfl := zl3 rfl hlen
  simp only [zac0] at ha
  split at ha
  · rename_i x s1 hc
    split at ha
    · rename_i hk
      cases Sum.inl.inj ha
      have hcn := zcn_ok hc
      rw [if_pos rfl] at hcn
      have hx0 : x ≠ 0 := fun z => by rw [z, zkd_0] at hk; exact absurd hk.1 (by decide)
      refine zG_st K (fun _ _ _ hs => hs) (fun ad H locs ls hw _ _ hs k => ?_)
      have hn := hw.2.2.2.2.2.1
      have hNP : zNP = 103 := rfl
      have he := zws_at cs ad (h := h) (p := x) (by omega) hk.2
      rw [zcell_i (by omega) (by omega), hk.1] at he
      have hcs : s.vm.findClass "[I" = some (cs 1) := (cx.2.2.2.2.2.2.2.2.2.2.2.1.2 0 (cs 1, .int) rfl).2
      have hcv : (vR x :: s1).map (zcv ad sv) = .ref (ad x) :: s1.map (zcv ad sv) := by
        show zcv ad sv (vR x) :: _ = _
        rw [zcv_p hx0 (by omega)]
      rw [hcv] at k ⊢
      exact va_castA cx.1 cx.2.1 cx.2.2.2.1 (cx.2.2.2.2.1 _ hcn) hw.1 (x - 1) he hcs hd k
    · cases ha
  · cases ha
/-- what is called without a frame of ours: Object's constructor, arraycopy, clone -/
theorem zs_objinit {a d : Nat} {s1 : List zV} {x : Nat} (cx : zCx p R s mi args meth c D cs A sv m n0 nf) (hd : decode (zb m) pc = .ok (.invokespecial a, 3)) (hm : zml (zo m) a = some (10, d)) (hx : 1 ≤ x ∧ x ≤ h.2.2.1 ∧ 1 ≤ zfr m ∧ (s1.map zcat).sum + 12 ≤ zlo m) (K : zG p l e R s mi args below meth c Q D cs A sv m n0 ad0 (pc + 3) L s1 h) : zG p l e R s mi args below meth c Q D cs A sv m n0 ad0 pc L (vR x :: s1) h := by
  obtain ⟨y, ey, hy⟩ := zml_in hm
  unfold zmlR at hy
  rw [ey] at hy
  simp only [show ¬ (10 : Nat) = 0 by decide, show ¬ (10 : Nat) = 1 by decide, show ¬ (10 : Nat) = 2 by decide, show ¬ (10 : Nat) = 3 by decide, if_false, if_true, Bool.and_eq_true] at hy
  refine zG_np (fun hnp => ?_)
  have hNP : zNP = 103 := rfl
  intro ad H locs ls hw hl hL hvo hnl hso hn0 had
  have k := K ad H locs ls hw hl hL hvo hnl (List.forall_mem_cons.mp hso).2 hn0 had
  have hcv : (vR x :: s1).map (zcv ad sv) = .ref (ad x) :: s1.map (zcv ad sv) := by
    show zcv ad sv (vR x) :: _ = _
    rw [zcv_p (by omega) (by omega)]
  rw [hcv]
  refine W.objInit cx.1 cx.2.1 cx.2.2.2.1 (cx.2.2.2.2.1 _ (zwq_in hy.1.1)) (cx.2.2.2.2.1 _ (zwq_in hy.1.2)) (cx.2.2.2.2.1 _ (zwq_in hy.2)) rfl (by rw [cx.2.2.1, ← hL]; exact hl.1) rfl hd (by have := cx.2.2.2.2.2.2.2.1; omega) ?_ k
  have h1 := zcat_sum (ad := ad) (zsvc cx) s1
  have h2 := cx.2.2.2.2.2.2.2.2.1
  show 2 * 0 + _ + 12 ≤ R.locals
  rw [h1]
  omega
theorem znfw : nativeFrameWords "java/lang/System" "arraycopy" 5 + 11 ≤ 30 := by decide +kernel
theorem zs_acopy {a d : Nat} {s1 : List zV} {n dp sp : Int} {x y : Nat} (cx : zCx p R s mi args meth c D cs A sv m n0 nf) (hd : decode (zb m) pc = .ok (.invokestatic a, 3)) (hm : zml (zo m) a = some (11, d)) (hc : (zkd x).1 = 1 ∧ x ≤ h.2.2.1 ∧ (zkd y).1 = 1 ∧ y ≤ h.2.2.1 ∧ 0 ≤ n ∧ 0 ≤ dp ∧ 0 ≤ sp ∧ sp + n ≤ (zkd y).2 ∧ dp + n ≤ (zkd x).2 ∧ 1 ≤ zfr m ∧ (s1.map zcat).sum + 30 ≤ zlo m) (K : zG p l e R s mi args below meth c Q D cs A sv m n0 ad0 (pc + 3) L s1 (zcpy h.1 y sp x dp n, h.2)) : zG p l e R s mi args below meth c Q D cs A sv m n0 ad0 pc L (vI n :: vI dp :: vR x :: vI sp :: vR y :: s1) h := by
  obtain ⟨kx, hxh, ky, hyh, hn0, hd0, hs0, hsn, hdn, hfr, hlo⟩ := hc
  obtain ⟨z, ez, hz⟩ := zml_in hm
  unfold zmlR at hz
  rw [ez] at hz
  simp only [show ¬ (11 : Nat) = 0 by decide, show ¬ (11 : Nat) = 1 by decide, show ¬ (11 : Nat) = 2 by decide, show ¬ (11 : Nat) = 3 by decide, show ¬ (11 : Nat) = 10 by decide, if_false, if_true, Bool.and_eq_true] at hz
  refine zG_np (fun hnp => ?_)
  have hNP : zNP = 103 := rfl
  have hx0 : x ≠ 0 := fun z => by rw [z, zkd_0] at kx; cases kx
  have hy0 : y ≠ 0 := fun z => by rw [z, zkd_0] at ky; cases ky
  have hlx := zkd_len x (by omega)
  have hly := zkd_len y (by omega)
  have rn : zRI n := ⟨by omega, by omega⟩
  have rd : zRI dp := ⟨by omega, by omega⟩
  have rs : zRI sp := ⟨by omega, by omega⟩
  intro ad H locs ls hw hl hL hvo hnl hso hnn had
  have hs1 := (List.forall_mem_cons.mp (List.forall_mem_cons.mp (List.forall_mem_cons.mp (List.forall_mem_cons.mp (List.forall_mem_cons.mp hso).2).2).2).2).2
  have hcv : (vI n :: vI dp :: vR x :: vI sp :: vR y :: s1).map (zcv ad sv) = .int (Int32.ofInt n) :: .int (Int32.ofInt dp) :: .ref (ad x) :: .int (Int32.ofInt sp) :: .ref (ad y) :: s1.map (zcv ad sv) := by
    show _ :: _ :: zcv ad sv (vR x) :: _ :: zcv ad sv (vR y) :: _ = _
    rw [zcv_p hx0 (by omega), zcv_p hy0 (by omega)]
    rfl
  rw [hcv]
  have hex := zws_at cs ad (h := h) (p := x) (by omega) hxh
  have hey := zws_at cs ad (h := h) (p := y) (by omega) hyh
  rw [zcell_i (by omega) (by omega), kx] at hex
  rw [zcell_i (by omega) (by omega), ky] at hey
  have h1 := zcat_sum (ad := ad) (zsvc cx) s1
  have h2 := cx.2.2.2.2.2.2.2.2.1
  have h3 := znfw
  have hini : (Cond.initialized "java/lang/System").before args s = true := by
    have h0 : Cond.initialized "java/lang/System" ∈ tables_1 := by decide +kernel
    exact cx.2.2.2.2.1 _ (List.mem_filter.mpr ⟨List.mem_append_right _ h0, rfl⟩)
  refine va_copyi cx.1 cx.2.1 (by rw [cx.2.2.1, ← hL]; exact hl.1.symm) cx.2.2.2.1 (cx.2.2.2.2.1 _ (zwq_in hz.1.1)) (cx.2.2.2.2.1 _ (zwq_in hz.2)) (cx.2.2.2.2.1 _ (zwq_in hz.1.2)) hini cx.2.2.2.2.2.2.2.2.2.2.2.1 hw.1 hw.2.1 hw.2.2.1 (y - 1) (x - 1) 0 0 hey hex rfl rfl rfl (zi_neg rs hs0) (zi_neg rd hd0) (zi_neg rn hn0) (by rw [zi_nat rs hs0, zi_nat rn hn0]; omega) (by rw [zi_nat rd hd0, zi_nat rn hn0]; omega) (fun _ _ => rfl) (by have := cx.2.2.2.2.2.2.2.1; omega) (by rw [h1]; omega) hd (fun H1 locs1 hP hD hS => ?_)
  have hcell : (.inl (cs 1, (zkd x).2, .inl (va_cpy (fun j => Int32.ofInt (h.1 y j)) (fun j => Int32.ofInt (h.1 x j)) (Int32.ofInt sp).toNatClampNeg (Int32.ofInt dp).toNatClampNeg (Int32.ofInt n).toNatClampNeg)) : va_E) = zcell cs ad (zcpy h.1 y sp x dp n, h.2) x := by
    rw [zcell_i (by omega) (by omega), kx]
    congr 4
    funext j
    rw [zi_nat rs hs0, zi_nat rd hd0, zi_nat rn hn0]
    show (if dp.toNat ≤ j ∧ j < dp.toNat + n.toNat then Int32.ofInt (h.1 y ((sp.toNat + (j - dp.toNat) : Nat) : Int)) else Int32.ofInt (h.1 x j)) = Int32.ofInt (if x = x ∧ dp ≤ (j : Int) ∧ (j : Int) < dp + n then h.1 y (sp + ((j : Int) - dp)) else h.1 x j)
    by_cases hj : dp.toNat ≤ j ∧ j < dp.toNat + n.toNat
    · rw [if_pos hj, if_pos (by omega), show ((sp.toNat + (j - dp.toNat) : Nat) : Int) = sp + ((j : Int) - dp) by omega]
    · rw [if_neg hj, if_neg (by omega)]
  rw [zws_set (cs := cs) (ad := ad) (h := h) (h' := (zcpy h.1 y sp x dp n, h.2)) (p := x) (by omega) hxh rfl (fun q hq => zcell_cpy hq) hcell] at hP hD
  exact K ad H1 locs1 ls ⟨hP, hD, hS, hw.2.2.2.1.cp, hw.2.2.2.2.1, hw.2.2.2.2.2.1, hw.2.2.2.2.2.2.cp (by omega)⟩ hl hL hvo hnl hs1 hnn had
theorem zarr5 {cell : Cell} {f : Int → Int} {cA : ClassId} (h0 : cell.cls = cA) (h1 : cell.slots.size = 5) (h2 : ∀ j : Nat, j < 5 → cell.slots[j]? = some (.int (Int32.ofInt (f j)))) : ({ cls := cell.cls, slots := cell.slots } : Cell) = vp_cell cA (5, .inl (fun j => Int32.ofInt (f j))) := by
  rw [vp_cell_i]
  unfold arrV
  rw [h0]
  congr 1
  apply Array.ext
  · rw [h1, Array.size_ofFn]
  · intro j hj1 hj2
    rw [Array.getElem_ofFn]
    have h3 := h2 j (by omega)
    rw [Array.getElem?_eq_getElem hj1] at h3
    exact Option.some.inj h3
theorem zs_clone {a d : Nat} {s1 : List zV} (cx : zCx p R s mi args meth c D cs A sv m n0 nf) (hd : decode (zb m) pc = .ok (.invokevirtual a, 3)) (hm : zml (zo m) a = some (12, d)) (hc : zkd (h.2.2.1 + 1) = (1, 5) ∧ h.2.2.1 < zNP ∧ 1 ≤ zfr m ∧ (s1.map zcat).sum + 30 ≤ zlo m) (hnf : h.2.2.1 + 1 ≤ nf) (K : zG p l e R s mi args below meth c Q D cs A sv m n0 ad0 (pc + 3) L (vR (h.2.2.1 + 1) :: s1) (zcpy (zmk h).1 900 0 (h.2.2.1 + 1) 0 5, (zmk h).2)) : zG p l e R s mi args below meth c Q D cs A sv m n0 ad0 pc L (vR 900 :: s1) h := by
  obtain ⟨hk, hlt, hfr, hlo⟩ := hc
  obtain ⟨z, ez, hz⟩ := zml_in hm
  unfold zmlR at hz
  rw [ez] at hz
  simp only [show ¬ (12 : Nat) = 0 by decide, show ¬ (12 : Nat) = 1 by decide, show ¬ (12 : Nat) = 2 by decide, show ¬ (12 : Nat) = 3 by decide, show ¬ (12 : Nat) = 10 by decide, show ¬ (12 : Nat) = 11 by decide, if_false, Bool.and_eq_true] at hz
  have hNP : zNP = 103 := rfl
  have gw : ∀ w : Cond, w ∈ tables_1 → goodWord w = true → w.before args s = true := fun w h1 h2 => cx.2.2.2.2.1 _ (List.mem_filter.mpr ⟨List.mem_append_right _ h1, h2⟩)
  have w1 : (Cond.sameMethod "[I" "java/lang/Object" "clone" "()Ljava/lang/Object;").before args s = true := gw _ (by decide +kernel) rfl
  have w2 : (Cond.native ⟨"java/lang/Object", "clone", "()Ljava/lang/Object;"⟩).before args s = true := gw _ (by decide +kernel) rfl
  have w3 : (Cond.instanceMethod ⟨"java/lang/Object", "clone", "()Ljava/lang/Object;"⟩).before args s = true := gw _ (by decide +kernel) rfl
  have w4 : (Cond.selects "[I" ⟨"[I", "clone", "()Ljava/lang/Object;"⟩ ⟨"java/lang/Object", "clone", "()Ljava/lang/Object;"⟩).before args s = true := gw _ (by decide +kernel) rfl
  have hca : Cond.castable "[I" "java/lang/Cloneable" ∈ znws := by
    have h0 : Cond.castable "[I" "java/lang/Cloneable" ∈ tables_1 := by decide +kernel
    exact List.mem_filter.mpr ⟨List.mem_append_right _ h0, rfl⟩
  have hsz : zsz (h.2.2.1 + 1) = 5 := by unfold zsz; rw [hk]; rfl
  refine zG_mk (e0 := .inl (cs 1, 5, .inl (fun j => Int32.ofInt (zcpy (zmk h).1 900 0 (h.2.2.1 + 1) 0 5 (h.2.2.1 + 1) j)))) cx hnf K hlt rfl rfl (fun i => (zmk_I i).cp) (zmk_R hlt) (fun x hx => ?_) (fun x hx => zmk_2 hx) (fun ad _ a => ?_) (fun hs => (List.forall_mem_cons.mp hs).2) (fun ad H locs ls cells slots hw hl hL hs hc1 hc2 kk => ?_)
  · funext j
    show zcpy (zmk h).1 900 0 (h.2.2.1 + 1) 0 5 x j = h.1 x j
    unfold zcpy
    rw [if_neg (fun z => hx z.1), zmk_1 hx]
  · rw [zcell_i (by rw [hk]; decide) (by rw [hk]; decide), hk]
  · rw [hsz] at hc2 kk
    have hro := hw.2.2.2.2.2.2
    obtain ⟨cell, b1, b2, b3, b4, b5, b6, b7⟩ := hro.2.2.2.2.2.2.2.2
    have hcs : s.vm.findClass "[I" = some (cs 1) := (cx.2.2.2.2.2.2.2.2.2.2.2.1.2 0 (cs 1, .int) rfl).2
    have hcl : cell.cls = cs 1 := Option.some.inj (b4.symm.trans hcs)
    have hcellH : H[ad 900]? = some cell := by rw [hw.2.2.1.2.1 _ (Array.getElem?_eq_some_iff.mp b1).1 b7]; exact b1
    have hcv : (vR 900 :: s1).map (zcv ad sv) = .ref (ad 900) :: s1.map (zcv ad sv) := by
      show zcv ad sv (vR 900) :: _ = _
      rw [zcv_p (by omega) (by omega)]
    rw [hcv]
    obtain ⟨c0, t0', f1, f2, f3⟩ := Cond.castable_spec (va_Nw.use (A := args) rfl (hro.2.2.2.2.2.1 _ hca))
    cases b4.symm.trans f1
    intro T hT X
    have hcellT : T.heap[ad 900]? = some cell := by rw [hT]; exact hcellH
    obtain ⟨-, kA, hkA, comp, hkind⟩ := State.isArrayOf_alike X.warmed.alike ((cx.2.2.2.2.2.2.2.2.2.2.2.1.2 0 (cs 1, .int) rfl).1 0 (fun _ => .null))
    obtain ⟨-, kS, hkS, compS, hkindS⟩ := (cx.2.2.2.2.2.2.2.2.2.2.2.1.2 0 (cs 1, .int) rfl).1 0 (fun _ => .null)
    have hkA' : T.vm.classes[cs 1]? = some kA := hkA
    have hkS' : s.vm.classes[cs 1]? = some kS := hkS
    have hcatS := zcat_sum (ad := ad) (zsvc cx) s1
    have hlo2 := cx.2.2.2.2.2.2.2.2.1
    obtain ⟨vm', X', stp⟩ := X.cloneArray cx.1 cx.2.2.2.1 (cx.2.2.2.2.1 _ (zwq_in hz.2)) w1 w2 w3 w4 (a := ad 900) (cell := cell) hcellT (fun k h => by rw [h] at b2; cases b2) b3 (by rw [← f1]) f2 f3
      (fun i v hv => by
        rw [hcl]
        have hi : i < 5 := by have := (Array.getElem?_eq_some_iff.mp hv).1; omega
        rw [b6 i hi] at hv
        cases Option.some.inj hv
        simp [State.fitsSlot, State.slotType?, hkA', hkind, fits])
      (g := F0 mi pc ls (.ref (ad 900) :: s1.map (zcv ad sv))) rfl (by rw [cx.2.2.1, ← hL]; exact hl.1) rfl (by rw [cx.2.1]; exact hd) (by have := cx.2.2.2.2.2.2.2.1; omega) (by show 2 * 0 + _ + 14 ≤ _; rw [hcatS]; omega) hc1 (by rw [b5]; exact hc2) (hloader := by rw [hcl]; exact Vm.clonesLoader_of_array hkS' hkindS)
    have hce := zarr5 (f := zcpy (zmk h).1 900 0 (h.2.2.1 + 1) 0 5 (h.2.2.1 + 1)) hcl b5 (fun j hj => by
      rw [b6 j hj]
      show _ = some (Value.int (Int32.ofInt (if h.2.2.1 + 1 = h.2.2.1 + 1 ∧ (0 : Int) ≤ (j : Int) ∧ (j : Int) < 0 + 5 then (zmk h).1 900 (0 + ((j : Int) - 0)) else _)))
      rw [if_pos (by omega), zmk_1 (by omega), show (0 : Int) + ((j : Int) - 0) = (j : Int) by omega])
    rw [hce, b5] at X'
    generalize hH1 : H.push (vp_cell (cs 1) (5, .inl (fun j => Int32.ofInt (zcpy (zmk h).1 900 0 (h.2.2.1 + 1) 0 5 (h.2.2.1 + 1) j)))) = H1
    have z1 : H1.size = H.size + 1 := by rw [← hH1, Array.size_push]
    have e1 : H1[H.size]? = some (vp_cell (cs 1) (5, .inl (fun j => Int32.ofInt (zcpy (zmk h).1 900 0 (h.2.2.1 + 1) 0 5 (h.2.2.1 + 1) j)))) := by rw [← hH1, Array.getElem?_push_size]
    have o1 : ∀ q : Nat, q < H.size → H1[q]? = H[q]? := fun q hq => by rw [← hH1, Array.getElem?_push, if_neg (Nat.ne_of_lt hq)]
    have hS := hw.2.2.1
    obtain ⟨t, g1, g2⟩ := kk H.size H1 ((hw.1.kept (fun k y hy => o1 y.1 ((hw.1 k y hy).lt))).app (fun k y hy => by
        have hz : k < 1 := (List.getElem?_eq_some_iff.mp hy).1
        rw [show k = 0 by omega] at hy
        cases hy
        exact e1)) (hw.2.1.push hw.1 rfl (cx.2.2.2.2.2.2.2.2.2.2.2.2.2 _ hS.1)) ⟨Nat.le_trans hS.1 (by omega), fun y h1 h2 => (o1 y (Nat.lt_of_lt_of_le h1 hS.1)).trans (hS.2.1 y h1 h2), hS.2.2⟩
      ((T.setVm vm').pushCell (vp_cell (cs 1) (5, .inl (fun j => Int32.ofInt (zcpy (zmk h).1 900 0 (h.2.2.1 + 1) 0 5 (h.2.2.1 + 1) j))))) (by rw [← hH1, ← hT]; rfl) X'
    refine ⟨t, stp t ?_, g2⟩
    rw [hce, hT]
    exact g1
end ZS7
end
section
/-! ===== what a run keeps; calls ===== -/
theorem znar_b {a : Int} (h1 : -128 ≤ a) (h2 : a < 128) : narrow .byte (.int (Int32.ofInt a)) = .int (Int32.ofInt a) := by
  show Value.int ((Int32.ofInt a).toInt8.toInt32) = _
  congr 1
  apply Int32.toInt_inj.mp
  rw [Int8.toInt_toInt32, Int32.toInt_toInt8, zi_to ⟨by omega, by omega⟩, Int.bmod_def]
  split <;> omega
theorem znar_c {a : Int} (h1 : 0 ≤ a) (h2 : a < 65536) : narrow .char (.int (Int32.ofInt a)) = .int (Int32.ofInt a) := by
  show Value.int ((Int32.ofInt a).toUInt32.toUInt16.toUInt32.toInt32) = _
  congr 1
  obtain ⟨n, rfl⟩ : ∃ n : Nat, a = (n : Int) := ⟨a.toNat, by omega⟩
  rw [Int32.ofInt_eq_ofNat]
  apply Int32.toBitVec_inj.mp
  apply BitVec.eq_of_toNat_eq
  simp
  omega
/-- what is only read stays, cells don't go -/
def zkp (h h' : zH) : Prop := h.2.2.1 ≤ h'.2.2.1 ∧ h'.2.2.1 ≤ zNP ∧ h'.2.2.2 = h.2.2.2 ∧ ∀ p, 899 ≤ p → h'.1 p = h.1 p ∧ h'.2.1 p = h.2.1 p
theorem zkp.rf {h : zH} (hn : h.2.2.1 ≤ zNP) : zkp h h := ⟨Nat.le_refl _, hn, rfl, fun _ _ => ⟨rfl, rfl⟩⟩
theorem zkp.tr {a b c : zH} (h1 : zkp a b) (h2 : zkp b c) : zkp a c := ⟨Nat.le_trans h1.1 h2.1, h2.2.1, h2.2.2.1.trans h1.2.2.1, fun p hp => ⟨(h2.2.2.2 p hp).1.trans (h1.2.2.2 p hp).1, (h2.2.2.2 p hp).2.trans (h1.2.2.2 p hp).2⟩⟩
theorem zkp.wI {h : zH} (hn : h.2.2.1 ≤ zNP) {p : Nat} (hp : p ≤ h.2.2.1) {k x : Int} : zkp h (sI h.1 p k x, h.2) := by
  have hNP : zNP = 103 := rfl
  refine ⟨Nat.le_refl _, hn, rfl, fun q hq => ⟨?_, rfl⟩⟩
  funext j
  show sI h.1 p k x q j = h.1 q j
  unfold sI
  rw [if_neg (by omega)]
theorem zkp.wR {h : zH} (hn : h.2.2.1 ≤ zNP) {p : Nat} (hp : p ≤ h.2.2.1) {k : Int} {x : Nat} : zkp h (h.1, sR h.2.1 p k x, h.2.2) := by
  have hNP : zNP = 103 := rfl
  refine ⟨Nat.le_refl _, hn, rfl, fun q hq => ⟨rfl, ?_⟩⟩
  funext j
  show sR h.2.1 p k x q j = h.2.1 q j
  unfold sR
  rw [if_neg (by omega)]
theorem zkp.cp {h : zH} (hn : h.2.2.1 ≤ zNP) {a p : Nat} (hp : p ≤ h.2.2.1) {sp dp n : Int} : zkp h (zcpy h.1 a sp p dp n, h.2) := by
  have hNP : zNP = 103 := rfl
  refine ⟨Nat.le_refl _, hn, rfl, fun q hq => ⟨?_, rfl⟩⟩
  funext j
  show zcpy h.1 a sp p dp n q j = h.1 q j
  unfold zcpy
  rw [if_neg (by omega)]
theorem zkp.mk {h : zH} (hn : h.2.2.1 < zNP) : zkp h (zmk h) := by
  have hNP : zNP = 103 := rfl
  exact ⟨Nat.le_succ _, hn, rfl, fun q hq => ⟨zmk_1 (by omega), zmk_2 (by omega)⟩⟩
theorem zcall_go {m o idx pc k1 k2 : Nat} {L st : List zV} {h : zH} {q : Nat × List zV × List zV × zH} (ha : zcall m o idx pc k1 k2 L st h = .inl q) : ∃ k d, zml o idx = some (k, d) ∧
    ((k = 10 ∧ k2 = 3 ∧ ∃ x s1, st = vR x :: s1 ∧ (1 ≤ x ∧ x ≤ h.2.2.1 ∧ 1 ≤ zfr m ∧ (s1.map zcat).sum + 12 ≤ zlo m) ∧ q = (pc, L, s1, h)) ∨
     (k = 11 ∧ k1 = 1 ∧ ∃ n dp x sp y s1, st = vI n :: vI dp :: vR x :: vI sp :: vR y :: s1 ∧ ((zkd x).1 = 1 ∧ x ≤ h.2.2.1 ∧ (zkd y).1 = 1 ∧ y ≤ h.2.2.1 ∧ 0 ≤ n ∧ 0 ≤ dp ∧ 0 ≤ sp ∧ sp + n ≤ (zkd y).2 ∧ dp + n ≤ (zkd x).2 ∧ 1 ≤ zfr m ∧ (s1.map zcat).sum + 30 ≤ zlo m) ∧ q = (pc, L, s1, (zcpy h.1 y sp x dp n, h.2))) ∨
     (k = 12 ∧ k1 = 0 ∧ ∃ s1, st = vR 900 :: s1 ∧ (zkd (h.2.2.1 + 1) = (1, 5) ∧ h.2.2.1 < zNP ∧ 1 ≤ zfr m ∧ (s1.map zcat).sum + 30 ≤ zlo m) ∧ q = (pc, L, vR (h.2.2.1 + 1) :: s1, (zcpy (zmk h).1 900 0 (h.2.2.1 + 1) 0 5, (zmk h).2)))) := by
  unfold zcall at ha
  split at ha
  · rename_i k d hk
    refine ⟨k, d, hk, ?_⟩
    split at ha
    · split at ha
      · split at ha
        · cases ha
        · split at ha
          · split at ha
            · cases ha
            · cases ha
          · cases ha
      · cases ha
    · split at ha
      · rename_i h10
        split at ha
        · rename_i x s1
          split at ha
          · rename_i hc
            exact Or.inl ⟨h10.1, h10.2, x, s1, rfl, hc, (Sum.inl.inj ha).symm⟩
          · cases ha
        · cases ha
      · split at ha
        · rename_i h11
          split at ha
          · rename_i n dp x sp y s1
            split at ha
            · rename_i hc
              exact Or.inr (Or.inl ⟨h11.1, h11.2, n, dp, x, sp, y, s1, rfl, hc, (Sum.inl.inj ha).symm⟩)
            · cases ha
          · cases ha
        · split at ha
          · rename_i h12
            split at ha
            · rename_i x s1
              split at ha
              · rename_i hc
                obtain ⟨rfl, hc⟩ := hc
                exact Or.inr (Or.inr ⟨h12.1, h12.2, s1, rfl, hc, (Sum.inl.inj ha).symm⟩)
              · cases ha
            · cases ha
          · cases ha
  · cases ha
theorem zcall_call {m o idx pc k1 k2 : Nat} {L st : List zV} {h : zH} {d pc' : Nat} {as st' : List zV} (ha : zcall m o idx pc k1 k2 L st h = .inr (.inl (d, as, pc', st'))) : ∃ k, zml o idx = some (k, d) ∧ (k = k1 ∨ k = k2) ∧ zna d ≤ st.length ∧ d < 217 ∧ zfr d + 1 ≤ zfr m ∧ 8 + (zL d + 11) + zlo d ≤ zlo m ∧ ((st.drop (zna d)).map zcat).sum ≤ 8 ∧ (st.take (zna d)).all (fun v => v.isSome && (zhl d || znl v)) = true ∧ (zent as).length ≤ zL d ∧ as = (st.take (zna d)).reverse ∧ pc' = pc ∧ st' = st.drop (zna d) ∧ (k ≠ 1 → ∃ x rest, as = vR x :: rest ∧ ((zkd x = (0, zo d) ∧ x ≤ h.2.2.1) ∨ (zo d = 13 ∧ zkd x = (0, 20)))) := by
  unfold zcall at ha
  split at ha
  · rename_i k d' hk
    split at ha
    · rename_i hkk
      split at ha
      · rename_i hc
        obtain ⟨c1, c2, c3, c4, c5, c6, c7⟩ := hc
        split at ha
        · rename_i h1
          cases Sum.inl.inj (Sum.inr.inj ha)
          exact ⟨k, hk, hkk, c1, c2, c3, c4, c5, c6, c7, rfl, rfl, rfl, fun z => absurd h1 z⟩
        · split at ha
          · rename_i x rest hx
            split at ha
            · rename_i hr
              cases Sum.inl.inj (Sum.inr.inj ha)
              exact ⟨k, hk, hkk, c1, c2, c3, c4, c5, c6, c7, rfl, rfl, rfl, fun _ => ⟨x, rest, hx, hr⟩⟩
            · cases ha
          · cases ha
      · cases ha
    · split at ha
      · split at ha
        · split at ha
          · cases ha
          · cases ha
        · cases ha
      · split at ha
        · split at ha
          · split at ha
            · cases ha
            · cases ha
          · cases ha
        · split at ha
          · split at ha
            · split at ha
              · cases ha
              · cases ha
            · cases ha
          · cases ha
  · cases ha
set_option maxHeartbeats 2000000 in
theorem zac0_kp {m pc len : Nat} {i : Instr} {L st : List zV} {h : zH} {q : Nat × List zV × List zV × zH} (hn : h.2.2.1 ≤ zNP) (ha : zac0 m i pc len L st h = .inl q) : zkp h q.2.2.2 := by
  have hNP : zNP = 103 := rfl
  cases i <;> simp only [zac0] at ha
  case invokevirtual k =>
    obtain ⟨k, d, _, ⟨_, _, x, s1, _, _, rfl⟩ | ⟨_, _, n, dp, x, sp, y, s1, _, hc, rfl⟩ | ⟨_, _, s1, _, hc, rfl⟩⟩ := zcall_go ha
    · exact zkp.rf hn
    · exact zkp.cp hn hc.2.1
    · exact (zkp.mk hc.2.1).tr (zkp.cp (h := zmk h) hc.2.1 (Nat.le_refl _))
  case invokestatic k =>
    obtain ⟨k, d, _, ⟨_, _, x, s1, _, _, rfl⟩ | ⟨_, _, n, dp, x, sp, y, s1, _, hc, rfl⟩ | ⟨_, _, s1, _, hc, rfl⟩⟩ := zcall_go ha
    · exact zkp.rf hn
    · exact zkp.cp hn hc.2.1
    · exact (zkp.mk hc.2.1).tr (zkp.cp (h := zmk h) hc.2.1 (Nat.le_refl _))
  case invokespecial k =>
    obtain ⟨k, d, _, ⟨_, _, x, s1, _, _, rfl⟩ | ⟨_, _, n, dp, x, sp, y, s1, _, hc, rfl⟩ | ⟨_, _, s1, _, hc, rfl⟩⟩ := zcall_go ha
    · exact zkp.rf hn
    · exact zkp.cp hn hc.2.1
    · exact (zkp.mk hc.2.1).tr (zkp.cp (h := zmk h) hc.2.1 (Nat.le_refl _))
  case putfield k =>
    unfold zput at ha
    split at ha
    · split at ha
      · rename_i hc
        cases Sum.inl.inj ha
        exact zkp.wI hn hc.2.1
      · cases ha
    · split at ha
      · rename_i hc
        cases Sum.inl.inj ha
        exact zkp.wR hn hc.2.1
      · cases ha
    · cases ha
  case iastore =>
    unfold zast at ha
    split at ha
    · split at ha
      · rename_i hc
        cases Sum.inl.inj ha
        exact zkp.wI hn hc.2.1
      · cases ha
    · cases ha
  case bastore =>
    unfold zbast at ha
    split at ha
    · split at ha
      · rename_i hc
        split at ha
        · cases Sum.inl.inj ha
          exact zkp.wI hn hc.1
        · split at ha
          · cases Sum.inl.inj ha
            exact zkp.wI hn hc.1
          · cases ha
      · cases ha
    · cases ha
  case lastore =>
    unfold zlast at ha
    split at ha
    · split at ha
      · rename_i hc
        cases Sum.inl.inj ha
        exact zkp.wI hn hc.2.1
      · cases ha
    · cases ha
  case aastore =>
    unfold zaast at ha
    split at ha
    · split at ha
      · rename_i hc
        cases Sum.inl.inj ha
        exact zkp.wR hn hc.2.2.1
      · cases ha
    · cases ha
  case new k =>
    unfold znew at ha
    split at ha
    · split at ha
      · rename_i hc
        cases Sum.inl.inj ha
        exact zkp.mk hc.2
      · cases ha
    · cases ha
  case newarray k =>
    unfold znewa at ha
    split at ha
    · split at ha
      · rename_i hc
        cases Sum.inl.inj ha
        exact zkp.mk hc.2.2.2
      · cases ha
    · cases ha
  case anewarray k =>
    unfold zanew at ha
    split at ha
    · split at ha
      · rename_i hc
        cases Sum.inl.inj ha
        exact zkp.mk hc.2.2.2
      · cases ha
    · cases ha
  all_goals first
    | (cases ha; done)
    | (try simp only [zldI, zldL, zldR, zstI, zstR, zstJ, zinc, zbin, zdv, zjmp, zif, zicmp, zifnull, ztab, zlook, zget, zgst, zald, zlen, zrt] at ha
       repeat' split at ha
       all_goals first
         | (cases ha; done)
         | (cases Sum.inl.inj ha; exact zkp.rf hn))
theorem zac0_call {m pc len : Nat} {i : Instr} {L st : List zV} {h : zH} {x : Nat × List zV × Nat × List zV} (ha : zac0 m i pc len L st h = .inr (.inl x)) : ∃ idx k1 k2, zcall m (zo m) idx (pc + len) k1 k2 L st h = .inr (.inl x) ∧ (i = .invokevirtual idx ∧ k1 = 0 ∧ k2 = 0 ∨ i = .invokestatic idx ∧ k1 = 1 ∧ k2 = 1 ∨ i = .invokespecial idx ∧ k1 = 2 ∧ k2 = 3) := by
  cases i <;> simp only [zac0] at ha
  case invokevirtual k => exact ⟨k, 0, 0, ha, Or.inl ⟨rfl, rfl, rfl⟩⟩
  case invokestatic k => exact ⟨k, 1, 1, ha, Or.inr (Or.inl ⟨rfl, rfl, rfl⟩)⟩
  case invokespecial k => exact ⟨k, 2, 3, ha, Or.inr (Or.inr ⟨rfl, rfl, rfl⟩)⟩
  all_goals first
    | (cases ha; done)
    | (try simp only [zldI, zldL, zldR, zstI, zstR, zstJ, zinc, zbin, zdv, zjmp, zif, zicmp, zifnull, ztab, zlook, zget, zput, zgst, zald, zast, zbast, zlast, zaast, zlen, znew, znewa, zanew, zrt] at ha
       repeat' split at ha
       all_goals (cases ha; done))
theorem zac0_ret {m pc len : Nat} {i : Instr} {L st : List zV} {h : zH} {r : Option zV} (ha : zac0 m i pc len L st h = .inr (.inr (.inl r))) : (i = .return_ ∧ st = [] ∧ zret m = none ∧ r = none) ∨ (i = .ireturn ∧ ∃ a ty, st = [vI a] ∧ r = some (vI a) ∧ zret m = some ty ∧ (zRI a → narrow ty (.int (Int32.ofInt a)) = .int (Int32.ofInt a))) := by
  cases i <;> simp only [zac0] at ha
  case ireturn =>
    right
    refine ⟨rfl, ?_⟩
    unfold zrt at ha
    split at ha
    · rename_i a
      split at ha
      · rename_i hr
        cases Sum.inl.inj (Sum.inr.inj (Sum.inr.inj ha))
        exact ⟨a, _, rfl, rfl, hr, fun _ => rfl⟩
      · rename_i hr
        split at ha
        · rename_i hc
          cases Sum.inl.inj (Sum.inr.inj (Sum.inr.inj ha))
          exact ⟨a, _, rfl, rfl, hr, fun _ => by rcases hc with rfl | rfl <;> decide⟩
        · cases ha
      · rename_i hr
        split at ha
        · rename_i hc
          cases Sum.inl.inj (Sum.inr.inj (Sum.inr.inj ha))
          exact ⟨a, _, rfl, rfl, hr, fun ra => znar_c hc.1 hc.2⟩
        · cases ha
      · rename_i hr
        split at ha
        · rename_i hc
          cases Sum.inl.inj (Sum.inr.inj (Sum.inr.inj ha))
          exact ⟨a, _, rfl, rfl, hr, fun ra => znar_b hc.1 hc.2⟩
        · cases ha
      · cases ha
    · cases ha
  case return_ =>
    split at ha
    · rename_i hc
      cases Sum.inl.inj (Sum.inr.inj (Sum.inr.inj ha))
      exact Or.inl ⟨rfl, hc.1, hc.2, rfl⟩
    · cases ha
  case invokevirtual k =>
    exfalso
    unfold zcall at ha
    repeat' split at ha
    all_goals (cases ha; done)
  case invokestatic k =>
    exfalso
    unfold zcall at ha
    repeat' split at ha
    all_goals (cases ha; done)
  case invokespecial k =>
    exfalso
    unfold zcall at ha
    repeat' split at ha
    all_goals (cases ha; done)
  all_goals first
    | (cases ha; done)
    | (exfalso
       try simp only [zldI, zldL, zldR, zstI, zstR, zstJ, zinc, zbin, zdv, zjmp, zif, zicmp, zifnull, ztab, zlook, zget, zput, zgst, zald, zast, zbast, zlast, zaast, zlen, znew, znewa, zanew] at ha
       repeat' split at ha
       all_goals (cases ha; done))
theorem zact_inv {m pc len : Nat} {i : Instr} {L st : List zV} {h : zH} {y : zA} (hy : y ≠ zno) (ha : zact m i pc len L st h = y) : (ziln i = 0 ∨ ziln i = len) ∧ zac0 m i pc len L st h = y := by
  unfold zact at ha
  split at ha
  · rename_i hc
    exact ⟨hc, ha⟩
  · exact absurd ha.symm hy
theorem zev_kp : ∀ (n : Nat) {m pc : Nat} {L st : List zV} {h : zH} {o : Option zV × zH}, h.2.2.1 ≤ zNP → zev n m pc L st h = some o → zkp h o.2 := by
  intro n
  induction n with
  | zero => intro m pc L st h o hn e; cases e
  | succ n ih =>
    intro m pc L st h o hn e
    cases hd : decode (zb m) pc with
    | error z => rw [zev, hd] at e; cases e
    | ok q =>
      obtain ⟨i, len⟩ := q
      rw [zev_step hd] at e
      cases ha : zact m i pc len L st h with
      | inl q =>
        obtain ⟨pc', L', st', h'⟩ := q
        rw [ha] at e
        have h1 := zac0_kp hn (zact_inv (by simp) ha).2
        exact h1.tr (ih h1.2.1 e)
      | inr q =>
        cases q with
        | inl q =>
          obtain ⟨c, as, pc', st'⟩ := q
          rw [ha] at e
          simp only at e
          cases hc : zev n c 0 (zin0 c as) [] h with
          | none => rw [hc] at e; cases e
          | some r =>
            rw [hc] at e
            have h1 := ih hn hc
            exact h1.tr (ih h1.2.1 e)
        | inr q =>
          rw [ha] at e
          cases q with
          | inl r => cases e; exact zkp.rf hn
          | inr _ => cases e
end
section
/-! ===== the machine's answer is the JVM's ===== -/
theorem zMet_ofW {l : Launch} {y : MethodName} {ws ws' : List Cond} {rm : Room} {Pc : Array Value → State → Prop} {Qc : Array Value → State → Outcome → State → Prop} {mc ms : Nat} {free : Addr → Prop} {cc : ByteArray} {maxL : Nat} {ret : Option FieldType}
    (hy : plainFor y = true) (hw : ws = Cond.code y cc maxL ret :: ws')
    (body : ∀ p e s m args below meth c s₁, BodyLoose p l y (headSpec ws rm) cc maxL ret e s m args below meth c s₁ → c.maxLocals = maxL → Pc args s →
      W p l e (headSpec ws rm).room s m args below meth c s.heap [] 0 0 (MQ below Qc args s mc ms free) (entryFrame m args maxL)) : Met l y ws rm Pc Qc mc ms free := by
  refine MetFree.of_bodySF (code := cc) (maxLocals := maxL) (ret := ret) hy ?_ ?_
  · intro args s m h hn
    obtain ⟨meth, c, h1, h2, h3, h4, h5, h6, -, -⟩ := Cond.code_spec hn (atoms_spec (ws := ws) h _ (by rw [hw]; exact List.mem_cons_self))
    exact ⟨meth, c, h1, h2, h3, h4, h5, h6⟩
  · intro p e s m args below meth c s₁ B hml hP _
    have hh0 : s₁.heap = s.heap := by rw [B.state]; rfl
    obtain ⟨t, a1, o, b1, b2, b3⟩ := body p e s m args below meth c s₁ B hml hP s₁ hh0 (Stand.of_body B)
    exact ⟨t, o, a1, b1, b2, ⟨b3.1, b3.2⟩⟩
theorem zent_sl {ad : Nat → Nat} {sv : Value} (hsv : sv.category = 1) : ∀ as : List zV, (∀ v ∈ as, v.isSome = true) → (lg_sl (as.map (zcv ad sv))).length = (zent as).length ∧ ∀ (k : Nat) (w : Int ⊕ Int ⊕ Nat), (zent as)[k]? = some (some w) → (lg_sl (as.map (zcv ad sv)))[k]? = some (.val (zcv ad sv (some w))) := by
  intro as
  induction as with
  | nil => intro _; exact ⟨rfl, fun k w h => by simp [zent] at h⟩
  | cons v as ih =>
    intro hs
    obtain ⟨h1, h2⟩ := ih (fun w hw => hs w (List.mem_cons_of_mem _ hw))
    have hv := hs v List.mem_cons_self
    have e1 : lg_sl ((v :: as).map (zcv ad sv)) = (if (zcv ad sv v).category = 2 then [.val (zcv ad sv v), .second] else [.val (zcv ad sv v)]) ++ lg_sl (as.map (zcv ad sv)) := by
      unfold lg_sl
      rfl
    have e2 : zent (v :: as) = (if zcat v = 2 then [v, none] else [v]) ++ zent as := rfl
    rw [e1, e2, zcat_cv hsv]
    by_cases hc : zcat v = 2
    · rw [if_pos hc, if_pos hc]
      refine ⟨by simp [h1], fun k w hk => ?_⟩
      match k, hk with
      | 0, hk => simp at hk; rw [hk]; simp
      | 1, hk => simp at hk
      | k + 2, hk => simp at hk ⊢; exact h2 k w hk
    · rw [if_neg hc, if_neg hc]
      refine ⟨by simp [h1], fun k w hk => ?_⟩
      match k, hk with
      | 0, hk => simp at hk; rw [hk]; simp
      | k + 1, hk => simp at hk ⊢; exact h2 k w hk
theorem zin0_len {d : Nat} {as : List zV} (h : (zent as).length ≤ zL d) : (zin0 d as).length = zL d := by
  unfold zin0
  rw [List.length_append, List.length_replicate]
  omega
/-- the locals at a method's entry -/
theorem zin0_lr {ad : Nat → Nat} {sv : Value} (hsv : sv.category = 1) {d : Nat} {as : List zV} (hs : ∀ v ∈ as, v.isSome = true) (hl : (zent as).length ≤ zL d) : zlr ad sv (zin0 d as) ((lg_sl (as.map (zcv ad sv)) ++ List.replicate (zL d - (lg_sl (as.map (zcv ad sv))).length) Slot.unset).toArray) := by
  obtain ⟨h1, h2⟩ := zent_sl (ad := ad) hsv as hs
  have h3 := lv_entry (as.map (zcv ad sv)) (n := zL d) (by omega)
  refine ⟨by rw [zin0_len hl]; exact h3.1, h3.2.1, fun k w hk => ?_⟩
  unfold zin0 at hk
  by_cases hlt : k < (zent as).length
  · rw [List.getElem?_append_left hlt] at hk
    have h4 := h2 k w hk
    simp only [List.getElem?_toArray]
    rw [List.getElem?_append_left (by omega)]
    exact h4
  · rw [List.getElem?_append_right (by omega), List.getElem?_replicate] at hk
    split at hk <;> cases hk
theorem zent_mem {as : List zV} {P : zV → Prop} (h0 : P none) (h : ∀ v ∈ as, P v) : ∀ v ∈ zent as, P v := by
  induction as with
  | nil => intro v hv; cases hv
  | cons w as ih =>
    intro v hv
    have e2 : zent (w :: as) = (if zcat w = 2 then [w, none] else [w]) ++ zent as := rfl
    rw [e2, List.mem_append] at hv
    rcases hv with hv | hv
    · split at hv
      · rcases List.mem_cons.mp hv with rfl | hv
        · exact h v List.mem_cons_self
        · rw [List.mem_singleton.mp hv]; exact h0
      · rw [List.mem_singleton.mp hv]; exact h w List.mem_cons_self
    · exact ih (fun u hu => h u (List.mem_cons_of_mem _ hu)) v hv
theorem zin0_mem {d : Nat} {as : List zV} {P : zV → Prop} (h0 : P none) (h : ∀ v ∈ as, P v) : ∀ v ∈ zin0 d as, P v := by
  intro v hv
  unfold zin0 at hv
  rcases List.mem_append.mp hv with hv | hv
  · exact zent_mem h0 h v hv
  · rw [(List.mem_replicate.mp hv).2]; exact h0
/-- a method's start: its values, its world -/
def zPc (D : va_G) (cs : Nat → ClassId) (sv : Value) (ad : Nat → Nat) (sz : Nat) (as : List zV) (h : zH) : Array Value → State → Prop := va_Pc (as.map (zcv ad sv)) (fun U => U.heap.size = sz ∧ va_P D vwCl (zws cs ad h) U.heap ∧ va_K D vwCl (ztys cs) U ∧ va_D (fun _ => True) (zws cs ad h) ∧ zRO (va_A (zws cs ad h) sz) ad sv U U.heap h)
/-- what holds behind it -/
def zB (D : va_G) (cs : Nat → ClassId) (A : Nat → Prop) (h : zH) (u : Nat → Nat) (t : State) : Prop := va_P D vwCl (zws cs u h) t.heap ∧ va_K D vwCl (ztys cs) t ∧ va_D A (zws cs u h)
def zPo (ad : Nat → Nat) (h h1 : zH) (u : Nat → Nat) : Prop := (∀ q, q ≤ h.2.2.1 ∨ 899 ≤ q → u q = ad q) ∧ zokI h1 ∧ zokR h1
def zQc (D : va_G) (cs : Nat → ClassId) (ad : Nat → Nat) (sz : Nat) (h h1 : zH) (r : Option zV) : Array Value → State → Outcome → State → Prop := match r with
  | some (some (.inl a)) => va_Qi (fun x u => x = Int32.ofInt a ∧ zPo ad h h1 u ∧ zRI a) (zB D cs (va_A (zws cs ad h) sz) h1) (va_A (zws cs ad h) sz)
  | _ => va_Qv (fun u => zPo ad h h1 u) (zB D cs (va_A (zws cs ad h) sz) h1) (va_A (zws cs ad h) sz)
def zrm (d : Nat) (h h1 : zH) : Room := { frames := zfr d, cells := h1.2.2.1 - h.2.2.1, slots := zsl h1.2.2.1 - zsl h.2.2.1, locals := zlo d }
/-- what a run of a method comes to -/
def zfinP (p : Program) (l : Launch) (e : Env) (R : Room) (s : State) (mi : MethodId) (args : Array Value) (below : List Frame) (meth : Method) (c : Code) (Q : State → Prop) (D : va_G) (cs : Nat → ClassId) (A : Nat → Prop) (sv : Value) (m n0 : Nat) (ad0 : Nat → Nat) (r : Option zV) (hf : zH) : Prop :=
  ∀ (pc : Nat) (i : Instr) (ad : Nat → Nat) (H : Heap) (locs : List Loc) (ls : Array Slot), decode (zb m) pc = .ok (i, 1) → (i = .return_ ∧ zret m = none ∧ r = none ∨ i = .ireturn ∧ ∃ a ty, r = some (vI a) ∧ zret m = some ty ∧ zRI a ∧ narrow ty (.int (Int32.ofInt a)) = .int (Int32.ofInt a)) → zWd D cs A s sv H locs ad hf → n0 ≤ hf.2.2.1 → (∀ q, q ≤ n0 ∨ 899 ≤ q → ad q = ad0 q) → W p l e R s mi args below meth c H locs (hf.2.2.1 - n0) (zsl hf.2.2.1 - zsl n0) Q (F0 mi pc ls (r.toList.map (zcv ad sv)))
/-- soundness of n steps -/
def zSnd (l : Launch) (n : Nat) : Prop := ∀ (m pc : Nat) (L st : List zV) (h : zH) (r : Option zV) (hf : zH), zev n m pc L st h = some (r, hf) → ∀ (p : Program) (e : Env) (R : Room) (s : State) (mi : MethodId) (args : Array Value) (below : List Frame) (meth : Method) (c : Code) (Q : State → Prop) (D : va_G) (cs : Nat → ClassId) (A : Nat → Prop) (sv : Value) (n0 : Nat) (ad0 : Nat → Nat), zCx p R s mi args meth c D cs A sv m n0 hf.2.2.1 → zfinP p l e R s mi args below meth c Q D cs A sv m n0 ad0 r hf → zG p l e R s mi args below meth c Q D cs A sv m n0 ad0 pc L st h
/-- a method's contract out of its run -/
theorem zmet {l : Launch} {n d : Nat} (ih : zSnd l n) {as : List zV} {h h1 : zH} {r : Option zV} (hev : zev n d 0 (zin0 d as) [] h = some (r, h1)) (hd : d < 217) (D : va_G) (cs : Nat → ClassId) (sv : Value) (hsv : sv = .null ∨ ∃ x, sv = .ref x) (ad : Nat → Nat) (sz : Nat) (hs : ∀ v ∈ as, v.isSome = true ∧ zvo h.2.2.1 v) (hnl : zhl d = false → ∀ v ∈ as, znl v = true) (hl : (zent as).length ≤ zL d) (hI : zokI h) (hR : zokR h) (hn : h.2.2.1 ≤ zNP) :
    Met l (zy d) (Cond.code (zy d) (zb d) (zL d) (zret d) :: zgt) (zrm d h h1) (zPc D cs sv ad sz as h) (zQc D cs ad sz h h1 r) (h1.2.2.1 - h.2.2.1) (zsl h1.2.2.1 - zsl h.2.2.1) (va_A (zws cs ad h) sz) := by
  obtain ⟨m1, m2, m3, m4, m5, m6, m7⟩ := zm_ok hd
  have hsvc : sv.category = 1 := by rcases hsv with e | ⟨x, e⟩ <;> rw [e] <;> rfl
  refine zMet_ofW (cc := zb d) (maxL := zL d) (ret := zret d) m5 rfl ?_
  intro p e s mi args below meth c s₁ B hml hv
  obtain ⟨rfl, hsz, hP, hK, hD0, hro⟩ := hv
  have hts := atoms_spec (ws := Cond.code (zy d) (zb d) (zL d) (zret d) :: zgt) B.pre
  have hown : s.vm.findClass (zy d).cls = some mi.cls := findClass_of_methodNamed B.named
  have hlocks := B.notSynchronized
  have hin : meth.name = (zy d).name := (name_of_methodNamed B.named B.method).1
  subst hsz
  rw [lg_entry_eq]
  have hA : ∀ q : Nat, s.heap.size ≤ q → va_A (zws cs ad h) s.heap.size q := fun q h => Or.inr h
  have cx : zCx p (headSpec (Cond.code (zy d) (zb d) (zL d) (zret d) :: zgt) (zrm d h h1)).room s mi ((as.map (zcv ad sv)).toArray) meth c D cs (va_A (zws cs ad h) s.heap.size) sv d h.2.2.1 h1.2.2.1 :=
    ⟨B.exec, B.bytes, hml, by rw [m6]; exact hown, fun w hw => hts w (List.mem_cons_of_mem _ hw), hlocks, fun z => by rw [hin]; exact m7 z, Nat.le_refl _, Nat.le_refl _, Nat.le_refl _, Nat.le_refl _, hK, hsv, hA⟩
  have key := ih d 0 (zin0 d as) [] h r h1 hev p e (headSpec (Cond.code (zy d) (zb d) (zL d) (zret d) :: zgt) (zrm d h h1)).room s mi ((as.map (zcv ad sv)).toArray) below meth c (MQ below (zQc D cs ad s.heap.size h h1 r) ((as.map (zcv ad sv)).toArray) s (h1.2.2.1 - h.2.2.1) (zsl h1.2.2.1 - zsl h.2.2.1) (va_A (zws cs ad h) s.heap.size)) D cs (va_A (zws cs ad h) s.heap.size) sv h.2.2.1 ad cx ?_
  · have k := key ad s.heap [] _ ⟨hP, hD0.self, va_S.rf, hI, hR, hn, hro⟩ (zin0_lr hsvc (fun v hv => (hs v hv).1) hl) (zin0_len hl) (zin0_mem trivial (fun v hv => (hs v hv).2)) (fun z => zin0_mem rfl (hnl z)) (fun v hv => by cases hv) (Nat.le_refl _) (fun _ _ => rfl)
    rw [Nat.sub_self, Nat.sub_self] at k
    exact k
  · intro pc i ad' H locs ls hdc hi hw hn0 had
    have hr := B.returns
    rcases hi with ⟨rfl, hret, rfl⟩ | ⟨rfl, a, ty, rfl, hret, ra, hnar⟩
    · rw [hret] at hr
      refine W.vret B.exec B.bytes hr (fun t ht hW => ?_) hw.2.2.1.2.2 hdc
      exact ⟨⟨ad', rfl, ⟨had, hw.2.2.2.1, hw.2.2.2.2.1⟩, by rw [ht]; exact hw.1, va_K.moved hW.alike hK, hw.2.1⟩, hw.2.2.1.F ht⟩
    · rw [hret] at hr
      refine W.zret B.exec B.bytes hr hnar (fun t ht hW => ?_) hw.2.2.1.2.2 hdc
      exact ⟨⟨Int32.ofInt a, ad', rfl, ⟨rfl, ⟨had, hw.2.2.2.1, hw.2.2.2.2.1⟩, ra⟩, by rw [ht]; exact hw.1, va_K.moved hW.alike hK, hw.2.1⟩, hw.2.2.1.F ht⟩
end
section
theorem zev_ret : ∀ (n : Nat) {m pc : Nat} {L st : List zV} {h : zH} {o : Option zV × zH}, zev n m pc L st h = some o → o.1 = none ∨ ∃ a, o.1 = some (vI a) := by
  intro n
  induction n with
  | zero => intro m pc L st h o e; cases e
  | succ n ih =>
    intro m pc L st h o e
    cases hd : decode (zb m) pc with
    | error z => rw [zev, hd] at e; cases e
    | ok q =>
      obtain ⟨i, len⟩ := q
      rw [zev_step hd] at e
      cases ha : zact m i pc len L st h with
      | inl q =>
        obtain ⟨pc', L', st', h'⟩ := q
        rw [ha] at e
        exact ih e
      | inr q =>
        cases q with
        | inl q =>
          obtain ⟨c, as, pc', st'⟩ := q
          rw [ha] at e
          simp only at e
          cases hc : zev n c 0 (zin0 c as) [] h with
          | none => rw [hc] at e; cases e
          | some r =>
            rw [hc] at e
            exact ih e
        | inr q =>
          rw [ha] at e
          cases q with
          | inl r =>
            cases e
            rcases zac0_ret (zact_inv (by simp) ha).2 with ⟨_, _, _, e1⟩ | ⟨_, a, _, _, e1, _⟩
            · exact Or.inl e1
            · exact Or.inr ⟨a, e1⟩
          | inr _ => cases e
theorem zon_cn : ∀ ci : Nat, ci < 12 → zon ci = zCn ci := by decide +kernel
theorem zRO.frame {A : Nat → Prop} {ad : Nat → Nat} {sv : Value} {s U : State} {HH : Heap} {h : zH} (hv : U.vm = s.vm) (r : zRO A ad sv s HH h) : zRO A ad sv U HH h := by
  have ha : s.vm.Alike U.vm := by rw [hv]; exact Vm.Alike.refl _
  obtain ⟨r1, r2, r3, r4, r5, r6, r7, r8, r9⟩ := r
  refine ⟨r1.moved ha, fun k hk => ⟨(r2 k hk).1.moved ha, (r2 k hk).2.moved ha⟩, r3.moved ha, r4.moved ha, fun k hk => ?_, fun w hw => ?_, r7.moved ha, r8.moved ha, ?_⟩
  · obtain ⟨a1, a2, a3, a4, a5, a6⟩ := r5 k hk
    exact ⟨va_O.moved ha a1, va_OF.moved ha a2, va_OF.moved ha a3, a4.moved ha, a5, a6.same hv⟩
  · have hz := r6 w hw
    have h2 := (List.mem_filter.mp hw).2
    cases w <;> first | (cases h2; done) | exact va_Nw.same rfl hv.symm hz
  · obtain ⟨cell, a1, a2, a3, a4, a5⟩ := r9
    exact ⟨cell, a1, a2, a3, by rw [hv]; exact a4, a5⟩
section ZM
variable {l : Launch}
set_option maxHeartbeats 1000000 in
theorem zs_call {n : Nat} (ih : zSnd l n) {p : Program} {e : Env} {R : Room} {s : State} {mi : MethodId} {args : Array Value} {below : List Frame} {meth : Method} {c : Code} {Q : State → Prop} {D : va_G} {cs : Nat → ClassId} {A : Nat → Prop} {sv : Value} {m n0 : Nat} {ad0 : Nat → Nat} {pc len : Nat} {L st : List zV} {h hf : zH} {i : Instr} (cx : zCx p R s mi args meth c D cs A sv m n0 hf.2.2.1)
    (hd : decode (zb m) pc = .ok (i, len)) (hlen : ziln i = 0 ∨ ziln i = len) {d pc' : Nat} {as st' : List zV} (ha : zac0 m i pc len L st h = .inr (.inl (d, as, pc', st'))) {r1 : Option zV} {h1 : zH} (hc : zev n d 0 (zin0 d as) [] h = some (r1, h1)) (hk2 : h.2.2.1 ≤ zNP → h1.2.2.1 ≤ hf.2.2.1) (K : zG p l e R s mi args below meth c Q D cs A sv m n0 ad0 pc' L (zpush r1 st') h1) : zG p l e R s mi args below meth c Q D cs A sv m n0 ad0 pc L st h := by
  obtain ⟨idx, k1, k2, hz, hi⟩ := zac0_call ha
  obtain ⟨k, hml, hkk, c1, c2, c3, c4, c5, c6, c7, has, hpc, hst', hrec⟩ := zcall_call hz
  have hl3 : len = 3 := by rcases hi with ⟨rfl, _⟩ | ⟨rfl, _⟩ | ⟨rfl, _⟩ <;> simp only [ziln] at hlen <;> omega
  subst hl3
  intro ad H locs ls hw hl hL hvo hnl hso hn0 had
  have hNP : zNP = 103 := rfl
  obtain ⟨hP, hD, hS, hI, hR, hn, hro⟩ := hw
  obtain ⟨hx, hb, hmx, hown, hts, hlocks, hname, hfr, hlo, hcl, hsl, hK, hsv, hA⟩ := id cx
  have hsvc := zsvc cx
  have kp : zkp h h1 := zev_kp n hn hc
  have hk3 := hk2 hn
  obtain ⟨m1, m2, m3, m4, m5, m6, m7⟩ := zm_ok c2
  have hmem : ∀ v ∈ as, v ∈ st := fun v hv => by rw [has] at hv; exact List.mem_of_mem_take (List.mem_reverse.mp hv)
  have hs : ∀ v ∈ as, v.isSome = true ∧ zvo h.2.2.1 v := fun v hv => hso v (hmem v hv)
  have hnla : zhl d = false → ∀ v ∈ as, znl v = true := fun z v hv => by
    have hv' : v ∈ st.take (zna d) := by rw [has] at hv; exact List.mem_reverse.mp hv
    have h2 := List.all_eq_true.mp c6 v hv'
    simp only [Bool.and_eq_true, Bool.or_eq_true] at h2
    rcases h2.2 with h3 | h3
    · rw [z] at h3; cases h3
    · exact h3
  have met := zmet ih hc c2 D cs sv hsv ad H.size hs hnla c7 hI hR hn
  have hFree : ∀ q, va_A (zws cs ad h) H.size q → A q := by
    rintro q (⟨k, y, hk⟩ | hq)
    · exact hD.2 k (q, y) hk
    · exact hA q (Nat.le_trans hS.1 hq)
  have hroH : zRO (va_A (zws cs ad h) H.size) ad sv s H h := (hro.kept hS.2.1).narrow hFree
  have hblind : FrameBlind (zPc D cs sv ad H.size as h) := fun a U g mk q => by
    obtain ⟨q0, q1, qP, qK, qD, qR⟩ := q
    have qR2 : zRO (va_A (zws cs ad h) H.size) ad sv (U.calling g mk a) U.heap h := zRO.frame (s := U) (U := U.calling g mk a) rfl qR
    exact ⟨q0, q1, qP, va_K.moved (u := U) (U := U.calling g mk a) (Vm.Alike.refl U.vm) qK, qD, qR2⟩
  have hpre : ∀ U : State, U.heap = H → s.WarmedH U.vm → zPc D cs sv ad H.size as h (as.map (zcv ad sv)).toArray U := fun U hU hW =>
    ⟨rfl, by rw [hU], by rw [hU]; exact hP, va_K.moved hW.alike hK, hD.weaken (fun _ _ _ _ => trivial), by rw [hU]; exact hroH.moved hW⟩
  have hG : GoodIn zgt (Cond.code (zy d) (zb d) (zL d) (zret d) :: zgt) := fun w hw => (List.mem_cons.mp hw).elim (fun z => z ▸ zgt_good _ m1) (zgt_good w)
  have hsum : 2 * (F0 mi pc ls (st.map (zcv ad sv))).monitorRoom + ((st'.map (zcv ad sv)).map fun v => v.category).sum ≤ 8 := lv_room (by rw [zcat_sum hsvc, hst']; exact c5)
  have hsp : st = as.reverse ++ st' := by rw [has, hst', List.reverse_reverse, List.take_append_drop]
  have hal : as.length = zna d := by rw [has, List.length_reverse, List.length_take]; omega
  have hroom : h.2.2.1 - n0 + (h1.2.2.1 - h.2.2.1) ≤ R.cells ∧ zsl h.2.2.1 - zsl n0 + (zsl h1.2.2.1 - zsl h.2.2.1) ≤ R.slots := by
    have a1 := zsl_mono hn0
    have a2 := zsl_mono kp.1
    have a3 := zsl_mono hk3
    have a4 := kp.1
    omega
  have hfix : CallFix p mi c (zb m) (zL m) s args zgt (zon (zo m)) := ⟨hx, hb, hmx, hown, hts⟩
  have hlsz : ls.size = zL m := by rw [← hL]; exact hl.1
  have hR2 : (zrm d h h1).frames + 1 ≤ R.frames ∧ 8 + (zL d + 11) + (zrm d h h1).locals ≤ R.locals := ⟨Nat.le_trans c3 hfr, Nat.le_trans c4 hlo⟩
  obtain ⟨y, ey, hy⟩ := zml_in hml
  -- the call
  have run : va_Run p l e R s mi args below meth c H locs (h.2.2.1 - n0) (zsl h.2.2.1 - zsl n0) (h1.2.2.1 - h.2.2.1) (zsl h1.2.2.1 - zsl h.2.2.1) (F0 mi pc ls (st.map (zcv ad sv))) (st'.map (zcv ad sv)) (zQc D cs ad H.size h h1 r1 (as.map (zcv ad sv)).toArray) (va_A (zws cs ad h) H.size) := by
    have recvx : ∀ x rest0, as = vR x :: rest0 → x ≠ 0 ∧ x ≠ 1200 → as.map (zcv ad sv) = .ref (ad x) :: rest0.map (zcv ad sv) ∧ st.map (zcv ad sv) = (rest0.map (zcv ad sv)).reverse ++ .ref (ad x) :: st'.map (zcv ad sv) ∧ (rest0.map (zcv ad sv)).length = zna d - 1 := by
      intro x rest0 e0 hx0
      have e1 : as.map (zcv ad sv) = .ref (ad x) :: rest0.map (zcv ad sv) := by
        rw [e0]
        show zcv ad sv (vR x) :: _ = _
        rw [zcv_p hx0.1 hx0.2]
      refine ⟨e1, ?_, ?_⟩
      · rw [hsp, List.map_append, List.map_reverse, e1, List.reverse_cons, List.append_assoc]
        rfl
      · rw [List.length_map, ← hal, e0]
        rfl
    rcases hi with ⟨rfl, rfl, rfl⟩ | ⟨rfl, rfl, rfl⟩ | ⟨rfl, rfl, rfl⟩
    · have k0 : k = 0 := by omega
      subst k0
      unfold zmlR at hy
      rw [ey] at hy
      simp only [if_true, Bool.and_eq_true, decide_eq_true_eq] at hy
      obtain ⟨⟨⟨⟨⟨w1, w2⟩, w3⟩, _⟩, w4⟩, w5⟩ := hy
      obtain ⟨x, rest0, e0, hrc⟩ := hrec (by decide)
      have hx0 : x ≠ 0 ∧ x ≠ 1200 := by
        rcases hrc with ⟨g1, g2⟩ | ⟨g1, g2⟩
        · exact ⟨fun z => by (rw [z, zkd_0] at g1; cases g1), by omega⟩
        · refine ⟨fun z => by (rw [z, zkd_0] at g2; cases g2), fun z => ?_⟩
          rw [z] at g2
          exact absurd g2 (by decide +kernel)
      obtain ⟨e1, e2, e3⟩ := recvx x rest0 e0 hx0
      have hrv : ∃ cellB : Cell, H[ad x]? = some cellB ∧ cellB.vm.isStatics = false ∧ s.vm.findClass (zy d).cls = some cellB.cls := by
        rcases hrc with ⟨g1, g2⟩ | ⟨g1, g2⟩
        · have hci := zkd_lo x (by omega) (by rw [g1])
          rw [g1] at hci
          have he := zws_at cs ad (h := h) (p := x) (by omega) g2
          rw [zcell_o g1] at he
          have := va_recv hK hP (zcls hci).1 he
          rw [← m6, zon_cn _ hci]
          exact this
        · have hx : ∃ j, j < 6 ∧ x = 1000 + j := by
            by_cases hxl : x ≤ 103
            · have := zkd_lo x hxl (by rw [g2])
              rw [g2] at this
              exact absurd this (by decide)
            · rcases zkd_hi (p := x) (by omega) with z | ⟨_, z⟩ | ⟨_, z⟩ | ⟨j, hj, e1, _⟩ | ⟨j, _, _, z⟩
              · rw [z] at g2; cases g2
              · rw [z] at g2; cases g2
              · rw [z] at g2; cases g2
              · exact ⟨j, hj, e1⟩
              · rw [z] at g2; cases g2
          obtain ⟨j, hj, rfl⟩ := hx
          obtain ⟨cell, b1, b2, b3, b4⟩ := (hro.2.2.2.2.1 j hj).1.kept hS.2.1
          refine ⟨cell, b1, b2, ?_⟩
          rw [← m6, g1]
          exact b3
      have r := va_runV (As := rest0.map (zcv ad sv)) (rest := st'.map (zcv ad sv)) (b := ad x) (C := (zy d).cls) (locs := locs) (cells := h.2.2.1 - n0) (slots := zsl h.2.2.1 - zsl n0) (below := below) (e := e) (meth := meth) (g := F0 mi pc ls (st.map (zcv ad sv))) hfix met ⟨callB_of (zna d - 1) hts hG rfl rfl rfl (hts _ m2) (hts _ (zwq_in w1)) ⟨m3, m4, w4⟩ hR2, hts _ (zwq_in w2), hts _ (zwq_in w3)⟩ ⟨hblind, hrv, fun U hU hW => by rw [← e1]; exact hpre U hU hW⟩ rfl e3 hlsz e2 hsum hd hroom
      rw [← e1] at r
      exact r
    · have k0 : k = 1 := by omega
      subst k0
      unfold zmlR at hy
      rw [ey] at hy
      simp only [show ¬ (1 : Nat) = 0 by decide, if_false, if_true, Bool.and_eq_true, decide_eq_true_eq] at hy
      obtain ⟨⟨⟨w1, w2⟩, _⟩, w4⟩ := hy
      refine va_runS hfix met ⟨callB_of (zna d) hts hG rfl rfl rfl (hts _ m2) (hts _ (zwq_in w1)) ⟨m3, m4, w4⟩ hR2, hts _ (zwq_in w2)⟩ ⟨hblind, hpre⟩ rfl (by rw [List.length_map]; exact hal) hlsz ?_ hsum hd hroom
      show st.map (zcv ad sv) = (as.map (zcv ad sv)).reverse ++ st'.map (zcv ad sv)
      rw [hsp, List.map_append, List.map_reverse]
    · have k0 : k = 2 ∨ k = 3 := hkk
      obtain ⟨x, rest0, e0, hrc⟩ := hrec (by omega)
      have hx0 : x ≠ 0 ∧ x ≠ 1200 := by
        rcases hrc with ⟨g1, g2⟩ | ⟨g1, g2⟩
        · exact ⟨fun z => by (rw [z, zkd_0] at g1; cases g1), by omega⟩
        · refine ⟨fun z => by (rw [z, zkd_0] at g2; cases g2), fun z => ?_⟩
          rw [z] at g2
          exact absurd g2 (by decide +kernel)
      obtain ⟨e1, e2, e3⟩ := recvx x rest0 e0 hx0
      rcases k0 with rfl | rfl
      · unfold zmlR at hy
        rw [ey] at hy
        simp only [show ¬ (2 : Nat) = 0 by decide, show ¬ (2 : Nat) = 1 by decide, if_false, if_true, Bool.and_eq_true, decide_eq_true_eq] at hy
        obtain ⟨⟨⟨⟨⟨⟨w1, w2⟩, _⟩, w4⟩, _⟩, w6⟩, w7⟩ := hy
        have r := va_runI (As := rest0.map (zcv ad sv)) (rest := st'.map (zcv ad sv)) (b := ad x) (locs := locs) (cells := h.2.2.1 - n0) (slots := zsl h.2.2.1 - zsl n0) (below := below) (e := e) (meth := meth) (g := F0 mi pc ls (st.map (zcv ad sv))) hfix met ⟨callB_of (zna d - 1) hts hG (by rw [w7]) rfl rfl (hts _ m2) (hts _ (zwq_in w1)) ⟨m3, m4, w4⟩ hR2, w6, hts _ (zwq_in w2)⟩ ⟨hblind, fun U hU hW => by rw [← e1]; exact hpre U hU hW⟩ rfl e3 hlsz e2 hsum hd hroom
        rw [← e1] at r
        exact r
      · unfold zmlR at hy
        rw [ey] at hy
        simp only [show ¬ (3 : Nat) = 0 by decide, show ¬ (3 : Nat) = 1 by decide, show ¬ (3 : Nat) = 2 by decide, if_false, if_true, Bool.and_eq_true, decide_eq_true_eq] at hy
        obtain ⟨⟨⟨⟨⟨⟨w1, w2⟩, _⟩, w4⟩, _⟩, w6⟩, w7⟩ := hy
        unfold znw at w1
        rw [Bool.and_eq_true, decide_eq_true_eq] at w1
        have hnw := hro.2.2.2.2.2.1 _ (List.mem_filter.mpr ⟨List.mem_of_getElem? w1.1, rfl⟩)
        have r := va_runIN (As := rest0.map (zcv ad sv)) (rest := st'.map (zcv ad sv)) (b := ad x) (locs := locs) (cells := h.2.2.1 - n0) (slots := zsl h.2.2.1 - zsl n0) (below := below) (e := e) (meth := meth) (g := F0 mi pc ls (st.map (zcv ad sv))) hfix met ⟨va_cnB (zna d - 1) hts hG (by rw [w7]) rfl rfl hnw (hts _ m2) ⟨m3, m4, w4⟩ hR2, w6, hts _ (zwq_in w2)⟩ ⟨hblind, fun U hU hW => by rw [← e1]; exact hpre U hU hW⟩ rfl e3 hlsz e2 hsum hd hroom
        rw [← e1] at r
        exact r
  -- behind it
  have cont : ∀ (u : Nat → Nat) (t : State) (H1 : Heap) (locs1 : List Loc), t.heap = H1 → s.vm.Alike t.vm → zPo ad h h1 u → zB D cs (va_A (zws cs ad h) H.size) h1 u t → va_S A s.heap H1 locs1 → (∀ v ∈ zpush r1 st', v.isSome = true ∧ zvo h1.2.2.1 v) → W p l e R s mi args below meth c H1 locs1 (h.2.2.1 - n0 + (h1.2.2.1 - h.2.2.1)) (zsl h.2.2.1 - zsl n0 + (zsl h1.2.2.1 - zsl h.2.2.1)) Q (F0 mi (pc + 3) ls ((zpush r1 st').map (zcv u sv))) := by
    intro u t H1 locs1 ht hvm hpo hB hS1 hst
    have a1 := zsl_mono hn0
    have a2 := zsl_mono kp.1
    have a4 := kp.1
    rw [show h.2.2.1 - n0 + (h1.2.2.1 - h.2.2.1) = h1.2.2.1 - n0 by omega, show zsl h.2.2.1 - zsl n0 + (zsl h1.2.2.1 - zsl h.2.2.1) = zsl h1.2.2.1 - zsl n0 by omega, ← hpc]
    refine K u H1 locs1 ls ⟨by rw [← ht]; exact hB.1, hB.2.2.weaken (fun _ _ _ z => hFree _ z), hS1, hpo.2.1, hpo.2.2, kp.2.1, zRO.same (h := h) (ad := ad) (fun x hx => (kp.2.2.2 x hx).1) (fun x hx => (kp.2.2.2 x hx).2) kp.2.2.1 (fun x hx => hpo.1 x (Or.inr hx)) hro⟩ ⟨hl.1, hl.2.1, fun k w hk => ?_⟩ hL (fun v hv => zvo_mono kp.1 (hvo v hv)) hnl hst (by omega) (fun x hx => by rw [hpo.1 x (by omega)]; exact had x hx)
    rw [zcv_ext hpo.1 (hvo _ (List.mem_of_getElem? hk))]
    exact hl.2.2 k w hk
  have hst1 : ∀ v ∈ st', v.isSome = true ∧ zvo h1.2.2.1 v := fun v hv => by
    have h2 := hso v (by rw [hst'] at hv; exact List.mem_of_mem_drop hv)
    exact ⟨h2.1, zvo_mono kp.1 h2.2⟩
  have hmap : ∀ u, (∀ q, q ≤ h.2.2.1 ∨ 899 ≤ q → u q = ad q) → st'.map (zcv u sv) = st'.map (zcv ad sv) := fun u hu => List.map_congr_left (fun v hv => zcv_ext hu (hso v (by rw [hst'] at hv; exact List.mem_of_mem_drop hv)).2)
  rcases zev_ret n hc with e1 | ⟨a, e1⟩
  · have e1 : r1 = none := e1
    subst e1
    refine va_callv (a := (as.map (zcv ad sv)).toArray) (S := Nat → Nat) (post := fun u => zPo ad h h1 u) (B := zB D cs (va_A (zws cs ad h) H.size) h1) run hS (fun q _ h => hFree q h) hFree (fun u t H1 locs1 ht hvm hpo hB _ _ hS1 => ?_)
    have k := cont u t H1 locs1 ht hvm hpo hB hS1 hst1
    have k' : W p l e R s mi args below meth c H1 locs1 (h.2.2.1 - n0 + (h1.2.2.1 - h.2.2.1)) (zsl h.2.2.1 - zsl n0 + (zsl h1.2.2.1 - zsl h.2.2.1)) Q (F0 mi (pc + 3) ls (st'.map (zcv u sv))) := k
    rw [hmap u hpo.1] at k'
    exact k'
  · have e1 : r1 = some (vI a) := e1
    subst e1
    refine va_calli (a := (as.map (zcv ad sv)).toArray) (S := Nat → Nat) (post := fun x u => x = Int32.ofInt a ∧ zPo ad h h1 u ∧ zRI a) (B := zB D cs (va_A (zws cs ad h) H.size) h1) run hS (fun q _ h => hFree q h) hFree (fun x u t H1 locs1 ht hvm hpo hB _ _ hS1 => ?_)
    obtain ⟨rfl, hpo, ra⟩ := hpo
    have k := cont u t H1 locs1 ht hvm hpo hB hS1 (zcons ⟨rfl, ra⟩ hst1)
    have k' : W p l e R s mi args below meth c H1 locs1 (h.2.2.1 - n0 + (h1.2.2.1 - h.2.2.1)) (zsl h.2.2.1 - zsl n0 + (zsl h1.2.2.1 - zsl h.2.2.1)) Q (F0 mi (pc + 3) ls (.int (Int32.ofInt a) :: st'.map (zcv u sv))) := k
    rw [hmap u hpo.1] at k'
    exact k'
set_option maxHeartbeats 1000000 in
theorem zs_all {p : Program} {e : Env} {R : Room} {s : State} {mi : MethodId} {args : Array Value} {below : List Frame} {meth : Method} {c : Code} {Q : State → Prop} {D : va_G} {cs : Nat → ClassId} {A : Nat → Prop} {sv : Value} {m n0 nf : Nat} {ad0 : Nat → Nat} {pc len : Nat} {L st : List zV} {h : zH} {q : Nat × List zV × List zV × zH} {i : Instr} (cx : zCx p R s mi args meth c D cs A sv m n0 nf) (hd : decode (zb m) pc = .ok (i, len)) (hlen : ziln i = 0 ∨ ziln i = len) (ha : zac0 m i pc len L st h = .inl q) (hnf : q.2.2.2.2.2.1 ≤ nf) (K : zG p l e R s mi args below meth c Q D cs A sv m n0 ad0 q.1 q.2.1 q.2.2.1 q.2.2.2) : zG p l e R s mi args below meth c Q D cs A sv m n0 ad0 pc L st h := by
  cases i
  case iconst => exact zs_iconst cx hd hlen ha K
  case bipush => exact zs_bipush cx hd hlen ha K
  case sipush => exact zs_sipush cx hd hlen ha K
  case lconst => exact zs_lconst cx hd hlen ha K
  case aconst_null => exact zs_null cx hd hlen ha K
  case ldc => exact zs_ldc cx hd hlen ha K
  case ldc_w => exact zs_ldcw cx hd hlen ha K
  case ldc2_w => exact zs_ldc2 cx hd hlen ha K
  case getstatic => exact zs_getstatic cx hd hlen ha K
  case iload => exact zs_iload cx hd hlen ha K
  case iload_n => exact zs_iload_n cx hd hlen ha K
  case lload => exact zs_lload cx hd hlen ha K
  case lload_n => exact zs_lload_n cx hd hlen ha K
  case aload => exact zs_aload cx hd hlen ha K
  case aload_n => exact zs_aload_n cx hd hlen ha K
  case istore => exact zs_istore cx hd hlen ha K
  case istore_n => exact zs_istore_n cx hd hlen ha K
  case astore => exact zs_astore cx hd hlen ha K
  case astore_n => exact zs_astore_n cx hd hlen ha K
  case lstore => exact zs_lstore cx hd hlen ha K
  case iinc => exact zs_iinc cx hd hlen ha K
  case iadd => exact zs_iadd cx hd hlen ha K
  case isub => exact zs_isub cx hd hlen ha K
  case imul => exact zs_imul cx hd hlen ha K
  case idiv => exact zs_idiv cx hd hlen ha K
  case irem => exact zs_irem cx hd hlen ha K
  case iand => exact zs_iand cx hd hlen ha K
  case ior => exact zs_ior cx hd hlen ha K
  case ixor => exact zs_ixor cx hd hlen ha K
  case ishl => exact zs_ishl cx hd hlen ha K
  case ishr => exact zs_ishr cx hd hlen ha K
  case iushr => exact zs_iushr cx hd hlen ha K
  case i2l => exact zs_i2l cx hd hlen ha K
  case l2i => exact zs_l2i cx hd hlen ha K
  case i2b => exact zs_i2b cx hd hlen ha K
  case i2c => exact zs_i2c cx hd hlen ha K
  case ladd => exact zs_ladd cx hd hlen ha K
  case lcmp => exact zs_lcmp cx hd hlen ha K
  case dup => exact zs_dup cx hd hlen ha K (zsvc cx)
  case dup2 => exact zs_dup2 cx hd hlen ha K (zsvc cx)
  case pop => exact zs_pop cx hd hlen ha K (zsvc cx)
  case goto => exact zs_goto cx hd hlen ha K
  case ifCond => exact zs_if cx hd hlen ha K
  case if_icmp => exact zs_icmp cx hd hlen ha K
  case ifnull => exact zs_ifnull cx hd hlen ha K
  case tableswitch => exact zs_tab cx hd ha K
  case lookupswitch => exact zs_look cx hd ha K
  case getfield => exact zs_getfield cx hd hlen ha K
  case putfield => exact zs_putfield cx hd hlen ha K
  case iaload => exact zs_iaload cx hd hlen ha K
  case baload => exact zs_baload cx hd hlen ha K
  case laload => exact zs_laload cx hd hlen ha K
  case aaload => exact zs_aaload cx hd hlen ha K
  case iastore => exact zs_iastore cx hd hlen ha K
  case bastore => exact zs_bastore cx hd hlen ha K
  case lastore => exact zs_lastore cx hd hlen ha K
  case aastore => exact zs_aastore cx hd hlen ha K
  case arraylength => exact zs_alen cx hd hlen ha K
  case new => exact zs_new cx hd hlen ha hnf K
  case newarray => exact zs_newarray cx hd hlen ha hnf K
  case anewarray => exact zs_anewarray cx hd hlen ha hnf K
  case checkcast => exact zs_checkcast cx hd hlen ha K
  case invokevirtual a =>
    obtain rfl := zl3 rfl hlen
    obtain ⟨k, d, hm, ⟨_, z, _⟩ | ⟨_, z, _⟩ | ⟨rfl, _, s1, rfl, hc, rfl⟩⟩ := zcall_go (show zcall m (zo m) a (pc + 3) 0 0 L st h = .inl q from ha)
    · cases z
    · cases z
    · exact zs_clone cx hd hm hc hnf K
  case invokestatic a =>
    obtain rfl := zl3 rfl hlen
    obtain ⟨k, d, hm, ⟨_, z, _⟩ | ⟨rfl, _, n, dp, x, sp, y, s1, rfl, hc, rfl⟩ | ⟨_, z, _⟩⟩ := zcall_go (show zcall m (zo m) a (pc + 3) 1 1 L st h = .inl q from ha)
    · cases z
    · exact zs_acopy cx hd hm hc K
    · cases z
  case invokespecial a =>
    obtain rfl := zl3 rfl hlen
    obtain ⟨k, d, hm, ⟨rfl, _, x, s1, rfl, hc, rfl⟩ | ⟨_, z, _⟩ | ⟨_, z, _⟩⟩ := zcall_go (show zcall m (zo m) a (pc + 3) 2 3 L st h = .inl q from ha)
    · exact zs_objinit cx hd hm hc K
    · cases z
    · cases z
  case ireturn =>
    exfalso
    simp only [zac0, zrt] at ha
    repeat' split at ha
    all_goals (cases ha; done)
  case return_ =>
    exfalso
    simp only [zac0] at ha
    split at ha
    all_goals (cases ha; done)
  all_goals (exfalso; simp only [zac0] at ha; cases ha; done)
/-- SOUNDNESS: what the abstract machine comes to, the JVM comes to -/
theorem zsound (l : Launch) : ∀ n, zSnd l n := by
  intro n
  induction n with
  | zero => intro m pc L st h r hf e; cases e
  | succ n ih =>
    intro m pc L st h r hf ev p e R s mi args below meth c Q D cs A sv n0 ad0 cx fin
    cases hd : decode (zb m) pc with
    | error z => rw [zev, hd] at ev; cases ev
    | ok q =>
      obtain ⟨i, len⟩ := q
      rw [zev_step hd] at ev
      refine zG_np (fun hnp => ?_)
      cases ha : zact m i pc len L st h with
      | inl q =>
        rw [ha] at ev
        obtain ⟨hlen, ha⟩ := zact_inv (by simp) ha
        have kp1 := zac0_kp hnp ha
        obtain ⟨pc', L', st', h'⟩ := q
        have kp2 := zev_kp n kp1.2.1 ev
        exact zs_all cx hd hlen ha kp2.1 (ih m pc' L' st' h' r hf ev p e R s mi args below meth c Q D cs A sv n0 ad0 cx fin)
      | inr q =>
        cases q with
        | inl q =>
          obtain ⟨d, as, pc', st'⟩ := q
          rw [ha] at ev
          simp only at ev
          obtain ⟨hlen, ha⟩ := zact_inv (by simp) ha
          cases hc : zev n d 0 (zin0 d as) [] h with
          | none => rw [hc] at ev; cases ev
          | some x =>
            rw [hc] at ev
            obtain ⟨r1, h1⟩ := x
            exact zs_call ih cx hd hlen ha hc (fun hn => (zev_kp n (zev_kp n hn hc).2.1 ev).1) (ih m pc' L (zpush r1 st') h1 r hf ev p e R s mi args below meth c Q D cs A sv n0 ad0 cx fin)
        | inr q =>
          rw [ha] at ev
          cases q with
          | inl r' =>
            obtain ⟨hlen, ha⟩ := zact_inv (by simp) ha
            cases ev
            intro ad H locs ls hw hl hL hvo hnl hso hn0 had
            rcases zac0_ret ha with ⟨rfl, rfl, e3, rfl⟩ | ⟨rfl, a, ty, rfl, rfl, e3, e4⟩
            · obtain rfl := zl1 rfl hlen
              exact fin pc _ ad H locs ls hd (Or.inl ⟨rfl, e3, rfl⟩) hw hn0 had
            · obtain rfl := zl1 rfl hlen
              have ra : zRI a := (hso _ List.mem_cons_self).2
              exact fin pc _ ad H locs ls hd (Or.inr ⟨rfl, a, ty, rfl, e3, ra, e4 ra⟩) hw hn0 had
          | inr _ => cases ev
end ZM
end
section
/-! THE CLAIM OUT OF ONE WALK OF THE LAW'S BODY. Your part is whole_start (and what it stands on); all else here is the same for every law, but numbers. -/
def R_law : String := "PooledWavesLaw"
def lw_P (b : Addr) (xs : List Int32) (args : Array Value) (s : State) : Prop := args = #[.ref b] ∧ s.IntsAt b xs ∧ xs.length ≤ 2560 ∧ (Jvm.Cond.and given_1 narrow_1).before args s = true
def lw_Q (_ : Array Value) (s : State) (o : Outcome) (t : State) : Prop := o = .returned (some (.int 1)) ∧ Framed s o t [] 600000 7302250
def lw_Z (below : List Frame) (a : Array Value) (s : State) : State → Prop := fun t => ∃ o, t.status = .running ∧ Ended t below o ∧ lw_Q a s o t
/-- the law's own end, with 1 on the stack, nothing written that was there before, its room as the claim has it -/
theorem lw_ret {p : Program} {l : Launch} {e : Env} {s : State} {m : MethodId} {below : List Frame} {meth : Method} {c : Code} {b : Nat} (hx : p.tables.exec = Jvm.exec) (hb : c.code = code) (hr : meth.sig.returnType = ret) (hlocks : meth.locks = false) {pc : Nat} {H : Heap} {ls : Array Slot} (hdg : decode code pc = .ok (.ireturn, 1)) : W p l e room_1 s m #[Value.ref b] below meth c H [] 600000 7302250 (lw_Z below #[Value.ref b] s) (F0 m pc ls [.int 1]) := by
  intro T hT X
  obtain ⟨fs, hret, hrun, hended, hW, hframe⟩ := X.leave (v := some (.int 1)) (hlocks := hlocks) (fun h => by rw [hr] at h; cases h)
  have hmeth' : T.vm.method? m = some meth := X.method'
  refine ⟨T.setFrames fs, ?_, .returned (some (.int 1)), hrun, hended, rfl, ⟨_, rfl⟩, hW, hframe⟩
  jvm_step X.here [X.here.top, hx, hb, hdg, hmeth', hr, ret, narrow_b1]
  (try refine ⟨rfl, ?_⟩); (try refine ⟨rfl, ?_⟩)
  first | (intro acts; rw [hret _ acts rfl rfl rfl]) | rw [hret _ _ rfl rfl rfl]
  exact Steps.refl _
/-- what holds at the law's entry: the machine, the code, the tables' words (any of lw_tbl by 'hts w (by decide +kernel)'), the script of L ints xs at the cell b, what the Statement gives of the start (any of its parts by flat_of_before) -/
def lw_At (p : Program) (s : State) (m : MethodId) (meth : Method) (c : Code) (b L : Nat) (xs : Nat → Int32) : Prop :=
  p.tables.exec = Jvm.exec ∧ c.code = code ∧ meth.sig.returnType = ret ∧ c.maxLocals = 4 ∧ s.vm.findClass R_law = some m.cls ∧ (∀ w ∈ lw_tbl, w.before #[Value.ref b] s = true) ∧ va_X b L xs s s.heap ∧ b < s.heap.size ∧ meth.locks = false ∧ (Jvm.Cond.and given_1 narrow_1).before #[Value.ref b] s = true
/-- the memory at the start: what is only read -/
def zroL (p : Nat) : List Int := if p = 900 then [16, 0, 3, 1, 4] else if p = 901 then [1, 0, 1, 0, 0] else if p = 902 then [64, 2, 6, 9, 16] else if 1100 ≤ p ∧ p < 1106 then zsbyt.getD (p - 1100) [] else []
def zI0 (xs : Nat → Int32) : Nat → Int → Int := fun p j => if p = 899 then (xs j.toNat).toInt else if 0 ≤ j then (zroL p).getD j.toNat 0 else 0
def zRm : Nat → Int → Nat := fun p j => if 1000 ≤ p ∧ p < 1006 ∧ j = 0 then p + 100 else 0
def zh0 (L : Nat) (xs : Nat → Int32) : zH := (zI0 xs, zRm, 0, L)
theorem zroL_R : ∀ p j, zRI ((zroL p).getD j 0) := by
  intro p j
  have key : ∀ l : List Int, (∀ x ∈ l, zRI x) → zRI (l.getD j 0) := fun l hl => by
    rw [List.getD_eq_getElem?_getD]
    cases h : l[j]? with
    | none => exact zR0
    | some x => exact hl x (List.mem_of_getElem? h)
  unfold zroL
  split
  · exact key _ (by decide)
  · split
    · exact key _ (by decide)
    · split
      · exact key _ (by decide)
      · split
        · rename_i hp
          have hz : ∀ k : Nat, k < 6 → ∀ x ∈ zsbyt.getD k [], zRI x := by decide
          exact key _ (hz _ (by omega))
        · exact key _ (by decide)
theorem zh0_I (L : Nat) (xs : Nat → Int32) : zokI (zh0 L xs) := fun p j => by
  show zRI (if p = 899 then (xs j.toNat).toInt else if 0 ≤ j then (zroL p).getD j.toNat 0 else 0)
  split
  · exact zt_RI _
  · split
    · exact zroL_R _ _
    · exact zR0
theorem zh0_R (L : Nat) (xs : Nat → Int32) : zokR (zh0 L xs) := by
  refine ⟨fun p k hp => ?_, fun j hj => ?_⟩
  · have hp : p ≤ 0 := hp
    show (if 1000 ≤ p ∧ p < 1006 ∧ k = 0 then p + 100 else 0) ≤ 0
    rw [if_neg (by omega)]
    exact Nat.le_refl _
  · show (if 1000 ≤ 1000 + j ∧ 1000 + j < 1006 ∧ (0 : Int) = 0 then 1000 + j + 100 else 0) = 1100 + j
    rw [if_pos (by omega)]
    omega
theorem zsl_103 : zsl 103 ≤ 7302250 := by decide +kernel
theorem zI0_ro (xs : Nat → Int32) {p j : Nat} (hp : p ≠ 899) : zI0 xs p j = (zroL p).getD j 0 := by
  unfold zI0
  rw [if_neg hp, if_pos (by omega)]
  rfl
theorem zlen_lt {args : Array Value} {s : State} {t : Term} {a : Nat} {cell : Cell} {v : Value} (hv : (Term.length t).eval args s none [] s = some v) (ht : t.eval args s none [] s = some (.ref a)) (harr : s.arrayAt? a = some cell) : cell.slots.size < 2147483648 := by
  simp only [Term.eval, ht, harr, Option.bind_eq_bind, Option.bind_some] at hv
  by_cases hlt : cell.slots.size < 2147483648
  · exact hlt
  · simp [hlt] at hv
/-- the law out of the abstract machine's run of it -/
theorem whole_of (Hw : ∀ (L : Nat) (xs : Nat → Int32), L ≤ 2560 → ∃ hf, zrun 217 [vR 899] (zh0 L xs) = some (some (vI 1), hf)) {p : Program} {e : Env} {s : State} {m : MethodId} {below : List Frame} {meth : Method} {c : Code} (l : Launch) {b L : Nat} {xs : Nat → Int32} (hL : L ≤ 2560) (C0 : lw_At p s m meth c b L xs) : W p l e room_1 s m #[Value.ref b] below meth c s.heap [] 0 0 (lw_Z below #[Value.ref b] s) (entryFrame m ([Value.ref b] : List Value).toArray 4) := by
  obtain ⟨hx, hb, hr, hml, hown, hts, hX, hbl, hlocks, hgv⟩ := C0
  have hfl := flat_of_before _ hgv
  obtain ⟨hf, hrun⟩ := Hw L xs hL
  obtain ⟨n, hev⟩ := zX_some.mp hrun
  have hkp : zkp (zh0 L xs) hf := zev_kp n (Nat.zero_le _) hev
  have hA : ∀ a : Nat, a < s.heap.size → ¬ (fun q : Nat => s.heap.size ≤ q) a := fun a h1 h2 => by omega
  have htz : ∀ w ∈ zgt, w.before #[Value.ref b] s = true := fun w hw => hts w (List.mem_filter.mp hw).1
  have htt : ∀ w ∈ tables_1, w.before #[Value.ref b] s = true := fun w hw => hts w (List.mem_append_right _ hw)
  -- classes
  have hkn : ∀ ci : Nat, ∃ q : ClassId × (Nat → Nat), ci < 12 → u_Kn s (zCn ci) (zT ci) (znF ci) q.1 q.2 := by
    intro ci
    by_cases hci : ci < 12
    · have hz : (List.range 12).all (fun ci => decide (Cond.instantiable (zCn ci) (znF ci) ∈ tables_1)) = true := by decide +kernel
      have h2 := List.all_eq_true.mp hz ci (List.mem_range.mpr hci)
      rw [decide_eq_true_eq] at h2
      obtain ⟨cC, iS, h3⟩ := u_known (T := zT ci) (N := znF ci) htz (zcls hci).2 (htt _ h2)
      exact ⟨(cC, iS), fun _ => h3⟩
    · exact ⟨(0, fun _ => 0), fun z => absurd z hci⟩
  obtain ⟨dq, hdq⟩ := Classical.axiomOfChoice hkn
  -- arrays
  have hpr : ∀ ty : FieldType, Cond.arrayClass ty ∈ tables_1 → (∀ C, ty ≠ .object C) → ∃ cA, ArrOfT s cA ty ∧ va_RA s cA ty := by
    intro ty hty hno
    obtain ⟨cA, kA, comp, h1, h2, h3⟩ := Cond.arrayClass_spec (args := #[Value.ref b]) (first := s) (o := none) (s := s) (idx := []) (htt _ hty)
    refine ⟨cA, fun n z => ⟨fun k h => (by cases h), kA, h2, comp, h3⟩, ?_⟩
    cases ty with
    | object C => exact absurd rfl (hno C)
    | _ => exact h1
  have hob : ∀ C : String, Cond.arrayOver (.object C) ∈ tables_1 → ∃ cA, ArrOfT s cA (.object C) ∧ va_RA s cA (.object C) := by
    intro C hC
    obtain ⟨comp, cA, kA, h1, _, h3, h4, h5⟩ := Cond.arrayOver_spec (args := #[Value.ref b]) (first := s) (o := none) (s := s) (idx := []) (htt _ hC)
    exact ⟨cA, fun n z => ⟨fun k h => (by cases h), kA, h3, comp, h4⟩, kA, comp, h3, h4, h1, h5⟩
  obtain ⟨c1, a1⟩ := hpr .int (by decide +kernel) (fun _ h => by cases h)
  obtain ⟨c2, a2⟩ := hpr .byte (by decide +kernel) (fun _ h => by cases h)
  obtain ⟨c3, a3⟩ := hpr .boolean (by decide +kernel) (fun _ h => by cases h)
  obtain ⟨c4, a4⟩ := hpr .long (by decide +kernel) (fun _ h => by cases h)
  obtain ⟨c5, a5⟩ := hob "PooledWaves$Player" (by decide +kernel)
  obtain ⟨c6, a6⟩ := hob "PooledWaves$Sheet" (by decide +kernel)
  obtain ⟨cs, hcs⟩ : ∃ cs : Nat → ClassId, cs 1 = c1 ∧ cs 2 = c2 ∧ cs 3 = c3 ∧ cs 4 = c4 ∧ cs 5 = c5 ∧ cs 6 = c6 := ⟨fun k => ([0, c1, c2, c3, c4, c5, c6] : List ClassId).getD k 0, rfl, rfl, rfl, rfl, rfl, rfl⟩
  have hK : va_K (fun k => (dq k).1, fun k => (dq k).2) vwCl (ztys cs) s := by
    refine ⟨fun k q hq => ?_, fun k q hq => ?_⟩
    · have hk : k < 12 := (List.getElem?_eq_some_iff.mp hq).1
      have h2 := (zcls hk).1
      cases hq.symm.trans h2
      exact hdq k hk
    · have hk : k < 6 := (List.getElem?_eq_some_iff.mp hq).1
      have hd : k = 0 ∨ k = 1 ∨ k = 2 ∨ k = 3 ∨ k = 4 ∨ k = 5 := by omega
      rcases hd with rfl | rfl | rfl | rfl | rfl | rfl <;> cases hq
      · rw [hcs.1]; exact a1
      · rw [hcs.2.1]; exact a2
      · rw [hcs.2.2.1]; exact a3
      · rw [hcs.2.2.2.1]; exact a4
      · rw [hcs.2.2.2.2.1]; exact a5
      · rw [hcs.2.2.2.2.2]; exact a6
  -- the static arrays
  have hst : ∀ nm : String, ∀ f : Nat → Int, (Cond.arrayOf (.static "PooledWaves" nm "[I") .int) ∈ flatC (Jvm.Cond.and given_1 narrow_1) → (Cond.eq (.length (.static "PooledWaves" nm "[I")) (.int 5)) ∈ flatC (Jvm.Cond.and given_1 narrow_1) → (∀ j : Nat, j < 5 → (Cond.eq (.elem (.static "PooledWaves" nm "[I") (.int (Int32.ofNat j))) (.int (Int32.ofInt (f j)))) ∈ flatC (Jvm.Cond.and given_1 narrow_1)) → Cond.laysStatic "PooledWaves" nm "[I" ∈ tables_1 → ∃ t : Nat, (Term.static "PooledWaves" nm "[I").eval #[Value.ref b] s none [] s = some (.ref t) ∧ va_T .int t 5 (fun j => .int (Int32.ofInt (f j))) (fun q : Nat => s.heap.size ≤ q) s s.heap ∧ va_Z "PooledWaves" nm "[I" (.ref t) (fun q : Nat => s.heap.size ≤ q) s s.heap := by
    intro nm f h1 h2 h3 h4
    obtain ⟨t, ht, hT⟩ := va_Tof (N := 5) (f := fun j => .int (Int32.ofInt (f j))) (A := fun q : Nat => s.heap.size ≤ q) (by decide) (hfl _ h1) (va_eqt (hfl _ h2)) (fun j hj => va_eqt (hfl _ (h3 j hj))) hA
    exact ⟨t, ht, hT, va_Zof (htt _ h4) (htt _ (by decide +kernel)) ht hA⟩
  have hst9 : ∀ k : Nat, ∃ t : Nat, k = 900 ∨ k = 901 ∨ k = 902 → (Term.static (zsN k).1 (zsN k).2.1 (zsN k).2.2).eval #[Value.ref b] s none [] s = some (.ref t) ∧ va_T .int t 5 (fun j => .int (Int32.ofInt (zI0 xs k j))) (fun q : Nat => s.heap.size ≤ q) s s.heap ∧ va_Z (zsN k).1 (zsN k).2.1 (zsN k).2.2 (.ref t) (fun q : Nat => s.heap.size ≤ q) s s.heap := by
    intro k
    by_cases h0 : k = 900
    · subst h0
      obtain ⟨t, h1, h2, h3⟩ := hst "SETTING_AT_FIRST" (fun j => (zroL 900).getD j 0) (by decide +kernel) (by decide +kernel) (by decide +kernel) (by decide +kernel)
      exact ⟨t, fun _ => ⟨h1, by simpa only [zI0_ro xs (show (900 : Nat) ≠ 899 by decide)] using h2, h3⟩⟩
    · by_cases h1 : k = 901
      · subst h1
        obtain ⟨t, h1, h2, h3⟩ := hst "SETTING_LEAST" (fun j => (zroL 901).getD j 0) (by decide +kernel) (by decide +kernel) (by decide +kernel) (by decide +kernel)
        exact ⟨t, fun _ => ⟨h1, by simpa only [zI0_ro xs (show (901 : Nat) ≠ 899 by decide)] using h2, h3⟩⟩
      · by_cases h2 : k = 902
        · subst h2
          obtain ⟨t, h1, h2, h3⟩ := hst "SETTING_MOST" (fun j => (zroL 902).getD j 0) (by decide +kernel) (by decide +kernel) (by decide +kernel) (by decide +kernel)
          exact ⟨t, fun _ => ⟨h1, by simpa only [zI0_ro xs (show (902 : Nat) ≠ 899 by decide)] using h2, h3⟩⟩
        · exact ⟨0, fun z => by omega⟩
  obtain ⟨at9, hat9⟩ := Classical.axiomOfChoice hst9
  -- the texts
  obtain ⟨adK, adV, hSt, hSe⟩ := vk_Sof (args := #[Value.ref b]) (s := s) (N := 6) (tm := fun i => Term.string "PooledWaves$Reader" (zsX i)) (len := zslen) (byt := zsbyt.map (fun l => l.map Int32.ofInt)) (A := fun q : Nat => s.heap.size ≤ q) (by decide) (fun i hi => hfl _ ((by decide +kernel : ∀ i : Nat, i < 6 → (Cond.exactly (Term.string "PooledWaves$Reader" (zsX i)) "java/lang/String") ∈ flatC (Jvm.Cond.and given_1 narrow_1)) i hi))
    (fun i hi => hfl _ ((by decide +kernel : ∀ i : Nat, i < 6 → (Cond.eq (.field (Term.string "PooledWaves$Reader" (zsX i)) "java/lang/String" "coder" "B") (.int 0)) ∈ flatC (Jvm.Cond.and given_1 narrow_1)) i hi))
    (fun i hi => hfl _ ((by decide +kernel : ∀ i : Nat, i < 6 → (Cond.arrayOf (.field (Term.string "PooledWaves$Reader" (zsX i)) "java/lang/String" "value" "[B") .byte) ∈ flatC (Jvm.Cond.and given_1 narrow_1)) i hi))
    (fun i hi => hfl _ ((by decide +kernel : ∀ i : Nat, i < 6 → (Cond.eq (.length (.field (Term.string "PooledWaves$Reader" (zsX i)) "java/lang/String" "value" "[B")) (.int (Int32.ofNat (zslen.getD i 0)))) ∈ flatC (Jvm.Cond.and given_1 narrow_1)) i hi))
    (fun i hi j hj => hfl _ ((by decide +kernel : ∀ i : Nat, i < 6 → ∀ j : Nat, j < zslen.getD i 0 → (Cond.eq (.elem (.field (Term.string "PooledWaves$Reader" (zsX i)) "java/lang/String" "value" "[B") (.int (Int32.ofNat j))) (.int (((zsbyt.map (fun l => l.map Int32.ofInt)).getD i []).getD j 0))) ∈ flatC (Jvm.Cond.and given_1 narrow_1)) i hi j hj))
    (fun i j hi hj hij => by
      have hz := (by decide +kernel : ∀ i : Nat, i < 6 → ∀ j : Nat, j < 6 → i ≠ j → (Cond.not (Cond.eq (Term.string "PooledWaves$Reader" (zsX i)) (Term.string "PooledWaves$Reader" (zsX j)))) ∈ flatC (Jvm.Cond.and given_1 narrow_1) ∨ (Cond.not (Cond.eq (Term.string "PooledWaves$Reader" (zsX j)) (Term.string "PooledWaves$Reader" (zsX i)))) ∈ flatC (Jvm.Cond.and given_1 narrow_1)) i hi j hj hij
      exact hz.imp (fun z => hfl _ z) (fun z => hfl _ z)) hA
  -- the static that is only handed on
  obtain ⟨sv, hsv1, hsv2⟩ := Cond.isRef_spec (args := #[Value.ref b]) (first := s) (o := none) (s := s) (idx := []) (t := Term.static "jdk/internal/util/Preconditions" "SIOOBE_FORMATTER" "Ljava/util/function/BiFunction;") (hfl _ (by decide +kernel))
  have hsv : sv = .null ∨ ∃ x, sv = .ref x := by
    cases sv with
    | null => exact Or.inl rfl
    | ref x => exact Or.inr ⟨x, rfl⟩
    | _ => cases hsv2
  have hz12 : va_Z (zsN 1200).1 (zsN 1200).2.1 (zsN 1200).2.2 sv (fun q : Nat => s.heap.size ≤ q) s s.heap := va_Zof (htt _ (by decide +kernel)) (htt _ (by decide +kernel)) hsv1 hA
  have hz1 : va_Z (zsN (-1)).1 (zsN (-1)).2.1 (zsN (-1)).2.2 (.int 1) (fun q : Nat => s.heap.size ≤ q) s s.heap := va_Zof (htt _ (by decide +kernel)) (htt _ (by decide +kernel)) (va_eqi (hfl _ (by decide +kernel))) hA
  have h9 : zO9 (at9 900) (zI0 xs 900) (fun q : Nat => s.heap.size ≤ q) s s.heap := by
    obtain ⟨q1, ⟨cell, t1, t2, t3, t4, t5, t6, t7⟩, q3⟩ := hat9 900 (Or.inl rfl)
    obtain ⟨a, cl, cell2, k2, g1, g2, g3, g4, g5, g6, _⟩ := Cond.exactly_spec (args := #[Value.ref b]) (first := s) (o := none) (s := s) (idx := []) (t := Term.static "PooledWaves" "SETTING_AT_FIRST" "[I") (cls := "[I") (hfl _ (by decide +kernel))
    cases Value.ref.inj (Option.some.inj (q1.symm.trans g1))
    cases t1.symm.trans g3
    have hlen : (Term.length (Term.static "PooledWaves" "SETTING_AT_FIRST" "[I")).eval #[Value.ref b] s none [] s = some (.int 5) := va_eqt (hfl _ (by decide +kernel))
    obtain ⟨t', cell', ht', hat', hv'⟩ := Term.length_spec hlen
    cases Value.ref.inj (Option.some.inj (q1.symm.trans ht'))
    obtain ⟨hc', _, _, _⟩ := State.arrayAt?_spec hat'
    cases t1.symm.trans hc'
    have hsz : cell.slots.size = 5 := (nI_eq (a := cell.slots.size) (b := 5) (zlen_lt hlen ht' hat') (by decide)).mp t5
    exact ⟨cell, t1, g5, t3, by rw [g6]; exact g2, hsz, t6, t7⟩
  obtain ⟨ad, had⟩ : ∃ ad : Nat → Nat, ad 899 = b ∧ (∀ k, k = 900 ∨ k = 901 ∨ k = 902 → ad k = at9 k) ∧ (∀ k, k < 6 → ad (1000 + k) = adK k) ∧ ∀ k, k < 6 → ad (1100 + k) = adV k := by
    refine ⟨fun x => if x = 899 then b else if x < 1000 then at9 x else if x < 1100 then adK (x - 1000) else adV (x - 1100), rfl, fun k hk => ?_, fun k hk => ?_, fun k hk => ?_⟩
    · show (if k = 899 then b else if k < 1000 then at9 k else if k < 1100 then adK (k - 1000) else adV (k - 1100)) = at9 k
      rw [if_neg (by omega), if_pos (by omega)]
    · show (if 1000 + k = 899 then b else if 1000 + k < 1000 then at9 (1000 + k) else if 1000 + k < 1100 then adK (1000 + k - 1000) else adV (1000 + k - 1100)) = adK k
      rw [if_neg (by omega), if_neg (by omega), if_pos (by omega), show 1000 + k - 1000 = k by omega]
    · show (if 1100 + k = 899 then b else if 1100 + k < 1000 then at9 (1100 + k) else if 1100 + k < 1100 then adK (1100 + k - 1000) else adV (1100 + k - 1100)) = adV k
      rw [if_neg (by omega), if_neg (by omega), if_neg (by omega), show 1100 + k - 1100 = k by omega]
  have hro : zRO (fun q : Nat => s.heap.size ≤ q) ad sv s s.heap (zh0 L xs) := by
    refine ⟨?_, fun k hk => ?_, hz1, hz12, fun k hk => ?_, fun w hw => ?_, va_AO.of (htt (Cond.arrayOver (.object "PooledWaves$Player")) (by decide +kernel)), va_AO.of (htt (Cond.arrayOver (.object "PooledWaves$Sheet")) (by decide +kernel)), by rw [had.2.1 900 (Or.inl rfl)]; exact h9⟩
    · rw [had.1]
      obtain ⟨scr, x1, x2, x3, x4, x5⟩ := hX
      refine ⟨scr, x1, x2, x3, by show L ≤ _; omega, by rw [x4]; rfl, fun j hj => ?_, by omega⟩
      rw [x5 j hj]
      show _ = some (Value.int (Int32.ofInt (xs ((j : Int)).toNat).toInt))
      rw [Int32.ofInt_toInt]
      rfl
    · rw [had.2.1 k hk]
      exact (hat9 k hk).2
    · rw [had.2.2.1 k hk, had.2.2.2 k hk]
      obtain ⟨b1, b2, b3, b4⟩ := hSt.1 k hk
      refine ⟨b1, ?_, b3, ?_, ?_, htt _ ((by decide +kernel : ∀ k : Nat, k < 6 → Cond.stringRef "PooledWaves$Reader" (zsX k) (zsT k) ∈ tables_1) k hk), hSe k hk⟩
      · have e1 : (zh0 L xs).1 (1000 + k) 1 = 0 := by
          show zI0 xs (1000 + k) ((1 : Nat) : Int) = 0
          rw [zI0_ro xs (by omega)]
          have e2 : zroL (1000 + k) = [] := by unfold zroL; rw [if_neg (by omega), if_neg (by omega), if_neg (by omega), if_neg (by omega)]
          rw [e2]
          rfl
        rw [e1]
        exact b2
      · have e1 : ∀ j : Nat, Int32.ofInt ((zh0 L xs).1 (1100 + k) j) = ((zsbyt.map (fun l => l.map Int32.ofInt)).getD k []).getD j 0 := by
          intro j
          show Int32.ofInt (zI0 xs (1100 + k) j) = _
          rw [zI0_ro xs (by omega)]
          have e2 : zroL (1100 + k) = zsbyt.getD k [] := by unfold zroL; rw [if_neg (by omega), if_neg (by omega), if_neg (by omega), if_pos (by omega), show 1100 + k - 1100 = k by omega]
          rw [e2]
          have hd : k = 0 ∨ k = 1 ∨ k = 2 ∨ k = 3 ∨ k = 4 ∨ k = 5 := by omega
          have gen : ∀ l : List Int, Int32.ofInt (l.getD j 0) = (l.map Int32.ofInt).getD j 0 := fun l => by
            rw [List.getD_eq_getElem?_getD, List.getD_eq_getElem?_getD, List.getElem?_map]
            cases l[j]? <;> rfl
          rcases hd with rfl | rfl | rfl | rfl | rfl | rfl <;> exact gen _
        simp only [e1]
        exact b4
      · exact (zh0_R L xs).2 k hk
    · have h2 := (List.mem_filter.mp hw).1
      have h3 := (List.mem_filter.mp hw).2
      have h4 := hts w h2
      cases w <;> first | (cases h3; done) | exact va_Nw.of rfl h4
  have hNP : zNP = 103 := rfl
  have h103 := zsl_103
  have hm2 := zsl_mono (show hf.2.2.1 ≤ 103 from hkp.2.1)
  have cx : zCx p room_1 s m #[Value.ref b] meth c (fun k => (dq k).1, fun k => (dq k).2) cs (fun q : Nat => s.heap.size ≤ q) sv 217 0 hf.2.2.1 :=
    ⟨hx, hb, hml, hown, htz, hlocks, fun z => (by cases z), Nat.le_refl _, Nat.le_refl _, by have := hkp.2.1; show hf.2.2.1 - 0 ≤ 600000; omega, by show zsl hf.2.2.1 - zsl 0 ≤ 7302250; omega, hK, hsv, fun _ h => h⟩
  have hsvc : sv.category = 1 := zsvc cx
  have key := zsound l n 217 0 (zin0 217 [vR 899]) [] (zh0 L xs) _ hf hev p e room_1 s m #[Value.ref b] below meth c (lw_Z below #[Value.ref b] s) (fun k => (dq k).1, fun k => (dq k).2) cs (fun q : Nat => s.heap.size ≤ q) sv 0 ad cx ?_
  · have hsl := zin0_lr (ad := ad) hsvc (d := 217) (as := [vR 899]) (by intro v hv; rw [List.mem_singleton.mp hv]; rfl) (by decide +kernel)
    have e1 : ([vR 899] : List zV).map (zcv ad sv) = [Value.ref b] := by
      show [zcv ad sv (vR 899)] = _
      rw [zcv_p (by omega) (by omega), had.1]
    rw [e1] at hsl
    rw [lg_entry_eq]
    have k := key ad s.heap [] _ ⟨fun k q hq => (by cases hq), ⟨fun i j x y hi => (by cases hi), fun k q hq => (by cases hq)⟩, va_S.rf, zh0_I L xs, zh0_R L xs, Nat.zero_le _, hro⟩ hsl (zin0_len (by decide +kernel)) (zin0_mem trivial (by intro v hv; rw [List.mem_singleton.mp hv]; exact Or.inr (by omega))) (fun _ => zin0_mem rfl (by intro v hv; rw [List.mem_singleton.mp hv]; rfl)) (fun v hv => (by cases hv)) (Nat.le_refl _) (fun _ _ => rfl)
    exact k
  · intro pc i ad' H locs ls hdc hi hw hn0 _
    rcases hi with ⟨_, _, z⟩ | ⟨rfl, a, ty, ha, hret, ra, hnar⟩
    · cases z
    · cases ha
      refine va_forget (fun q hq => hw.2.2.1.2.2 q hq) ?_
      refine W.widen (k := 600000) (n := 7302250) (by have := hkp.2.1; omega) (by omega) ?_
      exact lw_ret hx hb hr hlocks hdc
end
section
/-! ===== the machine as equations ===== -/
section XR
variable {m pc : Nat} {L st : List zV} {h : zH}
theorem zact_eq {i : Instr} {len : Nat} (hl : ziln i = len) : zact m i pc len L st h = zac0 m i pc len L st h := if_pos (Or.inr hl)
theorem xIconst {a : Int} (hd : decode (zb m) pc = .ok (.iconst a, 1)) (hr : (-1 ≤ a ∧ a ≤ 5) := by decide) : zX m pc L st h = zX m (pc + 1) L (vI a :: st) h := zX_go hd ((zact_eq rfl).trans (if_pos hr))
theorem xBipush {a : Int} (hd : decode (zb m) pc = .ok (.bipush a, 2)) (hr : (-128 ≤ a ∧ a < 128) := by decide) : zX m pc L st h = zX m (pc + 2) L (vI a :: st) h := zX_go hd ((zact_eq rfl).trans (if_pos hr))
theorem xSipush {a : Int} (hd : decode (zb m) pc = .ok (.sipush a, 3)) (hr : (-32768 ≤ a ∧ a < 32768) := by decide) : zX m pc L st h = zX m (pc + 3) L (vI a :: st) h := zX_go hd ((zact_eq rfl).trans (if_pos hr))
theorem xLconst {a : Fin 2} (hd : decode (zb m) pc = .ok (.lconst a, 1)) : zX m pc L st h = zX m (pc + 1) L (vL ((a : Nat) : Int) :: st) h := zX_go hd rfl
theorem xNull (hd : decode (zb m) pc = .ok (.aconst_null, 1)) : zX m pc L st h = zX m (pc + 1) L (vR 0 :: st) h := zX_go hd rfl
theorem xIload {k : Nat} {a : Int} (hd : decode (zb m) pc = .ok (.iload k, 2)) (hl : L[k]? = some (vI a)) : zX m pc L st h = zX m (pc + 2) L (vI a :: st) h := zX_go hd (by show zldI k (pc + 2) L st h = _; unfold zldI; rw [hl])
theorem xIload_n {k : Fin 4} {a : Int} (hd : decode (zb m) pc = .ok (.iload_n k, 1)) (hl : L[(k : Nat)]? = some (vI a)) : zX m pc L st h = zX m (pc + 1) L (vI a :: st) h := zX_go hd (by show zldI k (pc + 1) L st h = _; unfold zldI; rw [hl])
theorem xLload {k : Nat} {a : Int} (hd : decode (zb m) pc = .ok (.lload k, 2)) (hl : L[k]? = some (vL a)) : zX m pc L st h = zX m (pc + 2) L (vL a :: st) h := zX_go hd (by show zldL k (pc + 2) L st h = _; unfold zldL; rw [hl])
theorem xLload_n {k : Fin 4} {a : Int} (hd : decode (zb m) pc = .ok (.lload_n k, 1)) (hl : L[(k : Nat)]? = some (vL a)) : zX m pc L st h = zX m (pc + 1) L (vL a :: st) h := zX_go hd (by show zldL k (pc + 1) L st h = _; unfold zldL; rw [hl])
theorem xAload {k : Nat} {a : Nat} (hd : decode (zb m) pc = .ok (.aload k, 2)) (hl : L[k]? = some (vR a)) : zX m pc L st h = zX m (pc + 2) L (vR a :: st) h := zX_go hd (by show zldR k (pc + 2) L st h = _; unfold zldR; rw [hl])
theorem xAload_n {k : Fin 4} {a : Nat} (hd : decode (zb m) pc = .ok (.aload_n k, 1)) (hl : L[(k : Nat)]? = some (vR a)) : zX m pc L st h = zX m (pc + 1) L (vR a :: st) h := zX_go hd (by show zldR k (pc + 1) L st h = _; unfold zldR; rw [hl])
theorem xIstore {k : Nat} {a : Int} {L' : List zV} (hd : decode (zb m) pc = .ok (.istore k, 2)) (hk : (Nat.ble (k + 1) L.length && zsO m L k) = true) (hl : L.set k (vI a) = L') : zX m pc L (vI a :: st) h = zX m (pc + 2) L' st h := zX_go hd (by
  rw [Bool.and_eq_true] at hk
  show (if k < L.length ∧ zsO m L k = true then zgo (pc + 2) (L.set k (vI a)) st h else zno) = _
  rw [if_pos ⟨Nat.le_of_ble_eq_true hk.1, hk.2⟩, hl])
theorem xIstore_n {k : Fin 4} {a : Int} {L' : List zV} (hd : decode (zb m) pc = .ok (.istore_n k, 1)) (hk : (Nat.ble ((k : Nat) + 1) L.length && zsO m L k) = true) (hl : L.set k (vI a) = L') : zX m pc L (vI a :: st) h = zX m (pc + 1) L' st h := zX_go hd (by
  rw [Bool.and_eq_true] at hk
  show (if (k : Nat) < L.length ∧ zsO m L k = true then zgo (pc + 1) (L.set k (vI a)) st h else zno) = _
  rw [if_pos ⟨Nat.le_of_ble_eq_true hk.1, hk.2⟩, hl])
theorem xAstore {k : Nat} {a : Nat} {L' : List zV} (hd : decode (zb m) pc = .ok (.astore k, 2)) (hk : (Nat.ble (k + 1) L.length && zsO m L k) = true) (hl : L.set k (vR a) = L') : zX m pc L (vR a :: st) h = zX m (pc + 2) L' st h := zX_go hd (by
  rw [Bool.and_eq_true] at hk
  show (if k < L.length ∧ zsO m L k = true then zgo (pc + 2) (L.set k (vR a)) st h else zno) = _
  rw [if_pos ⟨Nat.le_of_ble_eq_true hk.1, hk.2⟩, hl])
theorem xAstore_n {k : Fin 4} {a : Nat} {L' : List zV} (hd : decode (zb m) pc = .ok (.astore_n k, 1)) (hk : (Nat.ble ((k : Nat) + 1) L.length && zsO m L k) = true) (hl : L.set k (vR a) = L') : zX m pc L (vR a :: st) h = zX m (pc + 1) L' st h := zX_go hd (by
  rw [Bool.and_eq_true] at hk
  show (if (k : Nat) < L.length ∧ zsO m L k = true then zgo (pc + 1) (L.set k (vR a)) st h else zno) = _
  rw [if_pos ⟨Nat.le_of_ble_eq_true hk.1, hk.2⟩, hl])
theorem xLstore {k : Nat} {a : Int} {L' : List zV} (hd : decode (zb m) pc = .ok (.lstore k, 2)) (hk : (Nat.ble (k + 2) L.length && zhl m && zsO m L k) = true) (hl : (L.set k (vL a)).set (k + 1) none = L') : zX m pc L (vL a :: st) h = zX m (pc + 2) L' st h := zX_go hd (by
  rw [Bool.and_eq_true, Bool.and_eq_true] at hk
  show (if k + 1 < L.length ∧ zhl m = true ∧ zsO m L k = true then zgo (pc + 2) ((L.set k (vL a)).set (k + 1) none) st h else zno) = _
  rw [if_pos ⟨Nat.le_of_ble_eq_true hk.1.1, hk.1.2, hk.2⟩, hl])
theorem xIinc {k : Nat} {n a : Int} {L' : List zV} (hd : decode (zb m) pc = .ok (.iinc k n, 3)) (hg : L[k]? = some (vI a)) (hk : zsO m L k = true) (hl : L.set k (vI (wr (a + n))) = L') : zX m pc L st h = zX m (pc + 3) L' st h := zX_go hd (by
  show zinc m k n (pc + 3) L st h = _
  unfold zinc
  rw [hg]
  show (if zsO m L k = true then zgo (pc + 3) (L.set k (vI (wr (a + n)))) st h else zno) = _
  rw [if_pos hk, hl])
theorem xIadd {a b : Int} (hd : decode (zb m) pc = .ok (.iadd, 1)) : zX m pc L (vI b :: vI a :: st) h = zX m (pc + 1) L (vI (wr (a + b)) :: st) h := zX_go hd rfl
theorem xIsub {a b : Int} (hd : decode (zb m) pc = .ok (.isub, 1)) : zX m pc L (vI b :: vI a :: st) h = zX m (pc + 1) L (vI (wr (a - b)) :: st) h := zX_go hd rfl
theorem xImul {a b : Int} (hd : decode (zb m) pc = .ok (.imul, 1)) : zX m pc L (vI b :: vI a :: st) h = zX m (pc + 1) L (vI (wr (a * b)) :: st) h := zX_go hd rfl
theorem xIdiv {a b : Int} (hd : decode (zb m) pc = .ok (.idiv, 1)) (hb : b ≠ 0) : zX m pc L (vI b :: vI a :: st) h = zX m (pc + 1) L (vI (wr (a.tdiv b)) :: st) h := zX_go hd (by show (if b = 0 then zno else _) = _; rw [if_neg hb])
theorem xIrem {a b : Int} (hd : decode (zb m) pc = .ok (.irem, 1)) (hb : b ≠ 0) : zX m pc L (vI b :: vI a :: st) h = zX m (pc + 1) L (vI (a.tmod b) :: st) h := zX_go hd (by show (if b = 0 then zno else _) = _; rw [if_neg hb])
theorem xIand {a b : Int} (hd : decode (zb m) pc = .ok (.iand, 1)) : zX m pc L (vI b :: vI a :: st) h = zX m (pc + 1) L (vI (w2 (· &&& ·) a b) :: st) h := zX_go hd rfl
theorem xIor {a b : Int} (hd : decode (zb m) pc = .ok (.ior, 1)) : zX m pc L (vI b :: vI a :: st) h = zX m (pc + 1) L (vI (w2 (· ||| ·) a b) :: st) h := zX_go hd rfl
theorem xIxor {a b : Int} (hd : decode (zb m) pc = .ok (.ixor, 1)) : zX m pc L (vI b :: vI a :: st) h = zX m (pc + 1) L (vI (w2 (· ^^^ ·) a b) :: st) h := zX_go hd rfl
theorem xIshl {a b : Int} (hd : decode (zb m) pc = .ok (.ishl, 1)) : zX m pc L (vI b :: vI a :: st) h = zX m (pc + 1) L (vI (w2 (fun a b => a <<< (b &&& 31)) a b) :: st) h := zX_go hd rfl
theorem xIshr {a b : Int} (hd : decode (zb m) pc = .ok (.ishr, 1)) : zX m pc L (vI b :: vI a :: st) h = zX m (pc + 1) L (vI (w2 (fun a b => a >>> (b &&& 31)) a b) :: st) h := zX_go hd rfl
theorem xIushr {a b : Int} (hd : decode (zb m) pc = .ok (.iushr, 1)) : zX m pc L (vI b :: vI a :: st) h = zX m (pc + 1) L (vI (w2 zusr a b) :: st) h := zX_go hd rfl
theorem xI2l {a : Int} (hd : decode (zb m) pc = .ok (.i2l, 1)) : zX m pc L (vI a :: st) h = zX m (pc + 1) L (vL a :: st) h := zX_go hd rfl
theorem xL2i {a : Int} (hd : decode (zb m) pc = .ok (.l2i, 1)) : zX m pc L (vL a :: st) h = zX m (pc + 1) L (vI (wr a) :: st) h := zX_go hd rfl
theorem xI2b {a : Int} (hd : decode (zb m) pc = .ok (.i2b, 1)) : zX m pc L (vI a :: st) h = zX m (pc + 1) L (vI (wb a) :: st) h := zX_go hd rfl
theorem xI2c {a : Int} (hd : decode (zb m) pc = .ok (.i2c, 1)) : zX m pc L (vI a :: st) h = zX m (pc + 1) L (vI (wc a) :: st) h := zX_go hd rfl
theorem xLadd {a b : Int} (hd : decode (zb m) pc = .ok (.ladd, 1)) : zX m pc L (vL b :: vL a :: st) h = zX m (pc + 1) L (vL (wl (a + b)) :: st) h := zX_go hd rfl
theorem xLcmp {a b : Int} (hd : decode (zb m) pc = .ok (.lcmp, 1)) : zX m pc L (vL b :: vL a :: st) h = zX m (pc + 1) L (vI (if a < b then -1 else if a = b then 0 else 1) :: st) h := zX_go hd rfl
theorem xDup {w : Int ⊕ Int ⊕ Nat} (hd : decode (zb m) pc = .ok (.dup, 1)) (hc : zcat (some w) = 1) : zX m pc L (some w :: st) h = zX m (pc + 1) L (some w :: some w :: st) h := zX_go hd (by show (if zcat (some w) = 1 ∧ (some w).isSome = true then _ else zno) = _; rw [if_pos ⟨hc, rfl⟩])
theorem xDup2 {w u : Int ⊕ Int ⊕ Nat} (hd : decode (zb m) pc = .ok (.dup2, 1)) (hc : zcat (some w) = 1) (hc2 : zcat (some u) = 1) : zX m pc L (some w :: some u :: st) h = zX m (pc + 1) L (some w :: some u :: some w :: some u :: st) h := zX_go hd (by show (if zcat (some w) = 1 ∧ zcat (some u) = 1 ∧ (some w).isSome = true ∧ (some u).isSome = true then _ else zno) = _; rw [if_pos ⟨hc, hc2, rfl, rfl⟩])
theorem xPop {w : Int ⊕ Int ⊕ Nat} (hd : decode (zb m) pc = .ok (.pop, 1)) (hc : zcat (some w) = 1) : zX m pc L (some w :: st) h = zX m (pc + 1) L st h := zX_go hd (by show (if zcat (some w) = 1 ∧ (some w).isSome = true then _ else zno) = _; rw [if_pos ⟨hc, rfl⟩])
theorem xGoto {off : Int} {t : Nat} (hd : decode (zb m) pc = .ok (.goto off, 3)) (ht : (pc : Int) + off = (t : Int)) : zX m pc L st h = zX m t L st h := zX_go hd (by
  show zjmp pc off L st h = _
  unfold zjmp
  rw [if_pos (by omega), ht]
  rfl)
theorem zact_if {c : ClassFile.Cond} {off a : Int} {t : Nat} (ht : (pc : Int) + off = (t : Int)) : zact m (.ifCond c off) pc 3 L (vI a :: st) h = if zcnd c a 0 = true then zgo t L st h else zgo (pc + 3) L st h := by
  show (if 0 ≤ (pc : Int) + off then (if zcnd c a 0 = true then zgo ((pc : Int) + off).toNat L st h else zgo (pc + 3) L st h) else zno) = _
  rw [if_pos (by omega), ht]
  rfl
theorem zact_icmp {c : ClassFile.Cond} {off a b : Int} {t : Nat} (ht : (pc : Int) + off = (t : Int)) : zact m (.if_icmp c off) pc 3 L (vI b :: vI a :: st) h = if zcnd c a b = true then zgo t L st h else zgo (pc + 3) L st h := by
  show (if 0 ≤ (pc : Int) + off then (if zcnd c a b = true then zgo ((pc : Int) + off).toNat L st h else zgo (pc + 3) L st h) else zno) = _
  rw [if_pos (by omega), ht]
  rfl
theorem zX_br {bb : Bool} {t u : Nat} {L' st' : List zV} {i : Instr} {len : Nat} (hd : decode (zb m) pc = .ok (i, len)) (ha : zact m i pc len L st h = if bb = true then zgo t L' st' h else zgo u L' st' h) : zX m pc L st h = if bb = true then zX m t L' st' h else zX m u L' st' h := by
  cases bb
  · exact zX_go hd ha
  · exact zX_go hd ha
theorem xIfEq {off a : Int} {t : Nat} (hd : decode (zb m) pc = .ok (.ifCond .eq off, 3)) (ht : (pc : Int) + off = (t : Int)) : zX m pc L (vI a :: st) h = if a = 0 then zX m t L st h else zX m (pc + 3) L st h := by
  rw [zX_br hd (zact_if ht)]; simp only [zcnd, decide_eq_true_eq]
theorem xIfNe {off a : Int} {t : Nat} (hd : decode (zb m) pc = .ok (.ifCond .ne off, 3)) (ht : (pc : Int) + off = (t : Int)) : zX m pc L (vI a :: st) h = if a = 0 then zX m (pc + 3) L st h else zX m t L st h := by
  rw [zX_br hd (zact_if ht)]; simp only [zcnd, decide_eq_true_eq, ne_eq, ite_not]
theorem xIfLt {off a : Int} {t : Nat} (hd : decode (zb m) pc = .ok (.ifCond .lt off, 3)) (ht : (pc : Int) + off = (t : Int)) : zX m pc L (vI a :: st) h = if a < 0 then zX m t L st h else zX m (pc + 3) L st h := by
  rw [zX_br hd (zact_if ht)]; simp only [zcnd, decide_eq_true_eq]
theorem xIfGe {off a : Int} {t : Nat} (hd : decode (zb m) pc = .ok (.ifCond .ge off, 3)) (ht : (pc : Int) + off = (t : Int)) : zX m pc L (vI a :: st) h = if 0 ≤ a then zX m t L st h else zX m (pc + 3) L st h := by
  rw [zX_br hd (zact_if ht)]; simp only [zcnd, decide_eq_true_eq]
theorem xIfGt {off a : Int} {t : Nat} (hd : decode (zb m) pc = .ok (.ifCond .gt off, 3)) (ht : (pc : Int) + off = (t : Int)) : zX m pc L (vI a :: st) h = if 0 < a then zX m t L st h else zX m (pc + 3) L st h := by
  rw [zX_br hd (zact_if ht)]; simp only [zcnd, decide_eq_true_eq]
theorem xIfLe {off a : Int} {t : Nat} (hd : decode (zb m) pc = .ok (.ifCond .le off, 3)) (ht : (pc : Int) + off = (t : Int)) : zX m pc L (vI a :: st) h = if a ≤ 0 then zX m t L st h else zX m (pc + 3) L st h := by
  rw [zX_br hd (zact_if ht)]; simp only [zcnd, decide_eq_true_eq]
theorem xIcmpEq {off a b : Int} {t : Nat} (hd : decode (zb m) pc = .ok (.if_icmp .eq off, 3)) (ht : (pc : Int) + off = (t : Int)) : zX m pc L (vI b :: vI a :: st) h = if a = b then zX m t L st h else zX m (pc + 3) L st h := by
  rw [zX_br hd (zact_icmp ht)]; simp only [zcnd, decide_eq_true_eq]
theorem xIcmpNe {off a b : Int} {t : Nat} (hd : decode (zb m) pc = .ok (.if_icmp .ne off, 3)) (ht : (pc : Int) + off = (t : Int)) : zX m pc L (vI b :: vI a :: st) h = if a = b then zX m (pc + 3) L st h else zX m t L st h := by
  rw [zX_br hd (zact_icmp ht)]; simp only [zcnd, decide_eq_true_eq, ne_eq, ite_not]
theorem xIcmpLt {off a b : Int} {t : Nat} (hd : decode (zb m) pc = .ok (.if_icmp .lt off, 3)) (ht : (pc : Int) + off = (t : Int)) : zX m pc L (vI b :: vI a :: st) h = if a < b then zX m t L st h else zX m (pc + 3) L st h := by
  rw [zX_br hd (zact_icmp ht)]; simp only [zcnd, decide_eq_true_eq]
theorem xIcmpGe {off a b : Int} {t : Nat} (hd : decode (zb m) pc = .ok (.if_icmp .ge off, 3)) (ht : (pc : Int) + off = (t : Int)) : zX m pc L (vI b :: vI a :: st) h = if b ≤ a then zX m t L st h else zX m (pc + 3) L st h := by
  rw [zX_br hd (zact_icmp ht)]; simp only [zcnd, decide_eq_true_eq]
theorem xIcmpGt {off a b : Int} {t : Nat} (hd : decode (zb m) pc = .ok (.if_icmp .gt off, 3)) (ht : (pc : Int) + off = (t : Int)) : zX m pc L (vI b :: vI a :: st) h = if b < a then zX m t L st h else zX m (pc + 3) L st h := by
  rw [zX_br hd (zact_icmp ht)]; simp only [zcnd, decide_eq_true_eq]
theorem xIcmpLe {off a b : Int} {t : Nat} (hd : decode (zb m) pc = .ok (.if_icmp .le off, 3)) (ht : (pc : Int) + off = (t : Int)) : zX m pc L (vI b :: vI a :: st) h = if a ≤ b then zX m t L st h else zX m (pc + 3) L st h := by
  rw [zX_br hd (zact_icmp ht)]; simp only [zcnd, decide_eq_true_eq]
theorem xIfnull0 {off : Int} {t : Nat} (hd : decode (zb m) pc = .ok (.ifnull off, 3)) (ht : (pc : Int) + off = (t : Int)) : zX m pc L (vR 0 :: st) h = zX m t L st h := zX_go hd (by
  show zjmp pc off L st h = _
  unfold zjmp
  rw [if_pos (by omega), ht]
  rfl)
theorem xIfnull1 {off : Int} {q : Nat} (hd : decode (zb m) pc = .ok (.ifnull off, 3)) (h0 : q ≠ 0) (h1 : q ≠ 1200) : zX m pc L (vR q :: st) h = zX m (pc + 3) L st h := zX_go hd (by
  show (if q = 0 then zjmp pc off L st h else if q = 1200 then zno else zgo (pc + 3) L st h) = _
  rw [if_neg h0, if_neg h1])
/-- a switch, as a row of questions -/
def zsw {α : Type} (ts : List (Int × Nat)) (td : Nat) (a : Int) (k : Nat → α) : α := match ts with
  | [] => k td
  | (v, t) :: r => if a = v then k t else zsw r td a k
def ztabOk (pc : Nat) (dflt lo hi : Int) (offs : Array Int) (ts : List (Int × Nat)) (td : Nat) : Bool := decide ((pc : Int) + dflt = (td : Int)) && decide (ts.map (fun q => q.1) = (List.range (hi - lo + 1).toNat).map (fun j : Nat => lo + (j : Int))) && decide (ts.map (fun q => (q.2 : Int)) = offs.toList.map (fun o => (pc : Int) + o)) && decide (lo ≤ hi)
theorem xTab {dflt lo hi a : Int} {offs : Array Int} {len : Nat} (ts : List (Int × Nat)) (td : Nat) (hd : decode (zb m) pc = .ok (.tableswitch dflt lo hi offs, len)) (hc : ztabOk pc dflt lo hi offs ts td = true) : zX m pc L (vI a :: st) h = zsw ts td a (fun t => zX m t L st h) := by
  unfold ztabOk at hc
  simp only [Bool.and_eq_true, decide_eq_true_eq] at hc
  obtain ⟨⟨⟨h1, h2⟩, h3⟩, h4⟩ := hc
  have ha : zact m (.tableswitch dflt lo hi offs) pc len L (vI a :: st) h = if a < lo ∨ hi < a then zjmp pc dflt L st h else (match offs[(a - lo).toNat]? with
    | some off => zjmp pc off L st h
    | none => zno) := rfl
  have key : ∀ (ts : List (Int × Nat)) (n : Int) (os : List Int), ts.map (fun q => q.1) = (List.range ts.length).map (fun j : Nat => n + (j : Int)) → ts.map (fun q => (q.2 : Int)) = os.map (fun o => (pc : Int) + o) → zsw ts td a (fun t => zX m t L st h) = if a < n ∨ n + ts.length ≤ a then zX m td L st h else (match os[(a - n).toNat]? with
    | some off => zX m ((pc : Int) + off).toNat L st h
    | none => none) := by
    intro ts
    induction ts with
    | nil =>
      intro n os _ _
      show zX m td L st h = _
      rw [if_pos (by simp; omega)]
    | cons q r ih =>
      intro n os g1 g2
      obtain ⟨v, t⟩ := q
      cases os with
      | nil => cases g2
      | cons o os =>
        have e1 : v = n := by
          have := congrArg (fun l => l[0]?) g1
          simp at this
          exact this
        have e2 : (t : Int) = (pc : Int) + o := by
          have := congrArg (fun l => l[0]?) g2
          simpa using this
        have g1' : r.map (fun q => q.1) = (List.range r.length).map (fun j : Nat => (n + 1) + (j : Int)) := by
          apply List.ext_getElem?
          intro j
          have := congrArg (fun l => l[j + 1]?) g1
          simp only [List.map_cons, List.getElem?_cons_succ, List.length_cons] at this
          rw [this, List.getElem?_map, List.getElem?_map]
          by_cases hj : j < r.length
          · rw [List.getElem?_range (by omega), List.getElem?_range hj]
            simp
            omega
          · rw [List.getElem?_eq_none (by simp; omega), List.getElem?_eq_none (by simp; omega)]
            rfl
        have g2' : r.map (fun q => (q.2 : Int)) = os.map (fun o => (pc : Int) + o) := by
          simp only [List.map_cons] at g2
          exact (List.cons.inj g2).2
        have ih' := ih (n + 1) os g1' g2'
        show (if a = v then zX m t L st h else zsw r td a (fun t => zX m t L st h)) = _
        by_cases hav : a = v
        · rw [if_pos hav, if_neg (by simp; omega)]
          have e3 : (a - n).toNat = 0 := by omega
          rw [e3]
          show _ = zX m ((pc : Int) + o).toNat L st h
          rw [← e2]
          rfl
        · rw [if_neg hav, ih']
          by_cases hc : a < n + 1 ∨ n + 1 + (r.length : Int) ≤ a
          · rw [if_pos hc, if_pos (by simp; omega)]
          · rw [if_neg hc, if_neg (by simp; omega)]
            have e3 : (a - n).toNat = (a - (n + 1)).toNat + 1 := by omega
            rw [e3]
            rfl
  have hlen : (ts.length : Int) = hi - lo + 1 := by
    have := congrArg List.length h2
    simp at this
    omega
  have hk := key ts lo offs.toList (by rw [h2]; congr 2 <;> omega) h3
  rw [hk]
  by_cases hc : a < lo ∨ hi < a
  · rw [if_pos hc] at ha
    rw [if_pos (by omega)]
    refine zX_go hd ?_
    rw [ha]
    unfold zjmp
    rw [if_pos (by omega), h1]
    rfl
  · rw [if_neg hc] at ha
    rw [if_neg (by omega)]
    have hi2 : (a - lo).toNat < offs.toList.length := by
      have := congrArg List.length h3
      simp at this
      simp
      omega
    have e5 : offs[(a - lo).toNat]? = offs.toList[(a - lo).toNat]? := by simp
    rw [e5] at ha
    rw [List.getElem?_eq_getElem hi2] at ha ⊢
    simp only at ha ⊢
    have e6 : 0 ≤ (pc : Int) + offs.toList[(a - lo).toNat] := by
      have := congrArg (fun l => l[(a - lo).toNat]?) h3
      simp only [List.getElem?_map, List.getElem?_eq_getElem hi2, Option.map_some] at this
      cases ht : ts[(a - lo).toNat]? with
      | none => rw [ht] at this; cases this
      | some q =>
        rw [ht] at this
        have h9 : (q.2 : Int) = (pc : Int) + offs.toList[(a - lo).toNat] := Option.some.inj this
        omega
    refine zX_go hd ?_
    rw [ha]
    unfold zjmp
    rw [if_pos e6]
theorem xLook {dflt a : Int} {ps : Array (Int × Int)} {len : Nat} (ts : List (Int × Nat)) (td : Nat) (hd : decode (zb m) pc = .ok (.lookupswitch dflt ps, len)) (hc : (ps.toList.zip (ps.toList.drop 1)).all (fun (a, next) => a.1 < next.1) = true) (h1 : (pc : Int) + dflt = (td : Int)) (h2 : ts.map (fun q => (q.1, (q.2 : Int))) = ps.toList.map (fun q => (q.1, (pc : Int) + q.2))) : zX m pc L (vI a :: st) h = zsw ts td a (fun t => zX m t L st h) := by
  have ha : zact m (.lookupswitch dflt ps) pc len L (vI a :: st) h = if (ps.toList.zip (ps.toList.drop 1)).all (fun (a, next) => a.1 < next.1) = true then zjmp pc (Op.lookupswitch.offset ps.toList dflt a) L st h else zno := rfl
  rw [if_pos hc] at ha
  have key : ∀ (ts : List (Int × Nat)) (os : List (Int × Int)), ts.map (fun q => (q.1, (q.2 : Int))) = os.map (fun q => (q.1, (pc : Int) + q.2)) → zsw ts td a (fun t => zX m t L st h) = zX m ((pc : Int) + Op.lookupswitch.offset os dflt a).toNat L st h ∧ 0 ≤ (pc : Int) + Op.lookupswitch.offset os dflt a := by
    intro ts
    induction ts with
    | nil =>
      intro os g
      cases os with
      | nil =>
        have e1 : Op.lookupswitch.offset [] dflt a = dflt := rfl
        rw [e1, h1]
        exact ⟨rfl, by omega⟩
      | cons o os => cases g
    | cons q r ih =>
      intro os g
      cases os with
      | nil => cases g
      | cons o os =>
        obtain ⟨v, t⟩ := q
        obtain ⟨o1, o2⟩ := o
        simp only [List.map_cons] at g
        obtain ⟨g1, g2⟩ := List.cons.inj g
        obtain ⟨g3, g4⟩ := Prod.mk.inj g1
        have g3 : v = o1 := g3
        have g4 : (t : Int) = (pc : Int) + o2 := g4
        obtain ⟨i1, i2⟩ := ih os g2
        show (if a = v then zX m t L st h else zsw r td a (fun t => zX m t L st h)) = _ ∧ _
        by_cases hav : a = v
        · have e1 : Op.lookupswitch.offset ((o1, o2) :: os) dflt a = o2 := by
            subst hav
            rw [← g3]
            simp [Op.lookupswitch.offset]
          rw [if_pos hav, e1, ← g4]
          exact ⟨rfl, by omega⟩
        · have e1 : Op.lookupswitch.offset ((o1, o2) :: os) dflt a = Op.lookupswitch.offset os dflt a := by
            have hne : ¬ a = o1 := fun z => hav (z.trans g3.symm)
            have hne2 : ¬ o1 = a := fun z => hne z.symm
            simp [Op.lookupswitch.offset, hne, hne2]
          rw [if_neg hav, e1]
          exact ⟨i1, i2⟩
  obtain ⟨k1, k2⟩ := key ts ps.toList h2
  rw [k1]
  refine zX_go hd ?_
  rw [ha]
  unfold zjmp
  rw [if_pos k2]
end XR
end
section
theorem zX_no {m pc : Nat} {L st : List zV} {h : zH} {i : Instr} {len : Nat} (hd : decode (zb m) pc = .ok (i, len)) (ha : zact m i pc len L st h = zno) : zX m pc L st h = none := by
  cases hx : zX m pc L st h with
  | none => rfl
  | some o =>
    obtain ⟨n, e⟩ := zX_some.mp hx
    cases n with
    | zero => cases e
    | succ n => rw [zev_step hd, ha] at e; cases e
theorem zkd_ok {p : Nat} (h : (zkd p).1 ≠ 9) : p ≤ 103 ∨ 899 ≤ p := by
  by_cases hp : p ≤ 103
  · exact Or.inl hp
  · right
    rcases zkd_hi (p := p) (by omega) with z | ⟨e, _⟩ | ⟨e, _⟩ | ⟨j, _, e, _⟩ | ⟨j, _, e, _⟩
    · rw [z] at h; exact absurd rfl h
    · omega
    · omega
    · omega
    · omega
theorem zkd_o {p ci : Nat} (h : zkd p = (0, ci)) (hc : ci < 12) : p ≤ 103 := by
  by_cases hp : p ≤ 103
  · exact hp
  · rcases zkd_hi (p := p) (by omega) with z | ⟨_, z⟩ | ⟨_, z⟩ | ⟨j, _, _, z⟩ | ⟨j, _, _, z⟩ <;> rw [h] at z <;> cases z
    omega
section XH
variable {m pc : Nat} {L st : List zV} {I : Nat → Int → Int} {R : Nat → Int → Nat} {n S : Nat}
theorem xGetI {o idx ci k t p : Nat} (kk v : Int) (hv : I p kk = v) (hd : decode (zb m) pc = .ok (.getfield idx, 3)) (ho : zo m = o) (hf : zfl o idx = some (ci, k, t)) (ht : t ≠ 2) (hkk : (k : Int) = kk) (hk : zkd p = (0, ci)) (hn : p ≤ n ∨ 899 ≤ p) : zX m pc L (vR p :: st) (I, R, n, S) = zX m (pc + 3) L (vI v :: st) (I, R, n, S) := by
  subst ho; subst hkk; subst hv
  refine zX_go hd ((zact_eq rfl).trans ?_)
  show zget (zo m) idx (pc + 3) L (vR p :: st) (I, R, n, S) = _
  unfold zget
  rw [hf]
  show (if zkd p = (0, ci) ∧ (p ≤ n ∨ 899 ≤ p) then (if t = 2 then _ else zgo (pc + 3) L (vI (I p k) :: st) (I, R, n, S)) else zno) = _
  rw [if_pos ⟨hk, hn⟩, if_neg ht]
theorem xGetR {o idx ci k p : Nat} (kk : Int) (q : Nat) (hd : decode (zb m) pc = .ok (.getfield idx, 3)) (ho : zo m = o) (hf : zfl o idx = some (ci, k, 2)) (hkk : (k : Int) = kk) (hq : R p kk = q) (hk : zkd p = (0, ci)) (hn : p ≤ n ∨ 899 ≤ p) : zX m pc L (vR p :: st) (I, R, n, S) = zX m (pc + 3) L (vR q :: st) (I, R, n, S) := by
  subst ho; subst hkk; subst hq
  refine zX_go hd ((zact_eq rfl).trans ?_)
  show zget (zo m) idx (pc + 3) L (vR p :: st) (I, R, n, S) = _
  unfold zget
  rw [hf]
  show (if zkd p = (0, ci) ∧ (p ≤ n ∨ 899 ≤ p) then (if 2 = 2 then zgo (pc + 3) L (vR (R p k) :: st) (I, R, n, S) else _) else zno) = _
  rw [if_pos ⟨hk, hn⟩, if_pos rfl]
theorem xPutI {o idx ci k p : Nat} {a : Int} (kk : Int) (hd : decode (zb m) pc = .ok (.putfield idx, 3)) (ho : zo m = o) (hf : zfl o idx = some (ci, k, 0)) (hkk : (k : Int) = kk) (hk : zkd p = (0, ci)) (hn : p ≤ n) (hw : zfin ci k = false ∨ zin m = true ∧ zo m = ci) : zX m pc L (vI a :: vR p :: st) (I, R, n, S) = zX m (pc + 3) L st (sI I p kk a, R, n, S) := by
  subst ho; subst hkk
  refine zX_go hd ((zact_eq rfl).trans ?_)
  show zput m (zo m) idx (pc + 3) L (vI a :: vR p :: st) (I, R, n, S) = _
  unfold zput
  rw [hf]
  exact if_pos ⟨hk, hn, Or.inl rfl, hw⟩
theorem xPutZ {o idx ci k p : Nat} {a : Int} (kk : Int) (hd : decode (zb m) pc = .ok (.putfield idx, 3)) (ho : zo m = o) (hf : zfl o idx = some (ci, k, 1)) (hkk : (k : Int) = kk) (hk : zkd p = (0, ci)) (hn : p ≤ n) (ha : a = 0 ∨ a = 1) (hw : zfin ci k = false ∨ zin m = true ∧ zo m = ci) : zX m pc L (vI a :: vR p :: st) (I, R, n, S) = zX m (pc + 3) L st (sI I p kk a, R, n, S) := by
  subst ho; subst hkk
  refine zX_go hd ((zact_eq rfl).trans ?_)
  show zput m (zo m) idx (pc + 3) L (vI a :: vR p :: st) (I, R, n, S) = _
  unfold zput
  rw [hf]
  exact if_pos ⟨hk, hn, Or.inr ⟨rfl, ha⟩, hw⟩
theorem xPutR {o idx ci k p q : Nat} (kk : Int) (hd : decode (zb m) pc = .ok (.putfield idx, 3)) (ho : zo m = o) (hf : zfl o idx = some (ci, k, 2)) (hkk : (k : Int) = kk) (hk : zkd p = (0, ci)) (hn : p ≤ n) (hq : q ≤ n) (hw : zfin ci k = false ∨ zin m = true ∧ zo m = ci) : zX m pc L (vR q :: vR p :: st) (I, R, n, S) = zX m (pc + 3) L st (I, sR R p kk q, n, S) := by
  subst ho; subst hkk
  refine zX_go hd ((zact_eq rfl).trans ?_)
  show zput m (zo m) idx (pc + 3) L (vR q :: vR p :: st) (I, R, n, S) = _
  unfold zput
  rw [hf]
  exact if_pos ⟨hk, hn, rfl, hq, hw⟩
theorem zX_gd {N i : Int} {h h' : zH} {ins : Instr} {len pc' : Nat} {L' st' : List zV} (hd : decode (zb m) pc = .ok (ins, len)) (h1 : 0 ≤ i ∧ i < N → zact m ins pc len L st h = .inl (pc', L', st', h')) (h2 : ¬ (0 ≤ i ∧ i < N) → zact m ins pc len L st h = zno) : zX m pc L st h = if 0 ≤ i ∧ i < N then zX m pc' L' st' h' else none := by
  by_cases hp : 0 ≤ i ∧ i < N
  · rw [if_pos hp]; exact zX_go hd (h1 hp)
  · rw [if_neg hp]; exact zX_no hd (h2 hp)
theorem xIald {p : Nat} {i N : Int} (v : Int) (hv : I p i = v) (hd : decode (zb m) pc = .ok (.iaload, 1)) (hk : (zkd p).1 = 1) (hn : p ≤ n ∨ 899 ≤ p) (hl : (zal (I, R, n, S) p : Int) = N) : zX m pc L (vI i :: vR p :: st) (I, R, n, S) = if 0 ≤ i ∧ i < N then zX m (pc + 1) L (vI v :: st) (I, R, n, S) else none := by
  subst hv
  refine zX_gd hd (fun hi => ?_) (fun hi => ?_)
  · show (if (zkd p).1 ∈ [1] ∧ (p ≤ n ∨ 899 ≤ p) ∧ 0 ≤ i ∧ i < (zal (I, R, n, S) p : Int) then (if (zkd p).1 ≤ 3 then zgo (pc + 1) L (vI (I p i) :: st) (I, R, n, S) else _) else zno) = _
    rw [if_pos ⟨by rw [hk]; exact List.mem_singleton.mpr rfl, hn, hi.1, by rw [hl]; exact hi.2⟩, if_pos (by omega)]
  · show (if (zkd p).1 ∈ [1] ∧ (p ≤ n ∨ 899 ≤ p) ∧ 0 ≤ i ∧ i < (zal (I, R, n, S) p : Int) then _ else zno) = _
    rw [if_neg (fun z => hi ⟨z.2.2.1, by rw [← hl]; exact z.2.2.2⟩)]
theorem xBald {p : Nat} {i N : Int} (v : Int) (hv : I p i = v) (hd : decode (zb m) pc = .ok (.baload, 1)) (hk : (zkd p).1 = 2 ∨ (zkd p).1 = 3) (hn : p ≤ n ∨ 899 ≤ p) (hl : (zal (I, R, n, S) p : Int) = N) : zX m pc L (vI i :: vR p :: st) (I, R, n, S) = if 0 ≤ i ∧ i < N then zX m (pc + 1) L (vI v :: st) (I, R, n, S) else none := by
  subst hv
  refine zX_gd hd (fun hi => ?_) (fun hi => ?_)
  · show (if (zkd p).1 ∈ [2, 3] ∧ (p ≤ n ∨ 899 ≤ p) ∧ 0 ≤ i ∧ i < (zal (I, R, n, S) p : Int) then (if (zkd p).1 ≤ 3 then zgo (pc + 1) L (vI (I p i) :: st) (I, R, n, S) else _) else zno) = _
    rw [if_pos ⟨by rcases hk with hk | hk <;> rw [hk] <;> decide, hn, hi.1, by rw [hl]; exact hi.2⟩, if_pos (by omega)]
  · show (if (zkd p).1 ∈ [2, 3] ∧ (p ≤ n ∨ 899 ≤ p) ∧ 0 ≤ i ∧ i < (zal (I, R, n, S) p : Int) then _ else zno) = _
    rw [if_neg (fun z => hi ⟨z.2.2.1, by rw [← hl]; exact z.2.2.2⟩)]
theorem xLald {p : Nat} {i N : Int} (v : Int) (hv : I p i = v) (hd : decode (zb m) pc = .ok (.laload, 1)) (hk : (zkd p).1 = 4) (hn : p ≤ n ∨ 899 ≤ p) (hl : (zal (I, R, n, S) p : Int) = N) : zX m pc L (vI i :: vR p :: st) (I, R, n, S) = if 0 ≤ i ∧ i < N then zX m (pc + 1) L (vL v :: st) (I, R, n, S) else none := by
  subst hv
  refine zX_gd hd (fun hi => ?_) (fun hi => ?_)
  · show (if (zkd p).1 ∈ [4] ∧ (p ≤ n ∨ 899 ≤ p) ∧ 0 ≤ i ∧ i < (zal (I, R, n, S) p : Int) then (if (zkd p).1 ≤ 3 then _ else if (zkd p).1 = 4 then zgo (pc + 1) L (vL (I p i) :: st) (I, R, n, S) else _) else zno) = _
    rw [if_pos ⟨by rw [hk]; exact List.mem_singleton.mpr rfl, hn, hi.1, by rw [hl]; exact hi.2⟩, if_neg (by omega), if_pos hk]
  · show (if (zkd p).1 ∈ [4] ∧ (p ≤ n ∨ 899 ≤ p) ∧ 0 ≤ i ∧ i < (zal (I, R, n, S) p : Int) then _ else zno) = _
    rw [if_neg (fun z => hi ⟨z.2.2.1, by rw [← hl]; exact z.2.2.2⟩)]
theorem xAald {p : Nat} {i N : Int} (hd : decode (zb m) pc = .ok (.aaload, 1)) (hk : (zkd p).1 = 5 ∨ (zkd p).1 = 6) (hn : p ≤ n ∨ 899 ≤ p) (hl : (zal (I, R, n, S) p : Int) = N) : zX m pc L (vI i :: vR p :: st) (I, R, n, S) = if 0 ≤ i ∧ i < N then zX m (pc + 1) L (vR (R p i) :: st) (I, R, n, S) else none := by
  refine zX_gd hd (fun hi => ?_) (fun hi => ?_)
  · show (if (zkd p).1 ∈ [5, 6] ∧ (p ≤ n ∨ 899 ≤ p) ∧ 0 ≤ i ∧ i < (zal (I, R, n, S) p : Int) then (if (zkd p).1 ≤ 3 then _ else if (zkd p).1 = 4 then _ else zgo (pc + 1) L (vR (R p i) :: st) (I, R, n, S)) else zno) = _
    rw [if_pos ⟨by rcases hk with hk | hk <;> rw [hk] <;> decide, hn, hi.1, by rw [hl]; exact hi.2⟩, if_neg (by omega), if_neg (by omega)]
  · show (if (zkd p).1 ∈ [5, 6] ∧ (p ≤ n ∨ 899 ≤ p) ∧ 0 ≤ i ∧ i < (zal (I, R, n, S) p : Int) then _ else zno) = _
    rw [if_neg (fun z => hi ⟨z.2.2.1, by rw [← hl]; exact z.2.2.2⟩)]
theorem xIast {p : Nat} {i x N : Int} (hd : decode (zb m) pc = .ok (.iastore, 1)) (hk : (zkd p).1 = 1) (hn : p ≤ n) (hl : ((zkd p).2 : Int) = N) : zX m pc L (vI x :: vI i :: vR p :: st) (I, R, n, S) = if 0 ≤ i ∧ i < N then zX m (pc + 1) L st (sI I p i x, R, n, S) else none := by
  refine zX_gd hd (fun hi => ?_) (fun hi => ?_)
  · show (if (zkd p).1 = 1 ∧ p ≤ n ∧ 0 ≤ i ∧ i < ((zkd p).2 : Int) then zgo (pc + 1) L st (sI I p i x, R, n, S) else zno) = _
    rw [if_pos ⟨hk, hn, hi.1, by rw [hl]; exact hi.2⟩]
  · show (if (zkd p).1 = 1 ∧ p ≤ n ∧ 0 ≤ i ∧ i < ((zkd p).2 : Int) then _ else zno) = _
    rw [if_neg (fun z => hi ⟨z.2.2.1, by rw [← hl]; exact z.2.2.2⟩)]
theorem xBast {p : Nat} {i x N : Int} (hd : decode (zb m) pc = .ok (.bastore, 1)) (hk : (zkd p).1 = 2) (hn : p ≤ n) (hl : ((zkd p).2 : Int) = N) : zX m pc L (vI x :: vI i :: vR p :: st) (I, R, n, S) = if 0 ≤ i ∧ i < N then zX m (pc + 1) L st (sI I p i (wb x), R, n, S) else none := by
  refine zX_gd hd (fun hi => ?_) (fun hi => ?_)
  · show (if p ≤ n ∧ 0 ≤ i ∧ i < ((zkd p).2 : Int) then (if (zkd p).1 = 2 then zgo (pc + 1) L st (sI I p i (wb x), R, n, S) else _) else zno) = _
    rw [if_pos ⟨hn, hi.1, by rw [hl]; exact hi.2⟩, if_pos hk]
  · show (if p ≤ n ∧ 0 ≤ i ∧ i < ((zkd p).2 : Int) then _ else zno) = _
    rw [if_neg (fun z => hi ⟨z.2.1, by rw [← hl]; exact z.2.2⟩)]
theorem xZast {p : Nat} {i x N : Int} (hd : decode (zb m) pc = .ok (.bastore, 1)) (hk : (zkd p).1 = 3) (hn : p ≤ n) (hx : x = 0 ∨ x = 1) (hl : ((zkd p).2 : Int) = N) : zX m pc L (vI x :: vI i :: vR p :: st) (I, R, n, S) = if 0 ≤ i ∧ i < N then zX m (pc + 1) L st (sI I p i x, R, n, S) else none := by
  refine zX_gd hd (fun hi => ?_) (fun hi => ?_)
  · show (if p ≤ n ∧ 0 ≤ i ∧ i < ((zkd p).2 : Int) then (if (zkd p).1 = 2 then _ else if (zkd p).1 = 3 ∧ (x = 0 ∨ x = 1) then zgo (pc + 1) L st (sI I p i x, R, n, S) else zno) else zno) = _
    rw [if_pos ⟨hn, hi.1, by rw [hl]; exact hi.2⟩, if_neg (by omega), if_pos ⟨hk, hx⟩]
  · show (if p ≤ n ∧ 0 ≤ i ∧ i < ((zkd p).2 : Int) then _ else zno) = _
    rw [if_neg (fun z => hi ⟨z.2.1, by rw [← hl]; exact z.2.2⟩)]
theorem xLast {p : Nat} {i x N : Int} (hd : decode (zb m) pc = .ok (.lastore, 1)) (hk : (zkd p).1 = 4) (hn : p ≤ n) (hx : -2147483648 ≤ x ∧ x ≤ 2147483647) (hl : ((zkd p).2 : Int) = N) : zX m pc L (vL x :: vI i :: vR p :: st) (I, R, n, S) = if 0 ≤ i ∧ i < N then zX m (pc + 1) L st (sI I p i x, R, n, S) else none := by
  refine zX_gd hd (fun hi => ?_) (fun hi => ?_)
  · show (if (zkd p).1 = 4 ∧ p ≤ n ∧ 0 ≤ i ∧ i < ((zkd p).2 : Int) ∧ -2147483648 ≤ x ∧ x ≤ 2147483647 then zgo (pc + 1) L st (sI I p i x, R, n, S) else zno) = _
    rw [if_pos ⟨hk, hn, hi.1, by rw [hl]; exact hi.2, hx⟩]
  · show (if (zkd p).1 = 4 ∧ p ≤ n ∧ 0 ≤ i ∧ i < ((zkd p).2 : Int) ∧ -2147483648 ≤ x ∧ x ≤ 2147483647 then _ else zno) = _
    rw [if_neg (fun z => hi ⟨z.2.2.1, by rw [← hl]; exact z.2.2.2.1⟩)]
theorem xAast {p q : Nat} {i N : Int} (hd : decode (zb m) pc = .ok (.aastore, 1)) (hk : (zkd p).1 = 5 ∧ zkd q = (0, 4) ∨ (zkd p).1 = 6 ∧ zkd q = (0, 8)) (hq : q ≤ n) (hn : p ≤ n) (hl : ((zkd p).2 : Int) = N) : zX m pc L (vR q :: vI i :: vR p :: st) (I, R, n, S) = if 0 ≤ i ∧ i < N then zX m (pc + 1) L st (I, sR R p i q, n, S) else none := by
  refine zX_gd hd (fun hi => ?_) (fun hi => ?_)
  · show (if ((zkd p).1 = 5 ∧ zkd q = (0, 4) ∨ (zkd p).1 = 6 ∧ zkd q = (0, 8)) ∧ q ≤ n ∧ p ≤ n ∧ 0 ≤ i ∧ i < ((zkd p).2 : Int) then zgo (pc + 1) L st (I, sR R p i q, n, S) else zno) = _
    rw [if_pos ⟨hk, hq, hn, hi.1, by rw [hl]; exact hi.2⟩]
  · show (if ((zkd p).1 = 5 ∧ zkd q = (0, 4) ∨ (zkd p).1 = 6 ∧ zkd q = (0, 8)) ∧ q ≤ n ∧ p ≤ n ∧ 0 ≤ i ∧ i < ((zkd p).2 : Int) then _ else zno) = _
    rw [if_neg (fun z => hi ⟨z.2.2.2.1, by rw [← hl]; exact z.2.2.2.2⟩)]
theorem xAlen {p : Nat} {N : Int} (hd : decode (zb m) pc = .ok (.arraylength, 1)) (hk : 1 ≤ (zkd p).1 ∧ (zkd p).1 ≤ 6) (hn : p ≤ n ∨ 899 ≤ p) (hl : (zal (I, R, n, S) p : Int) = N) (hN : N < 2147483648) : zX m pc L (vR p :: st) (I, R, n, S) = zX m (pc + 1) L (vI N :: st) (I, R, n, S) := by
  refine zX_go hd ((zact_eq rfl).trans ?_)
  show (if 1 ≤ (zkd p).1 ∧ (zkd p).1 ≤ 6 ∧ (p ≤ n ∨ 899 ≤ p) ∧ zal (I, R, n, S) p < 2147483648 then zgo (pc + 1) L (vI (zal (I, R, n, S) p) :: st) (I, R, n, S) else zno) = _
  rw [if_pos ⟨hk.1, hk.2, hn, by omega⟩, hl]
theorem xLdc {o k : Nat} {a : Int} {h : zH} (hd : decode (zb m) pc = .ok (.ldc k, 2)) (ho : zo m = o) (hc : zct o k = some a) (hr : -2147483648 ≤ a ∧ a ≤ 2147483647) : zX m pc L st h = zX m (pc + 2) L (vI a :: st) h := by
  subst ho
  refine zX_go hd ((zact_eq rfl).trans ?_)
  simp only [zac0]
  rw [hc]
  exact if_pos hr
theorem xLdcS {o k j : Nat} {h : zH} (hd : decode (zb m) pc = .ok (.ldc k, 2)) (ho : zo m = o) (hc : zct o k = none) (hs : zst o k = some j) : zX m pc L st h = zX m (pc + 2) L (vR (1000 + j) :: st) h := by
  subst ho
  refine zX_go hd ((zact_eq rfl).trans ?_)
  simp only [zac0]
  rw [hc]
  simp only
  rw [hs]
  rfl
theorem xLdcw {o k : Nat} {a : Int} {h : zH} (hd : decode (zb m) pc = .ok (.ldc_w k, 3)) (ho : zo m = o) (hc : zct o k = some a) (hr : -2147483648 ≤ a ∧ a ≤ 2147483647) : zX m pc L st h = zX m (pc + 3) L (vI a :: st) h := by
  subst ho
  refine zX_go hd ((zact_eq rfl).trans ?_)
  simp only [zac0]
  rw [hc]
  exact if_pos hr
theorem xLdc2 {o k : Nat} {a : Int} {h : zH} (hd : decode (zb m) pc = .ok (.ldc2_w k, 3)) (ho : zo m = o) (hc : zcl o k = some a) (hr : -2147483648 ≤ a ∧ a ≤ 2147483647) : zX m pc L st h = zX m (pc + 3) L (vL a :: st) h := by
  subst ho
  refine zX_go hd ((zact_eq rfl).trans ?_)
  simp only [zac0]
  rw [hc]
  exact if_pos hr
theorem xGetstI {o k : Nat} {h : zH} (hd : decode (zb m) pc = .ok (.getstatic k, 3)) (ho : zo m = o) (hc : zgs o k = some (-1)) : zX m pc L st h = zX m (pc + 3) L (vI 1 :: st) h := by
  subst ho
  refine zX_go hd ((zact_eq rfl).trans ?_)
  simp only [zac0, zgst]
  rw [hc]
  rfl
theorem xGetstR {o k q : Nat} {c : Int} {h : zH} (hd : decode (zb m) pc = .ok (.getstatic k, 3)) (ho : zo m = o) (hc : zgs o k = some c) (hq : c = (q : Int)) : zX m pc L st h = zX m (pc + 3) L (vR q :: st) h := by
  subst ho; subst hq
  refine zX_go hd ((zact_eq rfl).trans ?_)
  simp only [zac0, zgst]
  rw [hc]
  simp only
  rw [if_neg (by omega), if_pos (by omega)]
  rfl
theorem xIret {a : Int} {h : zH} (hd : decode (zb m) pc = .ok (.ireturn, 1)) (hr : zret m = some .int) : zX m pc L [vI a] h = some (some (vI a), h) := zX_ret hd ((zact_eq rfl).trans (by
  simp only [zac0, zrt]
  rw [hr]))
theorem xZret {a : Int} {h : zH} (hd : decode (zb m) pc = .ok (.ireturn, 1)) (hr : zret m = some .boolean) (ha : a = 0 ∨ a = 1) : zX m pc L [vI a] h = some (some (vI a), h) := zX_ret hd ((zact_eq rfl).trans (by
  simp only [zac0, zrt]
  rw [hr]
  exact if_pos ha))
theorem xCret {a : Int} {h : zH} (hd : decode (zb m) pc = .ok (.ireturn, 1)) (hr : zret m = some .char) (ha : 0 ≤ a ∧ a < 65536) : zX m pc L [vI a] h = some (some (vI a), h) := zX_ret hd ((zact_eq rfl).trans (by
  simp only [zac0, zrt]
  rw [hr]
  exact if_pos ha))
theorem xBret {a : Int} {h : zH} (hd : decode (zb m) pc = .ok (.ireturn, 1)) (hr : zret m = some .byte) (ha : -128 ≤ a ∧ a < 128) : zX m pc L [vI a] h = some (some (vI a), h) := zX_ret hd ((zact_eq rfl).trans (by
  simp only [zac0, zrt]
  rw [hr]
  exact if_pos ha))
theorem xVret {h : zH} (hd : decode (zb m) pc = .ok (.return_, 1)) (hr : zret m = none) : zX m pc L [] h = some (none, h) := zX_ret hd ((zact_eq rfl).trans (if_pos ⟨rfl, hr⟩))
/-- a call's conditions, by program -/
def zcOk (m d : Nat) (as st' : List zV) : Bool := Nat.ble (d + 1) 217 && Nat.ble (zfr d + 1) (zfr m) && Nat.ble (8 + (zL d + 11) + zlo d) (zlo m) && Nat.ble ((st'.map zcat).sum) 8 && as.all (fun v => v.isSome && (zhl d || znl v)) && Nat.ble (zent as).length (zL d) && Nat.beq as.length (zna d)
theorem zcall_eq {h : zH} {o idx k d pc' k1 k2 : Nat} {as st' : List zV} (hm : zml o idx = some (k, d)) (hk : k = k1 ∨ k = k2) (hs : st = as.reverse ++ st') (hc : zcOk m d as st' = true) (hr : k = 1 ∨ ∃ x rest, as = vR x :: rest ∧ ((zkd x = (0, zo d) ∧ x ≤ h.2.2.1) ∨ (zo d = 13 ∧ zkd x = (0, 20)))) : zcall m o idx pc' k1 k2 L st h = .inr (.inl (d, as, pc', st')) := by
  unfold zcOk at hc
  simp only [Bool.and_eq_true, Nat.ble_eq, Nat.beq_eq] at hc
  obtain ⟨⟨⟨⟨⟨⟨h1, h2⟩, h3⟩, h4⟩, h5⟩, h6⟩, h7⟩ := hc
  have e1 : st.take (zna d) = as.reverse := by rw [hs, ← h7, ← List.length_reverse, List.take_left]
  have e2 : st.drop (zna d) = st' := by rw [hs, ← h7, ← List.length_reverse, List.drop_left]
  have e3 : zna d ≤ st.length := by rw [hs, List.length_append, List.length_reverse]; omega
  unfold zcall
  rw [hm]
  simp only
  rw [if_pos hk, e1, e2, List.reverse_reverse, if_pos ⟨e3, h1, h2, h3, h4, by rw [List.all_reverse]; exact h5, h6⟩]
  rcases hr with rfl | ⟨x, rest, rfl, hx⟩
  · rw [if_pos rfl]
  · by_cases hk1 : k = 1
    · rw [if_pos hk1]
    · rw [if_neg hk1]
      simp only
      rw [if_pos hx]
theorem xInvV {h : zH} {o idx d x : Nat} {rest : List zV} (as st' : List zV) (hd : decode (zb m) pc = .ok (.invokevirtual idx, 3)) (ho : zo m = o) (hm : zml o idx = some (0, d)) (hs : st = as.reverse ++ st') (hc : zcOk m d as st' = true) (ha : as = vR x :: rest) (hx : (zkd x = (0, zo d) ∧ x ≤ h.2.2.1) ∨ (zo d = 13 ∧ zkd x = (0, 20))) : zX m pc L st h = (zrun d as h).bind (fun q => zX m (pc + 3) L (zpush q.1 st') q.2) := by
  subst ho
  exact zX_call hd ((zact_eq rfl).trans (zcall_eq hm (Or.inl rfl) hs hc (Or.inr ⟨x, rest, ha, hx⟩)))
theorem xInvS {h : zH} {o idx d : Nat} (as st' : List zV) (hd : decode (zb m) pc = .ok (.invokestatic idx, 3)) (ho : zo m = o) (hm : zml o idx = some (1, d)) (hs : st = as.reverse ++ st') (hc : zcOk m d as st' = true) : zX m pc L st h = (zrun d as h).bind (fun q => zX m (pc + 3) L (zpush q.1 st') q.2) := by
  subst ho
  exact zX_call hd ((zact_eq rfl).trans (zcall_eq hm (Or.inl rfl) hs hc (Or.inl rfl)))
theorem xInvC {h : zH} {o idx k d x : Nat} {rest : List zV} (as st' : List zV) (hd : decode (zb m) pc = .ok (.invokespecial idx, 3)) (ho : zo m = o) (hm : zml o idx = some (k, d)) (hk : k = 2 ∨ k = 3) (hs : st = as.reverse ++ st') (hc : zcOk m d as st' = true) (ha : as = vR x :: rest) (hx : (zkd x = (0, zo d) ∧ x ≤ h.2.2.1) ∨ (zo d = 13 ∧ zkd x = (0, 20))) : zX m pc L st h = (zrun d as h).bind (fun q => zX m (pc + 3) L (zpush q.1 st') q.2) := by
  subst ho
  exact zX_call hd ((zact_eq rfl).trans (zcall_eq hm hk hs hc (Or.inr ⟨x, rest, ha, hx⟩)))
theorem xObj {h : zH} {o idx d x : Nat} (hd : decode (zb m) pc = .ok (.invokespecial idx, 3)) (ho : zo m = o) (hm : zml o idx = some (10, d)) (hx : 1 ≤ x ∧ x ≤ h.2.2.1) (hc : (Nat.ble 1 (zfr m) && Nat.ble ((st.map zcat).sum + 12) (zlo m)) = true) : zX m pc L (vR x :: st) h = zX m (pc + 3) L st h := by
  subst ho
  refine zX_go hd ((zact_eq rfl).trans ?_)
  simp only [Bool.and_eq_true, Nat.ble_eq] at hc
  show zcall m (zo m) idx (pc + 3) 2 3 L (vR x :: st) h = _
  unfold zcall
  rw [hm]
  simp only
  rw [if_neg (by decide), if_pos (by decide)]
  exact if_pos ⟨hx.1, hx.2, hc.1, hc.2⟩
theorem xCopy {o idx d' p q : Nat} {k dp sp N M : Int} (hd : decode (zb m) pc = .ok (.invokestatic idx, 3)) (ho : zo m = o) (hm : zml o idx = some (11, d')) (hp : (zkd p).1 = 1) (hpn : p ≤ n) (hq : (zkd q).1 = 1) (hqn : q ≤ n) (hN : ((zkd p).2 : Int) = N) (hM : ((zkd q).2 : Int) = M) (hc : (Nat.ble 1 (zfr m) && Nat.ble ((st.map zcat).sum + 30) (zlo m)) = true) (hb : 0 ≤ k ∧ 0 ≤ dp ∧ 0 ≤ sp ∧ sp + k ≤ M ∧ dp + k ≤ N) : zX m pc L (vI k :: vI dp :: vR p :: vI sp :: vR q :: st) (I, R, n, S) = zX m (pc + 3) L st (zcpy I q sp p dp k, R, n, S) := by
  subst ho
  refine zX_go hd ((zact_eq rfl).trans ?_)
  simp only [Bool.and_eq_true, Nat.ble_eq] at hc
  show zcall m (zo m) idx (pc + 3) 1 1 L (vI k :: vI dp :: vR p :: vI sp :: vR q :: st) (I, R, n, S) = _
  unfold zcall
  rw [hm]
  simp only
  rw [if_neg (by decide), if_neg (by decide), if_pos (by decide)]
  exact if_pos ⟨hp, hpn, hq, hqn, hb.1, hb.2.1, hb.2.2.1, by rw [hM]; exact hb.2.2.2.1, by rw [hN]; exact hb.2.2.2.2, hc.1, hc.2⟩
end XH
theorem sI_p {I : Nat → Int → Int} {p q : Nat} {k j x : Int} (h : q ≠ p) : sI I p k x q j = I q j := by unfold sI; rw [if_neg (fun z => h z.1)]
theorem sI_k {I : Nat → Int → Int} {p : Nat} {k j x : Int} (h : j ≠ k) : sI I p k x p j = I p j := by unfold sI; rw [if_neg (fun z => h z.2)]
theorem sI_s {I : Nat → Int → Int} {p : Nat} {k x : Int} : sI I p k x p k = x := by unfold sI; rw [if_pos ⟨rfl, rfl⟩]
theorem zcpy_p {I : Nat → Int → Int} {a p q : Nat} {sp dp n j : Int} (h : q ≠ p) : zcpy I a sp p dp n q j = I q j := by unfold zcpy; rw [if_neg (fun z => h z.1)]
theorem ziteC {α : Type} {c : Prop} {inst : Decidable c} {t t' u u' : α} (h1 : t = t') (h2 : u = u') : (if c then t else u) = if c then t' else u' := by rw [h1, h2]
/-- the program that plays; the spare one -/
def zg (b : Bool) : Nat := if b = true then 38 else 25
def zg2 (b : Bool) : Nat := if b = true then 25 else 38
def zRsL : List (List Nat) := [[], [2, 4, 6, 8, 22, 23, 24, 25, 38], [3], [], [2, 0, 0, 5], [], [7], [], [9, 11, 15, 18, 19, 0, 0, 0, 0, 20], [0, 0, 10], [], [12, 0, 13, 14], [], [], [], [16, 17], [], [], [], [], [0, 0, 21], [], [51, 65], [], [79, 81, 83, 85], [26, 31, 32, 33, 34, 35, 0, 36, 0, 37], [27, 28, 29, 30], [], [], [], [], [], [], [], [], [], [], [], [39, 44, 45, 46, 47, 48, 0, 49, 0, 50], [40, 41, 42, 43], [], [], [], [], [], [], [], [], [], [], [], [52, 54, 58, 61, 62, 0, 0, 0, 0, 63], [0, 0, 53], [], [55, 0, 56, 57], [], [], [], [59, 60], [], [], [], [], [0, 0, 64], [], [66, 68, 72, 75, 76, 0, 0, 0, 0, 77], [0, 0, 67], [], [69, 0, 70, 71], [], [], [], [73, 74], [], [], [], [], [0, 0, 78], [], [80], [], [82], [], [84], [], [86], [], [88, 89, 90, 0, 91, 92, 93, 94, 95, 96, 0, 0, 0, 0, 0, 0, 0, 97, 98, 0, 99, 0, 100, 0, 0, 101, 102, 103], [], [], [], [], [], [], [], [], [], [], [], [], [], [], [], []]
/-- the references, as they stay -/
def zRs (b : Bool) : Nat → Int → Nat := fun p k => if p = 1 ∧ k = 7 then zg b else if p = 1 ∧ k = 8 then zg2 b else if 1000 ≤ p ∧ p < 1006 ∧ k = 0 then p + 100 else if 0 ≤ k then (zRsL.getD p []).getD k.toNat 0 else 0
abbrev isProg (g : Nat) : Prop := g = 25 ∨ g = 38
abbrev isPool (g : Nat) : Prop := g = 26 ∨ g = 39
abbrev isCur (g : Nat) : Prop := g = 9 ∨ g = 20 ∨ g = 52 ∨ g = 63 ∨ g = 66 ∨ g = 77
abbrev isPgs (g : Nat) : Prop := g = 11 ∨ g = 54 ∨ g = 68
abbrev isMk (g : Nat) : Prop := g = 15 ∨ g = 58 ∨ g = 72
abbrev isPl (g : Nat) : Prop := g = 8 ∨ g = 51 ∨ g = 65
abbrev isSh (g : Nat) : Prop := g = 79 ∨ g = 81 ∨ g = 83 ∨ g = 85
abbrev isRow (g : Nat) : Prop := g = 5 ∨ g = 7
abbrev isStr (g : Nat) : Prop := g = 1000 ∨ g = 1001 ∨ g = 1002 ∨ g = 1003 ∨ g = 1004 ∨ g = 1005
theorem zg_ok (b : Bool) : isProg (zg b) := by cases b <;> decide
theorem zg2_ok (b : Bool) : isProg (zg2 b) := by cases b <;> decide
theorem isProg_pool {g : Nat} (h : isProg g) : isPool (g + 1) := by rcases h with rfl | rfl <;> decide
theorem isCur_k {g : Nat} (h : isCur g) : zkd g = (0, 0) := by rcases h with rfl | rfl | rfl | rfl | rfl | rfl <;> rfl
theorem isCur_n {g : Nat} (h : isCur g) : g ≤ 103 := by rcases h with rfl | rfl | rfl | rfl | rfl | rfl <;> decide
theorem isCur_r2 {b : Bool} {g : Nat} (h : isCur g) : zRs b g 2 = g + 1 := by rcases h with rfl | rfl | rfl | rfl | rfl | rfl <;> cases b <;> rfl
theorem isCur_k1 {g : Nat} (h : isCur g) : zkd (g + 1) = (1, 24) := by rcases h with rfl | rfl | rfl | rfl | rfl | rfl <;> rfl
theorem isCur_n1 {g : Nat} (h : isCur g) : g + 1 ≤ 103 := by rcases h with rfl | rfl | rfl | rfl | rfl | rfl <;> decide
theorem isMk_k {g : Nat} (h : isMk g) : zkd g = (0, 2) := by rcases h with rfl | rfl | rfl <;> rfl
theorem isMk_n {g : Nat} (h : isMk g) : g ≤ 103 := by rcases h with rfl | rfl | rfl <;> decide
theorem isMk_r0 {b : Bool} {g : Nat} (h : isMk g) : zRs b g 0 = g + 1 := by rcases h with rfl | rfl | rfl <;> cases b <;> rfl
theorem isMk_k1 {g : Nat} (h : isMk g) : zkd (g + 1) = (1, 40) := by rcases h with rfl | rfl | rfl <;> rfl
theorem isMk_n1 {g : Nat} (h : isMk g) : g + 1 ≤ 103 := by rcases h with rfl | rfl | rfl <;> decide
theorem isMk_r1 {b : Bool} {g : Nat} (h : isMk g) : zRs b g 1 = g + 2 := by rcases h with rfl | rfl | rfl <;> cases b <;> rfl
theorem isMk_k2 {g : Nat} (h : isMk g) : zkd (g + 2) = (1, 40) := by rcases h with rfl | rfl | rfl <;> rfl
theorem isMk_n2 {g : Nat} (h : isMk g) : g + 2 ≤ 103 := by rcases h with rfl | rfl | rfl <;> decide
theorem isPgs_k {g : Nat} (h : isPgs g) : zkd g = (0, 3) := by rcases h with rfl | rfl | rfl <;> rfl
theorem isPgs_n {g : Nat} (h : isPgs g) : g ≤ 103 := by rcases h with rfl | rfl | rfl <;> decide
theorem isPgs_r0 {b : Bool} {g : Nat} (h : isPgs g) : zRs b g 0 = g + 1 := by rcases h with rfl | rfl | rfl <;> cases b <;> rfl
theorem isPgs_k1 {g : Nat} (h : isPgs g) : zkd (g + 1) = (1, 6) := by rcases h with rfl | rfl | rfl <;> rfl
theorem isPgs_n1 {g : Nat} (h : isPgs g) : g + 1 ≤ 103 := by rcases h with rfl | rfl | rfl <;> decide
theorem isPgs_r2 {b : Bool} {g : Nat} (h : isPgs g) : zRs b g 2 = g + 2 := by rcases h with rfl | rfl | rfl <;> cases b <;> rfl
theorem isPgs_k2 {g : Nat} (h : isPgs g) : zkd (g + 2) = (1, 16) := by rcases h with rfl | rfl | rfl <;> rfl
theorem isPgs_n2 {g : Nat} (h : isPgs g) : g + 2 ≤ 103 := by rcases h with rfl | rfl | rfl <;> decide
theorem isPgs_r3 {b : Bool} {g : Nat} (h : isPgs g) : zRs b g 3 = g + 3 := by rcases h with rfl | rfl | rfl <;> cases b <;> rfl
theorem isPgs_k3 {g : Nat} (h : isPgs g) : zkd (g + 3) = (1, 16) := by rcases h with rfl | rfl | rfl <;> rfl
theorem isPgs_n3 {g : Nat} (h : isPgs g) : g + 3 ≤ 103 := by rcases h with rfl | rfl | rfl <;> decide
theorem isPl_k {g : Nat} (h : isPl g) : zkd g = (0, 4) := by rcases h with rfl | rfl | rfl <;> rfl
theorem isPl_n {g : Nat} (h : isPl g) : g ≤ 103 := by rcases h with rfl | rfl | rfl <;> decide
theorem isPl_r0 {b : Bool} {g : Nat} (h : isPl g) : zRs b g 0 = g + 1 := by rcases h with rfl | rfl | rfl <;> cases b <;> rfl
theorem isPl_k1 {g : Nat} (h : isPl g) : zkd (g + 1) = (0, 0) := by rcases h with rfl | rfl | rfl <;> rfl
theorem isPl_n1 {g : Nat} (h : isPl g) : g + 1 ≤ 103 := by rcases h with rfl | rfl | rfl <;> decide
theorem isPl_r1 {b : Bool} {g : Nat} (h : isPl g) : zRs b g 1 = g + 3 := by rcases h with rfl | rfl | rfl <;> cases b <;> rfl
theorem isPl_k3 {g : Nat} (h : isPl g) : zkd (g + 3) = (0, 3) := by rcases h with rfl | rfl | rfl <;> rfl
theorem isPl_n3 {g : Nat} (h : isPl g) : g + 3 ≤ 103 := by rcases h with rfl | rfl | rfl <;> decide
theorem isPl_r2 {b : Bool} {g : Nat} (h : isPl g) : zRs b g 2 = g + 7 := by rcases h with rfl | rfl | rfl <;> cases b <;> rfl
theorem isPl_k7 {g : Nat} (h : isPl g) : zkd (g + 7) = (0, 2) := by rcases h with rfl | rfl | rfl <;> rfl
theorem isPl_n7 {g : Nat} (h : isPl g) : g + 7 ≤ 103 := by rcases h with rfl | rfl | rfl <;> decide
theorem isPl_r3 {b : Bool} {g : Nat} (h : isPl g) : zRs b g 3 = g + 10 := by rcases h with rfl | rfl | rfl <;> cases b <;> rfl
theorem isPl_k10 {g : Nat} (h : isPl g) : zkd (g + 10) = (1, 200) := by rcases h with rfl | rfl | rfl <;> rfl
theorem isPl_n10 {g : Nat} (h : isPl g) : g + 10 ≤ 103 := by rcases h with rfl | rfl | rfl <;> decide
theorem isPl_r4 {b : Bool} {g : Nat} (h : isPl g) : zRs b g 4 = g + 11 := by rcases h with rfl | rfl | rfl <;> cases b <;> rfl
theorem isPl_k11 {g : Nat} (h : isPl g) : zkd (g + 11) = (1, 5) := by rcases h with rfl | rfl | rfl <;> rfl
theorem isPl_n11 {g : Nat} (h : isPl g) : g + 11 ≤ 103 := by rcases h with rfl | rfl | rfl <;> decide
theorem isPl_r9 {b : Bool} {g : Nat} (h : isPl g) : zRs b g 9 = g + 12 := by rcases h with rfl | rfl | rfl <;> cases b <;> rfl
theorem isPl_k12 {g : Nat} (h : isPl g) : zkd (g + 12) = (0, 0) := by rcases h with rfl | rfl | rfl <;> rfl
theorem isPl_n12 {g : Nat} (h : isPl g) : g + 12 ≤ 103 := by rcases h with rfl | rfl | rfl <;> decide
theorem isPool_k {g : Nat} (h : isPool g) : zkd g = (0, 5) := by rcases h with rfl | rfl <;> rfl
theorem isPool_n {g : Nat} (h : isPool g) : g ≤ 103 := by rcases h with rfl | rfl <;> decide
theorem isPool_r0 {b : Bool} {g : Nat} (h : isPool g) : zRs b g 0 = g + 1 := by rcases h with rfl | rfl <;> cases b <;> rfl
theorem isPool_k1 {g : Nat} (h : isPool g) : zkd (g + 1) = (1, 128) := by rcases h with rfl | rfl <;> rfl
theorem isPool_n1 {g : Nat} (h : isPool g) : g + 1 ≤ 103 := by rcases h with rfl | rfl <;> decide
theorem isPool_r1 {b : Bool} {g : Nat} (h : isPool g) : zRs b g 1 = g + 2 := by rcases h with rfl | rfl <;> cases b <;> rfl
theorem isPool_k2 {g : Nat} (h : isPool g) : zkd (g + 2) = (1, 8) := by rcases h with rfl | rfl <;> rfl
theorem isPool_n2 {g : Nat} (h : isPool g) : g + 2 ≤ 103 := by rcases h with rfl | rfl <;> decide
theorem isPool_r2 {b : Bool} {g : Nat} (h : isPool g) : zRs b g 2 = g + 3 := by rcases h with rfl | rfl <;> cases b <;> rfl
theorem isPool_k3 {g : Nat} (h : isPool g) : zkd (g + 3) = (1, 8) := by rcases h with rfl | rfl <;> rfl
theorem isPool_n3 {g : Nat} (h : isPool g) : g + 3 ≤ 103 := by rcases h with rfl | rfl <;> decide
theorem isPool_r3 {b : Bool} {g : Nat} (h : isPool g) : zRs b g 3 = g + 4 := by rcases h with rfl | rfl <;> cases b <;> rfl
theorem isPool_k4 {g : Nat} (h : isPool g) : zkd (g + 4) = (1, 8) := by rcases h with rfl | rfl <;> rfl
theorem isPool_n4 {g : Nat} (h : isPool g) : g + 4 ≤ 103 := by rcases h with rfl | rfl <;> decide
theorem isProg_k {g : Nat} (h : isProg g) : zkd g = (0, 6) := by rcases h with rfl | rfl <;> rfl
theorem isProg_n {g : Nat} (h : isProg g) : g ≤ 103 := by rcases h with rfl | rfl <;> decide
theorem isProg_r0 {b : Bool} {g : Nat} (h : isProg g) : zRs b g 0 = g + 1 := by rcases h with rfl | rfl <;> cases b <;> rfl
theorem isProg_k1 {g : Nat} (h : isProg g) : zkd (g + 1) = (0, 5) := by rcases h with rfl | rfl <;> rfl
theorem isProg_n1 {g : Nat} (h : isProg g) : g + 1 ≤ 103 := by rcases h with rfl | rfl <;> decide
theorem isProg_r1 {b : Bool} {g : Nat} (h : isProg g) : zRs b g 1 = g + 6 := by rcases h with rfl | rfl <;> cases b <;> rfl
theorem isProg_k6 {g : Nat} (h : isProg g) : zkd (g + 6) = (1, 24) := by rcases h with rfl | rfl <;> rfl
theorem isProg_n6 {g : Nat} (h : isProg g) : g + 6 ≤ 103 := by rcases h with rfl | rfl <;> decide
theorem isProg_r2 {b : Bool} {g : Nat} (h : isProg g) : zRs b g 2 = g + 7 := by rcases h with rfl | rfl <;> cases b <;> rfl
theorem isProg_k7 {g : Nat} (h : isProg g) : zkd (g + 7) = (1, 24) := by rcases h with rfl | rfl <;> rfl
theorem isProg_n7 {g : Nat} (h : isProg g) : g + 7 ≤ 103 := by rcases h with rfl | rfl <;> decide
theorem isProg_r3 {b : Bool} {g : Nat} (h : isProg g) : zRs b g 3 = g + 8 := by rcases h with rfl | rfl <;> cases b <;> rfl
theorem isProg_k8 {g : Nat} (h : isProg g) : zkd (g + 8) = (1, 24) := by rcases h with rfl | rfl <;> rfl
theorem isProg_n8 {g : Nat} (h : isProg g) : g + 8 ≤ 103 := by rcases h with rfl | rfl <;> decide
theorem isProg_r4 {b : Bool} {g : Nat} (h : isProg g) : zRs b g 4 = g + 9 := by rcases h with rfl | rfl <;> cases b <;> rfl
theorem isProg_k9 {g : Nat} (h : isProg g) : zkd (g + 9) = (1, 24) := by rcases h with rfl | rfl <;> rfl
theorem isProg_n9 {g : Nat} (h : isProg g) : g + 9 ≤ 103 := by rcases h with rfl | rfl <;> decide
theorem isProg_r5 {b : Bool} {g : Nat} (h : isProg g) : zRs b g 5 = g + 10 := by rcases h with rfl | rfl <;> cases b <;> rfl
theorem isProg_k10 {g : Nat} (h : isProg g) : zkd (g + 10) = (1, 24) := by rcases h with rfl | rfl <;> rfl
theorem isProg_n10 {g : Nat} (h : isProg g) : g + 10 ≤ 103 := by rcases h with rfl | rfl <;> decide
theorem isProg_r7 {b : Bool} {g : Nat} (h : isProg g) : zRs b g 7 = g + 11 := by rcases h with rfl | rfl <;> cases b <;> rfl
theorem isProg_k11 {g : Nat} (h : isProg g) : zkd (g + 11) = (1, 4) := by rcases h with rfl | rfl <;> rfl
theorem isProg_n11 {g : Nat} (h : isProg g) : g + 11 ≤ 103 := by rcases h with rfl | rfl <;> decide
theorem isProg_r9 {b : Bool} {g : Nat} (h : isProg g) : zRs b g 9 = g + 12 := by rcases h with rfl | rfl <;> cases b <;> rfl
theorem isProg_k12 {g : Nat} (h : isProg g) : zkd (g + 12) = (1, 5) := by rcases h with rfl | rfl <;> rfl
theorem isProg_n12 {g : Nat} (h : isProg g) : g + 12 ≤ 103 := by rcases h with rfl | rfl <;> decide
theorem isSh_k {g : Nat} (h : isSh g) : zkd g = (0, 8) := by rcases h with rfl | rfl | rfl | rfl <;> rfl
theorem isSh_n {g : Nat} (h : isSh g) : g ≤ 103 := by rcases h with rfl | rfl | rfl | rfl <;> decide
theorem isSh_r0 {b : Bool} {g : Nat} (h : isSh g) : zRs b g 0 = g + 1 := by rcases h with rfl | rfl | rfl | rfl <;> cases b <;> rfl
theorem isSh_k1 {g : Nat} (h : isSh g) : zkd (g + 1) = (4, 30) := by rcases h with rfl | rfl | rfl | rfl <;> rfl
theorem isSh_n1 {g : Nat} (h : isSh g) : g + 1 ≤ 103 := by rcases h with rfl | rfl | rfl | rfl <;> decide
theorem isStr_k {g : Nat} (h : isStr g) : zkd g = (0, 20) := by rcases h with rfl | rfl | rfl | rfl | rfl | rfl <;> rfl
theorem isRow_k {g : Nat} (h : isRow g) : zkd g = (1, 16) := by rcases h with rfl | rfl <;> rfl
theorem isRow_n {g : Nat} (h : isRow g) : g ≤ 103 := by rcases h with rfl | rfl <;> decide
theorem isPl_cur {g : Nat} (h : isPl g) : isCur (g + 1) := by rcases h with rfl | rfl | rfl <;> decide
theorem isPl_sc {g : Nat} (h : isPl g) : isCur (g + 12) := by rcases h with rfl | rfl | rfl <;> decide
theorem isPl_pg {g : Nat} (h : isPl g) : isPgs (g + 3) := by rcases h with rfl | rfl | rfl <;> decide
theorem isPl_mk {g : Nat} (h : isPl g) : isMk (g + 7) := by rcases h with rfl | rfl | rfl <;> decide
end
section
/-! ===== guarded rows; block equations (by program: wip/whole/gen20.py) ===== -/
section XG
variable {m pc : Nat} {L st : List zV} {I : Nat → Int → Int} {R : Nat → Int → Nat} {n S : Nat}
theorem zpush_s (v : zV) (st : List zV) : zpush (some v) st = v :: st := rfl
theorem zpush_n (st : List zV) : zpush none st = st := rfl
theorem xIdivG {a b : Int} {h : zH} (hd : decode (zb m) pc = .ok (.idiv, 1)) : zX m pc L (vI b :: vI a :: st) h = if b = 0 then none else zX m (pc + 1) L (vI (wr (a.tdiv b)) :: st) h := by
  by_cases hb : b = 0
  · rw [if_pos hb]; exact zX_no hd ((zact_eq rfl).trans (if_pos hb))
  · rw [if_neg hb]; exact xIdiv hd hb
theorem xIremG {a b : Int} {h : zH} (hd : decode (zb m) pc = .ok (.irem, 1)) : zX m pc L (vI b :: vI a :: st) h = if b = 0 then none else zX m (pc + 1) L (vI (a.tmod b) :: st) h := by
  by_cases hb : b = 0
  · rw [if_pos hb]; exact zX_no hd ((zact_eq rfl).trans (if_pos hb))
  · rw [if_neg hb]; exact xIrem hd hb
theorem xZretG {a : Int} {h : zH} (hd : decode (zb m) pc = .ok (.ireturn, 1)) (hr : zret m = some .boolean) : zX m pc L [vI a] h = if a = 0 ∨ a = 1 then some (some (vI a), h) else none := by
  by_cases ha : a = 0 ∨ a = 1
  · rw [if_pos ha]; exact xZret hd hr ha
  · rw [if_neg ha]
    refine zX_no hd ((zact_eq rfl).trans ?_)
    simp only [zac0, zrt]
    rw [hr]
    exact if_neg ha
theorem xCretG {a : Int} {h : zH} (hd : decode (zb m) pc = .ok (.ireturn, 1)) (hr : zret m = some .char) : zX m pc L [vI a] h = if 0 ≤ a ∧ a < 65536 then some (some (vI a), h) else none := by
  by_cases ha : 0 ≤ a ∧ a < 65536
  · rw [if_pos ha]; exact xCret hd hr ha
  · rw [if_neg ha]
    refine zX_no hd ((zact_eq rfl).trans ?_)
    simp only [zac0, zrt]
    rw [hr]
    exact if_neg ha
theorem xBretG {a : Int} {h : zH} (hd : decode (zb m) pc = .ok (.ireturn, 1)) (hr : zret m = some .byte) : zX m pc L [vI a] h = if -128 ≤ a ∧ a < 128 then some (some (vI a), h) else none := by
  by_cases ha : -128 ≤ a ∧ a < 128
  · rw [if_pos ha]; exact xBret hd hr ha
  · rw [if_neg ha]
    refine zX_no hd ((zact_eq rfl).trans ?_)
    simp only [zac0, zrt]
    rw [hr]
    exact if_neg ha
theorem xPutZG {o idx ci k p : Nat} {a : Int} (kk : Int) (hd : decode (zb m) pc = .ok (.putfield idx, 3)) (ho : zo m = o) (hf : zfl o idx = some (ci, k, 1)) (hkk : (k : Int) = kk) (hk : zkd p = (0, ci)) (hn : p ≤ n) (hw : zfin ci k = false ∨ zin m = true ∧ zo m = ci) : zX m pc L (vI a :: vR p :: st) (I, R, n, S) = if a = 0 ∨ a = 1 then zX m (pc + 3) L st (sI I p kk a, R, n, S) else none := by
  by_cases ha : a = 0 ∨ a = 1
  · rw [if_pos ha]; exact xPutZ kk hd ho hf hkk hk hn ha hw
  · rw [if_neg ha]
    subst ho
    refine zX_no hd ((zact_eq rfl).trans ?_)
    show zput m (zo m) idx (pc + 3) L (vI a :: vR p :: st) (I, R, n, S) = _
    unfold zput
    rw [hf]
    exact if_neg (fun z => ha (z.2.2.1.elim (fun z => by cases z) (fun z => z.2)))
theorem xZastG {p : Nat} {i x N : Int} (hd : decode (zb m) pc = .ok (.bastore, 1)) (hk : (zkd p).1 = 3) (hn : p ≤ n) (hl : ((zkd p).2 : Int) = N) : zX m pc L (vI x :: vI i :: vR p :: st) (I, R, n, S) = if (0 ≤ i ∧ i < N) ∧ (x = 0 ∨ x = 1) then zX m (pc + 1) L st (sI I p i x, R, n, S) else none := by
  by_cases hx : x = 0 ∨ x = 1
  · rw [xZast hd hk hn hx hl]
    by_cases hi : 0 ≤ i ∧ i < N
    · rw [if_pos hi, if_pos ⟨hi, hx⟩]
    · rw [if_neg hi, if_neg (fun z => hi z.1)]
  · rw [if_neg (fun z => hx z.2)]
    refine zX_no hd ((zact_eq rfl).trans ?_)
    show (if p ≤ n ∧ 0 ≤ i ∧ i < ((zkd p).2 : Int) then (if (zkd p).1 = 2 then _ else if (zkd p).1 = 3 ∧ (x = 0 ∨ x = 1) then _ else zno) else zno) = _
    split
    · rw [if_neg (by omega), if_neg (fun z => hx z.2)]
    · rfl
theorem xLastG {p : Nat} {i x N : Int} (hd : decode (zb m) pc = .ok (.lastore, 1)) (hk : (zkd p).1 = 4) (hn : p ≤ n) (hl : ((zkd p).2 : Int) = N) : zX m pc L (vL x :: vI i :: vR p :: st) (I, R, n, S) = if (0 ≤ i ∧ i < N) ∧ -2147483648 ≤ x ∧ x ≤ 2147483647 then zX m (pc + 1) L st (sI I p i x, R, n, S) else none := by
  by_cases hx : -2147483648 ≤ x ∧ x ≤ 2147483647
  · rw [xLast hd hk hn hx hl]
    by_cases hi : 0 ≤ i ∧ i < N
    · rw [if_pos hi, if_pos ⟨hi, hx⟩]
    · rw [if_neg hi, if_neg (fun z => hi z.1)]
  · rw [if_neg (fun z => hx z.2)]
    refine zX_no hd ((zact_eq rfl).trans ?_)
    show (if (zkd p).1 = 4 ∧ p ≤ n ∧ 0 ≤ i ∧ i < ((zkd p).2 : Int) ∧ -2147483648 ≤ x ∧ x ≤ 2147483647 then _ else zno) = _
    rw [if_neg (fun z => hx z.2.2.2.2)]
theorem xCopyG {o idx d' p q : Nat} {k dp sp N M : Int} (hd : decode (zb m) pc = .ok (.invokestatic idx, 3)) (ho : zo m = o) (hm : zml o idx = some (11, d')) (hp : (zkd p).1 = 1) (hpn : p ≤ n) (hq : (zkd q).1 = 1) (hqn : q ≤ n) (hN : ((zkd p).2 : Int) = N) (hM : ((zkd q).2 : Int) = M) (hc : (Nat.ble 1 (zfr m) && Nat.ble ((st.map zcat).sum + 30) (zlo m)) = true) : zX m pc L (vI k :: vI dp :: vR p :: vI sp :: vR q :: st) (I, R, n, S) = if 0 ≤ k ∧ 0 ≤ dp ∧ 0 ≤ sp ∧ sp + k ≤ M ∧ dp + k ≤ N then zX m (pc + 3) L st (zcpy I q sp p dp k, R, n, S) else none := by
  by_cases hb : 0 ≤ k ∧ 0 ≤ dp ∧ 0 ≤ sp ∧ sp + k ≤ M ∧ dp + k ≤ N
  · rw [if_pos hb]; exact xCopy hd ho hm hp hpn hq hqn hN hM hc hb
  · rw [if_neg hb]
    subst ho
    refine zX_no hd ((zact_eq rfl).trans ?_)
    show zcall m (zo m) idx (pc + 3) 1 1 L (vI k :: vI dp :: vR p :: vI sp :: vR q :: st) (I, R, n, S) = _
    unfold zcall
    rw [hm]
    simp only
    rw [if_neg (by decide), if_neg (by decide), if_pos (by decide)]
    exact if_neg (fun z => hb ⟨z.2.2.2.2.1, z.2.2.2.2.2.1, z.2.2.2.2.2.2.1, by rw [← hM]; exact z.2.2.2.2.2.2.2.1, by rw [← hN]; exact z.2.2.2.2.2.2.2.2.1⟩)
theorem xIfnullD {h : zH} {off : Int} {q t : Nat} (hd : decode (zb m) pc = .ok (.ifnull off, 3)) (ht : (pc : Int) + off = (t : Int)) (hq : q = 0 ∨ q = 15) : zX m pc L (vR q :: st) h = if q = 0 then zX m t L st h else zX m (pc + 3) L st h := by
  rcases hq with rfl | rfl
  · exact xIfnull0 hd ht
  · exact xIfnull1 hd (by decide) (by decide)
theorem zal_of {p N : Nat} {k : Nat} (hk : zkd p = (k, N)) (hn : p ≤ 103) : (zal (I, R, n, S) p : Int) = (N : Int) := by
  unfold zal
  rw [if_neg (by omega), hk]
end XG
end
section
theorem zo_125 : zo 125 = 11 := by decide +kernel
theorem zret_125 : zret 125 = some .boolean := by decide +kernel
theorem d125_0 : decode (zb 125) 0 = .ok (.lload_n 0, 1) := by decide +kernel
theorem d125_1 : decode (zb 125) 1 = .ok (.lload_n 2, 1) := by decide +kernel
theorem d125_2 : decode (zb 125) 2 = .ok (.lcmp, 1) := by decide +kernel
theorem d125_3 : decode (zb 125) 3 = .ok (.ifCond .lt 14, 3) := by decide +kernel
theorem d125_6 : decode (zb 125) 6 = .ok (.lload_n 0, 1) := by decide +kernel
theorem d125_7 : decode (zb 125) 7 = .ok (.lload 4, 2) := by decide +kernel
theorem d125_9 : decode (zb 125) 9 = .ok (.lcmp, 1) := by decide +kernel
theorem d125_10 : decode (zb 125) 10 = .ok (.ifCond .gt 7, 3) := by decide +kernel
theorem d125_13 : decode (zb 125) 13 = .ok (.iconst 1, 1) := by decide +kernel
theorem d125_14 : decode (zb 125) 14 = .ok (.goto 4, 3) := by decide +kernel
theorem d125_17 : decode (zb 125) 17 = .ok (.iconst 0, 1) := by decide +kernel
theorem d125_18 : decode (zb 125) 18 = .ok (.ireturn, 1) := by decide +kernel
theorem zo_126 : zo 126 = 11 := by decide +kernel
theorem zret_126 : zret 126 = some .int := by decide +kernel
theorem d126_0 : decode (zb 126) 0 = .ok (.iload_n 0, 1) := by decide +kernel
theorem d126_1 : decode (zb 126) 1 = .ok (.ifCond .eq 7, 3) := by decide +kernel
theorem d126_4 : decode (zb 126) 4 = .ok (.iconst 1, 1) := by decide +kernel
theorem d126_5 : decode (zb 126) 5 = .ok (.goto 4, 3) := by decide +kernel
theorem d126_8 : decode (zb 126) 8 = .ok (.iconst 0, 1) := by decide +kernel
theorem d126_9 : decode (zb 126) 9 = .ok (.ireturn, 1) := by decide +kernel
theorem zo_127 : zo 127 = 11 := by decide +kernel
theorem zret_127 : zret 127 = some .int := by decide +kernel
theorem d127_0 : decode (zb 127) 0 = .ok (.iload_n 1, 1) := by decide +kernel
theorem d127_1 : decode (zb 127) 1 = .ok (.i2l, 1) := by decide +kernel
theorem d127_2 : decode (zb 127) 2 = .ok (.lconst 0, 1) := by decide +kernel
theorem d127_3 : decode (zb 127) 3 = .ok (.ldc2_w 62, 3) := by decide +kernel
theorem d127_6 : decode (zb 127) 6 = .ok (.invokestatic 64, 3) := by decide +kernel
theorem d127_9 : decode (zb 127) 9 = .ok (.ifCond .ne 5, 3) := by decide +kernel
theorem d127_12 : decode (zb 127) 12 = .ok (.iconst (-1), 1) := by decide +kernel
theorem d127_13 : decode (zb 127) 13 = .ok (.ireturn, 1) := by decide +kernel
theorem d127_14 : decode (zb 127) 14 = .ok (.aload_n 0, 1) := by decide +kernel
theorem d127_15 : decode (zb 127) 15 = .ok (.getfield 68, 3) := by decide +kernel
theorem d127_18 : decode (zb 127) 18 = .ok (.sipush 300, 3) := by decide +kernel
theorem d127_21 : decode (zb 127) 21 = .ok (.if_icmp .ne 6, 3) := by decide +kernel
theorem d127_24 : decode (zb 127) 24 = .ok (.bipush (-3), 2) := by decide +kernel
theorem d127_26 : decode (zb 127) 26 = .ok (.ireturn, 1) := by decide +kernel
theorem d127_27 : decode (zb 127) 27 = .ok (.aload_n 0, 1) := by decide +kernel
theorem d127_28 : decode (zb 127) 28 = .ok (.getfield 35, 3) := by decide +kernel
theorem d127_31 : decode (zb 127) 31 = .ok (.aload_n 0, 1) := by decide +kernel
theorem d127_32 : decode (zb 127) 32 = .ok (.getfield 68, 3) := by decide +kernel
theorem d127_35 : decode (zb 127) 35 = .ok (.iload_n 1, 1) := by decide +kernel
theorem d127_36 : decode (zb 127) 36 = .ok (.iastore, 1) := by decide +kernel
theorem d127_37 : decode (zb 127) 37 = .ok (.aload_n 0, 1) := by decide +kernel
theorem d127_38 : decode (zb 127) 38 = .ok (.dup, 1) := by decide +kernel
theorem d127_39 : decode (zb 127) 39 = .ok (.getfield 68, 3) := by decide +kernel
theorem d127_42 : decode (zb 127) 42 = .ok (.iconst 1, 1) := by decide +kernel
theorem d127_43 : decode (zb 127) 43 = .ok (.iadd, 1) := by decide +kernel
theorem d127_44 : decode (zb 127) 44 = .ok (.putfield 68, 3) := by decide +kernel
theorem d127_47 : decode (zb 127) 47 = .ok (.aload_n 0, 1) := by decide +kernel
theorem d127_48 : decode (zb 127) 48 = .ok (.getfield 68, 3) := by decide +kernel
theorem d127_51 : decode (zb 127) 51 = .ok (.ireturn, 1) := by decide +kernel
theorem zo_128 : zo 128 = 11 := by decide +kernel
theorem zret_128 : zret 128 = some .int := by decide +kernel
theorem d128_0 : decode (zb 128) 0 = .ok (.iload_n 1, 1) := by decide +kernel
theorem d128_1 : decode (zb 128) 1 = .ok (.i2l, 1) := by decide +kernel
theorem d128_2 : decode (zb 128) 2 = .ok (.lconst 0, 1) := by decide +kernel
theorem d128_3 : decode (zb 128) 3 = .ok (.aload_n 0, 1) := by decide +kernel
theorem d128_4 : decode (zb 128) 4 = .ok (.getfield 68, 3) := by decide +kernel
theorem d128_7 : decode (zb 128) 7 = .ok (.i2l, 1) := by decide +kernel
theorem d128_8 : decode (zb 128) 8 = .ok (.invokestatic 64, 3) := by decide +kernel
theorem d128_11 : decode (zb 128) 11 = .ok (.ifCond .ne 5, 3) := by decide +kernel
theorem d128_14 : decode (zb 128) 14 = .ok (.iconst (-1), 1) := by decide +kernel
theorem d128_15 : decode (zb 128) 15 = .ok (.ireturn, 1) := by decide +kernel
theorem d128_16 : decode (zb 128) 16 = .ok (.aload_n 0, 1) := by decide +kernel
theorem d128_17 : decode (zb 128) 17 = .ok (.getfield 68, 3) := by decide +kernel
theorem d128_20 : decode (zb 128) 20 = .ok (.istore_n 2, 1) := by decide +kernel
theorem d128_21 : decode (zb 128) 21 = .ok (.aload_n 0, 1) := by decide +kernel
theorem d128_22 : decode (zb 128) 22 = .ok (.iload_n 1, 1) := by decide +kernel
theorem d128_23 : decode (zb 128) 23 = .ok (.putfield 68, 3) := by decide +kernel
theorem d128_26 : decode (zb 128) 26 = .ok (.iload_n 2, 1) := by decide +kernel
theorem d128_27 : decode (zb 128) 27 = .ok (.ireturn, 1) := by decide +kernel
theorem zo_129 : zo 129 = 11 := by decide +kernel
theorem zret_129 : zret 129 = none := by decide +kernel
theorem d129_0 : decode (zb 129) 0 = .ok (.iload_n 1, 1) := by decide +kernel
theorem d129_1 : decode (zb 129) 1 = .ok (.ifCond .ne 23, 3) := by decide +kernel
theorem d129_4 : decode (zb 129) 4 = .ok (.aload_n 0, 1) := by decide +kernel
theorem d129_5 : decode (zb 129) 5 = .ok (.getfield 72, 3) := by decide +kernel
theorem d129_8 : decode (zb 129) 8 = .ok (.ifCond .ne 16, 3) := by decide +kernel
theorem d129_11 : decode (zb 129) 11 = .ok (.aload_n 0, 1) := by decide +kernel
theorem d129_12 : decode (zb 129) 12 = .ok (.iload_n 2, 1) := by decide +kernel
theorem d129_13 : decode (zb 129) 13 = .ok (.putfield 72, 3) := by decide +kernel
theorem d129_16 : decode (zb 129) 16 = .ok (.aload_n 0, 1) := by decide +kernel
theorem d129_17 : decode (zb 129) 17 = .ok (.aload_n 0, 1) := by decide +kernel
theorem d129_18 : decode (zb 129) 18 = .ok (.getfield 75, 3) := by decide +kernel
theorem d129_21 : decode (zb 129) 21 = .ok (.putfield 78, 3) := by decide +kernel
theorem d129_24 : decode (zb 129) 24 = .ok (.return_, 1) := by decide +kernel
theorem zo_130 : zo 130 = 11 := by decide +kernel
theorem zret_130 : zret 130 = some .int := by decide +kernel
theorem d130_0 : decode (zb 130) 0 = .ok (.iload_n 1, 1) := by decide +kernel
theorem d130_1 : decode (zb 130) 1 = .ok (.aload_n 0, 1) := by decide +kernel
theorem d130_2 : decode (zb 130) 2 = .ok (.getfield 68, 3) := by decide +kernel
theorem d130_5 : decode (zb 130) 5 = .ok (.if_icmp .ge 12, 3) := by decide +kernel
theorem d130_8 : decode (zb 130) 8 = .ok (.aload_n 0, 1) := by decide +kernel
theorem d130_9 : decode (zb 130) 9 = .ok (.getfield 35, 3) := by decide +kernel
theorem d130_12 : decode (zb 130) 12 = .ok (.iload_n 1, 1) := by decide +kernel
theorem d130_13 : decode (zb 130) 13 = .ok (.iaload, 1) := by decide +kernel
theorem d130_14 : decode (zb 130) 14 = .ok (.goto 4, 3) := by decide +kernel
theorem d130_17 : decode (zb 130) 17 = .ok (.iconst (-1), 1) := by decide +kernel
theorem d130_18 : decode (zb 130) 18 = .ok (.ireturn, 1) := by decide +kernel
theorem zo_131 : zo 131 = 11 := by decide +kernel
theorem zret_131 : zret 131 = some .boolean := by decide +kernel
theorem d131_0 : decode (zb 131) 0 = .ok (.aload_n 0, 1) := by decide +kernel
theorem d131_1 : decode (zb 131) 1 = .ok (.getfield 81, 3) := by decide +kernel
theorem d131_4 : decode (zb 131) 4 = .ok (.iconst 1, 1) := by decide +kernel
theorem d131_5 : decode (zb 131) 5 = .ok (.if_icmp .ne 51, 3) := by decide +kernel
theorem d131_8 : decode (zb 131) 8 = .ok (.aload_n 0, 1) := by decide +kernel
theorem d131_9 : decode (zb 131) 9 = .ok (.getfield 84, 3) := by decide +kernel
theorem d131_12 : decode (zb 131) 12 = .ok (.aload_n 0, 1) := by decide +kernel
theorem d131_13 : decode (zb 131) 13 = .ok (.getfield 75, 3) := by decide +kernel
theorem d131_16 : decode (zb 131) 16 = .ok (.isub, 1) := by decide +kernel
theorem d131_17 : decode (zb 131) 17 = .ok (.iload_n 1, 1) := by decide +kernel
theorem d131_18 : decode (zb 131) 18 = .ok (.if_icmp .ne 38, 3) := by decide +kernel
theorem d131_21 : decode (zb 131) 21 = .ok (.aload_n 0, 1) := by decide +kernel
theorem d131_22 : decode (zb 131) 22 = .ok (.aload_n 0, 1) := by decide +kernel
theorem d131_23 : decode (zb 131) 23 = .ok (.getfield 75, 3) := by decide +kernel
theorem d131_26 : decode (zb 131) 26 = .ok (.iload_n 2, 1) := by decide +kernel
theorem d131_27 : decode (zb 131) 27 = .ok (.iadd, 1) := by decide +kernel
theorem d131_28 : decode (zb 131) 28 = .ok (.invokevirtual 87, 3) := by decide +kernel
theorem d131_31 : decode (zb 131) 31 = .ok (.iload_n 3, 1) := by decide +kernel
theorem d131_32 : decode (zb 131) 32 = .ok (.if_icmp .ne 24, 3) := by decide +kernel
theorem d131_35 : decode (zb 131) 35 = .ok (.aload_n 0, 1) := by decide +kernel
theorem d131_36 : decode (zb 131) 36 = .ok (.aload_n 0, 1) := by decide +kernel
theorem d131_37 : decode (zb 131) 37 = .ok (.getfield 75, 3) := by decide +kernel
theorem d131_40 : decode (zb 131) 40 = .ok (.iload_n 2, 1) := by decide +kernel
theorem d131_41 : decode (zb 131) 41 = .ok (.iadd, 1) := by decide +kernel
theorem d131_42 : decode (zb 131) 42 = .ok (.iconst 1, 1) := by decide +kernel
theorem d131_43 : decode (zb 131) 43 = .ok (.iadd, 1) := by decide +kernel
theorem d131_44 : decode (zb 131) 44 = .ok (.invokevirtual 87, 3) := by decide +kernel
theorem d131_47 : decode (zb 131) 47 = .ok (.iload 4, 2) := by decide +kernel
theorem d131_49 : decode (zb 131) 49 = .ok (.if_icmp .ne 7, 3) := by decide +kernel
theorem d131_52 : decode (zb 131) 52 = .ok (.iconst 1, 1) := by decide +kernel
theorem d131_53 : decode (zb 131) 53 = .ok (.goto 4, 3) := by decide +kernel
theorem d131_56 : decode (zb 131) 56 = .ok (.iconst 0, 1) := by decide +kernel
theorem d131_57 : decode (zb 131) 57 = .ok (.ireturn, 1) := by decide +kernel
theorem zo_132 : zo 132 = 11 := by decide +kernel
theorem zret_132 : zret 132 = some .boolean := by decide +kernel
theorem d132_0 : decode (zb 132) 0 = .ok (.aload_n 0, 1) := by decide +kernel
theorem d132_1 : decode (zb 132) 1 = .ok (.iconst 3, 1) := by decide +kernel
theorem d132_2 : decode (zb 132) 2 = .ok (.iconst 0, 1) := by decide +kernel
theorem d132_3 : decode (zb 132) 3 = .ok (.bipush 115, 2) := by decide +kernel
theorem d132_5 : decode (zb 132) 5 = .ok (.bipush 101, 2) := by decide +kernel
theorem d132_7 : decode (zb 132) 7 = .ok (.invokevirtual 91, 3) := by decide +kernel
theorem d132_10 : decode (zb 132) 10 = .ok (.ifCond .eq 20, 3) := by decide +kernel
theorem d132_13 : decode (zb 132) 13 = .ok (.aload_n 0, 1) := by decide +kernel
theorem d132_14 : decode (zb 132) 14 = .ok (.iconst 3, 1) := by decide +kernel
theorem d132_15 : decode (zb 132) 15 = .ok (.iconst 1, 1) := by decide +kernel
theorem d132_16 : decode (zb 132) 16 = .ok (.bipush 101, 2) := by decide +kernel
theorem d132_18 : decode (zb 132) 18 = .ok (.bipush 103, 2) := by decide +kernel
theorem d132_20 : decode (zb 132) 20 = .ok (.invokevirtual 91, 3) := by decide +kernel
theorem d132_23 : decode (zb 132) 23 = .ok (.ifCond .eq 7, 3) := by decide +kernel
theorem d132_26 : decode (zb 132) 26 = .ok (.iconst 1, 1) := by decide +kernel
theorem d132_27 : decode (zb 132) 27 = .ok (.goto 4, 3) := by decide +kernel
theorem d132_30 : decode (zb 132) 30 = .ok (.iconst 0, 1) := by decide +kernel
theorem d132_31 : decode (zb 132) 31 = .ok (.ireturn, 1) := by decide +kernel
theorem zo_133 : zo 133 = 11 := by decide +kernel
theorem zret_133 : zret 133 = some .boolean := by decide +kernel
theorem d133_0 : decode (zb 133) 0 = .ok (.aload_n 0, 1) := by decide +kernel
theorem d133_1 : decode (zb 133) 1 = .ok (.iconst 2, 1) := by decide +kernel
theorem d133_2 : decode (zb 133) 2 = .ok (.iconst 0, 1) := by decide +kernel
theorem d133_3 : decode (zb 133) 3 = .ok (.bipush 103, 2) := by decide +kernel
theorem d133_5 : decode (zb 133) 5 = .ok (.bipush 111, 2) := by decide +kernel
theorem d133_7 : decode (zb 133) 7 = .ok (.invokevirtual 91, 3) := by decide +kernel
theorem d133_10 : decode (zb 133) 10 = .ok (.ireturn, 1) := by decide +kernel
theorem zo_134 : zo 134 = 11 := by decide +kernel
theorem zret_134 : zret 134 = some .int := by decide +kernel
theorem d134_0 : decode (zb 134) 0 = .ok (.aload_n 0, 1) := by decide +kernel
theorem d134_1 : decode (zb 134) 1 = .ok (.iconst 4, 1) := by decide +kernel
theorem d134_2 : decode (zb 134) 2 = .ok (.iconst 0, 1) := by decide +kernel
theorem d134_3 : decode (zb 134) 3 = .ok (.bipush 112, 2) := by decide +kernel
theorem d134_5 : decode (zb 134) 5 = .ok (.bipush 108, 2) := by decide +kernel
theorem d134_7 : decode (zb 134) 7 = .ok (.invokevirtual 91, 3) := by decide +kernel
theorem d134_10 : decode (zb 134) 10 = .ok (.ifCond .eq 18, 3) := by decide +kernel
theorem d134_13 : decode (zb 134) 13 = .ok (.aload_n 0, 1) := by decide +kernel
theorem d134_14 : decode (zb 134) 14 = .ok (.iconst 4, 1) := by decide +kernel
theorem d134_15 : decode (zb 134) 15 = .ok (.iconst 2, 1) := by decide +kernel
theorem d134_16 : decode (zb 134) 16 = .ok (.bipush 97, 2) := by decide +kernel
theorem d134_18 : decode (zb 134) 18 = .ok (.bipush 121, 2) := by decide +kernel
theorem d134_20 : decode (zb 134) 20 = .ok (.invokevirtual 91, 3) := by decide +kernel
theorem d134_23 : decode (zb 134) 23 = .ok (.ifCond .eq 5, 3) := by decide +kernel
theorem d134_26 : decode (zb 134) 26 = .ok (.iconst 0, 1) := by decide +kernel
theorem d134_27 : decode (zb 134) 27 = .ok (.ireturn, 1) := by decide +kernel
theorem d134_28 : decode (zb 134) 28 = .ok (.aload_n 0, 1) := by decide +kernel
theorem d134_29 : decode (zb 134) 29 = .ok (.iconst 4, 1) := by decide +kernel
theorem d134_30 : decode (zb 134) 30 = .ok (.iconst 0, 1) := by decide +kernel
theorem d134_31 : decode (zb 134) 31 = .ok (.bipush 109, 2) := by decide +kernel
theorem d134_33 : decode (zb 134) 33 = .ok (.bipush 97, 2) := by decide +kernel
theorem d134_35 : decode (zb 134) 35 = .ok (.invokevirtual 91, 3) := by decide +kernel
theorem d134_38 : decode (zb 134) 38 = .ok (.ifCond .eq 18, 3) := by decide +kernel
theorem d134_41 : decode (zb 134) 41 = .ok (.aload_n 0, 1) := by decide +kernel
theorem d134_42 : decode (zb 134) 42 = .ok (.iconst 4, 1) := by decide +kernel
theorem d134_43 : decode (zb 134) 43 = .ok (.iconst 2, 1) := by decide +kernel
theorem d134_44 : decode (zb 134) 44 = .ok (.bipush 114, 2) := by decide +kernel
theorem d134_46 : decode (zb 134) 46 = .ok (.bipush 107, 2) := by decide +kernel
theorem d134_48 : decode (zb 134) 48 = .ok (.invokevirtual 91, 3) := by decide +kernel
theorem d134_51 : decode (zb 134) 51 = .ok (.ifCond .eq 5, 3) := by decide +kernel
theorem d134_54 : decode (zb 134) 54 = .ok (.iconst 1, 1) := by decide +kernel
theorem d134_55 : decode (zb 134) 55 = .ok (.ireturn, 1) := by decide +kernel
theorem d134_56 : decode (zb 134) 56 = .ok (.aload_n 0, 1) := by decide +kernel
theorem d134_57 : decode (zb 134) 57 = .ok (.iconst 4, 1) := by decide +kernel
theorem d134_58 : decode (zb 134) 58 = .ok (.iconst 0, 1) := by decide +kernel
theorem d134_59 : decode (zb 134) 59 = .ok (.bipush 108, 2) := by decide +kernel
theorem d134_61 : decode (zb 134) 61 = .ok (.bipush 111, 2) := by decide +kernel
theorem d134_63 : decode (zb 134) 63 = .ok (.invokevirtual 91, 3) := by decide +kernel
theorem d134_66 : decode (zb 134) 66 = .ok (.ifCond .eq 18, 3) := by decide +kernel
theorem d134_69 : decode (zb 134) 69 = .ok (.aload_n 0, 1) := by decide +kernel
theorem d134_70 : decode (zb 134) 70 = .ok (.iconst 4, 1) := by decide +kernel
theorem d134_71 : decode (zb 134) 71 = .ok (.iconst 2, 1) := by decide +kernel
theorem d134_72 : decode (zb 134) 72 = .ok (.bipush 111, 2) := by decide +kernel
theorem d134_74 : decode (zb 134) 74 = .ok (.bipush 112, 2) := by decide +kernel
theorem d134_76 : decode (zb 134) 76 = .ok (.invokevirtual 91, 3) := by decide +kernel
theorem d134_79 : decode (zb 134) 79 = .ok (.ifCond .eq 5, 3) := by decide +kernel
theorem d134_82 : decode (zb 134) 82 = .ok (.iconst 2, 1) := by decide +kernel
theorem d134_83 : decode (zb 134) 83 = .ok (.ireturn, 1) := by decide +kernel
theorem d134_84 : decode (zb 134) 84 = .ok (.aload_n 0, 1) := by decide +kernel
theorem d134_85 : decode (zb 134) 85 = .ok (.iconst 5, 1) := by decide +kernel
theorem d134_86 : decode (zb 134) 86 = .ok (.iconst 0, 1) := by decide +kernel
theorem d134_87 : decode (zb 134) 87 = .ok (.bipush 117, 2) := by decide +kernel
theorem d134_89 : decode (zb 134) 89 = .ok (.bipush 110, 2) := by decide +kernel
theorem d134_91 : decode (zb 134) 91 = .ok (.invokevirtual 91, 3) := by decide +kernel
theorem d134_94 : decode (zb 134) 94 = .ok (.ifCond .eq 33, 3) := by decide +kernel
theorem d134_97 : decode (zb 134) 97 = .ok (.aload_n 0, 1) := by decide +kernel
theorem d134_98 : decode (zb 134) 98 = .ok (.iconst 5, 1) := by decide +kernel
theorem d134_99 : decode (zb 134) 99 = .ok (.iconst 2, 1) := by decide +kernel
theorem d134_100 : decode (zb 134) 100 = .ok (.bipush 116, 2) := by decide +kernel
theorem d134_102 : decode (zb 134) 102 = .ok (.bipush 105, 2) := by decide +kernel
theorem d134_104 : decode (zb 134) 104 = .ok (.invokevirtual 91, 3) := by decide +kernel
theorem d134_107 : decode (zb 134) 107 = .ok (.ifCond .eq 20, 3) := by decide +kernel
theorem d134_110 : decode (zb 134) 110 = .ok (.aload_n 0, 1) := by decide +kernel
theorem d134_111 : decode (zb 134) 111 = .ok (.iconst 5, 1) := by decide +kernel
theorem d134_112 : decode (zb 134) 112 = .ok (.iconst 3, 1) := by decide +kernel
theorem d134_113 : decode (zb 134) 113 = .ok (.bipush 105, 2) := by decide +kernel
theorem d134_115 : decode (zb 134) 115 = .ok (.bipush 108, 2) := by decide +kernel
theorem d134_117 : decode (zb 134) 117 = .ok (.invokevirtual 91, 3) := by decide +kernel
theorem d134_120 : decode (zb 134) 120 = .ok (.ifCond .eq 7, 3) := by decide +kernel
theorem d134_123 : decode (zb 134) 123 = .ok (.iconst 3, 1) := by decide +kernel
theorem d134_124 : decode (zb 134) 124 = .ok (.goto 5, 3) := by decide +kernel
theorem d134_127 : decode (zb 134) 127 = .ok (.bipush (-4), 2) := by decide +kernel
theorem d134_129 : decode (zb 134) 129 = .ok (.ireturn, 1) := by decide +kernel
theorem zo_135 : zo 135 = 11 := by decide +kernel
theorem zret_135 : zret 135 = none := by decide +kernel
theorem d135_0 : decode (zb 135) 0 = .ok (.aload_n 0, 1) := by decide +kernel
theorem d135_1 : decode (zb 135) 1 = .ok (.getfield 72, 3) := by decide +kernel
theorem d135_4 : decode (zb 135) 4 = .ok (.ifCond .le 4, 3) := by decide +kernel
theorem d135_7 : decode (zb 135) 7 = .ok (.return_, 1) := by decide +kernel
theorem d135_8 : decode (zb 135) 8 = .ok (.aload_n 0, 1) := by decide +kernel
theorem d135_9 : decode (zb 135) 9 = .ok (.aload_n 0, 1) := by decide +kernel
theorem d135_10 : decode (zb 135) 10 = .ok (.getfield 84, 3) := by decide +kernel
theorem d135_13 : decode (zb 135) 13 = .ok (.invokevirtual 87, 3) := by decide +kernel
theorem d135_16 : decode (zb 135) 16 = .ok (.bipush 32, 2) := by decide +kernel
theorem d135_18 : decode (zb 135) 18 = .ok (.if_icmp .ne 16, 3) := by decide +kernel
theorem d135_21 : decode (zb 135) 21 = .ok (.aload_n 0, 1) := by decide +kernel
theorem d135_22 : decode (zb 135) 22 = .ok (.dup, 1) := by decide +kernel
theorem d135_23 : decode (zb 135) 23 = .ok (.getfield 84, 3) := by decide +kernel
theorem d135_26 : decode (zb 135) 26 = .ok (.iconst 1, 1) := by decide +kernel
theorem d135_27 : decode (zb 135) 27 = .ok (.iadd, 1) := by decide +kernel
theorem d135_28 : decode (zb 135) 28 = .ok (.putfield 84, 3) := by decide +kernel
theorem d135_31 : decode (zb 135) 31 = .ok (.goto (-23), 3) := by decide +kernel
theorem d135_34 : decode (zb 135) 34 = .ok (.aload_n 0, 1) := by decide +kernel
theorem d135_35 : decode (zb 135) 35 = .ok (.aload_n 0, 1) := by decide +kernel
theorem d135_36 : decode (zb 135) 36 = .ok (.getfield 84, 3) := by decide +kernel
theorem d135_39 : decode (zb 135) 39 = .ok (.putfield 75, 3) := by decide +kernel
theorem d135_42 : decode (zb 135) 42 = .ok (.aload_n 0, 1) := by decide +kernel
theorem d135_43 : decode (zb 135) 43 = .ok (.aload_n 0, 1) := by decide +kernel
theorem d135_44 : decode (zb 135) 44 = .ok (.getfield 84, 3) := by decide +kernel
theorem d135_47 : decode (zb 135) 47 = .ok (.invokevirtual 87, 3) := by decide +kernel
theorem d135_50 : decode (zb 135) 50 = .ok (.istore_n 1, 1) := by decide +kernel
theorem d135_51 : decode (zb 135) 51 = .ok (.iload_n 1, 1) := by decide +kernel
theorem d135_52 : decode (zb 135) 52 = .ok (.ifCond .ge 11, 3) := by decide +kernel
theorem d135_55 : decode (zb 135) 55 = .ok (.aload_n 0, 1) := by decide +kernel
theorem d135_56 : decode (zb 135) 56 = .ok (.iconst 0, 1) := by decide +kernel
theorem d135_57 : decode (zb 135) 57 = .ok (.putfield 81, 3) := by decide +kernel
theorem d135_60 : decode (zb 135) 60 = .ok (.goto 226, 3) := by decide +kernel
theorem d135_63 : decode (zb 135) 63 = .ok (.iload_n 1, 1) := by decide +kernel
theorem d135_64 : decode (zb 135) 64 = .ok (.i2l, 1) := by decide +kernel
theorem d135_65 : decode (zb 135) 65 = .ok (.ldc2_w 95, 3) := by decide +kernel
theorem d135_68 : decode (zb 135) 68 = .ok (.ldc2_w 97, 3) := by decide +kernel
theorem d135_71 : decode (zb 135) 71 = .ok (.invokestatic 64, 3) := by decide +kernel
theorem d135_74 : decode (zb 135) 74 = .ok (.ifCond .eq 42, 3) := by decide +kernel
theorem d135_77 : decode (zb 135) 77 = .ok (.aload_n 0, 1) := by decide +kernel
theorem d135_78 : decode (zb 135) 78 = .ok (.iconst 1, 1) := by decide +kernel
theorem d135_79 : decode (zb 135) 79 = .ok (.putfield 81, 3) := by decide +kernel
theorem d135_82 : decode (zb 135) 82 = .ok (.aload_n 0, 1) := by decide +kernel
theorem d135_83 : decode (zb 135) 83 = .ok (.aload_n 0, 1) := by decide +kernel
theorem d135_84 : decode (zb 135) 84 = .ok (.getfield 84, 3) := by decide +kernel
theorem d135_87 : decode (zb 135) 87 = .ok (.invokevirtual 87, 3) := by decide +kernel
theorem d135_90 : decode (zb 135) 90 = .ok (.i2l, 1) := by decide +kernel
theorem d135_91 : decode (zb 135) 91 = .ok (.ldc2_w 95, 3) := by decide +kernel
theorem d135_94 : decode (zb 135) 94 = .ok (.ldc2_w 97, 3) := by decide +kernel
theorem d135_97 : decode (zb 135) 97 = .ok (.invokestatic 64, 3) := by decide +kernel
theorem d135_100 : decode (zb 135) 100 = .ok (.ifCond .eq 186, 3) := by decide +kernel
theorem d135_103 : decode (zb 135) 103 = .ok (.aload_n 0, 1) := by decide +kernel
theorem d135_104 : decode (zb 135) 104 = .ok (.dup, 1) := by decide +kernel
theorem d135_105 : decode (zb 135) 105 = .ok (.getfield 84, 3) := by decide +kernel
theorem d135_108 : decode (zb 135) 108 = .ok (.iconst 1, 1) := by decide +kernel
theorem d135_109 : decode (zb 135) 109 = .ok (.iadd, 1) := by decide +kernel
theorem d135_110 : decode (zb 135) 110 = .ok (.putfield 84, 3) := by decide +kernel
theorem d135_113 : decode (zb 135) 113 = .ok (.goto (-31), 3) := by decide +kernel
theorem d135_116 : decode (zb 135) 116 = .ok (.iload_n 1, 1) := by decide +kernel
theorem d135_117 : decode (zb 135) 117 = .ok (.i2l, 1) := by decide +kernel
theorem d135_118 : decode (zb 135) 118 = .ok (.ldc2_w 99, 3) := by decide +kernel
theorem d135_121 : decode (zb 135) 121 = .ok (.ldc2_w 101, 3) := by decide +kernel
theorem d135_124 : decode (zb 135) 124 = .ok (.invokestatic 64, 3) := by decide +kernel
theorem d135_127 : decode (zb 135) 127 = .ok (.ifCond .eq 116, 3) := by decide +kernel
theorem d135_130 : decode (zb 135) 130 = .ok (.aload_n 0, 1) := by decide +kernel
theorem d135_131 : decode (zb 135) 131 = .ok (.iconst 2, 1) := by decide +kernel
theorem d135_132 : decode (zb 135) 132 = .ok (.putfield 81, 3) := by decide +kernel
theorem d135_135 : decode (zb 135) 135 = .ok (.aload_n 0, 1) := by decide +kernel
theorem d135_136 : decode (zb 135) 136 = .ok (.iconst 0, 1) := by decide +kernel
theorem d135_137 : decode (zb 135) 137 = .ok (.putfield 103, 3) := by decide +kernel
theorem d135_140 : decode (zb 135) 140 = .ok (.aload_n 0, 1) := by decide +kernel
theorem d135_141 : decode (zb 135) 141 = .ok (.aload_n 0, 1) := by decide +kernel
theorem d135_142 : decode (zb 135) 142 = .ok (.getfield 84, 3) := by decide +kernel
theorem d135_145 : decode (zb 135) 145 = .ok (.invokevirtual 87, 3) := by decide +kernel
theorem d135_148 : decode (zb 135) 148 = .ok (.i2l, 1) := by decide +kernel
theorem d135_149 : decode (zb 135) 149 = .ok (.ldc2_w 99, 3) := by decide +kernel
theorem d135_152 : decode (zb 135) 152 = .ok (.ldc2_w 101, 3) := by decide +kernel
theorem d135_155 : decode (zb 135) 155 = .ok (.invokestatic 64, 3) := by decide +kernel
theorem d135_158 : decode (zb 135) 158 = .ok (.ifCond .eq 59, 3) := by decide +kernel
theorem d135_161 : decode (zb 135) 161 = .ok (.aload_n 0, 1) := by decide +kernel
theorem d135_162 : decode (zb 135) 162 = .ok (.aload_n 0, 1) := by decide +kernel
theorem d135_163 : decode (zb 135) 163 = .ok (.getfield 84, 3) := by decide +kernel
theorem d135_166 : decode (zb 135) 166 = .ok (.aload_n 0, 1) := by decide +kernel
theorem d135_167 : decode (zb 135) 167 = .ok (.getfield 75, 3) := by decide +kernel
theorem d135_170 : decode (zb 135) 170 = .ok (.isub, 1) := by decide +kernel
theorem d135_171 : decode (zb 135) 171 = .ok (.iconst 2, 1) := by decide +kernel
theorem d135_172 : decode (zb 135) 172 = .ok (.if_icmp .ge 25, 3) := by decide +kernel
theorem d135_175 : decode (zb 135) 175 = .ok (.bipush 10, 2) := by decide +kernel
theorem d135_177 : decode (zb 135) 177 = .ok (.aload_n 0, 1) := by decide +kernel
theorem d135_178 : decode (zb 135) 178 = .ok (.getfield 103, 3) := by decide +kernel
theorem d135_181 : decode (zb 135) 181 = .ok (.imul, 1) := by decide +kernel
theorem d135_182 : decode (zb 135) 182 = .ok (.aload_n 0, 1) := by decide +kernel
theorem d135_183 : decode (zb 135) 183 = .ok (.aload_n 0, 1) := by decide +kernel
theorem d135_184 : decode (zb 135) 184 = .ok (.getfield 84, 3) := by decide +kernel
theorem d135_187 : decode (zb 135) 187 = .ok (.invokevirtual 87, 3) := by decide +kernel
theorem d135_190 : decode (zb 135) 190 = .ok (.iadd, 1) := by decide +kernel
theorem d135_191 : decode (zb 135) 191 = .ok (.bipush 48, 2) := by decide +kernel
theorem d135_193 : decode (zb 135) 193 = .ok (.isub, 1) := by decide +kernel
theorem d135_194 : decode (zb 135) 194 = .ok (.goto 7, 3) := by decide +kernel
theorem d135_197 : decode (zb 135) 197 = .ok (.aload_n 0, 1) := by decide +kernel
theorem d135_198 : decode (zb 135) 198 = .ok (.getfield 103, 3) := by decide +kernel
theorem d135_201 : decode (zb 135) 201 = .ok (.putfield 103, 3) := by decide +kernel
theorem d135_204 : decode (zb 135) 204 = .ok (.aload_n 0, 1) := by decide +kernel
theorem d135_205 : decode (zb 135) 205 = .ok (.dup, 1) := by decide +kernel
theorem d135_206 : decode (zb 135) 206 = .ok (.getfield 84, 3) := by decide +kernel
theorem d135_209 : decode (zb 135) 209 = .ok (.iconst 1, 1) := by decide +kernel
theorem d135_210 : decode (zb 135) 210 = .ok (.iadd, 1) := by decide +kernel
theorem d135_211 : decode (zb 135) 211 = .ok (.putfield 84, 3) := by decide +kernel
theorem d135_214 : decode (zb 135) 214 = .ok (.goto (-74), 3) := by decide +kernel
theorem d135_217 : decode (zb 135) 217 = .ok (.aload_n 0, 1) := by decide +kernel
theorem d135_218 : decode (zb 135) 218 = .ok (.aload_n 0, 1) := by decide +kernel
theorem d135_219 : decode (zb 135) 219 = .ok (.getfield 84, 3) := by decide +kernel
theorem d135_222 : decode (zb 135) 222 = .ok (.aload_n 0, 1) := by decide +kernel
theorem d135_223 : decode (zb 135) 223 = .ok (.getfield 75, 3) := by decide +kernel
theorem d135_226 : decode (zb 135) 226 = .ok (.isub, 1) := by decide +kernel
theorem d135_227 : decode (zb 135) 227 = .ok (.iconst 2, 1) := by decide +kernel
theorem d135_228 : decode (zb 135) 228 = .ok (.if_icmp .gt 7, 3) := by decide +kernel
theorem d135_231 : decode (zb 135) 231 = .ok (.iconst 1, 1) := by decide +kernel
theorem d135_232 : decode (zb 135) 232 = .ok (.goto 4, 3) := by decide +kernel
theorem d135_235 : decode (zb 135) 235 = .ok (.iconst 0, 1) := by decide +kernel
theorem d135_236 : decode (zb 135) 236 = .ok (.iconst 1, 1) := by decide +kernel
theorem d135_237 : decode (zb 135) 237 = .ok (.invokevirtual 106, 3) := by decide +kernel
theorem d135_240 : decode (zb 135) 240 = .ok (.goto 46, 3) := by decide +kernel
theorem d135_243 : decode (zb 135) 243 = .ok (.aload_n 0, 1) := by decide +kernel
theorem d135_244 : decode (zb 135) 244 = .ok (.iconst 3, 1) := by decide +kernel
theorem d135_245 : decode (zb 135) 245 = .ok (.putfield 81, 3) := by decide +kernel
theorem d135_248 : decode (zb 135) 248 = .ok (.aload_n 0, 1) := by decide +kernel
theorem d135_249 : decode (zb 135) 249 = .ok (.iload_n 1, 1) := by decide +kernel
theorem d135_250 : decode (zb 135) 250 = .ok (.bipush 59, 2) := by decide +kernel
theorem d135_252 : decode (zb 135) 252 = .ok (.if_icmp .eq 15, 3) := by decide +kernel
theorem d135_255 : decode (zb 135) 255 = .ok (.iload_n 1, 1) := by decide +kernel
theorem d135_256 : decode (zb 135) 256 = .ok (.bipush 40, 2) := by decide +kernel
theorem d135_258 : decode (zb 135) 258 = .ok (.if_icmp .eq 9, 3) := by decide +kernel
theorem d135_261 : decode (zb 135) 261 = .ok (.iload_n 1, 1) := by decide +kernel
theorem d135_262 : decode (zb 135) 262 = .ok (.bipush 41, 2) := by decide +kernel
theorem d135_264 : decode (zb 135) 264 = .ok (.if_icmp .ne 7, 3) := by decide +kernel
theorem d135_267 : decode (zb 135) 267 = .ok (.iconst 1, 1) := by decide +kernel
theorem d135_268 : decode (zb 135) 268 = .ok (.goto 4, 3) := by decide +kernel
theorem d135_271 : decode (zb 135) 271 = .ok (.iconst 0, 1) := by decide +kernel
theorem d135_272 : decode (zb 135) 272 = .ok (.iconst 1, 1) := by decide +kernel
theorem d135_273 : decode (zb 135) 273 = .ok (.invokevirtual 106, 3) := by decide +kernel
theorem d135_276 : decode (zb 135) 276 = .ok (.aload_n 0, 1) := by decide +kernel
theorem d135_277 : decode (zb 135) 277 = .ok (.dup, 1) := by decide +kernel
theorem d135_278 : decode (zb 135) 278 = .ok (.getfield 84, 3) := by decide +kernel
theorem d135_281 : decode (zb 135) 281 = .ok (.iconst 1, 1) := by decide +kernel
theorem d135_282 : decode (zb 135) 282 = .ok (.iadd, 1) := by decide +kernel
theorem d135_283 : decode (zb 135) 283 = .ok (.putfield 84, 3) := by decide +kernel
theorem d135_286 : decode (zb 135) 286 = .ok (.return_, 1) := by decide +kernel
theorem zo_136 : zo 136 = 11 := by decide +kernel
theorem zret_136 : zret 136 = some .boolean := by decide +kernel
theorem d136_0 : decode (zb 136) 0 = .ok (.aload_n 0, 1) := by decide +kernel
theorem d136_1 : decode (zb 136) 1 = .ok (.getfield 81, 3) := by decide +kernel
theorem d136_4 : decode (zb 136) 4 = .ok (.iconst 3, 1) := by decide +kernel
theorem d136_5 : decode (zb 136) 5 = .ok (.if_icmp .ne 19, 3) := by decide +kernel
theorem d136_8 : decode (zb 136) 8 = .ok (.aload_n 0, 1) := by decide +kernel
theorem d136_9 : decode (zb 136) 9 = .ok (.aload_n 0, 1) := by decide +kernel
theorem d136_10 : decode (zb 136) 10 = .ok (.getfield 75, 3) := by decide +kernel
theorem d136_13 : decode (zb 136) 13 = .ok (.invokevirtual 87, 3) := by decide +kernel
theorem d136_16 : decode (zb 136) 16 = .ok (.iload_n 1, 1) := by decide +kernel
theorem d136_17 : decode (zb 136) 17 = .ok (.if_icmp .ne 7, 3) := by decide +kernel
theorem d136_20 : decode (zb 136) 20 = .ok (.iconst 1, 1) := by decide +kernel
theorem d136_21 : decode (zb 136) 21 = .ok (.goto 4, 3) := by decide +kernel
theorem d136_24 : decode (zb 136) 24 = .ok (.iconst 0, 1) := by decide +kernel
theorem d136_25 : decode (zb 136) 25 = .ok (.ireturn, 1) := by decide +kernel
theorem zo_137 : zo 137 = 11 := by decide +kernel
theorem zret_137 : zret 137 = some .int := by decide +kernel
theorem d137_0 : decode (zb 137) 0 = .ok (.aload_n 0, 1) := by decide +kernel
theorem d137_1 : decode (zb 137) 1 = .ok (.getfield 72, 3) := by decide +kernel
theorem d137_4 : decode (zb 137) 4 = .ok (.ifCond .ne 21, 3) := by decide +kernel
theorem d137_7 : decode (zb 137) 7 = .ok (.aload_n 0, 1) := by decide +kernel
theorem d137_8 : decode (zb 137) 8 = .ok (.aload_n 0, 1) := by decide +kernel
theorem d137_9 : decode (zb 137) 9 = .ok (.getfield 81, 3) := by decide +kernel
theorem d137_12 : decode (zb 137) 12 = .ok (.iconst 2, 1) := by decide +kernel
theorem d137_13 : decode (zb 137) 13 = .ok (.if_icmp .ne 7, 3) := by decide +kernel
theorem d137_16 : decode (zb 137) 16 = .ok (.iconst 1, 1) := by decide +kernel
theorem d137_17 : decode (zb 137) 17 = .ok (.goto 4, 3) := by decide +kernel
theorem d137_20 : decode (zb 137) 20 = .ok (.iconst 0, 1) := by decide +kernel
theorem d137_21 : decode (zb 137) 21 = .ok (.iconst 2, 1) := by decide +kernel
theorem d137_22 : decode (zb 137) 22 = .ok (.invokevirtual 106, 3) := by decide +kernel
theorem d137_25 : decode (zb 137) 25 = .ok (.aload_n 0, 1) := by decide +kernel
theorem d137_26 : decode (zb 137) 26 = .ok (.getfield 72, 3) := by decide +kernel
theorem d137_29 : decode (zb 137) 29 = .ok (.ifCond .ne 20, 3) := by decide +kernel
theorem d137_32 : decode (zb 137) 32 = .ok (.aload_n 0, 1) := by decide +kernel
theorem d137_33 : decode (zb 137) 33 = .ok (.aload_n 0, 1) := by decide +kernel
theorem d137_34 : decode (zb 137) 34 = .ok (.getfield 103, 3) := by decide +kernel
theorem d137_37 : decode (zb 137) 37 = .ok (.i2l, 1) := by decide +kernel
theorem d137_38 : decode (zb 137) 38 = .ok (.iload_n 1, 1) := by decide +kernel
theorem d137_39 : decode (zb 137) 39 = .ok (.i2l, 1) := by decide +kernel
theorem d137_40 : decode (zb 137) 40 = .ok (.iload_n 2, 1) := by decide +kernel
theorem d137_41 : decode (zb 137) 41 = .ok (.i2l, 1) := by decide +kernel
theorem d137_42 : decode (zb 137) 42 = .ok (.invokestatic 64, 3) := by decide +kernel
theorem d137_45 : decode (zb 137) 45 = .ok (.iconst 3, 1) := by decide +kernel
theorem d137_46 : decode (zb 137) 46 = .ok (.invokevirtual 106, 3) := by decide +kernel
theorem d137_49 : decode (zb 137) 49 = .ok (.aload_n 0, 1) := by decide +kernel
theorem d137_50 : decode (zb 137) 50 = .ok (.getfield 72, 3) := by decide +kernel
theorem d137_53 : decode (zb 137) 53 = .ok (.ifCond .ne 10, 3) := by decide +kernel
theorem d137_56 : decode (zb 137) 56 = .ok (.aload_n 0, 1) := by decide +kernel
theorem d137_57 : decode (zb 137) 57 = .ok (.getfield 103, 3) := by decide +kernel
theorem d137_60 : decode (zb 137) 60 = .ok (.goto 4, 3) := by decide +kernel
theorem d137_63 : decode (zb 137) 63 = .ok (.iconst 0, 1) := by decide +kernel
theorem d137_64 : decode (zb 137) 64 = .ok (.istore_n 3, 1) := by decide +kernel
theorem d137_65 : decode (zb 137) 65 = .ok (.aload_n 0, 1) := by decide +kernel
theorem d137_66 : decode (zb 137) 66 = .ok (.invokevirtual 110, 3) := by decide +kernel
theorem d137_69 : decode (zb 137) 69 = .ok (.iload_n 3, 1) := by decide +kernel
theorem d137_70 : decode (zb 137) 70 = .ok (.ireturn, 1) := by decide +kernel
theorem zo_138 : zo 138 = 11 := by decide +kernel
theorem zret_138 : zret 138 = none := by decide +kernel
theorem d138_0 : decode (zb 138) 0 = .ok (.aload_n 0, 1) := by decide +kernel
theorem d138_1 : decode (zb 138) 1 = .ok (.getfield 72, 3) := by decide +kernel
theorem d138_4 : decode (zb 138) 4 = .ok (.ifCond .ne 13, 3) := by decide +kernel
theorem d138_7 : decode (zb 138) 7 = .ok (.aload_n 0, 1) := by decide +kernel
theorem d138_8 : decode (zb 138) 8 = .ok (.aload_n 0, 1) := by decide +kernel
theorem d138_9 : decode (zb 138) 9 = .ok (.iload_n 1, 1) := by decide +kernel
theorem d138_10 : decode (zb 138) 10 = .ok (.invokevirtual 113, 3) := by decide +kernel
theorem d138_13 : decode (zb 138) 13 = .ok (.iconst 2, 1) := by decide +kernel
theorem d138_14 : decode (zb 138) 14 = .ok (.invokevirtual 106, 3) := by decide +kernel
theorem d138_17 : decode (zb 138) 17 = .ok (.aload_n 0, 1) := by decide +kernel
theorem d138_18 : decode (zb 138) 18 = .ok (.invokevirtual 110, 3) := by decide +kernel
theorem d138_21 : decode (zb 138) 21 = .ok (.return_, 1) := by decide +kernel
theorem run125 {h : zH} {x0 x1 x2 : Int} : zrun 125 [vL x0, vL x1, vL x2] h = zX 125 0 [vL x0, none, vL x1, none, vL x2, none] [] h := rfl
theorem e125_0 {I : Nat → Int → Int} {b : Bool} {S : Nat} {x0 x1 x2 : Int} : zX 125 0 [vL x0, none, vL x1, none, vL x2, none] [] (I, zRs b, 103, S) = if (if x0 < x1 then -1 else if x0 = x1 then 0 else 1) < 0 then some (some (vI 0), (I, zRs b, 103, S)) else if 0 < (if x0 < x2 then -1 else if x0 = x2 then 0 else 1) then some (some (vI 0), (I, zRs b, 103, S)) else some (some (vI 1), (I, zRs b, 103, S)) := (xLload_n d125_0 rfl).trans ((xLload_n d125_1 rfl).trans ((xLcmp d125_2).trans ((xIfLt (t := 17) d125_3 rfl).trans (ziteC ((xIconst d125_17).trans (xZret d125_18 zret_125 (by decide))) ((xLload_n d125_6 rfl).trans ((xLload d125_7 rfl).trans ((xLcmp d125_9).trans ((xIfGt (t := 17) d125_10 rfl).trans (ziteC ((xIconst d125_17).trans (xZret d125_18 zret_125 (by decide))) ((xIconst d125_13).trans ((xGoto (t := 18) d125_14 rfl).trans (xZret d125_18 zret_125 (by decide)))))))))))))
theorem run126 {h : zH} {x0 : Int} : zrun 126 [vI x0] h = zX 126 0 [vI x0] [] h := rfl
theorem e126_0 {I : Nat → Int → Int} {b : Bool} {S : Nat} {x0 : Int} : zX 126 0 [vI x0] [] (I, zRs b, 103, S) = if x0 = 0 then some (some (vI 0), (I, zRs b, 103, S)) else some (some (vI 1), (I, zRs b, 103, S)) := (xIload_n d126_0 rfl).trans ((xIfEq (t := 8) d126_1 rfl).trans (ziteC ((xIconst d126_8).trans (xIret d126_9 zret_126)) ((xIconst d126_4).trans ((xGoto (t := 9) d126_5 rfl).trans (xIret d126_9 zret_126)))))
theorem run127 {h : zH} {x0 : Int} : zrun 127 [vR 87, vI x0] h = zX 127 0 [vR 87, vI x0] [] h := rfl
theorem e127_0 {I : Nat → Int → Int} {b : Bool} {S : Nat} {x0 : Int} : zX 127 0 [vR 87, vI x0] [] (I, zRs b, 103, S) = (zrun 125 [vL x0, vL 0, vL 127] (I, zRs b, 103, S)).bind (fun q => zX 127 9 [vR 87, vI x0] (zpush q.1 []) q.2) := (xIload_n d127_0 rfl).trans ((xI2l d127_1).trans ((xLconst d127_2).trans ((xLdc2 d127_3 zo_127 zcl_11_62 (by decide)).trans (xInvS [vL x0, vL 0, vL 127] [] d127_6 zo_127 zml_11_64 rfl rfl))))
theorem e127_9 {I : Nat → Int → Int} {b : Bool} {S : Nat} {a1 t0 : Int} : zX 127 9 [vR 87, vI a1] [vI t0] (I, zRs b, 103, S) = if t0 = 0 then some (some (vI (-1)), (I, zRs b, 103, S)) else if (I 87 10) = 300 then some (some (vI (-3)), (I, zRs b, 103, S)) else if 0 ≤ (I 87 10) ∧ (I 87 10) < 300 then some (some (vI (wr ((I 87 10) + 1))), ((sI (sI I 96 (I 87 10) a1) 87 10 (wr ((I 87 10) + 1))), zRs b, 103, S)) else none := (xIfNe (t := 14) d127_9 rfl).trans (ziteC ((xIconst d127_12).trans (xIret d127_13 zret_127)) ((xAload_n d127_14 rfl).trans ((xGetI 10 (I 87 10) rfl d127_15 zo_127 zfl_11_68 (by decide) rfl rfl (Or.inl (Nat.le_of_ble_eq_true rfl))).trans ((xSipush d127_18).trans ((xIcmpNe (t := 27) d127_21 rfl).trans (ziteC ((xBipush d127_24).trans (xIret d127_26 zret_127)) ((xAload_n d127_27 rfl).trans ((xGetR 9 96 d127_28 zo_127 zfl_11_35 rfl rfl rfl (Or.inl (Nat.le_of_ble_eq_true rfl))).trans ((xAload_n d127_31 rfl).trans ((xGetI 10 (I 87 10) rfl d127_32 zo_127 zfl_11_68 (by decide) rfl rfl (Or.inl (Nat.le_of_ble_eq_true rfl))).trans ((xIload_n d127_35 rfl).trans ((xIast (N := 300) d127_36 rfl (Nat.le_of_ble_eq_true rfl) rfl).trans (ziteC ((xAload_n d127_37 rfl).trans ((xDup d127_38 rfl).trans ((xGetI 10 (I 87 10) (sI_p (by decide)) d127_39 zo_127 zfl_11_68 (by decide) rfl rfl (Or.inl (Nat.le_of_ble_eq_true rfl))).trans ((xIconst d127_42).trans ((xIadd d127_43).trans ((xPutI 10 d127_44 zo_127 zfl_11_68 rfl rfl (Nat.le_of_ble_eq_true rfl) (Or.inl rfl)).trans ((xAload_n d127_47 rfl).trans ((xGetI 10 (wr ((I 87 10) + 1)) sI_s d127_48 zo_127 zfl_11_68 (by decide) rfl rfl (Or.inl (Nat.le_of_ble_eq_true rfl))).trans (xIret d127_51 zret_127))))))))) rfl)))))))))))))
theorem run128 {h : zH} {x0 : Int} : zrun 128 [vR 87, vI x0] h = zX 128 0 [vR 87, vI x0, none] [] h := rfl
theorem e128_0 {I : Nat → Int → Int} {b : Bool} {S : Nat} {x0 : Int} : zX 128 0 [vR 87, vI x0, none] [] (I, zRs b, 103, S) = (zrun 125 [vL x0, vL 0, vL (I 87 10)] (I, zRs b, 103, S)).bind (fun q => zX 128 11 [vR 87, vI x0, none] (zpush q.1 []) q.2) := (xIload_n d128_0 rfl).trans ((xI2l d128_1).trans ((xLconst d128_2).trans ((xAload_n d128_3 rfl).trans ((xGetI 10 (I 87 10) rfl d128_4 zo_128 zfl_11_68 (by decide) rfl rfl (Or.inl (Nat.le_of_ble_eq_true rfl))).trans ((xI2l d128_7).trans (xInvS [vL x0, vL 0, vL (I 87 10)] [] d128_8 zo_128 zml_11_64 rfl rfl))))))
theorem e128_11 {I : Nat → Int → Int} {b : Bool} {S : Nat} {a1 t0 : Int} : zX 128 11 [vR 87, vI a1, none] [vI t0] (I, zRs b, 103, S) = if t0 = 0 then some (some (vI (-1)), (I, zRs b, 103, S)) else some (some (vI (I 87 10)), ((sI I 87 10 a1), zRs b, 103, S)) := (xIfNe (t := 16) d128_11 rfl).trans (ziteC ((xIconst d128_14).trans (xIret d128_15 zret_128)) ((xAload_n d128_16 rfl).trans ((xGetI 10 (I 87 10) rfl d128_17 zo_128 zfl_11_68 (by decide) rfl rfl (Or.inl (Nat.le_of_ble_eq_true rfl))).trans ((xIstore_n d128_20 rfl rfl).trans ((xAload_n d128_21 rfl).trans ((xIload_n d128_22 rfl).trans ((xPutI 10 d128_23 zo_128 zfl_11_68 rfl rfl (Nat.le_of_ble_eq_true rfl) (Or.inl rfl)).trans ((xIload_n d128_26 rfl).trans (xIret d128_27 zret_128)))))))))
theorem run129 {h : zH} {x0 x1 : Int} : zrun 129 [vR 87, vI x0, vI x1] h = zX 129 0 [vR 87, vI x0, vI x1] [] h := rfl
theorem e129_0 {I : Nat → Int → Int} {b : Bool} {S : Nat} {x0 x1 : Int} : zX 129 0 [vR 87, vI x0, vI x1] [] (I, zRs b, 103, S) = if x0 = 0 then if (I 87 15) = 0 then some (none, ((sI (sI I 87 15 x1) 87 16 (I 87 12)), zRs b, 103, S)) else some (none, (I, zRs b, 103, S)) else some (none, (I, zRs b, 103, S)) := (xIload_n d129_0 rfl).trans ((xIfNe (t := 24) d129_1 rfl).trans (ziteC ((xAload_n d129_4 rfl).trans ((xGetI 15 (I 87 15) rfl d129_5 zo_129 zfl_11_72 (by decide) rfl rfl (Or.inl (Nat.le_of_ble_eq_true rfl))).trans ((xIfNe (t := 24) d129_8 rfl).trans (ziteC ((xAload_n d129_11 rfl).trans ((xIload_n d129_12 rfl).trans ((xPutI 15 d129_13 zo_129 zfl_11_72 rfl rfl (Nat.le_of_ble_eq_true rfl) (Or.inl rfl)).trans ((xAload_n d129_16 rfl).trans ((xAload_n d129_17 rfl).trans ((xGetI 12 (I 87 12) (sI_k (by decide)) d129_18 zo_129 zfl_11_75 (by decide) rfl rfl (Or.inl (Nat.le_of_ble_eq_true rfl))).trans ((xPutI 16 d129_21 zo_129 zfl_11_78 rfl rfl (Nat.le_of_ble_eq_true rfl) (Or.inl rfl)).trans (xVret d129_24 zret_129)))))))) (xVret d129_24 zret_129))))) (xVret d129_24 zret_129)))
theorem run130 {h : zH} {x0 : Int} : zrun 130 [vR 87, vI x0] h = zX 130 0 [vR 87, vI x0] [] h := rfl
theorem e130_0 {I : Nat → Int → Int} {b : Bool} {S : Nat} {x0 : Int} : zX 130 0 [vR 87, vI x0] [] (I, zRs b, 103, S) = if (I 87 10) ≤ x0 then some (some (vI (-1)), (I, zRs b, 103, S)) else if 0 ≤ x0 ∧ x0 < 300 then some (some (vI (I 96 x0)), (I, zRs b, 103, S)) else none := (xIload_n d130_0 rfl).trans ((xAload_n d130_1 rfl).trans ((xGetI 10 (I 87 10) rfl d130_2 zo_130 zfl_11_68 (by decide) rfl rfl (Or.inl (Nat.le_of_ble_eq_true rfl))).trans ((xIcmpGe (t := 17) d130_5 rfl).trans (ziteC ((xIconst d130_17).trans (xIret d130_18 zret_130)) ((xAload_n d130_8 rfl).trans ((xGetR 9 96 d130_9 zo_130 zfl_11_35 rfl rfl rfl (Or.inl (Nat.le_of_ble_eq_true rfl))).trans ((xIload_n d130_12 rfl).trans ((xIald (N := 300) (I 96 x0) rfl d130_13 rfl (Or.inl (Nat.le_of_ble_eq_true rfl)) rfl).trans (ziteC ((xGoto (t := 18) d130_14 rfl).trans (xIret d130_18 zret_130)) rfl)))))))))
theorem run131 {h : zH} {x0 x1 x2 x3 : Int} : zrun 131 [vR 87, vI x0, vI x1, vI x2, vI x3] h = zX 131 0 [vR 87, vI x0, vI x1, vI x2, vI x3] [] h := rfl
theorem e131_0 {I : Nat → Int → Int} {b : Bool} {S : Nat} {x0 x1 x2 x3 : Int} : zX 131 0 [vR 87, vI x0, vI x1, vI x2, vI x3] [] (I, zRs b, 103, S) = if (I 87 13) = 1 then if (wr ((I 87 11) - (I 87 12))) = x0 then (zrun 130 [vR 87, vI (wr ((I 87 12) + x1))] (I, zRs b, 103, S)).bind (fun q => zX 131 31 [vR 87, vI x0, vI x1, vI x2, vI x3] (zpush q.1 []) q.2) else some (some (vI 0), (I, zRs b, 103, S)) else some (some (vI 0), (I, zRs b, 103, S)) := (xAload_n d131_0 rfl).trans ((xGetI 13 (I 87 13) rfl d131_1 zo_131 zfl_11_81 (by decide) rfl rfl (Or.inl (Nat.le_of_ble_eq_true rfl))).trans ((xIconst d131_4).trans ((xIcmpNe (t := 56) d131_5 rfl).trans (ziteC ((xAload_n d131_8 rfl).trans ((xGetI 11 (I 87 11) rfl d131_9 zo_131 zfl_11_84 (by decide) rfl rfl (Or.inl (Nat.le_of_ble_eq_true rfl))).trans ((xAload_n d131_12 rfl).trans ((xGetI 12 (I 87 12) rfl d131_13 zo_131 zfl_11_75 (by decide) rfl rfl (Or.inl (Nat.le_of_ble_eq_true rfl))).trans ((xIsub d131_16).trans ((xIload_n d131_17 rfl).trans ((xIcmpNe (t := 56) d131_18 rfl).trans (ziteC ((xAload_n d131_21 rfl).trans ((xAload_n d131_22 rfl).trans ((xGetI 12 (I 87 12) rfl d131_23 zo_131 zfl_11_75 (by decide) rfl rfl (Or.inl (Nat.le_of_ble_eq_true rfl))).trans ((xIload_n d131_26 rfl).trans ((xIadd d131_27).trans (xInvV [vR 87, vI (wr ((I 87 12) + x1))] [] d131_28 zo_131 zml_11_87 rfl rfl rfl (Or.inl ⟨rfl, (Nat.le_of_ble_eq_true rfl)⟩))))))) ((xIconst d131_56).trans (xZret d131_57 zret_131 (by decide))))))))))) ((xIconst d131_56).trans (xZret d131_57 zret_131 (by decide)))))))
theorem e131_31 {I : Nat → Int → Int} {b : Bool} {S : Nat} {a1 a2 a3 a4 t0 : Int} : zX 131 31 [vR 87, vI a1, vI a2, vI a3, vI a4] [vI t0] (I, zRs b, 103, S) = if t0 = a3 then (zrun 130 [vR 87, vI (wr ((wr ((I 87 12) + a2)) + 1))] (I, zRs b, 103, S)).bind (fun q => zX 131 47 [vR 87, vI a1, vI a2, vI a3, vI a4] (zpush q.1 []) q.2) else some (some (vI 0), (I, zRs b, 103, S)) := (xIload_n d131_31 rfl).trans ((xIcmpNe (t := 56) d131_32 rfl).trans (ziteC ((xAload_n d131_35 rfl).trans ((xAload_n d131_36 rfl).trans ((xGetI 12 (I 87 12) rfl d131_37 zo_131 zfl_11_75 (by decide) rfl rfl (Or.inl (Nat.le_of_ble_eq_true rfl))).trans ((xIload_n d131_40 rfl).trans ((xIadd d131_41).trans ((xIconst d131_42).trans ((xIadd d131_43).trans (xInvV [vR 87, vI (wr ((wr ((I 87 12) + a2)) + 1))] [] d131_44 zo_131 zml_11_87 rfl rfl rfl (Or.inl ⟨rfl, (Nat.le_of_ble_eq_true rfl)⟩))))))))) ((xIconst d131_56).trans (xZret d131_57 zret_131 (by decide)))))
theorem e131_47 {I : Nat → Int → Int} {b : Bool} {S : Nat} {a1 a2 a3 a4 t0 : Int} : zX 131 47 [vR 87, vI a1, vI a2, vI a3, vI a4] [vI t0] (I, zRs b, 103, S) = if t0 = a4 then some (some (vI 1), (I, zRs b, 103, S)) else some (some (vI 0), (I, zRs b, 103, S)) := (xIload d131_47 rfl).trans ((xIcmpNe (t := 56) d131_49 rfl).trans (ziteC ((xIconst d131_52).trans ((xGoto (t := 57) d131_53 rfl).trans (xZret d131_57 zret_131 (by decide)))) ((xIconst d131_56).trans (xZret d131_57 zret_131 (by decide)))))
theorem run132 {h : zH} : zrun 132 [vR 87] h = zX 132 0 [vR 87] [] h := rfl
theorem e132_0 {I : Nat → Int → Int} {b : Bool} {S : Nat} : zX 132 0 [vR 87] [] (I, zRs b, 103, S) = (zrun 131 [vR 87, vI 3, vI 0, vI 115, vI 101] (I, zRs b, 103, S)).bind (fun q => zX 132 10 [vR 87] (zpush q.1 []) q.2) := (xAload_n d132_0 rfl).trans ((xIconst d132_1).trans ((xIconst d132_2).trans ((xBipush d132_3).trans ((xBipush d132_5).trans (xInvV [vR 87, vI 3, vI 0, vI 115, vI 101] [] d132_7 zo_132 zml_11_91 rfl rfl rfl (Or.inl ⟨rfl, (Nat.le_of_ble_eq_true rfl)⟩))))))
theorem e132_10 {I : Nat → Int → Int} {b : Bool} {S : Nat} {t0 : Int} : zX 132 10 [vR 87] [vI t0] (I, zRs b, 103, S) = if t0 = 0 then some (some (vI 0), (I, zRs b, 103, S)) else (zrun 131 [vR 87, vI 3, vI 1, vI 101, vI 103] (I, zRs b, 103, S)).bind (fun q => zX 132 23 [vR 87] (zpush q.1 []) q.2) := (xIfEq (t := 30) d132_10 rfl).trans (ziteC ((xIconst d132_30).trans (xZret d132_31 zret_132 (by decide))) ((xAload_n d132_13 rfl).trans ((xIconst d132_14).trans ((xIconst d132_15).trans ((xBipush d132_16).trans ((xBipush d132_18).trans (xInvV [vR 87, vI 3, vI 1, vI 101, vI 103] [] d132_20 zo_132 zml_11_91 rfl rfl rfl (Or.inl ⟨rfl, (Nat.le_of_ble_eq_true rfl)⟩))))))))
theorem e132_23 {I : Nat → Int → Int} {b : Bool} {S : Nat} {t0 : Int} : zX 132 23 [vR 87] [vI t0] (I, zRs b, 103, S) = if t0 = 0 then some (some (vI 0), (I, zRs b, 103, S)) else some (some (vI 1), (I, zRs b, 103, S)) := (xIfEq (t := 30) d132_23 rfl).trans (ziteC ((xIconst d132_30).trans (xZret d132_31 zret_132 (by decide))) ((xIconst d132_26).trans ((xGoto (t := 31) d132_27 rfl).trans (xZret d132_31 zret_132 (by decide)))))
theorem run133 {h : zH} : zrun 133 [vR 87] h = zX 133 0 [vR 87] [] h := rfl
theorem e133_0 {I : Nat → Int → Int} {b : Bool} {S : Nat} : zX 133 0 [vR 87] [] (I, zRs b, 103, S) = (zrun 131 [vR 87, vI 2, vI 0, vI 103, vI 111] (I, zRs b, 103, S)).bind (fun q => zX 133 10 [vR 87] (zpush q.1 []) q.2) := (xAload_n d133_0 rfl).trans ((xIconst d133_1).trans ((xIconst d133_2).trans ((xBipush d133_3).trans ((xBipush d133_5).trans (xInvV [vR 87, vI 2, vI 0, vI 103, vI 111] [] d133_7 zo_133 zml_11_91 rfl rfl rfl (Or.inl ⟨rfl, (Nat.le_of_ble_eq_true rfl)⟩))))))
theorem e133_10 {I : Nat → Int → Int} {b : Bool} {S : Nat} {t0 : Int} : zX 133 10 [vR 87] [vI t0] (I, zRs b, 103, S) = if t0 = 0 ∨ t0 = 1 then some (some (vI t0), (I, zRs b, 103, S)) else none := xZretG d133_10 zret_133
theorem run134 {h : zH} : zrun 134 [vR 87] h = zX 134 0 [vR 87] [] h := rfl
theorem e134_0 {I : Nat → Int → Int} {b : Bool} {S : Nat} : zX 134 0 [vR 87] [] (I, zRs b, 103, S) = (zrun 131 [vR 87, vI 4, vI 0, vI 112, vI 108] (I, zRs b, 103, S)).bind (fun q => zX 134 10 [vR 87] (zpush q.1 []) q.2) := (xAload_n d134_0 rfl).trans ((xIconst d134_1).trans ((xIconst d134_2).trans ((xBipush d134_3).trans ((xBipush d134_5).trans (xInvV [vR 87, vI 4, vI 0, vI 112, vI 108] [] d134_7 zo_134 zml_11_91 rfl rfl rfl (Or.inl ⟨rfl, (Nat.le_of_ble_eq_true rfl)⟩))))))
theorem e134_10 {I : Nat → Int → Int} {b : Bool} {S : Nat} {t0 : Int} : zX 134 10 [vR 87] [vI t0] (I, zRs b, 103, S) = if t0 = 0 then (zrun 131 [vR 87, vI 4, vI 0, vI 109, vI 97] (I, zRs b, 103, S)).bind (fun q => zX 134 38 [vR 87] (zpush q.1 []) q.2) else (zrun 131 [vR 87, vI 4, vI 2, vI 97, vI 121] (I, zRs b, 103, S)).bind (fun q => zX 134 23 [vR 87] (zpush q.1 []) q.2) := (xIfEq (t := 28) d134_10 rfl).trans (ziteC ((xAload_n d134_28 rfl).trans ((xIconst d134_29).trans ((xIconst d134_30).trans ((xBipush d134_31).trans ((xBipush d134_33).trans (xInvV [vR 87, vI 4, vI 0, vI 109, vI 97] [] d134_35 zo_134 zml_11_91 rfl rfl rfl (Or.inl ⟨rfl, (Nat.le_of_ble_eq_true rfl)⟩))))))) ((xAload_n d134_13 rfl).trans ((xIconst d134_14).trans ((xIconst d134_15).trans ((xBipush d134_16).trans ((xBipush d134_18).trans (xInvV [vR 87, vI 4, vI 2, vI 97, vI 121] [] d134_20 zo_134 zml_11_91 rfl rfl rfl (Or.inl ⟨rfl, (Nat.le_of_ble_eq_true rfl)⟩))))))))
theorem e134_23 {I : Nat → Int → Int} {b : Bool} {S : Nat} {t0 : Int} : zX 134 23 [vR 87] [vI t0] (I, zRs b, 103, S) = if t0 = 0 then (zrun 131 [vR 87, vI 4, vI 0, vI 109, vI 97] (I, zRs b, 103, S)).bind (fun q => zX 134 38 [vR 87] (zpush q.1 []) q.2) else some (some (vI 0), (I, zRs b, 103, S)) := (xIfEq (t := 28) d134_23 rfl).trans (ziteC ((xAload_n d134_28 rfl).trans ((xIconst d134_29).trans ((xIconst d134_30).trans ((xBipush d134_31).trans ((xBipush d134_33).trans (xInvV [vR 87, vI 4, vI 0, vI 109, vI 97] [] d134_35 zo_134 zml_11_91 rfl rfl rfl (Or.inl ⟨rfl, (Nat.le_of_ble_eq_true rfl)⟩))))))) ((xIconst d134_26).trans (xIret d134_27 zret_134)))
theorem e134_38 {I : Nat → Int → Int} {b : Bool} {S : Nat} {t0 : Int} : zX 134 38 [vR 87] [vI t0] (I, zRs b, 103, S) = if t0 = 0 then (zrun 131 [vR 87, vI 4, vI 0, vI 108, vI 111] (I, zRs b, 103, S)).bind (fun q => zX 134 66 [vR 87] (zpush q.1 []) q.2) else (zrun 131 [vR 87, vI 4, vI 2, vI 114, vI 107] (I, zRs b, 103, S)).bind (fun q => zX 134 51 [vR 87] (zpush q.1 []) q.2) := (xIfEq (t := 56) d134_38 rfl).trans (ziteC ((xAload_n d134_56 rfl).trans ((xIconst d134_57).trans ((xIconst d134_58).trans ((xBipush d134_59).trans ((xBipush d134_61).trans (xInvV [vR 87, vI 4, vI 0, vI 108, vI 111] [] d134_63 zo_134 zml_11_91 rfl rfl rfl (Or.inl ⟨rfl, (Nat.le_of_ble_eq_true rfl)⟩))))))) ((xAload_n d134_41 rfl).trans ((xIconst d134_42).trans ((xIconst d134_43).trans ((xBipush d134_44).trans ((xBipush d134_46).trans (xInvV [vR 87, vI 4, vI 2, vI 114, vI 107] [] d134_48 zo_134 zml_11_91 rfl rfl rfl (Or.inl ⟨rfl, (Nat.le_of_ble_eq_true rfl)⟩))))))))
theorem e134_51 {I : Nat → Int → Int} {b : Bool} {S : Nat} {t0 : Int} : zX 134 51 [vR 87] [vI t0] (I, zRs b, 103, S) = if t0 = 0 then (zrun 131 [vR 87, vI 4, vI 0, vI 108, vI 111] (I, zRs b, 103, S)).bind (fun q => zX 134 66 [vR 87] (zpush q.1 []) q.2) else some (some (vI 1), (I, zRs b, 103, S)) := (xIfEq (t := 56) d134_51 rfl).trans (ziteC ((xAload_n d134_56 rfl).trans ((xIconst d134_57).trans ((xIconst d134_58).trans ((xBipush d134_59).trans ((xBipush d134_61).trans (xInvV [vR 87, vI 4, vI 0, vI 108, vI 111] [] d134_63 zo_134 zml_11_91 rfl rfl rfl (Or.inl ⟨rfl, (Nat.le_of_ble_eq_true rfl)⟩))))))) ((xIconst d134_54).trans (xIret d134_55 zret_134)))
theorem e134_66 {I : Nat → Int → Int} {b : Bool} {S : Nat} {t0 : Int} : zX 134 66 [vR 87] [vI t0] (I, zRs b, 103, S) = if t0 = 0 then (zrun 131 [vR 87, vI 5, vI 0, vI 117, vI 110] (I, zRs b, 103, S)).bind (fun q => zX 134 94 [vR 87] (zpush q.1 []) q.2) else (zrun 131 [vR 87, vI 4, vI 2, vI 111, vI 112] (I, zRs b, 103, S)).bind (fun q => zX 134 79 [vR 87] (zpush q.1 []) q.2) := (xIfEq (t := 84) d134_66 rfl).trans (ziteC ((xAload_n d134_84 rfl).trans ((xIconst d134_85).trans ((xIconst d134_86).trans ((xBipush d134_87).trans ((xBipush d134_89).trans (xInvV [vR 87, vI 5, vI 0, vI 117, vI 110] [] d134_91 zo_134 zml_11_91 rfl rfl rfl (Or.inl ⟨rfl, (Nat.le_of_ble_eq_true rfl)⟩))))))) ((xAload_n d134_69 rfl).trans ((xIconst d134_70).trans ((xIconst d134_71).trans ((xBipush d134_72).trans ((xBipush d134_74).trans (xInvV [vR 87, vI 4, vI 2, vI 111, vI 112] [] d134_76 zo_134 zml_11_91 rfl rfl rfl (Or.inl ⟨rfl, (Nat.le_of_ble_eq_true rfl)⟩))))))))
theorem e134_79 {I : Nat → Int → Int} {b : Bool} {S : Nat} {t0 : Int} : zX 134 79 [vR 87] [vI t0] (I, zRs b, 103, S) = if t0 = 0 then (zrun 131 [vR 87, vI 5, vI 0, vI 117, vI 110] (I, zRs b, 103, S)).bind (fun q => zX 134 94 [vR 87] (zpush q.1 []) q.2) else some (some (vI 2), (I, zRs b, 103, S)) := (xIfEq (t := 84) d134_79 rfl).trans (ziteC ((xAload_n d134_84 rfl).trans ((xIconst d134_85).trans ((xIconst d134_86).trans ((xBipush d134_87).trans ((xBipush d134_89).trans (xInvV [vR 87, vI 5, vI 0, vI 117, vI 110] [] d134_91 zo_134 zml_11_91 rfl rfl rfl (Or.inl ⟨rfl, (Nat.le_of_ble_eq_true rfl)⟩))))))) ((xIconst d134_82).trans (xIret d134_83 zret_134)))
theorem e134_94 {I : Nat → Int → Int} {b : Bool} {S : Nat} {t0 : Int} : zX 134 94 [vR 87] [vI t0] (I, zRs b, 103, S) = if t0 = 0 then some (some (vI (-4)), (I, zRs b, 103, S)) else (zrun 131 [vR 87, vI 5, vI 2, vI 116, vI 105] (I, zRs b, 103, S)).bind (fun q => zX 134 107 [vR 87] (zpush q.1 []) q.2) := (xIfEq (t := 127) d134_94 rfl).trans (ziteC ((xBipush d134_127).trans (xIret d134_129 zret_134)) ((xAload_n d134_97 rfl).trans ((xIconst d134_98).trans ((xIconst d134_99).trans ((xBipush d134_100).trans ((xBipush d134_102).trans (xInvV [vR 87, vI 5, vI 2, vI 116, vI 105] [] d134_104 zo_134 zml_11_91 rfl rfl rfl (Or.inl ⟨rfl, (Nat.le_of_ble_eq_true rfl)⟩))))))))
theorem e134_107 {I : Nat → Int → Int} {b : Bool} {S : Nat} {t0 : Int} : zX 134 107 [vR 87] [vI t0] (I, zRs b, 103, S) = if t0 = 0 then some (some (vI (-4)), (I, zRs b, 103, S)) else (zrun 131 [vR 87, vI 5, vI 3, vI 105, vI 108] (I, zRs b, 103, S)).bind (fun q => zX 134 120 [vR 87] (zpush q.1 []) q.2) := (xIfEq (t := 127) d134_107 rfl).trans (ziteC ((xBipush d134_127).trans (xIret d134_129 zret_134)) ((xAload_n d134_110 rfl).trans ((xIconst d134_111).trans ((xIconst d134_112).trans ((xBipush d134_113).trans ((xBipush d134_115).trans (xInvV [vR 87, vI 5, vI 3, vI 105, vI 108] [] d134_117 zo_134 zml_11_91 rfl rfl rfl (Or.inl ⟨rfl, (Nat.le_of_ble_eq_true rfl)⟩))))))))
theorem e134_120 {I : Nat → Int → Int} {b : Bool} {S : Nat} {t0 : Int} : zX 134 120 [vR 87] [vI t0] (I, zRs b, 103, S) = if t0 = 0 then some (some (vI (-4)), (I, zRs b, 103, S)) else some (some (vI 3), (I, zRs b, 103, S)) := (xIfEq (t := 127) d134_120 rfl).trans (ziteC ((xBipush d134_127).trans (xIret d134_129 zret_134)) ((xIconst d134_123).trans ((xGoto (t := 129) d134_124 rfl).trans (xIret d134_129 zret_134))))
theorem run135 {h : zH} : zrun 135 [vR 87] h = zX 135 0 [vR 87, none] [] h := rfl
theorem e135_0 {I : Nat → Int → Int} {b : Bool} {S : Nat} : zX 135 0 [vR 87, none] [] (I, zRs b, 103, S) = if (I 87 15) ≤ 0 then zX 135 8 [vR 87, none] [] (I, zRs b, 103, S) else some (none, (I, zRs b, 103, S)) := (xAload_n d135_0 rfl).trans ((xGetI 15 (I 87 15) rfl d135_1 zo_135 zfl_11_72 (by decide) rfl rfl (Or.inl (Nat.le_of_ble_eq_true rfl))).trans ((xIfLe (t := 8) d135_4 rfl).trans (ziteC rfl (xVret d135_7 zret_135))))
theorem e135_8 {I : Nat → Int → Int} {b : Bool} {S : Nat} : zX 135 8 [vR 87, none] [] (I, zRs b, 103, S) = (zrun 130 [vR 87, vI (I 87 11)] (I, zRs b, 103, S)).bind (fun q => zX 135 16 [vR 87, none] (zpush q.1 []) q.2) := (xAload_n d135_8 rfl).trans ((xAload_n d135_9 rfl).trans ((xGetI 11 (I 87 11) rfl d135_10 zo_135 zfl_11_84 (by decide) rfl rfl (Or.inl (Nat.le_of_ble_eq_true rfl))).trans (xInvV [vR 87, vI (I 87 11)] [] d135_13 zo_135 zml_11_87 rfl rfl rfl (Or.inl ⟨rfl, (Nat.le_of_ble_eq_true rfl)⟩))))
theorem e135_16 {I : Nat → Int → Int} {b : Bool} {S : Nat} {t0 : Int} : zX 135 16 [vR 87, none] [vI t0] (I, zRs b, 103, S) = if t0 = 32 then zX 135 8 [vR 87, none] [] ((sI I 87 11 (wr ((I 87 11) + 1))), zRs b, 103, S) else (zrun 130 [vR 87, vI (I 87 11)] ((sI I 87 12 (I 87 11)), zRs b, 103, S)).bind (fun q => zX 135 50 [vR 87, none] (zpush q.1 []) q.2) := (xBipush d135_16).trans ((xIcmpNe (t := 34) d135_18 rfl).trans (ziteC ((xAload_n d135_21 rfl).trans ((xDup d135_22 rfl).trans ((xGetI 11 (I 87 11) rfl d135_23 zo_135 zfl_11_84 (by decide) rfl rfl (Or.inl (Nat.le_of_ble_eq_true rfl))).trans ((xIconst d135_26).trans ((xIadd d135_27).trans ((xPutI 11 d135_28 zo_135 zfl_11_84 rfl rfl (Nat.le_of_ble_eq_true rfl) (Or.inl rfl)).trans (xGoto (t := 8) d135_31 rfl))))))) ((xAload_n d135_34 rfl).trans ((xAload_n d135_35 rfl).trans ((xGetI 11 (I 87 11) rfl d135_36 zo_135 zfl_11_84 (by decide) rfl rfl (Or.inl (Nat.le_of_ble_eq_true rfl))).trans ((xPutI 12 d135_39 zo_135 zfl_11_75 rfl rfl (Nat.le_of_ble_eq_true rfl) (Or.inl rfl)).trans ((xAload_n d135_42 rfl).trans ((xAload_n d135_43 rfl).trans ((xGetI 11 (I 87 11) (sI_k (by decide)) d135_44 zo_135 zfl_11_84 (by decide) rfl rfl (Or.inl (Nat.le_of_ble_eq_true rfl))).trans (xInvV [vR 87, vI (I 87 11)] [] d135_47 zo_135 zml_11_87 rfl rfl rfl (Or.inl ⟨rfl, (Nat.le_of_ble_eq_true rfl)⟩)))))))))))
theorem e135_50 {I : Nat → Int → Int} {b : Bool} {S : Nat} {t0 : Int} : zX 135 50 [vR 87, none] [vI t0] (I, zRs b, 103, S) = if 0 ≤ t0 then (zrun 125 [vL t0, vL 97, vL 122] (I, zRs b, 103, S)).bind (fun q => zX 135 74 [vR 87, vI t0] (zpush q.1 []) q.2) else some (none, ((sI I 87 13 0), zRs b, 103, S)) := (xIstore_n d135_50 rfl rfl).trans ((xIload_n d135_51 rfl).trans ((xIfGe (t := 63) d135_52 rfl).trans (ziteC ((xIload_n d135_63 rfl).trans ((xI2l d135_64).trans ((xLdc2 d135_65 zo_135 zcl_11_95 (by decide)).trans ((xLdc2 d135_68 zo_135 zcl_11_97 (by decide)).trans (xInvS [vL t0, vL 97, vL 122] [] d135_71 zo_135 zml_11_64 rfl rfl))))) ((xAload_n d135_55 rfl).trans ((xIconst d135_56).trans ((xPutI 13 d135_57 zo_135 zfl_11_81 rfl rfl (Nat.le_of_ble_eq_true rfl) (Or.inl rfl)).trans ((xGoto (t := 286) d135_60 rfl).trans (xVret d135_286 zret_135))))))))
theorem e135_74 {I : Nat → Int → Int} {b : Bool} {S : Nat} {a1 t0 : Int} : zX 135 74 [vR 87, vI a1] [vI t0] (I, zRs b, 103, S) = if t0 = 0 then (zrun 125 [vL a1, vL 48, vL 57] (I, zRs b, 103, S)).bind (fun q => zX 135 127 [vR 87, vI a1] (zpush q.1 []) q.2) else zX 135 82 [vR 87, vI a1] [] ((sI I 87 13 1), zRs b, 103, S) := (xIfEq (t := 116) d135_74 rfl).trans (ziteC ((xIload_n d135_116 rfl).trans ((xI2l d135_117).trans ((xLdc2 d135_118 zo_135 zcl_11_99 (by decide)).trans ((xLdc2 d135_121 zo_135 zcl_11_101 (by decide)).trans (xInvS [vL a1, vL 48, vL 57] [] d135_124 zo_135 zml_11_64 rfl rfl))))) ((xAload_n d135_77 rfl).trans ((xIconst d135_78).trans (xPutI 13 d135_79 zo_135 zfl_11_81 rfl rfl (Nat.le_of_ble_eq_true rfl) (Or.inl rfl)))))
theorem e135_82 {I : Nat → Int → Int} {b : Bool} {S : Nat} {a1 : Int} : zX 135 82 [vR 87, vI a1] [] (I, zRs b, 103, S) = (zrun 130 [vR 87, vI (I 87 11)] (I, zRs b, 103, S)).bind (fun q => zX 135 90 [vR 87, vI a1] (zpush q.1 []) q.2) := (xAload_n d135_82 rfl).trans ((xAload_n d135_83 rfl).trans ((xGetI 11 (I 87 11) rfl d135_84 zo_135 zfl_11_84 (by decide) rfl rfl (Or.inl (Nat.le_of_ble_eq_true rfl))).trans (xInvV [vR 87, vI (I 87 11)] [] d135_87 zo_135 zml_11_87 rfl rfl rfl (Or.inl ⟨rfl, (Nat.le_of_ble_eq_true rfl)⟩))))
theorem e135_90 {I : Nat → Int → Int} {b : Bool} {S : Nat} {a1 t0 : Int} : zX 135 90 [vR 87, vI a1] [vI t0] (I, zRs b, 103, S) = (zrun 125 [vL t0, vL 97, vL 122] (I, zRs b, 103, S)).bind (fun q => zX 135 100 [vR 87, vI a1] (zpush q.1 []) q.2) := (xI2l d135_90).trans ((xLdc2 d135_91 zo_135 zcl_11_95 (by decide)).trans ((xLdc2 d135_94 zo_135 zcl_11_97 (by decide)).trans (xInvS [vL t0, vL 97, vL 122] [] d135_97 zo_135 zml_11_64 rfl rfl)))
theorem e135_100 {I : Nat → Int → Int} {b : Bool} {S : Nat} {a1 t0 : Int} : zX 135 100 [vR 87, vI a1] [vI t0] (I, zRs b, 103, S) = if t0 = 0 then some (none, (I, zRs b, 103, S)) else zX 135 82 [vR 87, vI a1] [] ((sI I 87 11 (wr ((I 87 11) + 1))), zRs b, 103, S) := (xIfEq (t := 286) d135_100 rfl).trans (ziteC (xVret d135_286 zret_135) ((xAload_n d135_103 rfl).trans ((xDup d135_104 rfl).trans ((xGetI 11 (I 87 11) rfl d135_105 zo_135 zfl_11_84 (by decide) rfl rfl (Or.inl (Nat.le_of_ble_eq_true rfl))).trans ((xIconst d135_108).trans ((xIadd d135_109).trans ((xPutI 11 d135_110 zo_135 zfl_11_84 rfl rfl (Nat.le_of_ble_eq_true rfl) (Or.inl rfl)).trans (xGoto (t := 82) d135_113 rfl))))))))
theorem e135_127 {I : Nat → Int → Int} {b : Bool} {S : Nat} {a1 t0 : Int} : zX 135 127 [vR 87, vI a1] [vI t0] (I, zRs b, 103, S) = if t0 = 0 then if a1 = 59 then (zrun 129 [vR 87, vI 1, vI 1] ((sI I 87 13 3), zRs b, 103, S)).bind (fun q => zX 135 276 [vR 87, vI a1] (zpush q.1 []) q.2) else if a1 = 40 then (zrun 129 [vR 87, vI 1, vI 1] ((sI I 87 13 3), zRs b, 103, S)).bind (fun q => zX 135 276 [vR 87, vI a1] (zpush q.1 []) q.2) else if a1 = 41 then (zrun 129 [vR 87, vI 1, vI 1] ((sI I 87 13 3), zRs b, 103, S)).bind (fun q => zX 135 276 [vR 87, vI a1] (zpush q.1 []) q.2) else (zrun 129 [vR 87, vI 0, vI 1] ((sI I 87 13 3), zRs b, 103, S)).bind (fun q => zX 135 276 [vR 87, vI a1] (zpush q.1 []) q.2) else zX 135 140 [vR 87, vI a1] [] ((sI (sI I 87 13 2) 87 14 0), zRs b, 103, S) := (xIfEq (t := 243) d135_127 rfl).trans (ziteC ((xAload_n d135_243 rfl).trans ((xIconst d135_244).trans ((xPutI 13 d135_245 zo_135 zfl_11_81 rfl rfl (Nat.le_of_ble_eq_true rfl) (Or.inl rfl)).trans ((xAload_n d135_248 rfl).trans ((xIload_n d135_249 rfl).trans ((xBipush d135_250).trans ((xIcmpEq (t := 267) d135_252 rfl).trans (ziteC ((xIconst d135_267).trans ((xGoto (t := 272) d135_268 rfl).trans ((xIconst d135_272).trans (xInvV [vR 87, vI 1, vI 1] [] d135_273 zo_135 zml_11_106 rfl rfl rfl (Or.inl ⟨rfl, (Nat.le_of_ble_eq_true rfl)⟩))))) ((xIload_n d135_255 rfl).trans ((xBipush d135_256).trans ((xIcmpEq (t := 267) d135_258 rfl).trans (ziteC ((xIconst d135_267).trans ((xGoto (t := 272) d135_268 rfl).trans ((xIconst d135_272).trans (xInvV [vR 87, vI 1, vI 1] [] d135_273 zo_135 zml_11_106 rfl rfl rfl (Or.inl ⟨rfl, (Nat.le_of_ble_eq_true rfl)⟩))))) ((xIload_n d135_261 rfl).trans ((xBipush d135_262).trans ((xIcmpNe (t := 271) d135_264 rfl).trans (ziteC ((xIconst d135_267).trans ((xGoto (t := 272) d135_268 rfl).trans ((xIconst d135_272).trans (xInvV [vR 87, vI 1, vI 1] [] d135_273 zo_135 zml_11_106 rfl rfl rfl (Or.inl ⟨rfl, (Nat.le_of_ble_eq_true rfl)⟩))))) ((xIconst d135_271).trans ((xIconst d135_272).trans (xInvV [vR 87, vI 0, vI 1] [] d135_273 zo_135 zml_11_106 rfl rfl rfl (Or.inl ⟨rfl, (Nat.le_of_ble_eq_true rfl)⟩)))))))))))))))))))) ((xAload_n d135_130 rfl).trans ((xIconst d135_131).trans ((xPutI 13 d135_132 zo_135 zfl_11_81 rfl rfl (Nat.le_of_ble_eq_true rfl) (Or.inl rfl)).trans ((xAload_n d135_135 rfl).trans ((xIconst d135_136).trans (xPutI 14 d135_137 zo_135 zfl_11_103 rfl rfl (Nat.le_of_ble_eq_true rfl) (Or.inl rfl))))))))
theorem e135_140 {I : Nat → Int → Int} {b : Bool} {S : Nat} {a1 : Int} : zX 135 140 [vR 87, vI a1] [] (I, zRs b, 103, S) = (zrun 130 [vR 87, vI (I 87 11)] (I, zRs b, 103, S)).bind (fun q => zX 135 148 [vR 87, vI a1] (zpush q.1 []) q.2) := (xAload_n d135_140 rfl).trans ((xAload_n d135_141 rfl).trans ((xGetI 11 (I 87 11) rfl d135_142 zo_135 zfl_11_84 (by decide) rfl rfl (Or.inl (Nat.le_of_ble_eq_true rfl))).trans (xInvV [vR 87, vI (I 87 11)] [] d135_145 zo_135 zml_11_87 rfl rfl rfl (Or.inl ⟨rfl, (Nat.le_of_ble_eq_true rfl)⟩))))
theorem e135_148 {I : Nat → Int → Int} {b : Bool} {S : Nat} {a1 t0 : Int} : zX 135 148 [vR 87, vI a1] [vI t0] (I, zRs b, 103, S) = (zrun 125 [vL t0, vL 48, vL 57] (I, zRs b, 103, S)).bind (fun q => zX 135 158 [vR 87, vI a1] (zpush q.1 []) q.2) := (xI2l d135_148).trans ((xLdc2 d135_149 zo_135 zcl_11_99 (by decide)).trans ((xLdc2 d135_152 zo_135 zcl_11_101 (by decide)).trans (xInvS [vL t0, vL 48, vL 57] [] d135_155 zo_135 zml_11_64 rfl rfl)))
theorem e135_158 {I : Nat → Int → Int} {b : Bool} {S : Nat} {a1 t0 : Int} : zX 135 158 [vR 87, vI a1] [vI t0] (I, zRs b, 103, S) = if t0 = 0 then if 2 < (wr ((I 87 11) - (I 87 12))) then (zrun 129 [vR 87, vI 0, vI 1] (I, zRs b, 103, S)).bind (fun q => zX 135 240 [vR 87, vI a1] (zpush q.1 []) q.2) else (zrun 129 [vR 87, vI 1, vI 1] (I, zRs b, 103, S)).bind (fun q => zX 135 240 [vR 87, vI a1] (zpush q.1 []) q.2) else if 2 ≤ (wr ((I 87 11) - (I 87 12))) then zX 135 140 [vR 87, vI a1] [] ((sI (sI I 87 14 (I 87 14)) 87 11 (wr ((I 87 11) + 1))), zRs b, 103, S) else (zrun 130 [vR 87, vI (I 87 11)] (I, zRs b, 103, S)).bind (fun q => zX 135 190 [vR 87, vI a1] (zpush q.1 [vI (wr (10 * (I 87 14))), vR 87]) q.2) := (xIfEq (t := 217) d135_158 rfl).trans (ziteC ((xAload_n d135_217 rfl).trans ((xAload_n d135_218 rfl).trans ((xGetI 11 (I 87 11) rfl d135_219 zo_135 zfl_11_84 (by decide) rfl rfl (Or.inl (Nat.le_of_ble_eq_true rfl))).trans ((xAload_n d135_222 rfl).trans ((xGetI 12 (I 87 12) rfl d135_223 zo_135 zfl_11_75 (by decide) rfl rfl (Or.inl (Nat.le_of_ble_eq_true rfl))).trans ((xIsub d135_226).trans ((xIconst d135_227).trans ((xIcmpGt (t := 235) d135_228 rfl).trans (ziteC ((xIconst d135_235).trans ((xIconst d135_236).trans (xInvV [vR 87, vI 0, vI 1] [] d135_237 zo_135 zml_11_106 rfl rfl rfl (Or.inl ⟨rfl, (Nat.le_of_ble_eq_true rfl)⟩)))) ((xIconst d135_231).trans ((xGoto (t := 236) d135_232 rfl).trans ((xIconst d135_236).trans (xInvV [vR 87, vI 1, vI 1] [] d135_237 zo_135 zml_11_106 rfl rfl rfl (Or.inl ⟨rfl, (Nat.le_of_ble_eq_true rfl)⟩)))))))))))))) ((xAload_n d135_161 rfl).trans ((xAload_n d135_162 rfl).trans ((xGetI 11 (I 87 11) rfl d135_163 zo_135 zfl_11_84 (by decide) rfl rfl (Or.inl (Nat.le_of_ble_eq_true rfl))).trans ((xAload_n d135_166 rfl).trans ((xGetI 12 (I 87 12) rfl d135_167 zo_135 zfl_11_75 (by decide) rfl rfl (Or.inl (Nat.le_of_ble_eq_true rfl))).trans ((xIsub d135_170).trans ((xIconst d135_171).trans ((xIcmpGe (t := 197) d135_172 rfl).trans (ziteC ((xAload_n d135_197 rfl).trans ((xGetI 14 (I 87 14) rfl d135_198 zo_135 zfl_11_103 (by decide) rfl rfl (Or.inl (Nat.le_of_ble_eq_true rfl))).trans ((xPutI 14 d135_201 zo_135 zfl_11_103 rfl rfl (Nat.le_of_ble_eq_true rfl) (Or.inl rfl)).trans ((xAload_n d135_204 rfl).trans ((xDup d135_205 rfl).trans ((xGetI 11 (I 87 11) (sI_k (by decide)) d135_206 zo_135 zfl_11_84 (by decide) rfl rfl (Or.inl (Nat.le_of_ble_eq_true rfl))).trans ((xIconst d135_209).trans ((xIadd d135_210).trans ((xPutI 11 d135_211 zo_135 zfl_11_84 rfl rfl (Nat.le_of_ble_eq_true rfl) (Or.inl rfl)).trans (xGoto (t := 140) d135_214 rfl)))))))))) ((xBipush d135_175).trans ((xAload_n d135_177 rfl).trans ((xGetI 14 (I 87 14) rfl d135_178 zo_135 zfl_11_103 (by decide) rfl rfl (Or.inl (Nat.le_of_ble_eq_true rfl))).trans ((xImul d135_181).trans ((xAload_n d135_182 rfl).trans ((xAload_n d135_183 rfl).trans ((xGetI 11 (I 87 11) rfl d135_184 zo_135 zfl_11_84 (by decide) rfl rfl (Or.inl (Nat.le_of_ble_eq_true rfl))).trans (xInvV [vR 87, vI (I 87 11)] [vI (wr (10 * (I 87 14))), vR 87] d135_187 zo_135 zml_11_87 rfl rfl rfl (Or.inl ⟨rfl, (Nat.le_of_ble_eq_true rfl)⟩)))))))))))))))))))
theorem e135_190 {I : Nat → Int → Int} {b : Bool} {S : Nat} {a1 t1 t2 : Int} : zX 135 190 [vR 87, vI a1] [vI t2, vI t1, vR 87] (I, zRs b, 103, S) = zX 135 140 [vR 87, vI a1] [] ((sI (sI I 87 14 (wr ((wr (t1 + t2)) - 48))) 87 11 (wr ((I 87 11) + 1))), zRs b, 103, S) := (xIadd d135_190).trans ((xBipush d135_191).trans ((xIsub d135_193).trans ((xGoto (t := 201) d135_194 rfl).trans ((xPutI 14 d135_201 zo_135 zfl_11_103 rfl rfl (Nat.le_of_ble_eq_true rfl) (Or.inl rfl)).trans ((xAload_n d135_204 rfl).trans ((xDup d135_205 rfl).trans ((xGetI 11 (I 87 11) (sI_k (by decide)) d135_206 zo_135 zfl_11_84 (by decide) rfl rfl (Or.inl (Nat.le_of_ble_eq_true rfl))).trans ((xIconst d135_209).trans ((xIadd d135_210).trans ((xPutI 11 d135_211 zo_135 zfl_11_84 rfl rfl (Nat.le_of_ble_eq_true rfl) (Or.inl rfl)).trans (xGoto (t := 140) d135_214 rfl)))))))))))
theorem e135_240 {I : Nat → Int → Int} {b : Bool} {S : Nat} {a1 : Int} : zX 135 240 [vR 87, vI a1] [] (I, zRs b, 103, S) = some (none, (I, zRs b, 103, S)) := (xGoto (t := 286) d135_240 rfl).trans (xVret d135_286 zret_135)
theorem e135_276 {I : Nat → Int → Int} {b : Bool} {S : Nat} {a1 : Int} : zX 135 276 [vR 87, vI a1] [] (I, zRs b, 103, S) = some (none, ((sI I 87 11 (wr ((I 87 11) + 1))), zRs b, 103, S)) := (xAload_n d135_276 rfl).trans ((xDup d135_277 rfl).trans ((xGetI 11 (I 87 11) rfl d135_278 zo_135 zfl_11_84 (by decide) rfl rfl (Or.inl (Nat.le_of_ble_eq_true rfl))).trans ((xIconst d135_281).trans ((xIadd d135_282).trans ((xPutI 11 d135_283 zo_135 zfl_11_84 rfl rfl (Nat.le_of_ble_eq_true rfl) (Or.inl rfl)).trans (xVret d135_286 zret_135))))))
theorem run136 {h : zH} {x0 : Int} : zrun 136 [vR 87, vI x0] h = zX 136 0 [vR 87, vI x0] [] h := rfl
theorem e136_0 {I : Nat → Int → Int} {b : Bool} {S : Nat} {x0 : Int} : zX 136 0 [vR 87, vI x0] [] (I, zRs b, 103, S) = if (I 87 13) = 3 then (zrun 130 [vR 87, vI (I 87 12)] (I, zRs b, 103, S)).bind (fun q => zX 136 16 [vR 87, vI x0] (zpush q.1 []) q.2) else some (some (vI 0), (I, zRs b, 103, S)) := (xAload_n d136_0 rfl).trans ((xGetI 13 (I 87 13) rfl d136_1 zo_136 zfl_11_81 (by decide) rfl rfl (Or.inl (Nat.le_of_ble_eq_true rfl))).trans ((xIconst d136_4).trans ((xIcmpNe (t := 24) d136_5 rfl).trans (ziteC ((xAload_n d136_8 rfl).trans ((xAload_n d136_9 rfl).trans ((xGetI 12 (I 87 12) rfl d136_10 zo_136 zfl_11_75 (by decide) rfl rfl (Or.inl (Nat.le_of_ble_eq_true rfl))).trans (xInvV [vR 87, vI (I 87 12)] [] d136_13 zo_136 zml_11_87 rfl rfl rfl (Or.inl ⟨rfl, (Nat.le_of_ble_eq_true rfl)⟩))))) ((xIconst d136_24).trans (xZret d136_25 zret_136 (by decide)))))))
theorem e136_16 {I : Nat → Int → Int} {b : Bool} {S : Nat} {a1 t0 : Int} : zX 136 16 [vR 87, vI a1] [vI t0] (I, zRs b, 103, S) = if t0 = a1 then some (some (vI 1), (I, zRs b, 103, S)) else some (some (vI 0), (I, zRs b, 103, S)) := (xIload_n d136_16 rfl).trans ((xIcmpNe (t := 24) d136_17 rfl).trans (ziteC ((xIconst d136_20).trans ((xGoto (t := 25) d136_21 rfl).trans (xZret d136_25 zret_136 (by decide)))) ((xIconst d136_24).trans (xZret d136_25 zret_136 (by decide)))))
theorem run137 {h : zH} {x0 x1 : Int} : zrun 137 [vR 87, vI x0, vI x1] h = zX 137 0 [vR 87, vI x0, vI x1, none] [] h := rfl
theorem e137_0 {I : Nat → Int → Int} {b : Bool} {S : Nat} {x0 x1 : Int} : zX 137 0 [vR 87, vI x0, vI x1, none] [] (I, zRs b, 103, S) = if (I 87 15) = 0 then if (I 87 13) = 2 then (zrun 129 [vR 87, vI 1, vI 2] (I, zRs b, 103, S)).bind (fun q => zX 137 25 [vR 87, vI x0, vI x1, none] (zpush q.1 []) q.2) else (zrun 129 [vR 87, vI 0, vI 2] (I, zRs b, 103, S)).bind (fun q => zX 137 25 [vR 87, vI x0, vI x1, none] (zpush q.1 []) q.2) else zX 137 25 [vR 87, vI x0, vI x1, none] [] (I, zRs b, 103, S) := (xAload_n d137_0 rfl).trans ((xGetI 15 (I 87 15) rfl d137_1 zo_137 zfl_11_72 (by decide) rfl rfl (Or.inl (Nat.le_of_ble_eq_true rfl))).trans ((xIfNe (t := 25) d137_4 rfl).trans (ziteC ((xAload_n d137_7 rfl).trans ((xAload_n d137_8 rfl).trans ((xGetI 13 (I 87 13) rfl d137_9 zo_137 zfl_11_81 (by decide) rfl rfl (Or.inl (Nat.le_of_ble_eq_true rfl))).trans ((xIconst d137_12).trans ((xIcmpNe (t := 20) d137_13 rfl).trans (ziteC ((xIconst d137_16).trans ((xGoto (t := 21) d137_17 rfl).trans ((xIconst d137_21).trans (xInvV [vR 87, vI 1, vI 2] [] d137_22 zo_137 zml_11_106 rfl rfl rfl (Or.inl ⟨rfl, (Nat.le_of_ble_eq_true rfl)⟩))))) ((xIconst d137_20).trans ((xIconst d137_21).trans (xInvV [vR 87, vI 0, vI 2] [] d137_22 zo_137 zml_11_106 rfl rfl rfl (Or.inl ⟨rfl, (Nat.le_of_ble_eq_true rfl)⟩)))))))))) rfl)))
theorem e137_25 {I : Nat → Int → Int} {b : Bool} {S : Nat} {a1 a2 : Int} : zX 137 25 [vR 87, vI a1, vI a2, none] [] (I, zRs b, 103, S) = if (I 87 15) = 0 then (zrun 125 [vL (I 87 14), vL a1, vL a2] (I, zRs b, 103, S)).bind (fun q => zX 137 45 [vR 87, vI a1, vI a2, none] (zpush q.1 [vR 87]) q.2) else zX 137 49 [vR 87, vI a1, vI a2, none] [] (I, zRs b, 103, S) := (xAload_n d137_25 rfl).trans ((xGetI 15 (I 87 15) rfl d137_26 zo_137 zfl_11_72 (by decide) rfl rfl (Or.inl (Nat.le_of_ble_eq_true rfl))).trans ((xIfNe (t := 49) d137_29 rfl).trans (ziteC ((xAload_n d137_32 rfl).trans ((xAload_n d137_33 rfl).trans ((xGetI 14 (I 87 14) rfl d137_34 zo_137 zfl_11_103 (by decide) rfl rfl (Or.inl (Nat.le_of_ble_eq_true rfl))).trans ((xI2l d137_37).trans ((xIload_n d137_38 rfl).trans ((xI2l d137_39).trans ((xIload_n d137_40 rfl).trans ((xI2l d137_41).trans (xInvS [vL (I 87 14), vL a1, vL a2] [vR 87] d137_42 zo_137 zml_11_64 rfl rfl))))))))) rfl)))
theorem e137_45 {I : Nat → Int → Int} {b : Bool} {S : Nat} {a1 a2 t1 : Int} : zX 137 45 [vR 87, vI a1, vI a2, none] [vI t1, vR 87] (I, zRs b, 103, S) = (zrun 129 [vR 87, vI t1, vI 3] (I, zRs b, 103, S)).bind (fun q => zX 137 49 [vR 87, vI a1, vI a2, none] (zpush q.1 []) q.2) := (xIconst d137_45).trans (xInvV [vR 87, vI t1, vI 3] [] d137_46 zo_137 zml_11_106 rfl rfl rfl (Or.inl ⟨rfl, (Nat.le_of_ble_eq_true rfl)⟩))
theorem e137_49 {I : Nat → Int → Int} {b : Bool} {S : Nat} {a1 a2 : Int} : zX 137 49 [vR 87, vI a1, vI a2, none] [] (I, zRs b, 103, S) = if (I 87 15) = 0 then (zrun 135 [vR 87] (I, zRs b, 103, S)).bind (fun q => zX 137 69 [vR 87, vI a1, vI a2, vI (I 87 14)] (zpush q.1 []) q.2) else (zrun 135 [vR 87] (I, zRs b, 103, S)).bind (fun q => zX 137 69 [vR 87, vI a1, vI a2, vI 0] (zpush q.1 []) q.2) := (xAload_n d137_49 rfl).trans ((xGetI 15 (I 87 15) rfl d137_50 zo_137 zfl_11_72 (by decide) rfl rfl (Or.inl (Nat.le_of_ble_eq_true rfl))).trans ((xIfNe (t := 63) d137_53 rfl).trans (ziteC ((xAload_n d137_56 rfl).trans ((xGetI 14 (I 87 14) rfl d137_57 zo_137 zfl_11_103 (by decide) rfl rfl (Or.inl (Nat.le_of_ble_eq_true rfl))).trans ((xGoto (t := 64) d137_60 rfl).trans ((xIstore_n d137_64 rfl rfl).trans ((xAload_n d137_65 rfl).trans (xInvV [vR 87] [] d137_66 zo_137 zml_11_110 rfl rfl rfl (Or.inl ⟨rfl, (Nat.le_of_ble_eq_true rfl)⟩))))))) ((xIconst d137_63).trans ((xIstore_n d137_64 rfl rfl).trans ((xAload_n d137_65 rfl).trans (xInvV [vR 87] [] d137_66 zo_137 zml_11_110 rfl rfl rfl (Or.inl ⟨rfl, (Nat.le_of_ble_eq_true rfl)⟩))))))))
theorem e137_69 {I : Nat → Int → Int} {b : Bool} {S : Nat} {a1 a2 a3 : Int} : zX 137 69 [vR 87, vI a1, vI a2, vI a3] [] (I, zRs b, 103, S) = some (some (vI a3), (I, zRs b, 103, S)) := (xIload_n d137_69 rfl).trans (xIret d137_70 zret_137)
theorem run138 {h : zH} {x0 : Int} : zrun 138 [vR 87, vI x0] h = zX 138 0 [vR 87, vI x0] [] h := rfl
theorem e138_0 {I : Nat → Int → Int} {b : Bool} {S : Nat} {x0 : Int} : zX 138 0 [vR 87, vI x0] [] (I, zRs b, 103, S) = if (I 87 15) = 0 then (zrun 136 [vR 87, vI x0] (I, zRs b, 103, S)).bind (fun q => zX 138 13 [vR 87, vI x0] (zpush q.1 [vR 87]) q.2) else zX 138 17 [vR 87, vI x0] [] (I, zRs b, 103, S) := (xAload_n d138_0 rfl).trans ((xGetI 15 (I 87 15) rfl d138_1 zo_138 zfl_11_72 (by decide) rfl rfl (Or.inl (Nat.le_of_ble_eq_true rfl))).trans ((xIfNe (t := 17) d138_4 rfl).trans (ziteC ((xAload_n d138_7 rfl).trans ((xAload_n d138_8 rfl).trans ((xIload_n d138_9 rfl).trans (xInvV [vR 87, vI x0] [vR 87] d138_10 zo_138 zml_11_113 rfl rfl rfl (Or.inl ⟨rfl, (Nat.le_of_ble_eq_true rfl)⟩))))) rfl)))
theorem e138_13 {I : Nat → Int → Int} {b : Bool} {S : Nat} {a1 t1 : Int} : zX 138 13 [vR 87, vI a1] [vI t1, vR 87] (I, zRs b, 103, S) = (zrun 129 [vR 87, vI t1, vI 2] (I, zRs b, 103, S)).bind (fun q => zX 138 17 [vR 87, vI a1] (zpush q.1 []) q.2) := (xIconst d138_13).trans (xInvV [vR 87, vI t1, vI 2] [] d138_14 zo_138 zml_11_106 rfl rfl rfl (Or.inl ⟨rfl, (Nat.le_of_ble_eq_true rfl)⟩))
theorem e138_17 {I : Nat → Int → Int} {b : Bool} {S : Nat} {a1 : Int} : zX 138 17 [vR 87, vI a1] [] (I, zRs b, 103, S) = (zrun 135 [vR 87] (I, zRs b, 103, S)).bind (fun q => zX 138 21 [vR 87, vI a1] (zpush q.1 []) q.2) := (xAload_n d138_17 rfl).trans (xInvV [vR 87] [] d138_18 zo_138 zml_11_110 rfl rfl rfl (Or.inl ⟨rfl, (Nat.le_of_ble_eq_true rfl)⟩))
theorem e138_21 {I : Nat → Int → Int} {b : Bool} {S : Nat} {a1 : Int} : zX 138 21 [vR 87, vI a1] [] (I, zRs b, 103, S) = some (none, (I, zRs b, 103, S)) := xVret d138_21 zret_138
end
section
theorem zo_139 : zo 139 = 11 := by decide +kernel
theorem zret_139 : zret 139 = none := by decide +kernel
theorem d139_0 : decode (zb 139) 0 = .ok (.aload_n 0, 1) := by decide +kernel
theorem d139_1 : decode (zb 139) 1 = .ok (.aload_n 0, 1) := by decide +kernel
theorem d139_2 : decode (zb 139) 2 = .ok (.getfield 13, 3) := by decide +kernel
theorem d139_5 : decode (zb 139) 5 = .ok (.iconst 0, 1) := by decide +kernel
theorem d139_6 : decode (zb 139) 6 = .ok (.iaload, 1) := by decide +kernel
theorem d139_7 : decode (zb 139) 7 = .ok (.bipush 8, 2) := by decide +kernel
theorem d139_9 : decode (zb 139) 9 = .ok (.if_icmp .ge 7, 3) := by decide +kernel
theorem d139_12 : decode (zb 139) 12 = .ok (.iconst 1, 1) := by decide +kernel
theorem d139_13 : decode (zb 139) 13 = .ok (.goto 4, 3) := by decide +kernel
theorem d139_16 : decode (zb 139) 16 = .ok (.iconst 0, 1) := by decide +kernel
theorem d139_17 : decode (zb 139) 17 = .ok (.iconst 4, 1) := by decide +kernel
theorem d139_18 : decode (zb 139) 18 = .ok (.invokevirtual 106, 3) := by decide +kernel
theorem d139_21 : decode (zb 139) 21 = .ok (.aload_n 0, 1) := by decide +kernel
theorem d139_22 : decode (zb 139) 22 = .ok (.invokevirtual 110, 3) := by decide +kernel
theorem d139_25 : decode (zb 139) 25 = .ok (.iconst 2, 1) := by decide +kernel
theorem d139_26 : decode (zb 139) 26 = .ok (.bipush 17, 2) := by decide +kernel
theorem d139_28 : decode (zb 139) 28 = .ok (.aload_n 0, 1) := by decide +kernel
theorem d139_29 : decode (zb 139) 29 = .ok (.getfield 13, 3) := by decide +kernel
theorem d139_32 : decode (zb 139) 32 = .ok (.iconst 0, 1) := by decide +kernel
theorem d139_33 : decode (zb 139) 33 = .ok (.iaload, 1) := by decide +kernel
theorem d139_34 : decode (zb 139) 34 = .ok (.bipush 8, 2) := by decide +kernel
theorem d139_36 : decode (zb 139) 36 = .ok (.if_icmp .ge 12, 3) := by decide +kernel
theorem d139_39 : decode (zb 139) 39 = .ok (.aload_n 0, 1) := by decide +kernel
theorem d139_40 : decode (zb 139) 40 = .ok (.getfield 13, 3) := by decide +kernel
theorem d139_43 : decode (zb 139) 43 = .ok (.iconst 0, 1) := by decide +kernel
theorem d139_44 : decode (zb 139) 44 = .ok (.iaload, 1) := by decide +kernel
theorem d139_45 : decode (zb 139) 45 = .ok (.goto 4, 3) := by decide +kernel
theorem d139_48 : decode (zb 139) 48 = .ok (.iconst 0, 1) := by decide +kernel
theorem d139_49 : decode (zb 139) 49 = .ok (.imul, 1) := by decide +kernel
theorem d139_50 : decode (zb 139) 50 = .ok (.iadd, 1) := by decide +kernel
theorem d139_51 : decode (zb 139) 51 = .ok (.istore_n 1, 1) := by decide +kernel
theorem d139_52 : decode (zb 139) 52 = .ok (.aload_n 0, 1) := by decide +kernel
theorem d139_53 : decode (zb 139) 53 = .ok (.getfield 72, 3) := by decide +kernel
theorem d139_56 : decode (zb 139) 56 = .ok (.ifCond .ne 7, 3) := by decide +kernel
theorem d139_59 : decode (zb 139) 59 = .ok (.iconst 1, 1) := by decide +kernel
theorem d139_60 : decode (zb 139) 60 = .ok (.goto 4, 3) := by decide +kernel
theorem d139_63 : decode (zb 139) 63 = .ok (.iconst 0, 1) := by decide +kernel
theorem d139_64 : decode (zb 139) 64 = .ok (.istore_n 2, 1) := by decide +kernel
theorem d139_65 : decode (zb 139) 65 = .ok (.iload_n 2, 1) := by decide +kernel
theorem d139_66 : decode (zb 139) 66 = .ok (.ifCond .eq 107, 3) := by decide +kernel
theorem d139_69 : decode (zb 139) 69 = .ok (.aload_n 0, 1) := by decide +kernel
theorem d139_70 : decode (zb 139) 70 = .ok (.aload_n 0, 1) := by decide +kernel
theorem d139_71 : decode (zb 139) 71 = .ok (.getfield 81, 3) := by decide +kernel
theorem d139_74 : decode (zb 139) 74 = .ok (.iconst 2, 1) := by decide +kernel
theorem d139_75 : decode (zb 139) 75 = .ok (.if_icmp .ne 7, 3) := by decide +kernel
theorem d139_78 : decode (zb 139) 78 = .ok (.iconst 1, 1) := by decide +kernel
theorem d139_79 : decode (zb 139) 79 = .ok (.goto 4, 3) := by decide +kernel
theorem d139_82 : decode (zb 139) 82 = .ok (.iconst 0, 1) := by decide +kernel
theorem d139_83 : decode (zb 139) 83 = .ok (.iconst 2, 1) := by decide +kernel
theorem d139_84 : decode (zb 139) 84 = .ok (.invokevirtual 106, 3) := by decide +kernel
theorem d139_87 : decode (zb 139) 87 = .ok (.aload_n 0, 1) := by decide +kernel
theorem d139_88 : decode (zb 139) 88 = .ok (.aload_n 0, 1) := by decide +kernel
theorem d139_89 : decode (zb 139) 89 = .ok (.getfield 13, 3) := by decide +kernel
theorem d139_92 : decode (zb 139) 92 = .ok (.iload_n 1, 1) := by decide +kernel
theorem d139_93 : decode (zb 139) 93 = .ok (.iaload, 1) := by decide +kernel
theorem d139_94 : decode (zb 139) 94 = .ok (.bipush 16, 2) := by decide +kernel
theorem d139_96 : decode (zb 139) 96 = .ok (.if_icmp .ge 7, 3) := by decide +kernel
theorem d139_99 : decode (zb 139) 99 = .ok (.iconst 1, 1) := by decide +kernel
theorem d139_100 : decode (zb 139) 100 = .ok (.goto 4, 3) := by decide +kernel
theorem d139_103 : decode (zb 139) 103 = .ok (.iconst 0, 1) := by decide +kernel
theorem d139_104 : decode (zb 139) 104 = .ok (.iconst 4, 1) := by decide +kernel
theorem d139_105 : decode (zb 139) 105 = .ok (.invokevirtual 106, 3) := by decide +kernel
theorem d139_108 : decode (zb 139) 108 = .ok (.aload_n 0, 1) := by decide +kernel
theorem d139_109 : decode (zb 139) 109 = .ok (.iconst 0, 1) := by decide +kernel
theorem d139_110 : decode (zb 139) 110 = .ok (.bipush 99, 2) := by decide +kernel
theorem d139_112 : decode (zb 139) 112 = .ok (.invokevirtual 117, 3) := by decide +kernel
theorem d139_115 : decode (zb 139) 115 = .ok (.istore_n 3, 1) := by decide +kernel
theorem d139_116 : decode (zb 139) 116 = .ok (.aload_n 0, 1) := by decide +kernel
theorem d139_117 : decode (zb 139) 117 = .ok (.getfield 72, 3) := by decide +kernel
theorem d139_120 : decode (zb 139) 120 = .ok (.ifCond .ne 29, 3) := by decide +kernel
theorem d139_123 : decode (zb 139) 123 = .ok (.aload_n 0, 1) := by decide +kernel
theorem d139_124 : decode (zb 139) 124 = .ok (.getfield 13, 3) := by decide +kernel
theorem d139_127 : decode (zb 139) 127 = .ok (.iload_n 1, 1) := by decide +kernel
theorem d139_128 : decode (zb 139) 128 = .ok (.iconst 1, 1) := by decide +kernel
theorem d139_129 : decode (zb 139) 129 = .ok (.iadd, 1) := by decide +kernel
theorem d139_130 : decode (zb 139) 130 = .ok (.aload_n 0, 1) := by decide +kernel
theorem d139_131 : decode (zb 139) 131 = .ok (.getfield 13, 3) := by decide +kernel
theorem d139_134 : decode (zb 139) 134 = .ok (.iload_n 1, 1) := by decide +kernel
theorem d139_135 : decode (zb 139) 135 = .ok (.iaload, 1) := by decide +kernel
theorem d139_136 : decode (zb 139) 136 = .ok (.iadd, 1) := by decide +kernel
theorem d139_137 : decode (zb 139) 137 = .ok (.iload_n 3, 1) := by decide +kernel
theorem d139_138 : decode (zb 139) 138 = .ok (.iastore, 1) := by decide +kernel
theorem d139_139 : decode (zb 139) 139 = .ok (.aload_n 0, 1) := by decide +kernel
theorem d139_140 : decode (zb 139) 140 = .ok (.getfield 13, 3) := by decide +kernel
theorem d139_143 : decode (zb 139) 143 = .ok (.iload_n 1, 1) := by decide +kernel
theorem d139_144 : decode (zb 139) 144 = .ok (.dup2, 1) := by decide +kernel
theorem d139_145 : decode (zb 139) 145 = .ok (.iaload, 1) := by decide +kernel
theorem d139_146 : decode (zb 139) 146 = .ok (.iconst 1, 1) := by decide +kernel
theorem d139_147 : decode (zb 139) 147 = .ok (.iadd, 1) := by decide +kernel
theorem d139_148 : decode (zb 139) 148 = .ok (.iastore, 1) := by decide +kernel
theorem d139_149 : decode (zb 139) 149 = .ok (.aload_n 0, 1) := by decide +kernel
theorem d139_150 : decode (zb 139) 150 = .ok (.getfield 72, 3) := by decide +kernel
theorem d139_153 : decode (zb 139) 153 = .ok (.ifCond .ne 15, 3) := by decide +kernel
theorem d139_156 : decode (zb 139) 156 = .ok (.aload_n 0, 1) := by decide +kernel
theorem d139_157 : decode (zb 139) 157 = .ok (.getfield 81, 3) := by decide +kernel
theorem d139_160 : decode (zb 139) 160 = .ok (.iconst 2, 1) := by decide +kernel
theorem d139_161 : decode (zb 139) 161 = .ok (.if_icmp .ne 7, 3) := by decide +kernel
theorem d139_164 : decode (zb 139) 164 = .ok (.iconst 1, 1) := by decide +kernel
theorem d139_165 : decode (zb 139) 165 = .ok (.goto 4, 3) := by decide +kernel
theorem d139_168 : decode (zb 139) 168 = .ok (.iconst 0, 1) := by decide +kernel
theorem d139_169 : decode (zb 139) 169 = .ok (.istore_n 2, 1) := by decide +kernel
theorem d139_170 : decode (zb 139) 170 = .ok (.goto (-105), 3) := by decide +kernel
theorem d139_173 : decode (zb 139) 173 = .ok (.aload_n 0, 1) := by decide +kernel
theorem d139_174 : decode (zb 139) 174 = .ok (.bipush 59, 2) := by decide +kernel
theorem d139_176 : decode (zb 139) 176 = .ok (.invokevirtual 121, 3) := by decide +kernel
theorem d139_179 : decode (zb 139) 179 = .ok (.aload_n 0, 1) := by decide +kernel
theorem d139_180 : decode (zb 139) 180 = .ok (.getfield 13, 3) := by decide +kernel
theorem d139_183 : decode (zb 139) 183 = .ok (.iconst 0, 1) := by decide +kernel
theorem d139_184 : decode (zb 139) 184 = .ok (.dup2, 1) := by decide +kernel
theorem d139_185 : decode (zb 139) 185 = .ok (.iaload, 1) := by decide +kernel
theorem d139_186 : decode (zb 139) 186 = .ok (.iconst 1, 1) := by decide +kernel
theorem d139_187 : decode (zb 139) 187 = .ok (.iadd, 1) := by decide +kernel
theorem d139_188 : decode (zb 139) 188 = .ok (.iastore, 1) := by decide +kernel
theorem d139_189 : decode (zb 139) 189 = .ok (.return_, 1) := by decide +kernel
theorem zo_140 : zo 140 = 11 := by decide +kernel
theorem zret_140 : zret 140 = none := by decide +kernel
theorem d140_0 : decode (zb 140) 0 = .ok (.sipush 138, 3) := by decide +kernel
theorem d140_3 : decode (zb 140) 3 = .ok (.iconst 4, 1) := by decide +kernel
theorem d140_4 : decode (zb 140) 4 = .ok (.aload_n 0, 1) := by decide +kernel
theorem d140_5 : decode (zb 140) 5 = .ok (.getfield 13, 3) := by decide +kernel
theorem d140_8 : decode (zb 140) 8 = .ok (.iconst 1, 1) := by decide +kernel
theorem d140_9 : decode (zb 140) 9 = .ok (.iaload, 1) := by decide +kernel
theorem d140_10 : decode (zb 140) 10 = .ok (.imul, 1) := by decide +kernel
theorem d140_11 : decode (zb 140) 11 = .ok (.iadd, 1) := by decide +kernel
theorem d140_12 : decode (zb 140) 12 = .ok (.istore 4, 2) := by decide +kernel
theorem d140_14 : decode (zb 140) 14 = .ok (.aload_n 0, 1) := by decide +kernel
theorem d140_15 : decode (zb 140) 15 = .ok (.getfield 13, 3) := by decide +kernel
theorem d140_18 : decode (zb 140) 18 = .ok (.iload 4, 2) := by decide +kernel
theorem d140_20 : decode (zb 140) 20 = .ok (.iload_n 1, 1) := by decide +kernel
theorem d140_21 : decode (zb 140) 21 = .ok (.iastore, 1) := by decide +kernel
theorem d140_22 : decode (zb 140) 22 = .ok (.aload_n 0, 1) := by decide +kernel
theorem d140_23 : decode (zb 140) 23 = .ok (.getfield 13, 3) := by decide +kernel
theorem d140_26 : decode (zb 140) 26 = .ok (.iload 4, 2) := by decide +kernel
theorem d140_28 : decode (zb 140) 28 = .ok (.iconst 1, 1) := by decide +kernel
theorem d140_29 : decode (zb 140) 29 = .ok (.iadd, 1) := by decide +kernel
theorem d140_30 : decode (zb 140) 30 = .ok (.iload_n 2, 1) := by decide +kernel
theorem d140_31 : decode (zb 140) 31 = .ok (.iastore, 1) := by decide +kernel
theorem d140_32 : decode (zb 140) 32 = .ok (.aload_n 0, 1) := by decide +kernel
theorem d140_33 : decode (zb 140) 33 = .ok (.getfield 13, 3) := by decide +kernel
theorem d140_36 : decode (zb 140) 36 = .ok (.iload 4, 2) := by decide +kernel
theorem d140_38 : decode (zb 140) 38 = .ok (.iconst 2, 1) := by decide +kernel
theorem d140_39 : decode (zb 140) 39 = .ok (.iadd, 1) := by decide +kernel
theorem d140_40 : decode (zb 140) 40 = .ok (.iload_n 3, 1) := by decide +kernel
theorem d140_41 : decode (zb 140) 41 = .ok (.iastore, 1) := by decide +kernel
theorem d140_42 : decode (zb 140) 42 = .ok (.aload_n 0, 1) := by decide +kernel
theorem d140_43 : decode (zb 140) 43 = .ok (.getfield 13, 3) := by decide +kernel
theorem d140_46 : decode (zb 140) 46 = .ok (.iload 4, 2) := by decide +kernel
theorem d140_48 : decode (zb 140) 48 = .ok (.iconst 3, 1) := by decide +kernel
theorem d140_49 : decode (zb 140) 49 = .ok (.iadd, 1) := by decide +kernel
theorem d140_50 : decode (zb 140) 50 = .ok (.aload_n 0, 1) := by decide +kernel
theorem d140_51 : decode (zb 140) 51 = .ok (.getfield 125, 3) := by decide +kernel
theorem d140_54 : decode (zb 140) 54 = .ok (.iastore, 1) := by decide +kernel
theorem d140_55 : decode (zb 140) 55 = .ok (.aload_n 0, 1) := by decide +kernel
theorem d140_56 : decode (zb 140) 56 = .ok (.getfield 13, 3) := by decide +kernel
theorem d140_59 : decode (zb 140) 59 = .ok (.iconst 1, 1) := by decide +kernel
theorem d140_60 : decode (zb 140) 60 = .ok (.dup2, 1) := by decide +kernel
theorem d140_61 : decode (zb 140) 61 = .ok (.iaload, 1) := by decide +kernel
theorem d140_62 : decode (zb 140) 62 = .ok (.iconst 1, 1) := by decide +kernel
theorem d140_63 : decode (zb 140) 63 = .ok (.iadd, 1) := by decide +kernel
theorem d140_64 : decode (zb 140) 64 = .ok (.iastore, 1) := by decide +kernel
theorem d140_65 : decode (zb 140) 65 = .ok (.return_, 1) := by decide +kernel
theorem zo_141 : zo 141 = 11 := by decide +kernel
theorem zret_141 : zret 141 = none := by decide +kernel
theorem d141_0 : decode (zb 141) 0 = .ok (.aload_n 0, 1) := by decide +kernel
theorem d141_1 : decode (zb 141) 1 = .ok (.dup, 1) := by decide +kernel
theorem d141_2 : decode (zb 141) 2 = .ok (.getfield 125, 3) := by decide +kernel
theorem d141_5 : decode (zb 141) 5 = .ok (.iconst 1, 1) := by decide +kernel
theorem d141_6 : decode (zb 141) 6 = .ok (.isub, 1) := by decide +kernel
theorem d141_7 : decode (zb 141) 7 = .ok (.putfield 125, 3) := by decide +kernel
theorem d141_10 : decode (zb 141) 10 = .ok (.aload_n 0, 1) := by decide +kernel
theorem d141_11 : decode (zb 141) 11 = .ok (.getfield 38, 3) := by decide +kernel
theorem d141_14 : decode (zb 141) 14 = .ok (.aload_n 0, 1) := by decide +kernel
theorem d141_15 : decode (zb 141) 15 = .ok (.getfield 125, 3) := by decide +kernel
theorem d141_18 : decode (zb 141) 18 = .ok (.iaload, 1) := by decide +kernel
theorem d141_19 : decode (zb 141) 19 = .ok (.istore_n 1, 1) := by decide +kernel
theorem d141_20 : decode (zb 141) 20 = .ok (.aload_n 0, 1) := by decide +kernel
theorem d141_21 : decode (zb 141) 21 = .ok (.getfield 13, 3) := by decide +kernel
theorem d141_24 : decode (zb 141) 24 = .ok (.sipush 138, 3) := by decide +kernel
theorem d141_27 : decode (zb 141) 27 = .ok (.iconst 4, 1) := by decide +kernel
theorem d141_28 : decode (zb 141) 28 = .ok (.iload_n 1, 1) := by decide +kernel
theorem d141_29 : decode (zb 141) 29 = .ok (.imul, 1) := by decide +kernel
theorem d141_30 : decode (zb 141) 30 = .ok (.iadd, 1) := by decide +kernel
theorem d141_31 : decode (zb 141) 31 = .ok (.iconst 2, 1) := by decide +kernel
theorem d141_32 : decode (zb 141) 32 = .ok (.iadd, 1) := by decide +kernel
theorem d141_33 : decode (zb 141) 33 = .ok (.aload_n 0, 1) := by decide +kernel
theorem d141_34 : decode (zb 141) 34 = .ok (.getfield 13, 3) := by decide +kernel
theorem d141_37 : decode (zb 141) 37 = .ok (.iconst 1, 1) := by decide +kernel
theorem d141_38 : decode (zb 141) 38 = .ok (.iaload, 1) := by decide +kernel
theorem d141_39 : decode (zb 141) 39 = .ok (.iastore, 1) := by decide +kernel
theorem d141_40 : decode (zb 141) 40 = .ok (.aload_n 0, 1) := by decide +kernel
theorem d141_41 : decode (zb 141) 41 = .ok (.iconst 4, 1) := by decide +kernel
theorem d141_42 : decode (zb 141) 42 = .ok (.aload_n 0, 1) := by decide +kernel
theorem d141_43 : decode (zb 141) 43 = .ok (.getfield 13, 3) := by decide +kernel
theorem d141_46 : decode (zb 141) 46 = .ok (.sipush 138, 3) := by decide +kernel
theorem d141_49 : decode (zb 141) 49 = .ok (.iconst 4, 1) := by decide +kernel
theorem d141_50 : decode (zb 141) 50 = .ok (.iload_n 1, 1) := by decide +kernel
theorem d141_51 : decode (zb 141) 51 = .ok (.imul, 1) := by decide +kernel
theorem d141_52 : decode (zb 141) 52 = .ok (.iadd, 1) := by decide +kernel
theorem d141_53 : decode (zb 141) 53 = .ok (.iconst 1, 1) := by decide +kernel
theorem d141_54 : decode (zb 141) 54 = .ok (.iadd, 1) := by decide +kernel
theorem d141_55 : decode (zb 141) 55 = .ok (.iaload, 1) := by decide +kernel
theorem d141_56 : decode (zb 141) 56 = .ok (.iload_n 1, 1) := by decide +kernel
theorem d141_57 : decode (zb 141) 57 = .ok (.invokevirtual 128, 3) := by decide +kernel
theorem d141_60 : decode (zb 141) 60 = .ok (.aload_n 0, 1) := by decide +kernel
theorem d141_61 : decode (zb 141) 61 = .ok (.getfield 125, 3) := by decide +kernel
theorem d141_64 : decode (zb 141) 64 = .ok (.ifCond .le 45, 3) := by decide +kernel
theorem d141_67 : decode (zb 141) 67 = .ok (.aload_n 0, 1) := by decide +kernel
theorem d141_68 : decode (zb 141) 68 = .ok (.getfield 41, 3) := by decide +kernel
theorem d141_71 : decode (zb 141) 71 = .ok (.aload_n 0, 1) := by decide +kernel
theorem d141_72 : decode (zb 141) 72 = .ok (.getfield 125, 3) := by decide +kernel
theorem d141_75 : decode (zb 141) 75 = .ok (.iconst 1, 1) := by decide +kernel
theorem d141_76 : decode (zb 141) 76 = .ok (.isub, 1) := by decide +kernel
theorem d141_77 : decode (zb 141) 77 = .ok (.aload_n 0, 1) := by decide +kernel
theorem d141_78 : decode (zb 141) 78 = .ok (.getfield 41, 3) := by decide +kernel
theorem d141_81 : decode (zb 141) 81 = .ok (.aload_n 0, 1) := by decide +kernel
theorem d141_82 : decode (zb 141) 82 = .ok (.getfield 125, 3) := by decide +kernel
theorem d141_85 : decode (zb 141) 85 = .ok (.iconst 1, 1) := by decide +kernel
theorem d141_86 : decode (zb 141) 86 = .ok (.isub, 1) := by decide +kernel
theorem d141_87 : decode (zb 141) 87 = .ok (.baload, 1) := by decide +kernel
theorem d141_88 : decode (zb 141) 88 = .ok (.ifCond .ne 15, 3) := by decide +kernel
theorem d141_91 : decode (zb 141) 91 = .ok (.aload_n 0, 1) := by decide +kernel
theorem d141_92 : decode (zb 141) 92 = .ok (.getfield 41, 3) := by decide +kernel
theorem d141_95 : decode (zb 141) 95 = .ok (.aload_n 0, 1) := by decide +kernel
theorem d141_96 : decode (zb 141) 96 = .ok (.getfield 125, 3) := by decide +kernel
theorem d141_99 : decode (zb 141) 99 = .ok (.baload, 1) := by decide +kernel
theorem d141_100 : decode (zb 141) 100 = .ok (.ifCond .eq 7, 3) := by decide +kernel
theorem d141_103 : decode (zb 141) 103 = .ok (.iconst 1, 1) := by decide +kernel
theorem d141_104 : decode (zb 141) 104 = .ok (.goto 4, 3) := by decide +kernel
theorem d141_107 : decode (zb 141) 107 = .ok (.iconst 0, 1) := by decide +kernel
theorem d141_108 : decode (zb 141) 108 = .ok (.bastore, 1) := by decide +kernel
theorem d141_109 : decode (zb 141) 109 = .ok (.return_, 1) := by decide +kernel
theorem zo_142 : zo 142 = 11 := by decide +kernel
theorem zret_142 : zret 142 = none := by decide +kernel
theorem d142_0 : decode (zb 142) 0 = .ok (.aload_n 0, 1) := by decide +kernel
theorem d142_1 : decode (zb 142) 1 = .ok (.iload_n 1, 1) := by decide +kernel
theorem d142_2 : decode (zb 142) 2 = .ok (.iload_n 2, 1) := by decide +kernel
theorem d142_3 : decode (zb 142) 3 = .ok (.bipush (-4), 2) := by decide +kernel
theorem d142_5 : decode (zb 142) 5 = .ok (.invokevirtual 128, 3) := by decide +kernel
theorem d142_8 : decode (zb 142) 8 = .ok (.aload_n 0, 1) := by decide +kernel
theorem d142_9 : decode (zb 142) 9 = .ok (.getfield 38, 3) := by decide +kernel
theorem d142_12 : decode (zb 142) 12 = .ok (.aload_n 0, 1) := by decide +kernel
theorem d142_13 : decode (zb 142) 13 = .ok (.getfield 125, 3) := by decide +kernel
theorem d142_16 : decode (zb 142) 16 = .ok (.aload_n 0, 1) := by decide +kernel
theorem d142_17 : decode (zb 142) 17 = .ok (.getfield 13, 3) := by decide +kernel
theorem d142_20 : decode (zb 142) 20 = .ok (.iconst 1, 1) := by decide +kernel
theorem d142_21 : decode (zb 142) 21 = .ok (.iaload, 1) := by decide +kernel
theorem d142_22 : decode (zb 142) 22 = .ok (.iconst 1, 1) := by decide +kernel
theorem d142_23 : decode (zb 142) 23 = .ok (.isub, 1) := by decide +kernel
theorem d142_24 : decode (zb 142) 24 = .ok (.iastore, 1) := by decide +kernel
theorem d142_25 : decode (zb 142) 25 = .ok (.aload_n 0, 1) := by decide +kernel
theorem d142_26 : decode (zb 142) 26 = .ok (.getfield 41, 3) := by decide +kernel
theorem d142_29 : decode (zb 142) 29 = .ok (.aload_n 0, 1) := by decide +kernel
theorem d142_30 : decode (zb 142) 30 = .ok (.getfield 125, 3) := by decide +kernel
theorem d142_33 : decode (zb 142) 33 = .ok (.iconst 0, 1) := by decide +kernel
theorem d142_34 : decode (zb 142) 34 = .ok (.bastore, 1) := by decide +kernel
theorem d142_35 : decode (zb 142) 35 = .ok (.aload_n 0, 1) := by decide +kernel
theorem d142_36 : decode (zb 142) 36 = .ok (.dup, 1) := by decide +kernel
theorem d142_37 : decode (zb 142) 37 = .ok (.getfield 125, 3) := by decide +kernel
theorem d142_40 : decode (zb 142) 40 = .ok (.iconst 1, 1) := by decide +kernel
theorem d142_41 : decode (zb 142) 41 = .ok (.iadd, 1) := by decide +kernel
theorem d142_42 : decode (zb 142) 42 = .ok (.putfield 125, 3) := by decide +kernel
theorem d142_45 : decode (zb 142) 45 = .ok (.return_, 1) := by decide +kernel
theorem zo_143 : zo 143 = 11 := by decide +kernel
theorem zret_143 : zret 143 = none := by decide +kernel
theorem d143_0 : decode (zb 143) 0 = .ok (.aload_n 0, 1) := by decide +kernel
theorem d143_1 : decode (zb 143) 1 = .ok (.invokevirtual 110, 3) := by decide +kernel
theorem d143_4 : decode (zb 143) 4 = .ok (.iload_n 1, 1) := by decide +kernel
theorem d143_5 : decode (zb 143) 5 = .ok (.ifCond .ne 54, 3) := by decide +kernel
theorem d143_8 : decode (zb 143) 8 = .ok (.aload_n 0, 1) := by decide +kernel
theorem d143_9 : decode (zb 143) 9 = .ok (.iconst 0, 1) := by decide +kernel
theorem d143_10 : decode (zb 143) 10 = .ok (.aload_n 0, 1) := by decide +kernel
theorem d143_11 : decode (zb 143) 11 = .ok (.getfield 13, 3) := by decide +kernel
theorem d143_14 : decode (zb 143) 14 = .ok (.iconst 0, 1) := by decide +kernel
theorem d143_15 : decode (zb 143) 15 = .ok (.iaload, 1) := by decide +kernel
theorem d143_16 : decode (zb 143) 16 = .ok (.iconst 1, 1) := by decide +kernel
theorem d143_17 : decode (zb 143) 17 = .ok (.isub, 1) := by decide +kernel
theorem d143_18 : decode (zb 143) 18 = .ok (.invokevirtual 117, 3) := by decide +kernel
theorem d143_21 : decode (zb 143) 21 = .ok (.istore_n 2, 1) := by decide +kernel
theorem d143_22 : decode (zb 143) 22 = .ok (.aload_n 0, 1) := by decide +kernel
theorem d143_23 : decode (zb 143) 23 = .ok (.getfield 72, 3) := by decide +kernel
theorem d143_26 : decode (zb 143) 26 = .ok (.ifCond .ne 30, 3) := by decide +kernel
theorem d143_29 : decode (zb 143) 29 = .ok (.aload_n 0, 1) := by decide +kernel
theorem d143_30 : decode (zb 143) 30 = .ok (.iconst 0, 1) := by decide +kernel
theorem d143_31 : decode (zb 143) 31 = .ok (.iload_n 2, 1) := by decide +kernel
theorem d143_32 : decode (zb 143) 32 = .ok (.bipush (-4), 2) := by decide +kernel
theorem d143_34 : decode (zb 143) 34 = .ok (.invokevirtual 128, 3) := by decide +kernel
theorem d143_37 : decode (zb 143) 37 = .ok (.aload_n 0, 1) := by decide +kernel
theorem d143_38 : decode (zb 143) 38 = .ok (.getfield 125, 3) := by decide +kernel
theorem d143_41 : decode (zb 143) 41 = .ok (.ifCond .le 15, 3) := by decide +kernel
theorem d143_44 : decode (zb 143) 44 = .ok (.aload_n 0, 1) := by decide +kernel
theorem d143_45 : decode (zb 143) 45 = .ok (.getfield 41, 3) := by decide +kernel
theorem d143_48 : decode (zb 143) 48 = .ok (.aload_n 0, 1) := by decide +kernel
theorem d143_49 : decode (zb 143) 49 = .ok (.getfield 125, 3) := by decide +kernel
theorem d143_52 : decode (zb 143) 52 = .ok (.iconst 1, 1) := by decide +kernel
theorem d143_53 : decode (zb 143) 53 = .ok (.isub, 1) := by decide +kernel
theorem d143_54 : decode (zb 143) 54 = .ok (.iconst 1, 1) := by decide +kernel
theorem d143_55 : decode (zb 143) 55 = .ok (.bastore, 1) := by decide +kernel
theorem d143_56 : decode (zb 143) 56 = .ok (.goto 113, 3) := by decide +kernel
theorem d143_59 : decode (zb 143) 59 = .ok (.iload_n 1, 1) := by decide +kernel
theorem d143_60 : decode (zb 143) 60 = .ok (.iconst 1, 1) := by decide +kernel
theorem d143_61 : decode (zb 143) 61 = .ok (.if_icmp .ne 29, 3) := by decide +kernel
theorem d143_64 : decode (zb 143) 64 = .ok (.aload_n 0, 1) := by decide +kernel
theorem d143_65 : decode (zb 143) 65 = .ok (.iconst 0, 1) := by decide +kernel
theorem d143_66 : decode (zb 143) 66 = .ok (.bipush 9, 2) := by decide +kernel
theorem d143_68 : decode (zb 143) 68 = .ok (.invokevirtual 117, 3) := by decide +kernel
theorem d143_71 : decode (zb 143) 71 = .ok (.istore_n 2, 1) := by decide +kernel
theorem d143_72 : decode (zb 143) 72 = .ok (.aload_n 0, 1) := by decide +kernel
theorem d143_73 : decode (zb 143) 73 = .ok (.getfield 72, 3) := by decide +kernel
theorem d143_76 : decode (zb 143) 76 = .ok (.ifCond .ne 11, 3) := by decide +kernel
theorem d143_79 : decode (zb 143) 79 = .ok (.aload_n 0, 1) := by decide +kernel
theorem d143_80 : decode (zb 143) 80 = .ok (.iconst 1, 1) := by decide +kernel
theorem d143_81 : decode (zb 143) 81 = .ok (.iload_n 2, 1) := by decide +kernel
theorem d143_82 : decode (zb 143) 82 = .ok (.bipush (-4), 2) := by decide +kernel
theorem d143_84 : decode (zb 143) 84 = .ok (.invokevirtual 128, 3) := by decide +kernel
theorem d143_87 : decode (zb 143) 87 = .ok (.goto 82, 3) := by decide +kernel
theorem d143_90 : decode (zb 143) 90 = .ok (.aload_n 0, 1) := by decide +kernel
theorem d143_91 : decode (zb 143) 91 = .ok (.iload_n 1, 1) := by decide +kernel
theorem d143_92 : decode (zb 143) 92 = .ok (.iconst 2, 1) := by decide +kernel
theorem d143_93 : decode (zb 143) 93 = .ok (.if_icmp .ne 7, 3) := by decide +kernel
theorem d143_96 : decode (zb 143) 96 = .ok (.iconst 1, 1) := by decide +kernel
theorem d143_97 : decode (zb 143) 97 = .ok (.goto 4, 3) := by decide +kernel
theorem d143_100 : decode (zb 143) 100 = .ok (.iconst 0, 1) := by decide +kernel
theorem d143_101 : decode (zb 143) 101 = .ok (.iload_n 1, 1) := by decide +kernel
theorem d143_102 : decode (zb 143) 102 = .ok (.iconst 2, 1) := by decide +kernel
theorem d143_103 : decode (zb 143) 103 = .ok (.if_icmp .ne 8, 3) := by decide +kernel
theorem d143_106 : decode (zb 143) 106 = .ok (.bipush 9, 2) := by decide +kernel
theorem d143_108 : decode (zb 143) 108 = .ok (.goto 4, 3) := by decide +kernel
theorem d143_111 : decode (zb 143) 111 = .ok (.iconst 3, 1) := by decide +kernel
theorem d143_112 : decode (zb 143) 112 = .ok (.invokevirtual 117, 3) := by decide +kernel
theorem d143_115 : decode (zb 143) 115 = .ok (.istore_n 2, 1) := by decide +kernel
theorem d143_116 : decode (zb 143) 116 = .ok (.aload_n 0, 1) := by decide +kernel
theorem d143_117 : decode (zb 143) 117 = .ok (.getfield 72, 3) := by decide +kernel
theorem d143_120 : decode (zb 143) 120 = .ok (.ifCond .ne 32, 3) := by decide +kernel
theorem d143_123 : decode (zb 143) 123 = .ok (.aload_n 0, 1) := by decide +kernel
theorem d143_124 : decode (zb 143) 124 = .ok (.aload_n 0, 1) := by decide +kernel
theorem d143_125 : decode (zb 143) 125 = .ok (.bipush 40, 2) := by decide +kernel
theorem d143_127 : decode (zb 143) 127 = .ok (.invokevirtual 113, 3) := by decide +kernel
theorem d143_130 : decode (zb 143) 130 = .ok (.iconst 2, 1) := by decide +kernel
theorem d143_131 : decode (zb 143) 131 = .ok (.invokevirtual 106, 3) := by decide +kernel
theorem d143_134 : decode (zb 143) 134 = .ok (.aload_n 0, 1) := by decide +kernel
theorem d143_135 : decode (zb 143) 135 = .ok (.aload_n 0, 1) := by decide +kernel
theorem d143_136 : decode (zb 143) 136 = .ok (.getfield 125, 3) := by decide +kernel
theorem d143_139 : decode (zb 143) 139 = .ok (.iconst 4, 1) := by decide +kernel
theorem d143_140 : decode (zb 143) 140 = .ok (.if_icmp .ge 7, 3) := by decide +kernel
theorem d143_143 : decode (zb 143) 143 = .ok (.iconst 1, 1) := by decide +kernel
theorem d143_144 : decode (zb 143) 144 = .ok (.goto 4, 3) := by decide +kernel
theorem d143_147 : decode (zb 143) 147 = .ok (.iconst 0, 1) := by decide +kernel
theorem d143_148 : decode (zb 143) 148 = .ok (.iconst 5, 1) := by decide +kernel
theorem d143_149 : decode (zb 143) 149 = .ok (.invokevirtual 106, 3) := by decide +kernel
theorem d143_152 : decode (zb 143) 152 = .ok (.aload_n 0, 1) := by decide +kernel
theorem d143_153 : decode (zb 143) 153 = .ok (.getfield 72, 3) := by decide +kernel
theorem d143_156 : decode (zb 143) 156 = .ok (.ifCond .ne 9, 3) := by decide +kernel
theorem d143_159 : decode (zb 143) 159 = .ok (.aload_n 0, 1) := by decide +kernel
theorem d143_160 : decode (zb 143) 160 = .ok (.iload_n 1, 1) := by decide +kernel
theorem d143_161 : decode (zb 143) 161 = .ok (.iload_n 2, 1) := by decide +kernel
theorem d143_162 : decode (zb 143) 162 = .ok (.invokevirtual 132, 3) := by decide +kernel
theorem d143_165 : decode (zb 143) 165 = .ok (.aload_n 0, 1) := by decide +kernel
theorem d143_166 : decode (zb 143) 166 = .ok (.invokevirtual 110, 3) := by decide +kernel
theorem d143_169 : decode (zb 143) 169 = .ok (.return_, 1) := by decide +kernel
theorem zo_144 : zo 144 = 11 := by decide +kernel
theorem zret_144 : zret 144 = none := by decide +kernel
theorem d144_0 : decode (zb 144) 0 = .ok (.aload_n 0, 1) := by decide +kernel
theorem d144_1 : decode (zb 144) 1 = .ok (.getfield 72, 3) := by decide +kernel
theorem d144_4 : decode (zb 144) 4 = .ok (.ifCond .ne 7, 3) := by decide +kernel
theorem d144_7 : decode (zb 144) 7 = .ok (.iconst 1, 1) := by decide +kernel
theorem d144_8 : decode (zb 144) 8 = .ok (.goto 4, 3) := by decide +kernel
theorem d144_11 : decode (zb 144) 11 = .ok (.iconst 0, 1) := by decide +kernel
theorem d144_12 : decode (zb 144) 12 = .ok (.istore_n 1, 1) := by decide +kernel
theorem d144_13 : decode (zb 144) 13 = .ok (.iload_n 1, 1) := by decide +kernel
theorem d144_14 : decode (zb 144) 14 = .ok (.ifCond .eq 133, 3) := by decide +kernel
theorem d144_17 : decode (zb 144) 17 = .ok (.aload_n 0, 1) := by decide +kernel
theorem d144_18 : decode (zb 144) 18 = .ok (.invokevirtual 136, 3) := by decide +kernel
theorem d144_21 : decode (zb 144) 21 = .ok (.istore_n 2, 1) := by decide +kernel
theorem d144_22 : decode (zb 144) 22 = .ok (.aload_n 0, 1) := by decide +kernel
theorem d144_23 : decode (zb 144) 23 = .ok (.bipush 41, 2) := by decide +kernel
theorem d144_25 : decode (zb 144) 25 = .ok (.invokevirtual 113, 3) := by decide +kernel
theorem d144_28 : decode (zb 144) 28 = .ok (.ifCond .eq 14, 3) := by decide +kernel
theorem d144_31 : decode (zb 144) 31 = .ok (.aload_n 0, 1) := by decide +kernel
theorem d144_32 : decode (zb 144) 32 = .ok (.getfield 125, 3) := by decide +kernel
theorem d144_35 : decode (zb 144) 35 = .ok (.ifCond .le 7, 3) := by decide +kernel
theorem d144_38 : decode (zb 144) 38 = .ok (.iconst 1, 1) := by decide +kernel
theorem d144_39 : decode (zb 144) 39 = .ok (.goto 4, 3) := by decide +kernel
theorem d144_42 : decode (zb 144) 42 = .ok (.iconst 0, 1) := by decide +kernel
theorem d144_43 : decode (zb 144) 43 = .ok (.istore_n 3, 1) := by decide +kernel
theorem d144_44 : decode (zb 144) 44 = .ok (.iload_n 2, 1) := by decide +kernel
theorem d144_45 : decode (zb 144) 45 = .ok (.bipush (-4), 2) := by decide +kernel
theorem d144_47 : decode (zb 144) 47 = .ok (.if_icmp .ne 12, 3) := by decide +kernel
theorem d144_50 : decode (zb 144) 50 = .ok (.iload_n 3, 1) := by decide +kernel
theorem d144_51 : decode (zb 144) 51 = .ok (.ifCond .ne 8, 3) := by decide +kernel
theorem d144_54 : decode (zb 144) 54 = .ok (.iconst 0, 1) := by decide +kernel
theorem d144_55 : decode (zb 144) 55 = .ok (.istore_n 1, 1) := by decide +kernel
theorem d144_56 : decode (zb 144) 56 = .ok (.goto 88, 3) := by decide +kernel
theorem d144_59 : decode (zb 144) 59 = .ok (.aload_n 0, 1) := by decide +kernel
theorem d144_60 : decode (zb 144) 60 = .ok (.aload_n 0, 1) := by decide +kernel
theorem d144_61 : decode (zb 144) 61 = .ok (.getfield 13, 3) := by decide +kernel
theorem d144_64 : decode (zb 144) 64 = .ok (.iconst 1, 1) := by decide +kernel
theorem d144_65 : decode (zb 144) 65 = .ok (.iaload, 1) := by decide +kernel
theorem d144_66 : decode (zb 144) 66 = .ok (.bipush 24, 2) := by decide +kernel
theorem d144_68 : decode (zb 144) 68 = .ok (.if_icmp .ge 7, 3) := by decide +kernel
theorem d144_71 : decode (zb 144) 71 = .ok (.iconst 1, 1) := by decide +kernel
theorem d144_72 : decode (zb 144) 72 = .ok (.goto 4, 3) := by decide +kernel
theorem d144_75 : decode (zb 144) 75 = .ok (.iconst 0, 1) := by decide +kernel
theorem d144_76 : decode (zb 144) 76 = .ok (.iconst 4, 1) := by decide +kernel
theorem d144_77 : decode (zb 144) 77 = .ok (.invokevirtual 106, 3) := by decide +kernel
theorem d144_80 : decode (zb 144) 80 = .ok (.iload_n 3, 1) := by decide +kernel
theorem d144_81 : decode (zb 144) 81 = .ok (.ifCond .eq 38, 3) := by decide +kernel
theorem d144_84 : decode (zb 144) 84 = .ok (.aload_n 0, 1) := by decide +kernel
theorem d144_85 : decode (zb 144) 85 = .ok (.aload_n 0, 1) := by decide +kernel
theorem d144_86 : decode (zb 144) 86 = .ok (.getfield 41, 3) := by decide +kernel
theorem d144_89 : decode (zb 144) 89 = .ok (.aload_n 0, 1) := by decide +kernel
theorem d144_90 : decode (zb 144) 90 = .ok (.getfield 125, 3) := by decide +kernel
theorem d144_93 : decode (zb 144) 93 = .ok (.iconst 1, 1) := by decide +kernel
theorem d144_94 : decode (zb 144) 94 = .ok (.isub, 1) := by decide +kernel
theorem d144_95 : decode (zb 144) 95 = .ok (.baload, 1) := by decide +kernel
theorem d144_96 : decode (zb 144) 96 = .ok (.bipush 6, 2) := by decide +kernel
theorem d144_98 : decode (zb 144) 98 = .ok (.invokevirtual 106, 3) := by decide +kernel
theorem d144_101 : decode (zb 144) 101 = .ok (.aload_n 0, 1) := by decide +kernel
theorem d144_102 : decode (zb 144) 102 = .ok (.getfield 72, 3) := by decide +kernel
theorem d144_105 : decode (zb 144) 105 = .ok (.ifCond .ne 7, 3) := by decide +kernel
theorem d144_108 : decode (zb 144) 108 = .ok (.aload_n 0, 1) := by decide +kernel
theorem d144_109 : decode (zb 144) 109 = .ok (.invokevirtual 140, 3) := by decide +kernel
theorem d144_112 : decode (zb 144) 112 = .ok (.aload_n 0, 1) := by decide +kernel
theorem d144_113 : decode (zb 144) 113 = .ok (.invokevirtual 110, 3) := by decide +kernel
theorem d144_116 : decode (zb 144) 116 = .ok (.goto 15, 3) := by decide +kernel
theorem d144_119 : decode (zb 144) 119 = .ok (.aload_n 0, 1) := by decide +kernel
theorem d144_120 : decode (zb 144) 120 = .ok (.getfield 72, 3) := by decide +kernel
theorem d144_123 : decode (zb 144) 123 = .ok (.ifCond .ne 8, 3) := by decide +kernel
theorem d144_126 : decode (zb 144) 126 = .ok (.aload_n 0, 1) := by decide +kernel
theorem d144_127 : decode (zb 144) 127 = .ok (.iload_n 2, 1) := by decide +kernel
theorem d144_128 : decode (zb 144) 128 = .ok (.invokevirtual 143, 3) := by decide +kernel
theorem d144_131 : decode (zb 144) 131 = .ok (.aload_n 0, 1) := by decide +kernel
theorem d144_132 : decode (zb 144) 132 = .ok (.getfield 72, 3) := by decide +kernel
theorem d144_135 : decode (zb 144) 135 = .ok (.ifCond .ne 7, 3) := by decide +kernel
theorem d144_138 : decode (zb 144) 138 = .ok (.iconst 1, 1) := by decide +kernel
theorem d144_139 : decode (zb 144) 139 = .ok (.goto 4, 3) := by decide +kernel
theorem d144_142 : decode (zb 144) 142 = .ok (.iconst 0, 1) := by decide +kernel
theorem d144_143 : decode (zb 144) 143 = .ok (.istore_n 1, 1) := by decide +kernel
theorem d144_144 : decode (zb 144) 144 = .ok (.goto (-131), 3) := by decide +kernel
theorem d144_147 : decode (zb 144) 147 = .ok (.aload_n 0, 1) := by decide +kernel
theorem d144_148 : decode (zb 144) 148 = .ok (.getfield 72, 3) := by decide +kernel
theorem d144_151 : decode (zb 144) 151 = .ok (.ifCond .ne 20, 3) := by decide +kernel
theorem d144_154 : decode (zb 144) 154 = .ok (.aload_n 0, 1) := by decide +kernel
theorem d144_155 : decode (zb 144) 155 = .ok (.aload_n 0, 1) := by decide +kernel
theorem d144_156 : decode (zb 144) 156 = .ok (.getfield 125, 3) := by decide +kernel
theorem d144_159 : decode (zb 144) 159 = .ok (.ifCond .ne 7, 3) := by decide +kernel
theorem d144_162 : decode (zb 144) 162 = .ok (.iconst 1, 1) := by decide +kernel
theorem d144_163 : decode (zb 144) 163 = .ok (.goto 4, 3) := by decide +kernel
theorem d144_166 : decode (zb 144) 166 = .ok (.iconst 0, 1) := by decide +kernel
theorem d144_167 : decode (zb 144) 167 = .ok (.iconst 2, 1) := by decide +kernel
theorem d144_168 : decode (zb 144) 168 = .ok (.invokevirtual 106, 3) := by decide +kernel
theorem d144_171 : decode (zb 144) 171 = .ok (.aload_n 0, 1) := by decide +kernel
theorem d144_172 : decode (zb 144) 172 = .ok (.bipush 59, 2) := by decide +kernel
theorem d144_174 : decode (zb 144) 174 = .ok (.invokevirtual 121, 3) := by decide +kernel
theorem d144_177 : decode (zb 144) 177 = .ok (.return_, 1) := by decide +kernel
theorem zo_145 : zo 145 = 11 := by decide +kernel
theorem zret_145 : zret 145 = some .int := by decide +kernel
theorem d145_0 : decode (zb 145) 0 = .ok (.aload_n 0, 1) := by decide +kernel
theorem d145_1 : decode (zb 145) 1 = .ok (.iconst 0, 1) := by decide +kernel
theorem d145_2 : decode (zb 145) 2 = .ok (.putfield 72, 3) := by decide +kernel
theorem d145_5 : decode (zb 145) 5 = .ok (.aload_n 0, 1) := by decide +kernel
theorem d145_6 : decode (zb 145) 6 = .ok (.iconst 0, 1) := by decide +kernel
theorem d145_7 : decode (zb 145) 7 = .ok (.putfield 84, 3) := by decide +kernel
theorem d145_10 : decode (zb 145) 10 = .ok (.aload_n 0, 1) := by decide +kernel
theorem d145_11 : decode (zb 145) 11 = .ok (.iconst 0, 1) := by decide +kernel
theorem d145_12 : decode (zb 145) 12 = .ok (.putfield 125, 3) := by decide +kernel
theorem d145_15 : decode (zb 145) 15 = .ok (.iconst 0, 1) := by decide +kernel
theorem d145_16 : decode (zb 145) 16 = .ok (.istore_n 1, 1) := by decide +kernel
theorem d145_17 : decode (zb 145) 17 = .ok (.iload_n 1, 1) := by decide +kernel
theorem d145_18 : decode (zb 145) 18 = .ok (.sipush 234, 3) := by decide +kernel
theorem d145_21 : decode (zb 145) 21 = .ok (.if_icmp .ge 16, 3) := by decide +kernel
theorem d145_24 : decode (zb 145) 24 = .ok (.aload_n 0, 1) := by decide +kernel
theorem d145_25 : decode (zb 145) 25 = .ok (.getfield 13, 3) := by decide +kernel
theorem d145_28 : decode (zb 145) 28 = .ok (.iload_n 1, 1) := by decide +kernel
theorem d145_29 : decode (zb 145) 29 = .ok (.iconst 0, 1) := by decide +kernel
theorem d145_30 : decode (zb 145) 30 = .ok (.iastore, 1) := by decide +kernel
theorem d145_31 : decode (zb 145) 31 = .ok (.iinc 1 1, 3) := by decide +kernel
theorem d145_34 : decode (zb 145) 34 = .ok (.goto (-17), 3) := by decide +kernel
theorem d145_37 : decode (zb 145) 37 = .ok (.aload_n 0, 1) := by decide +kernel
theorem d145_38 : decode (zb 145) 38 = .ok (.invokevirtual 110, 3) := by decide +kernel
theorem d145_41 : decode (zb 145) 41 = .ok (.aload_n 0, 1) := by decide +kernel
theorem d145_42 : decode (zb 145) 42 = .ok (.getfield 72, 3) := by decide +kernel
theorem d145_45 : decode (zb 145) 45 = .ok (.ifCond .ne 17, 3) := by decide +kernel
theorem d145_48 : decode (zb 145) 48 = .ok (.aload_n 0, 1) := by decide +kernel
theorem d145_49 : decode (zb 145) 49 = .ok (.invokevirtual 146, 3) := by decide +kernel
theorem d145_52 : decode (zb 145) 52 = .ok (.ifCond .eq 10, 3) := by decide +kernel
theorem d145_55 : decode (zb 145) 55 = .ok (.aload_n 0, 1) := by decide +kernel
theorem d145_56 : decode (zb 145) 56 = .ok (.invokevirtual 150, 3) := by decide +kernel
theorem d145_59 : decode (zb 145) 59 = .ok (.goto (-18), 3) := by decide +kernel
theorem d145_62 : decode (zb 145) 62 = .ok (.aload_n 0, 1) := by decide +kernel
theorem d145_63 : decode (zb 145) 63 = .ok (.getfield 72, 3) := by decide +kernel
theorem d145_66 : decode (zb 145) 66 = .ok (.ifCond .ne 12, 3) := by decide +kernel
theorem d145_69 : decode (zb 145) 69 = .ok (.aload_n 0, 1) := by decide +kernel
theorem d145_70 : decode (zb 145) 70 = .ok (.aload_n 0, 1) := by decide +kernel
theorem d145_71 : decode (zb 145) 71 = .ok (.invokevirtual 153, 3) := by decide +kernel
theorem d145_74 : decode (zb 145) 74 = .ok (.iconst 2, 1) := by decide +kernel
theorem d145_75 : decode (zb 145) 75 = .ok (.invokevirtual 106, 3) := by decide +kernel
theorem d145_78 : decode (zb 145) 78 = .ok (.aload_n 0, 1) := by decide +kernel
theorem d145_79 : decode (zb 145) 79 = .ok (.invokevirtual 110, 3) := by decide +kernel
theorem d145_82 : decode (zb 145) 82 = .ok (.aload_n 0, 1) := by decide +kernel
theorem d145_83 : decode (zb 145) 83 = .ok (.invokevirtual 156, 3) := by decide +kernel
theorem d145_86 : decode (zb 145) 86 = .ok (.aload_n 0, 1) := by decide +kernel
theorem d145_87 : decode (zb 145) 87 = .ok (.getfield 72, 3) := by decide +kernel
theorem d145_90 : decode (zb 145) 90 = .ok (.ifCond .ne 20, 3) := by decide +kernel
theorem d145_93 : decode (zb 145) 93 = .ok (.aload_n 0, 1) := by decide +kernel
theorem d145_94 : decode (zb 145) 94 = .ok (.aload_n 0, 1) := by decide +kernel
theorem d145_95 : decode (zb 145) 95 = .ok (.getfield 81, 3) := by decide +kernel
theorem d145_98 : decode (zb 145) 98 = .ok (.ifCond .ne 7, 3) := by decide +kernel
theorem d145_101 : decode (zb 145) 101 = .ok (.iconst 1, 1) := by decide +kernel
theorem d145_102 : decode (zb 145) 102 = .ok (.goto 4, 3) := by decide +kernel
theorem d145_105 : decode (zb 145) 105 = .ok (.iconst 0, 1) := by decide +kernel
theorem d145_106 : decode (zb 145) 106 = .ok (.iconst 2, 1) := by decide +kernel
theorem d145_107 : decode (zb 145) 107 = .ok (.invokevirtual 106, 3) := by decide +kernel
theorem d145_110 : decode (zb 145) 110 = .ok (.aload_n 0, 1) := by decide +kernel
theorem d145_111 : decode (zb 145) 111 = .ok (.iconst 0, 1) := by decide +kernel
theorem d145_112 : decode (zb 145) 112 = .ok (.putfield 68, 3) := by decide +kernel
theorem d145_115 : decode (zb 145) 115 = .ok (.aload_n 0, 1) := by decide +kernel
theorem d145_116 : decode (zb 145) 116 = .ok (.getfield 72, 3) := by decide +kernel
theorem d145_119 : decode (zb 145) 119 = .ok (.ifCond .le 11, 3) := by decide +kernel
theorem d145_122 : decode (zb 145) 122 = .ok (.bipush (-10), 2) := by decide +kernel
theorem d145_124 : decode (zb 145) 124 = .ok (.aload_n 0, 1) := by decide +kernel
theorem d145_125 : decode (zb 145) 125 = .ok (.getfield 78, 3) := by decide +kernel
theorem d145_128 : decode (zb 145) 128 = .ok (.isub, 1) := by decide +kernel
theorem d145_129 : decode (zb 145) 129 = .ok (.ireturn, 1) := by decide +kernel
theorem d145_130 : decode (zb 145) 130 = .ok (.aload_n 0, 1) := by decide +kernel
theorem d145_131 : decode (zb 145) 131 = .ok (.invokevirtual 159, 3) := by decide +kernel
theorem d145_134 : decode (zb 145) 134 = .ok (.aload_n 0, 1) := by decide +kernel
theorem d145_135 : decode (zb 145) 135 = .ok (.getfield 7, 3) := by decide +kernel
theorem d145_138 : decode (zb 145) 138 = .ok (.iconst 1, 1) := by decide +kernel
theorem d145_139 : decode (zb 145) 139 = .ok (.iaload, 1) := by decide +kernel
theorem d145_140 : decode (zb 145) 140 = .ok (.ireturn, 1) := by decide +kernel
theorem zo_146 : zo 146 = 11 := by decide +kernel
theorem zret_146 : zret 146 = none := by decide +kernel
theorem d146_0 : decode (zb 146) 0 = .ok (.iconst 0, 1) := by decide +kernel
theorem d146_1 : decode (zb 146) 1 = .ok (.istore_n 1, 1) := by decide +kernel
theorem d146_2 : decode (zb 146) 2 = .ok (.iload_n 1, 1) := by decide +kernel
theorem d146_3 : decode (zb 146) 3 = .ok (.sipush 234, 3) := by decide +kernel
theorem d146_6 : decode (zb 146) 6 = .ok (.if_icmp .ge 21, 3) := by decide +kernel
theorem d146_9 : decode (zb 146) 9 = .ok (.aload_n 0, 1) := by decide +kernel
theorem d146_10 : decode (zb 146) 10 = .ok (.getfield 7, 3) := by decide +kernel
theorem d146_13 : decode (zb 146) 13 = .ok (.iload_n 1, 1) := by decide +kernel
theorem d146_14 : decode (zb 146) 14 = .ok (.aload_n 0, 1) := by decide +kernel
theorem d146_15 : decode (zb 146) 15 = .ok (.getfield 13, 3) := by decide +kernel
theorem d146_18 : decode (zb 146) 18 = .ok (.iload_n 1, 1) := by decide +kernel
theorem d146_19 : decode (zb 146) 19 = .ok (.iaload, 1) := by decide +kernel
theorem d146_20 : decode (zb 146) 20 = .ok (.iastore, 1) := by decide +kernel
theorem d146_21 : decode (zb 146) 21 = .ok (.iinc 1 1, 3) := by decide +kernel
theorem d146_24 : decode (zb 146) 24 = .ok (.goto (-22), 3) := by decide +kernel
theorem d146_27 : decode (zb 146) 27 = .ok (.aload_n 0, 1) := by decide +kernel
theorem d146_28 : decode (zb 146) 28 = .ok (.iconst 0, 1) := by decide +kernel
theorem d146_29 : decode (zb 146) 29 = .ok (.putfield 162, 3) := by decide +kernel
theorem d146_32 : decode (zb 146) 32 = .ok (.iconst 0, 1) := by decide +kernel
theorem d146_33 : decode (zb 146) 33 = .ok (.istore_n 1, 1) := by decide +kernel
theorem d146_34 : decode (zb 146) 34 = .ok (.iload_n 1, 1) := by decide +kernel
theorem d146_35 : decode (zb 146) 35 = .ok (.aload_n 0, 1) := by decide +kernel
theorem d146_36 : decode (zb 146) 36 = .ok (.getfield 7, 3) := by decide +kernel
theorem d146_39 : decode (zb 146) 39 = .ok (.iconst 0, 1) := by decide +kernel
theorem d146_40 : decode (zb 146) 40 = .ok (.iaload, 1) := by decide +kernel
theorem d146_41 : decode (zb 146) 41 = .ok (.if_icmp .ge 14, 3) := by decide +kernel
theorem d146_44 : decode (zb 146) 44 = .ok (.aload_n 0, 1) := by decide +kernel
theorem d146_45 : decode (zb 146) 45 = .ok (.iload_n 1, 1) := by decide +kernel
theorem d146_46 : decode (zb 146) 46 = .ok (.invokevirtual 165, 3) := by decide +kernel
theorem d146_49 : decode (zb 146) 49 = .ok (.iinc 1 1, 3) := by decide +kernel
theorem d146_52 : decode (zb 146) 52 = .ok (.goto (-18), 3) := by decide +kernel
theorem d146_55 : decode (zb 146) 55 = .ok (.aload_n 0, 1) := by decide +kernel
theorem d146_56 : decode (zb 146) 56 = .ok (.getfield 31, 3) := by decide +kernel
theorem d146_59 : decode (zb 146) 59 = .ok (.iconst 0, 1) := by decide +kernel
theorem d146_60 : decode (zb 146) 60 = .ok (.iconst 0, 1) := by decide +kernel
theorem d146_61 : decode (zb 146) 61 = .ok (.bastore, 1) := by decide +kernel
theorem d146_62 : decode (zb 146) 62 = .ok (.aload_n 0, 1) := by decide +kernel
theorem d146_63 : decode (zb 146) 63 = .ok (.getfield 31, 3) := by decide +kernel
theorem d146_66 : decode (zb 146) 66 = .ok (.iconst 1, 1) := by decide +kernel
theorem d146_67 : decode (zb 146) 67 = .ok (.iconst 0, 1) := by decide +kernel
theorem d146_68 : decode (zb 146) 68 = .ok (.bastore, 1) := by decide +kernel
theorem d146_69 : decode (zb 146) 69 = .ok (.aload_n 0, 1) := by decide +kernel
theorem d146_70 : decode (zb 146) 70 = .ok (.invokevirtual 59, 3) := by decide +kernel
theorem d146_73 : decode (zb 146) 73 = .ok (.return_, 1) := by decide +kernel
theorem zo_147 : zo 147 = 11 := by decide +kernel
theorem zret_147 : zret 147 = some .int := by decide +kernel
theorem d147_0 : decode (zb 147) 0 = .ok (.aload_n 0, 1) := by decide +kernel
theorem d147_1 : decode (zb 147) 1 = .ok (.getfield 72, 3) := by decide +kernel
theorem d147_4 : decode (zb 147) 4 = .ok (.ireturn, 1) := by decide +kernel
theorem zo_148 : zo 148 = 11 := by decide +kernel
theorem zret_148 : zret 148 = some .int := by decide +kernel
theorem d148_0 : decode (zb 148) 0 = .ok (.aload_n 0, 1) := by decide +kernel
theorem d148_1 : decode (zb 148) 1 = .ok (.getfield 7, 3) := by decide +kernel
theorem d148_4 : decode (zb 148) 4 = .ok (.iconst 2, 1) := by decide +kernel
theorem d148_5 : decode (zb 148) 5 = .ok (.bipush 17, 2) := by decide +kernel
theorem d148_7 : decode (zb 148) 7 = .ok (.iload_n 1, 1) := by decide +kernel
theorem d148_8 : decode (zb 148) 8 = .ok (.imul, 1) := by decide +kernel
theorem d148_9 : decode (zb 148) 9 = .ok (.iadd, 1) := by decide +kernel
theorem d148_10 : decode (zb 148) 10 = .ok (.iaload, 1) := by decide +kernel
theorem d148_11 : decode (zb 148) 11 = .ok (.ireturn, 1) := by decide +kernel
theorem zo_149 : zo 149 = 11 := by decide +kernel
theorem zret_149 : zret 149 = some .int := by decide +kernel
theorem d149_0 : decode (zb 149) 0 = .ok (.aload_n 0, 1) := by decide +kernel
theorem d149_1 : decode (zb 149) 1 = .ok (.getfield 7, 3) := by decide +kernel
theorem d149_4 : decode (zb 149) 4 = .ok (.iconst 2, 1) := by decide +kernel
theorem d149_5 : decode (zb 149) 5 = .ok (.bipush 17, 2) := by decide +kernel
theorem d149_7 : decode (zb 149) 7 = .ok (.iload_n 1, 1) := by decide +kernel
theorem d149_8 : decode (zb 149) 8 = .ok (.imul, 1) := by decide +kernel
theorem d149_9 : decode (zb 149) 9 = .ok (.iadd, 1) := by decide +kernel
theorem d149_10 : decode (zb 149) 10 = .ok (.iconst 1, 1) := by decide +kernel
theorem d149_11 : decode (zb 149) 11 = .ok (.iadd, 1) := by decide +kernel
theorem d149_12 : decode (zb 149) 12 = .ok (.iload_n 2, 1) := by decide +kernel
theorem d149_13 : decode (zb 149) 13 = .ok (.iadd, 1) := by decide +kernel
theorem d149_14 : decode (zb 149) 14 = .ok (.iaload, 1) := by decide +kernel
theorem d149_15 : decode (zb 149) 15 = .ok (.ireturn, 1) := by decide +kernel
theorem zo_150 : zo 150 = 11 := by decide +kernel
theorem zret_150 : zret 150 = some .int := by decide +kernel
theorem d150_0 : decode (zb 150) 0 = .ok (.iconst 0, 1) := by decide +kernel
theorem d150_1 : decode (zb 150) 1 = .ok (.istore_n 3, 1) := by decide +kernel
theorem d150_2 : decode (zb 150) 2 = .ok (.iload_n 3, 1) := by decide +kernel
theorem d150_3 : decode (zb 150) 3 = .ok (.aload_n 0, 1) := by decide +kernel
theorem d150_4 : decode (zb 150) 4 = .ok (.iload_n 1, 1) := by decide +kernel
theorem d150_5 : decode (zb 150) 5 = .ok (.invokevirtual 168, 3) := by decide +kernel
theorem d150_8 : decode (zb 150) 8 = .ok (.if_icmp .ge 39, 3) := by decide +kernel
theorem d150_11 : decode (zb 150) 11 = .ok (.iload_n 2, 1) := by decide +kernel
theorem d150_12 : decode (zb 150) 12 = .ok (.iload_n 3, 1) := by decide +kernel
theorem d150_13 : decode (zb 150) 13 = .ok (.iadd, 1) := by decide +kernel
theorem d150_14 : decode (zb 150) 14 = .ok (.aload_n 0, 1) := by decide +kernel
theorem d150_15 : decode (zb 150) 15 = .ok (.getfield 162, 3) := by decide +kernel
theorem d150_18 : decode (zb 150) 18 = .ok (.if_icmp .ge 29, 3) := by decide +kernel
theorem d150_21 : decode (zb 150) 21 = .ok (.aload_n 0, 1) := by decide +kernel
theorem d150_22 : decode (zb 150) 22 = .ok (.getfield 16, 3) := by decide +kernel
theorem d150_25 : decode (zb 150) 25 = .ok (.iload_n 2, 1) := by decide +kernel
theorem d150_26 : decode (zb 150) 26 = .ok (.iload_n 3, 1) := by decide +kernel
theorem d150_27 : decode (zb 150) 27 = .ok (.iadd, 1) := by decide +kernel
theorem d150_28 : decode (zb 150) 28 = .ok (.iaload, 1) := by decide +kernel
theorem d150_29 : decode (zb 150) 29 = .ok (.aload_n 0, 1) := by decide +kernel
theorem d150_30 : decode (zb 150) 30 = .ok (.iload_n 1, 1) := by decide +kernel
theorem d150_31 : decode (zb 150) 31 = .ok (.iload_n 3, 1) := by decide +kernel
theorem d150_32 : decode (zb 150) 32 = .ok (.invokevirtual 171, 3) := by decide +kernel
theorem d150_35 : decode (zb 150) 35 = .ok (.if_icmp .eq 6, 3) := by decide +kernel
theorem d150_38 : decode (zb 150) 38 = .ok (.bipush (-4), 2) := by decide +kernel
theorem d150_40 : decode (zb 150) 40 = .ok (.ireturn, 1) := by decide +kernel
theorem d150_41 : decode (zb 150) 41 = .ok (.iinc 3 1, 3) := by decide +kernel
theorem d150_44 : decode (zb 150) 44 = .ok (.goto (-42), 3) := by decide +kernel
theorem d150_47 : decode (zb 150) 47 = .ok (.iload_n 3, 1) := by decide +kernel
theorem d150_48 : decode (zb 150) 48 = .ok (.ireturn, 1) := by decide +kernel
theorem zo_151 : zo 151 = 11 := by decide +kernel
theorem zret_151 : zret 151 = none := by decide +kernel
theorem d151_0 : decode (zb 151) 0 = .ok (.iconst 0, 1) := by decide +kernel
theorem d151_1 : decode (zb 151) 1 = .ok (.istore_n 2, 1) := by decide +kernel
theorem d151_2 : decode (zb 151) 2 = .ok (.iload_n 2, 1) := by decide +kernel
theorem d151_3 : decode (zb 151) 3 = .ok (.aload_n 0, 1) := by decide +kernel
theorem d151_4 : decode (zb 151) 4 = .ok (.getfield 162, 3) := by decide +kernel
theorem d151_7 : decode (zb 151) 7 = .ok (.if_icmp .ge 23, 3) := by decide +kernel
theorem d151_10 : decode (zb 151) 10 = .ok (.aload_n 0, 1) := by decide +kernel
theorem d151_11 : decode (zb 151) 11 = .ok (.iload_n 1, 1) := by decide +kernel
theorem d151_12 : decode (zb 151) 12 = .ok (.iload_n 2, 1) := by decide +kernel
theorem d151_13 : decode (zb 151) 13 = .ok (.invokevirtual 174, 3) := by decide +kernel
theorem d151_16 : decode (zb 151) 16 = .ok (.aload_n 0, 1) := by decide +kernel
theorem d151_17 : decode (zb 151) 17 = .ok (.iload_n 1, 1) := by decide +kernel
theorem d151_18 : decode (zb 151) 18 = .ok (.invokevirtual 168, 3) := by decide +kernel
theorem d151_21 : decode (zb 151) 21 = .ok (.if_icmp .eq 9, 3) := by decide +kernel
theorem d151_24 : decode (zb 151) 24 = .ok (.iinc 2 1, 3) := by decide +kernel
theorem d151_27 : decode (zb 151) 27 = .ok (.goto (-25), 3) := by decide +kernel
theorem d151_30 : decode (zb 151) 30 = .ok (.iload_n 2, 1) := by decide +kernel
theorem d151_31 : decode (zb 151) 31 = .ok (.aload_n 0, 1) := by decide +kernel
theorem d151_32 : decode (zb 151) 32 = .ok (.getfield 162, 3) := by decide +kernel
theorem d151_35 : decode (zb 151) 35 = .ok (.if_icmp .ne 30, 3) := by decide +kernel
theorem d151_38 : decode (zb 151) 38 = .ok (.iconst 0, 1) := by decide +kernel
theorem d151_39 : decode (zb 151) 39 = .ok (.istore_n 2, 1) := by decide +kernel
theorem d151_40 : decode (zb 151) 40 = .ok (.iload_n 2, 1) := by decide +kernel
theorem d151_41 : decode (zb 151) 41 = .ok (.aload_n 0, 1) := by decide +kernel
theorem d151_42 : decode (zb 151) 42 = .ok (.getfield 162, 3) := by decide +kernel
theorem d151_45 : decode (zb 151) 45 = .ok (.if_icmp .ge 20, 3) := by decide +kernel
theorem d151_48 : decode (zb 151) 48 = .ok (.aload_n 0, 1) := by decide +kernel
theorem d151_49 : decode (zb 151) 49 = .ok (.iload_n 1, 1) := by decide +kernel
theorem d151_50 : decode (zb 151) 50 = .ok (.iload_n 2, 1) := by decide +kernel
theorem d151_51 : decode (zb 151) 51 = .ok (.invokevirtual 174, 3) := by decide +kernel
theorem d151_54 : decode (zb 151) 54 = .ok (.bipush (-4), 2) := by decide +kernel
theorem d151_56 : decode (zb 151) 56 = .ok (.if_icmp .ne 9, 3) := by decide +kernel
theorem d151_59 : decode (zb 151) 59 = .ok (.iinc 2 1, 3) := by decide +kernel
theorem d151_62 : decode (zb 151) 62 = .ok (.goto (-22), 3) := by decide +kernel
theorem d151_65 : decode (zb 151) 65 = .ok (.aload_n 0, 1) := by decide +kernel
theorem d151_66 : decode (zb 151) 66 = .ok (.getfield 19, 3) := by decide +kernel
theorem d151_69 : decode (zb 151) 69 = .ok (.iload_n 1, 1) := by decide +kernel
theorem d151_70 : decode (zb 151) 70 = .ok (.iload_n 2, 1) := by decide +kernel
theorem d151_71 : decode (zb 151) 71 = .ok (.iastore, 1) := by decide +kernel
theorem d151_72 : decode (zb 151) 72 = .ok (.aload_n 0, 1) := by decide +kernel
theorem d151_73 : decode (zb 151) 73 = .ok (.getfield 22, 3) := by decide +kernel
theorem d151_76 : decode (zb 151) 76 = .ok (.iload_n 1, 1) := by decide +kernel
theorem d151_77 : decode (zb 151) 77 = .ok (.iconst 0, 1) := by decide +kernel
theorem d151_78 : decode (zb 151) 78 = .ok (.iastore, 1) := by decide +kernel
theorem d151_79 : decode (zb 151) 79 = .ok (.aload_n 0, 1) := by decide +kernel
theorem d151_80 : decode (zb 151) 80 = .ok (.getfield 162, 3) := by decide +kernel
theorem d151_83 : decode (zb 151) 83 = .ok (.iload_n 2, 1) := by decide +kernel
theorem d151_84 : decode (zb 151) 84 = .ok (.isub, 1) := by decide +kernel
theorem d151_85 : decode (zb 151) 85 = .ok (.istore_n 3, 1) := by decide +kernel
theorem d151_86 : decode (zb 151) 86 = .ok (.iload_n 3, 1) := by decide +kernel
theorem d151_87 : decode (zb 151) 87 = .ok (.aload_n 0, 1) := by decide +kernel
theorem d151_88 : decode (zb 151) 88 = .ok (.iload_n 1, 1) := by decide +kernel
theorem d151_89 : decode (zb 151) 89 = .ok (.invokevirtual 168, 3) := by decide +kernel
theorem d151_92 : decode (zb 151) 92 = .ok (.if_icmp .ge 44, 3) := by decide +kernel
theorem d151_95 : decode (zb 151) 95 = .ok (.aload_n 0, 1) := by decide +kernel
theorem d151_96 : decode (zb 151) 96 = .ok (.getfield 16, 3) := by decide +kernel
theorem d151_99 : decode (zb 151) 99 = .ok (.aload_n 0, 1) := by decide +kernel
theorem d151_100 : decode (zb 151) 100 = .ok (.getfield 162, 3) := by decide +kernel
theorem d151_103 : decode (zb 151) 103 = .ok (.aload_n 0, 1) := by decide +kernel
theorem d151_104 : decode (zb 151) 104 = .ok (.iload_n 1, 1) := by decide +kernel
theorem d151_105 : decode (zb 151) 105 = .ok (.iload_n 3, 1) := by decide +kernel
theorem d151_106 : decode (zb 151) 106 = .ok (.invokevirtual 171, 3) := by decide +kernel
theorem d151_109 : decode (zb 151) 109 = .ok (.iastore, 1) := by decide +kernel
theorem d151_110 : decode (zb 151) 110 = .ok (.aload_n 0, 1) := by decide +kernel
theorem d151_111 : decode (zb 151) 111 = .ok (.dup, 1) := by decide +kernel
theorem d151_112 : decode (zb 151) 112 = .ok (.getfield 162, 3) := by decide +kernel
theorem d151_115 : decode (zb 151) 115 = .ok (.iconst 1, 1) := by decide +kernel
theorem d151_116 : decode (zb 151) 116 = .ok (.iadd, 1) := by decide +kernel
theorem d151_117 : decode (zb 151) 117 = .ok (.putfield 162, 3) := by decide +kernel
theorem d151_120 : decode (zb 151) 120 = .ok (.aload_n 0, 1) := by decide +kernel
theorem d151_121 : decode (zb 151) 121 = .ok (.getfield 22, 3) := by decide +kernel
theorem d151_124 : decode (zb 151) 124 = .ok (.iload_n 1, 1) := by decide +kernel
theorem d151_125 : decode (zb 151) 125 = .ok (.dup2, 1) := by decide +kernel
theorem d151_126 : decode (zb 151) 126 = .ok (.iaload, 1) := by decide +kernel
theorem d151_127 : decode (zb 151) 127 = .ok (.iconst 1, 1) := by decide +kernel
theorem d151_128 : decode (zb 151) 128 = .ok (.iadd, 1) := by decide +kernel
theorem d151_129 : decode (zb 151) 129 = .ok (.iastore, 1) := by decide +kernel
theorem d151_130 : decode (zb 151) 130 = .ok (.iinc 3 1, 3) := by decide +kernel
theorem d151_133 : decode (zb 151) 133 = .ok (.goto (-47), 3) := by decide +kernel
theorem d151_136 : decode (zb 151) 136 = .ok (.return_, 1) := by decide +kernel
theorem zo_152 : zo 152 = 11 := by decide +kernel
theorem zret_152 : zret 152 = some .int := by decide +kernel
theorem d152_0 : decode (zb 152) 0 = .ok (.iconst 0, 1) := by decide +kernel
theorem d152_1 : decode (zb 152) 1 = .ok (.istore_n 1, 1) := by decide +kernel
theorem d152_2 : decode (zb 152) 2 = .ok (.iconst 0, 1) := by decide +kernel
theorem d152_3 : decode (zb 152) 3 = .ok (.istore_n 2, 1) := by decide +kernel
theorem d152_4 : decode (zb 152) 4 = .ok (.iload_n 2, 1) := by decide +kernel
theorem d152_5 : decode (zb 152) 5 = .ok (.aload_n 0, 1) := by decide +kernel
theorem d152_6 : decode (zb 152) 6 = .ok (.getfield 7, 3) := by decide +kernel
theorem d152_9 : decode (zb 152) 9 = .ok (.iconst 0, 1) := by decide +kernel
theorem d152_10 : decode (zb 152) 10 = .ok (.iaload, 1) := by decide +kernel
theorem d152_11 : decode (zb 152) 11 = .ok (.if_icmp .ge 17, 3) := by decide +kernel
theorem d152_14 : decode (zb 152) 14 = .ok (.iload_n 1, 1) := by decide +kernel
theorem d152_15 : decode (zb 152) 15 = .ok (.aload_n 0, 1) := by decide +kernel
theorem d152_16 : decode (zb 152) 16 = .ok (.iload_n 2, 1) := by decide +kernel
theorem d152_17 : decode (zb 152) 17 = .ok (.invokevirtual 168, 3) := by decide +kernel
theorem d152_20 : decode (zb 152) 20 = .ok (.iadd, 1) := by decide +kernel
theorem d152_21 : decode (zb 152) 21 = .ok (.istore_n 1, 1) := by decide +kernel
theorem d152_22 : decode (zb 152) 22 = .ok (.iinc 2 1, 3) := by decide +kernel
theorem d152_25 : decode (zb 152) 25 = .ok (.goto (-21), 3) := by decide +kernel
theorem d152_28 : decode (zb 152) 28 = .ok (.iload_n 1, 1) := by decide +kernel
theorem d152_29 : decode (zb 152) 29 = .ok (.ireturn, 1) := by decide +kernel
theorem run139 {h : zH} : zrun 139 [vR 87] h = zX 139 0 [vR 87, none, none, none] [] h := rfl
theorem e139_0 {I : Nat → Int → Int} {b : Bool} {S : Nat} : zX 139 0 [vR 87, none, none, none] [] (I, zRs b, 103, S) = if 8 ≤ (I 89 0) then (zrun 129 [vR 87, vI 0, vI 4] (I, zRs b, 103, S)).bind (fun q => zX 139 21 [vR 87, none, none, none] (zpush q.1 []) q.2) else (zrun 129 [vR 87, vI 1, vI 4] (I, zRs b, 103, S)).bind (fun q => zX 139 21 [vR 87, none, none, none] (zpush q.1 []) q.2) := (xAload_n d139_0 rfl).trans ((xAload_n d139_1 rfl).trans ((xGetR 1 89 d139_2 zo_139 zfl_11_13 rfl rfl rfl (Or.inl (Nat.le_of_ble_eq_true rfl))).trans ((xIconst d139_5).trans ((xIald (N := 234) (I 89 0) rfl d139_6 rfl (Or.inl (Nat.le_of_ble_eq_true rfl)) rfl).trans ((if_pos (by decide)).trans ((xBipush d139_7).trans ((xIcmpGe (t := 16) d139_9 rfl).trans (ziteC ((xIconst d139_16).trans ((xIconst d139_17).trans (xInvV [vR 87, vI 0, vI 4] [] d139_18 zo_139 zml_11_106 rfl rfl rfl (Or.inl ⟨rfl, (Nat.le_of_ble_eq_true rfl)⟩)))) ((xIconst d139_12).trans ((xGoto (t := 17) d139_13 rfl).trans ((xIconst d139_17).trans (xInvV [vR 87, vI 1, vI 4] [] d139_18 zo_139 zml_11_106 rfl rfl rfl (Or.inl ⟨rfl, (Nat.le_of_ble_eq_true rfl)⟩)))))))))))))
theorem e139_21 {I : Nat → Int → Int} {b : Bool} {S : Nat} : zX 139 21 [vR 87, none, none, none] [] (I, zRs b, 103, S) = (zrun 135 [vR 87] (I, zRs b, 103, S)).bind (fun q => zX 139 25 [vR 87, none, none, none] (zpush q.1 []) q.2) := (xAload_n d139_21 rfl).trans (xInvV [vR 87] [] d139_22 zo_139 zml_11_110 rfl rfl rfl (Or.inl ⟨rfl, (Nat.le_of_ble_eq_true rfl)⟩))
theorem e139_25 {I : Nat → Int → Int} {b : Bool} {S : Nat} : zX 139 25 [vR 87, none, none, none] [] (I, zRs b, 103, S) = if 8 ≤ (I 89 0) then if (I 87 15) = 0 then zX 139 65 [vR 87, vI (wr (2 + (wr (17 * 0)))), vI 1, none] [] (I, zRs b, 103, S) else zX 139 65 [vR 87, vI (wr (2 + (wr (17 * 0)))), vI 0, none] [] (I, zRs b, 103, S) else if (I 87 15) = 0 then zX 139 65 [vR 87, vI (wr (2 + (wr (17 * (I 89 0))))), vI 1, none] [] (I, zRs b, 103, S) else zX 139 65 [vR 87, vI (wr (2 + (wr (17 * (I 89 0))))), vI 0, none] [] (I, zRs b, 103, S) := (xIconst d139_25).trans ((xBipush d139_26).trans ((xAload_n d139_28 rfl).trans ((xGetR 1 89 d139_29 zo_139 zfl_11_13 rfl rfl rfl (Or.inl (Nat.le_of_ble_eq_true rfl))).trans ((xIconst d139_32).trans ((xIald (N := 234) (I 89 0) rfl d139_33 rfl (Or.inl (Nat.le_of_ble_eq_true rfl)) rfl).trans ((if_pos (by decide)).trans ((xBipush d139_34).trans ((xIcmpGe (t := 48) d139_36 rfl).trans (ziteC ((xIconst d139_48).trans ((xImul d139_49).trans ((xIadd d139_50).trans ((xIstore_n d139_51 rfl rfl).trans ((xAload_n d139_52 rfl).trans ((xGetI 15 (I 87 15) rfl d139_53 zo_139 zfl_11_72 (by decide) rfl rfl (Or.inl (Nat.le_of_ble_eq_true rfl))).trans ((xIfNe (t := 63) d139_56 rfl).trans (ziteC ((xIconst d139_59).trans ((xGoto (t := 64) d139_60 rfl).trans (xIstore_n d139_64 rfl rfl))) ((xIconst d139_63).trans (xIstore_n d139_64 rfl rfl)))))))))) ((xAload_n d139_39 rfl).trans ((xGetR 1 89 d139_40 zo_139 zfl_11_13 rfl rfl rfl (Or.inl (Nat.le_of_ble_eq_true rfl))).trans ((xIconst d139_43).trans ((xIald (N := 234) (I 89 0) rfl d139_44 rfl (Or.inl (Nat.le_of_ble_eq_true rfl)) rfl).trans ((if_pos (by decide)).trans ((xGoto (t := 49) d139_45 rfl).trans ((xImul d139_49).trans ((xIadd d139_50).trans ((xIstore_n d139_51 rfl rfl).trans ((xAload_n d139_52 rfl).trans ((xGetI 15 (I 87 15) rfl d139_53 zo_139 zfl_11_72 (by decide) rfl rfl (Or.inl (Nat.le_of_ble_eq_true rfl))).trans ((xIfNe (t := 63) d139_56 rfl).trans (ziteC ((xIconst d139_59).trans ((xGoto (t := 64) d139_60 rfl).trans (xIstore_n d139_64 rfl rfl))) ((xIconst d139_63).trans (xIstore_n d139_64 rfl rfl))))))))))))))))))))))))
theorem e139_65 {I : Nat → Int → Int} {b : Bool} {S : Nat} {a1 a2 : Int} {w3 : zV} : zX 139 65 [vR 87, vI a1, vI a2, w3] [] (I, zRs b, 103, S) = if a2 = 0 then (zrun 138 [vR 87, vI 59] (I, zRs b, 103, S)).bind (fun q => zX 139 179 [vR 87, vI a1, vI a2, w3] (zpush q.1 []) q.2) else if (I 87 13) = 2 then (zrun 129 [vR 87, vI 1, vI 2] (I, zRs b, 103, S)).bind (fun q => zX 139 87 [vR 87, vI a1, vI a2, w3] (zpush q.1 []) q.2) else (zrun 129 [vR 87, vI 0, vI 2] (I, zRs b, 103, S)).bind (fun q => zX 139 87 [vR 87, vI a1, vI a2, w3] (zpush q.1 []) q.2) := (xIload_n d139_65 rfl).trans ((xIfEq (t := 173) d139_66 rfl).trans (ziteC ((xAload_n d139_173 rfl).trans ((xBipush d139_174).trans (xInvV [vR 87, vI 59] [] d139_176 zo_139 zml_11_121 rfl rfl rfl (Or.inl ⟨rfl, (Nat.le_of_ble_eq_true rfl)⟩)))) ((xAload_n d139_69 rfl).trans ((xAload_n d139_70 rfl).trans ((xGetI 13 (I 87 13) rfl d139_71 zo_139 zfl_11_81 (by decide) rfl rfl (Or.inl (Nat.le_of_ble_eq_true rfl))).trans ((xIconst d139_74).trans ((xIcmpNe (t := 82) d139_75 rfl).trans (ziteC ((xIconst d139_78).trans ((xGoto (t := 83) d139_79 rfl).trans ((xIconst d139_83).trans (xInvV [vR 87, vI 1, vI 2] [] d139_84 zo_139 zml_11_106 rfl rfl rfl (Or.inl ⟨rfl, (Nat.le_of_ble_eq_true rfl)⟩))))) ((xIconst d139_82).trans ((xIconst d139_83).trans (xInvV [vR 87, vI 0, vI 2] [] d139_84 zo_139 zml_11_106 rfl rfl rfl (Or.inl ⟨rfl, (Nat.le_of_ble_eq_true rfl)⟩))))))))))))
theorem e139_87 {I : Nat → Int → Int} {b : Bool} {S : Nat} {a1 a2 : Int} {w3 : zV} : zX 139 87 [vR 87, vI a1, vI a2, w3] [] (I, zRs b, 103, S) = if 0 ≤ a1 ∧ a1 < 234 then if 16 ≤ (I 89 a1) then (zrun 129 [vR 87, vI 0, vI 4] (I, zRs b, 103, S)).bind (fun q => zX 139 108 [vR 87, vI a1, vI a2, w3] (zpush q.1 []) q.2) else (zrun 129 [vR 87, vI 1, vI 4] (I, zRs b, 103, S)).bind (fun q => zX 139 108 [vR 87, vI a1, vI a2, w3] (zpush q.1 []) q.2) else none := (xAload_n d139_87 rfl).trans ((xAload_n d139_88 rfl).trans ((xGetR 1 89 d139_89 zo_139 zfl_11_13 rfl rfl rfl (Or.inl (Nat.le_of_ble_eq_true rfl))).trans ((xIload_n d139_92 rfl).trans ((xIald (N := 234) (I 89 a1) rfl d139_93 rfl (Or.inl (Nat.le_of_ble_eq_true rfl)) rfl).trans (ziteC ((xBipush d139_94).trans ((xIcmpGe (t := 103) d139_96 rfl).trans (ziteC ((xIconst d139_103).trans ((xIconst d139_104).trans (xInvV [vR 87, vI 0, vI 4] [] d139_105 zo_139 zml_11_106 rfl rfl rfl (Or.inl ⟨rfl, (Nat.le_of_ble_eq_true rfl)⟩)))) ((xIconst d139_99).trans ((xGoto (t := 104) d139_100 rfl).trans ((xIconst d139_104).trans (xInvV [vR 87, vI 1, vI 4] [] d139_105 zo_139 zml_11_106 rfl rfl rfl (Or.inl ⟨rfl, (Nat.le_of_ble_eq_true rfl)⟩)))))))) rfl)))))
theorem e139_108 {I : Nat → Int → Int} {b : Bool} {S : Nat} {a1 a2 : Int} {w3 : zV} : zX 139 108 [vR 87, vI a1, vI a2, w3] [] (I, zRs b, 103, S) = (zrun 137 [vR 87, vI 0, vI 99] (I, zRs b, 103, S)).bind (fun q => zX 139 115 [vR 87, vI a1, vI a2, w3] (zpush q.1 []) q.2) := (xAload_n d139_108 rfl).trans ((xIconst d139_109).trans ((xBipush d139_110).trans (xInvV [vR 87, vI 0, vI 99] [] d139_112 zo_139 zml_11_117 rfl rfl rfl (Or.inl ⟨rfl, (Nat.le_of_ble_eq_true rfl)⟩))))
theorem e139_115 {I : Nat → Int → Int} {b : Bool} {S : Nat} {a1 a2 t0 : Int} {w3 : zV} : zX 139 115 [vR 87, vI a1, vI a2, w3] [vI t0] (I, zRs b, 103, S) = if (I 87 15) = 0 then if 0 ≤ a1 ∧ a1 < 234 then if 0 ≤ (wr ((wr (a1 + 1)) + (I 89 a1))) ∧ (wr ((wr (a1 + 1)) + (I 89 a1))) < 234 then if 0 ≤ a1 ∧ a1 < 234 then if 0 ≤ a1 ∧ a1 < 234 then if (I 87 15) = 0 then if (I 87 13) = 2 then zX 139 65 [vR 87, vI a1, vI 1, vI t0] [] ((sI (sI I 89 (wr ((wr (a1 + 1)) + (I 89 a1))) t0) 89 a1 (wr (((sI I 89 (wr ((wr (a1 + 1)) + (I 89 a1))) t0) 89 a1) + 1))), zRs b, 103, S) else zX 139 65 [vR 87, vI a1, vI 0, vI t0] [] ((sI (sI I 89 (wr ((wr (a1 + 1)) + (I 89 a1))) t0) 89 a1 (wr (((sI I 89 (wr ((wr (a1 + 1)) + (I 89 a1))) t0) 89 a1) + 1))), zRs b, 103, S) else zX 139 65 [vR 87, vI a1, vI 0, vI t0] [] ((sI (sI I 89 (wr ((wr (a1 + 1)) + (I 89 a1))) t0) 89 a1 (wr (((sI I 89 (wr ((wr (a1 + 1)) + (I 89 a1))) t0) 89 a1) + 1))), zRs b, 103, S) else none else none else none else none else if (I 87 15) = 0 then if (I 87 13) = 2 then zX 139 65 [vR 87, vI a1, vI 1, vI t0] [] (I, zRs b, 103, S) else zX 139 65 [vR 87, vI a1, vI 0, vI t0] [] (I, zRs b, 103, S) else zX 139 65 [vR 87, vI a1, vI 0, vI t0] [] (I, zRs b, 103, S) := (xIstore_n d139_115 rfl rfl).trans ((xAload_n d139_116 rfl).trans ((xGetI 15 (I 87 15) rfl d139_117 zo_139 zfl_11_72 (by decide) rfl rfl (Or.inl (Nat.le_of_ble_eq_true rfl))).trans ((xIfNe (t := 149) d139_120 rfl).trans (ziteC ((xAload_n d139_123 rfl).trans ((xGetR 1 89 d139_124 zo_139 zfl_11_13 rfl rfl rfl (Or.inl (Nat.le_of_ble_eq_true rfl))).trans ((xIload_n d139_127 rfl).trans ((xIconst d139_128).trans ((xIadd d139_129).trans ((xAload_n d139_130 rfl).trans ((xGetR 1 89 d139_131 zo_139 zfl_11_13 rfl rfl rfl (Or.inl (Nat.le_of_ble_eq_true rfl))).trans ((xIload_n d139_134 rfl).trans ((xIald (N := 234) (I 89 a1) rfl d139_135 rfl (Or.inl (Nat.le_of_ble_eq_true rfl)) rfl).trans (ziteC ((xIadd d139_136).trans ((xIload_n d139_137 rfl).trans ((xIast (N := 234) d139_138 rfl (Nat.le_of_ble_eq_true rfl) rfl).trans (ziteC ((xAload_n d139_139 rfl).trans ((xGetR 1 89 d139_140 zo_139 zfl_11_13 rfl rfl rfl (Or.inl (Nat.le_of_ble_eq_true rfl))).trans ((xIload_n d139_143 rfl).trans ((xDup2 d139_144 rfl rfl).trans ((xIald (N := 234) ((sI I 89 (wr ((wr (a1 + 1)) + (I 89 a1))) t0) 89 a1) rfl d139_145 rfl (Or.inl (Nat.le_of_ble_eq_true rfl)) rfl).trans (ziteC ((xIconst d139_146).trans ((xIadd d139_147).trans ((xIast (N := 234) d139_148 rfl (Nat.le_of_ble_eq_true rfl) rfl).trans (ziteC ((xAload_n d139_149 rfl).trans ((xGetI 15 (I 87 15) ((sI_p (by decide)).trans (sI_p (by decide))) d139_150 zo_139 zfl_11_72 (by decide) rfl rfl (Or.inl (Nat.le_of_ble_eq_true rfl))).trans ((xIfNe (t := 168) d139_153 rfl).trans (ziteC ((xAload_n d139_156 rfl).trans ((xGetI 13 (I 87 13) ((sI_p (by decide)).trans (sI_p (by decide))) d139_157 zo_139 zfl_11_81 (by decide) rfl rfl (Or.inl (Nat.le_of_ble_eq_true rfl))).trans ((xIconst d139_160).trans ((xIcmpNe (t := 168) d139_161 rfl).trans (ziteC ((xIconst d139_164).trans ((xGoto (t := 169) d139_165 rfl).trans ((xIstore_n d139_169 rfl rfl).trans (xGoto (t := 65) d139_170 rfl)))) ((xIconst d139_168).trans ((xIstore_n d139_169 rfl rfl).trans (xGoto (t := 65) d139_170 rfl)))))))) ((xIconst d139_168).trans ((xIstore_n d139_169 rfl rfl).trans (xGoto (t := 65) d139_170 rfl))))))) rfl)))) rfl)))))) rfl)))) rfl)))))))))) ((xAload_n d139_149 rfl).trans ((xGetI 15 (I 87 15) rfl d139_150 zo_139 zfl_11_72 (by decide) rfl rfl (Or.inl (Nat.le_of_ble_eq_true rfl))).trans ((xIfNe (t := 168) d139_153 rfl).trans (ziteC ((xAload_n d139_156 rfl).trans ((xGetI 13 (I 87 13) rfl d139_157 zo_139 zfl_11_81 (by decide) rfl rfl (Or.inl (Nat.le_of_ble_eq_true rfl))).trans ((xIconst d139_160).trans ((xIcmpNe (t := 168) d139_161 rfl).trans (ziteC ((xIconst d139_164).trans ((xGoto (t := 169) d139_165 rfl).trans ((xIstore_n d139_169 rfl rfl).trans (xGoto (t := 65) d139_170 rfl)))) ((xIconst d139_168).trans ((xIstore_n d139_169 rfl rfl).trans (xGoto (t := 65) d139_170 rfl)))))))) ((xIconst d139_168).trans ((xIstore_n d139_169 rfl rfl).trans (xGoto (t := 65) d139_170 rfl)))))))))))
theorem e139_179 {I : Nat → Int → Int} {b : Bool} {S : Nat} {a1 a2 : Int} {w3 : zV} : zX 139 179 [vR 87, vI a1, vI a2, w3] [] (I, zRs b, 103, S) = some (none, ((sI I 89 0 (wr ((I 89 0) + 1))), zRs b, 103, S)) := (xAload_n d139_179 rfl).trans ((xGetR 1 89 d139_180 zo_139 zfl_11_13 rfl rfl rfl (Or.inl (Nat.le_of_ble_eq_true rfl))).trans ((xIconst d139_183).trans ((xDup2 d139_184 rfl rfl).trans ((xIald (N := 234) (I 89 0) rfl d139_185 rfl (Or.inl (Nat.le_of_ble_eq_true rfl)) rfl).trans ((if_pos (by decide)).trans ((xIconst d139_186).trans ((xIadd d139_187).trans ((xIast (N := 234) d139_188 rfl (Nat.le_of_ble_eq_true rfl) rfl).trans ((if_pos (by decide)).trans (xVret d139_189 zret_139))))))))))
theorem run140 {h : zH} {x0 x1 x2 : Int} : zrun 140 [vR 87, vI x0, vI x1, vI x2] h = zX 140 0 [vR 87, vI x0, vI x1, vI x2, none] [] h := rfl
theorem e140_0 {I : Nat → Int → Int} {b : Bool} {S : Nat} {x0 x1 x2 : Int} : zX 140 0 [vR 87, vI x0, vI x1, vI x2, none] [] (I, zRs b, 103, S) = if 0 ≤ (wr (138 + (wr (4 * (I 89 1))))) ∧ (wr (138 + (wr (4 * (I 89 1))))) < 234 then if 0 ≤ (wr ((wr (138 + (wr (4 * (I 89 1))))) + 1)) ∧ (wr ((wr (138 + (wr (4 * (I 89 1))))) + 1)) < 234 then if 0 ≤ (wr ((wr (138 + (wr (4 * (I 89 1))))) + 2)) ∧ (wr ((wr (138 + (wr (4 * (I 89 1))))) + 2)) < 234 then if 0 ≤ (wr ((wr (138 + (wr (4 * (I 89 1))))) + 3)) ∧ (wr ((wr (138 + (wr (4 * (I 89 1))))) + 3)) < 234 then some (none, ((sI (sI (sI (sI (sI I 89 (wr (138 + (wr (4 * (I 89 1))))) x0) 89 (wr ((wr (138 + (wr (4 * (I 89 1))))) + 1)) x1) 89 (wr ((wr (138 + (wr (4 * (I 89 1))))) + 2)) x2) 89 (wr ((wr (138 + (wr (4 * (I 89 1))))) + 3)) (I 87 19)) 89 1 (wr (((sI (sI (sI (sI I 89 (wr (138 + (wr (4 * (I 89 1))))) x0) 89 (wr ((wr (138 + (wr (4 * (I 89 1))))) + 1)) x1) 89 (wr ((wr (138 + (wr (4 * (I 89 1))))) + 2)) x2) 89 (wr ((wr (138 + (wr (4 * (I 89 1))))) + 3)) (I 87 19)) 89 1) + 1))), zRs b, 103, S)) else none else none else none else none := (xSipush d140_0).trans ((xIconst d140_3).trans ((xAload_n d140_4 rfl).trans ((xGetR 1 89 d140_5 zo_140 zfl_11_13 rfl rfl rfl (Or.inl (Nat.le_of_ble_eq_true rfl))).trans ((xIconst d140_8).trans ((xIald (N := 234) (I 89 1) rfl d140_9 rfl (Or.inl (Nat.le_of_ble_eq_true rfl)) rfl).trans ((if_pos (by decide)).trans ((xImul d140_10).trans ((xIadd d140_11).trans ((xIstore d140_12 rfl rfl).trans ((xAload_n d140_14 rfl).trans ((xGetR 1 89 d140_15 zo_140 zfl_11_13 rfl rfl rfl (Or.inl (Nat.le_of_ble_eq_true rfl))).trans ((xIload d140_18 rfl).trans ((xIload_n d140_20 rfl).trans ((xIast (N := 234) d140_21 rfl (Nat.le_of_ble_eq_true rfl) rfl).trans (ziteC ((xAload_n d140_22 rfl).trans ((xGetR 1 89 d140_23 zo_140 zfl_11_13 rfl rfl rfl (Or.inl (Nat.le_of_ble_eq_true rfl))).trans ((xIload d140_26 rfl).trans ((xIconst d140_28).trans ((xIadd d140_29).trans ((xIload_n d140_30 rfl).trans ((xIast (N := 234) d140_31 rfl (Nat.le_of_ble_eq_true rfl) rfl).trans (ziteC ((xAload_n d140_32 rfl).trans ((xGetR 1 89 d140_33 zo_140 zfl_11_13 rfl rfl rfl (Or.inl (Nat.le_of_ble_eq_true rfl))).trans ((xIload d140_36 rfl).trans ((xIconst d140_38).trans ((xIadd d140_39).trans ((xIload_n d140_40 rfl).trans ((xIast (N := 234) d140_41 rfl (Nat.le_of_ble_eq_true rfl) rfl).trans (ziteC ((xAload_n d140_42 rfl).trans ((xGetR 1 89 d140_43 zo_140 zfl_11_13 rfl rfl rfl (Or.inl (Nat.le_of_ble_eq_true rfl))).trans ((xIload d140_46 rfl).trans ((xIconst d140_48).trans ((xIadd d140_49).trans ((xAload_n d140_50 rfl).trans ((xGetI 19 (I 87 19) ((sI_p (by decide)).trans ((sI_p (by decide)).trans (sI_p (by decide)))) d140_51 zo_140 zfl_11_125 (by decide) rfl rfl (Or.inl (Nat.le_of_ble_eq_true rfl))).trans ((xIast (N := 234) d140_54 rfl (Nat.le_of_ble_eq_true rfl) rfl).trans (ziteC ((xAload_n d140_55 rfl).trans ((xGetR 1 89 d140_56 zo_140 zfl_11_13 rfl rfl rfl (Or.inl (Nat.le_of_ble_eq_true rfl))).trans ((xIconst d140_59).trans ((xDup2 d140_60 rfl rfl).trans ((xIald (N := 234) ((sI (sI (sI (sI I 89 (wr (138 + (wr (4 * (I 89 1))))) x0) 89 (wr ((wr (138 + (wr (4 * (I 89 1))))) + 1)) x1) 89 (wr ((wr (138 + (wr (4 * (I 89 1))))) + 2)) x2) 89 (wr ((wr (138 + (wr (4 * (I 89 1))))) + 3)) (I 87 19)) 89 1) rfl d140_61 rfl (Or.inl (Nat.le_of_ble_eq_true rfl)) rfl).trans ((if_pos (by decide)).trans ((xIconst d140_62).trans ((xIadd d140_63).trans ((xIast (N := 234) d140_64 rfl (Nat.le_of_ble_eq_true rfl) rfl).trans ((if_pos (by decide)).trans (xVret d140_65 zret_140))))))))))) rfl))))))))) rfl)))))))) rfl)))))))) rfl)))))))))))))))
theorem run141 {h : zH} : zrun 141 [vR 87] h = zX 141 0 [vR 87, none] [] h := rfl
theorem e141_0 {I : Nat → Int → Int} {b : Bool} {S : Nat} : zX 141 0 [vR 87, none] [] (I, zRs b, 103, S) = if 0 ≤ (wr ((I 87 19) - 1)) ∧ (wr ((I 87 19) - 1)) < 4 then if 0 ≤ (wr ((wr (138 + (wr (4 * (I 97 (wr ((I 87 19) - 1))))))) + 2)) ∧ (wr ((wr (138 + (wr (4 * (I 97 (wr ((I 87 19) - 1))))))) + 2)) < 234 then if 0 ≤ (wr ((wr (138 + (wr (4 * (I 97 (wr ((I 87 19) - 1))))))) + 1)) ∧ (wr ((wr (138 + (wr (4 * (I 97 (wr ((I 87 19) - 1))))))) + 1)) < 234 then (zrun 140 [vR 87, vI 4, vI ((sI (sI I 87 19 (wr ((I 87 19) - 1))) 89 (wr ((wr (138 + (wr (4 * (I 97 (wr ((I 87 19) - 1))))))) + 2)) (I 89 1)) 89 (wr ((wr (138 + (wr (4 * (I 97 (wr ((I 87 19) - 1))))))) + 1))), vI (I 97 (wr ((I 87 19) - 1)))] ((sI (sI I 87 19 (wr ((I 87 19) - 1))) 89 (wr ((wr (138 + (wr (4 * (I 97 (wr ((I 87 19) - 1))))))) + 2)) (I 89 1)), zRs b, 103, S)).bind (fun q => zX 141 60 [vR 87, vI (I 97 (wr ((I 87 19) - 1)))] (zpush q.1 []) q.2) else none else none else none := (xAload_n d141_0 rfl).trans ((xDup d141_1 rfl).trans ((xGetI 19 (I 87 19) rfl d141_2 zo_141 zfl_11_125 (by decide) rfl rfl (Or.inl (Nat.le_of_ble_eq_true rfl))).trans ((xIconst d141_5).trans ((xIsub d141_6).trans ((xPutI 19 d141_7 zo_141 zfl_11_125 rfl rfl (Nat.le_of_ble_eq_true rfl) (Or.inl rfl)).trans ((xAload_n d141_10 rfl).trans ((xGetR 17 97 d141_11 zo_141 zfl_11_38 rfl rfl rfl (Or.inl (Nat.le_of_ble_eq_true rfl))).trans ((xAload_n d141_14 rfl).trans ((xGetI 19 (wr ((I 87 19) - 1)) sI_s d141_15 zo_141 zfl_11_125 (by decide) rfl rfl (Or.inl (Nat.le_of_ble_eq_true rfl))).trans ((xIald (N := 4) (I 97 (wr ((I 87 19) - 1))) (sI_p (by decide)) d141_18 rfl (Or.inl (Nat.le_of_ble_eq_true rfl)) rfl).trans (ziteC ((xIstore_n d141_19 rfl rfl).trans ((xAload_n d141_20 rfl).trans ((xGetR 1 89 d141_21 zo_141 zfl_11_13 rfl rfl rfl (Or.inl (Nat.le_of_ble_eq_true rfl))).trans ((xSipush d141_24).trans ((xIconst d141_27).trans ((xIload_n d141_28 rfl).trans ((xImul d141_29).trans ((xIadd d141_30).trans ((xIconst d141_31).trans ((xIadd d141_32).trans ((xAload_n d141_33 rfl).trans ((xGetR 1 89 d141_34 zo_141 zfl_11_13 rfl rfl rfl (Or.inl (Nat.le_of_ble_eq_true rfl))).trans ((xIconst d141_37).trans ((xIald (N := 234) (I 89 1) (sI_p (by decide)) d141_38 rfl (Or.inl (Nat.le_of_ble_eq_true rfl)) rfl).trans ((if_pos (by decide)).trans ((xIast (N := 234) d141_39 rfl (Nat.le_of_ble_eq_true rfl) rfl).trans (ziteC ((xAload_n d141_40 rfl).trans ((xIconst d141_41).trans ((xAload_n d141_42 rfl).trans ((xGetR 1 89 d141_43 zo_141 zfl_11_13 rfl rfl rfl (Or.inl (Nat.le_of_ble_eq_true rfl))).trans ((xSipush d141_46).trans ((xIconst d141_49).trans ((xIload_n d141_50 rfl).trans ((xImul d141_51).trans ((xIadd d141_52).trans ((xIconst d141_53).trans ((xIadd d141_54).trans ((xIald (N := 234) ((sI (sI I 87 19 (wr ((I 87 19) - 1))) 89 (wr ((wr (138 + (wr (4 * (I 97 (wr ((I 87 19) - 1))))))) + 2)) (I 89 1)) 89 (wr ((wr (138 + (wr (4 * (I 97 (wr ((I 87 19) - 1))))))) + 1))) rfl d141_55 rfl (Or.inl (Nat.le_of_ble_eq_true rfl)) rfl).trans (ziteC ((xIload_n d141_56 rfl).trans (xInvV [vR 87, vI 4, vI ((sI (sI I 87 19 (wr ((I 87 19) - 1))) 89 (wr ((wr (138 + (wr (4 * (I 97 (wr ((I 87 19) - 1))))))) + 2)) (I 89 1)) 89 (wr ((wr (138 + (wr (4 * (I 97 (wr ((I 87 19) - 1))))))) + 1))), vI (I 97 (wr ((I 87 19) - 1)))] [] d141_57 zo_141 zml_11_128 rfl rfl rfl (Or.inl ⟨rfl, (Nat.le_of_ble_eq_true rfl)⟩))) rfl))))))))))))) rfl))))))))))))))))) rfl)))))))))))
theorem e141_60 {I : Nat → Int → Int} {b : Bool} {S : Nat} {a1 : Int} : zX 141 60 [vR 87, vI a1] [] (I, zRs b, 103, S) = if (I 87 19) ≤ 0 then some (none, (I, zRs b, 103, S)) else if 0 ≤ (wr ((I 87 19) - 1)) ∧ (wr ((I 87 19) - 1)) < 4 then if (I 98 (wr ((I 87 19) - 1))) = 0 then if 0 ≤ (I 87 19) ∧ (I 87 19) < 4 then if (I 98 (I 87 19)) = 0 then if 0 ≤ (wr ((I 87 19) - 1)) ∧ (wr ((I 87 19) - 1)) < 4 then some (none, ((sI I 98 (wr ((I 87 19) - 1)) 0), zRs b, 103, S)) else none else if 0 ≤ (wr ((I 87 19) - 1)) ∧ (wr ((I 87 19) - 1)) < 4 then some (none, ((sI I 98 (wr ((I 87 19) - 1)) 1), zRs b, 103, S)) else none else none else if 0 ≤ (wr ((I 87 19) - 1)) ∧ (wr ((I 87 19) - 1)) < 4 then some (none, ((sI I 98 (wr ((I 87 19) - 1)) 1), zRs b, 103, S)) else none else none := (xAload_n d141_60 rfl).trans ((xGetI 19 (I 87 19) rfl d141_61 zo_141 zfl_11_125 (by decide) rfl rfl (Or.inl (Nat.le_of_ble_eq_true rfl))).trans ((xIfLe (t := 109) d141_64 rfl).trans (ziteC (xVret d141_109 zret_141) ((xAload_n d141_67 rfl).trans ((xGetR 18 98 d141_68 zo_141 zfl_11_41 rfl rfl rfl (Or.inl (Nat.le_of_ble_eq_true rfl))).trans ((xAload_n d141_71 rfl).trans ((xGetI 19 (I 87 19) rfl d141_72 zo_141 zfl_11_125 (by decide) rfl rfl (Or.inl (Nat.le_of_ble_eq_true rfl))).trans ((xIconst d141_75).trans ((xIsub d141_76).trans ((xAload_n d141_77 rfl).trans ((xGetR 18 98 d141_78 zo_141 zfl_11_41 rfl rfl rfl (Or.inl (Nat.le_of_ble_eq_true rfl))).trans ((xAload_n d141_81 rfl).trans ((xGetI 19 (I 87 19) rfl d141_82 zo_141 zfl_11_125 (by decide) rfl rfl (Or.inl (Nat.le_of_ble_eq_true rfl))).trans ((xIconst d141_85).trans ((xIsub d141_86).trans ((xBald (N := 4) (I 98 (wr ((I 87 19) - 1))) rfl d141_87 (Or.inr rfl) (Or.inl (Nat.le_of_ble_eq_true rfl)) rfl).trans (ziteC ((xIfNe (t := 103) d141_88 rfl).trans (ziteC ((xAload_n d141_91 rfl).trans ((xGetR 18 98 d141_92 zo_141 zfl_11_41 rfl rfl rfl (Or.inl (Nat.le_of_ble_eq_true rfl))).trans ((xAload_n d141_95 rfl).trans ((xGetI 19 (I 87 19) rfl d141_96 zo_141 zfl_11_125 (by decide) rfl rfl (Or.inl (Nat.le_of_ble_eq_true rfl))).trans ((xBald (N := 4) (I 98 (I 87 19)) rfl d141_99 (Or.inr rfl) (Or.inl (Nat.le_of_ble_eq_true rfl)) rfl).trans (ziteC ((xIfEq (t := 107) d141_100 rfl).trans (ziteC ((xIconst d141_107).trans ((xZast (N := 4) d141_108 rfl (Nat.le_of_ble_eq_true rfl) (by decide) rfl).trans (ziteC (xVret d141_109 zret_141) rfl))) ((xIconst d141_103).trans ((xGoto (t := 108) d141_104 rfl).trans ((xZast (N := 4) d141_108 rfl (Nat.le_of_ble_eq_true rfl) (by decide) rfl).trans (ziteC (xVret d141_109 zret_141) rfl)))))) rfl)))))) ((xIconst d141_103).trans ((xGoto (t := 108) d141_104 rfl).trans ((xZast (N := 4) d141_108 rfl (Nat.le_of_ble_eq_true rfl) (by decide) rfl).trans (ziteC (xVret d141_109 zret_141) rfl)))))) rfl)))))))))))))))))
theorem run142 {h : zH} {x0 x1 : Int} : zrun 142 [vR 87, vI x0, vI x1] h = zX 142 0 [vR 87, vI x0, vI x1] [] h := rfl
theorem e142_0 {I : Nat → Int → Int} {b : Bool} {S : Nat} {x0 x1 : Int} : zX 142 0 [vR 87, vI x0, vI x1] [] (I, zRs b, 103, S) = (zrun 140 [vR 87, vI x0, vI x1, vI (-4)] (I, zRs b, 103, S)).bind (fun q => zX 142 8 [vR 87, vI x0, vI x1] (zpush q.1 []) q.2) := (xAload_n d142_0 rfl).trans ((xIload_n d142_1 rfl).trans ((xIload_n d142_2 rfl).trans ((xBipush d142_3).trans (xInvV [vR 87, vI x0, vI x1, vI (-4)] [] d142_5 zo_142 zml_11_128 rfl rfl rfl (Or.inl ⟨rfl, (Nat.le_of_ble_eq_true rfl)⟩)))))
theorem e142_8 {I : Nat → Int → Int} {b : Bool} {S : Nat} {a1 a2 : Int} : zX 142 8 [vR 87, vI a1, vI a2] [] (I, zRs b, 103, S) = if 0 ≤ (I 87 19) ∧ (I 87 19) < 4 then if 0 ≤ (I 87 19) ∧ (I 87 19) < 4 then some (none, ((sI (sI (sI I 97 (I 87 19) (wr ((I 89 1) - 1))) 98 (I 87 19) 0) 87 19 (wr ((I 87 19) + 1))), zRs b, 103, S)) else none else none := (xAload_n d142_8 rfl).trans ((xGetR 17 97 d142_9 zo_142 zfl_11_38 rfl rfl rfl (Or.inl (Nat.le_of_ble_eq_true rfl))).trans ((xAload_n d142_12 rfl).trans ((xGetI 19 (I 87 19) rfl d142_13 zo_142 zfl_11_125 (by decide) rfl rfl (Or.inl (Nat.le_of_ble_eq_true rfl))).trans ((xAload_n d142_16 rfl).trans ((xGetR 1 89 d142_17 zo_142 zfl_11_13 rfl rfl rfl (Or.inl (Nat.le_of_ble_eq_true rfl))).trans ((xIconst d142_20).trans ((xIald (N := 234) (I 89 1) rfl d142_21 rfl (Or.inl (Nat.le_of_ble_eq_true rfl)) rfl).trans ((if_pos (by decide)).trans ((xIconst d142_22).trans ((xIsub d142_23).trans ((xIast (N := 4) d142_24 rfl (Nat.le_of_ble_eq_true rfl) rfl).trans (ziteC ((xAload_n d142_25 rfl).trans ((xGetR 18 98 d142_26 zo_142 zfl_11_41 rfl rfl rfl (Or.inl (Nat.le_of_ble_eq_true rfl))).trans ((xAload_n d142_29 rfl).trans ((xGetI 19 (I 87 19) (sI_p (by decide)) d142_30 zo_142 zfl_11_125 (by decide) rfl rfl (Or.inl (Nat.le_of_ble_eq_true rfl))).trans ((xIconst d142_33).trans ((xZast (N := 4) d142_34 rfl (Nat.le_of_ble_eq_true rfl) (by decide) rfl).trans (ziteC ((xAload_n d142_35 rfl).trans ((xDup d142_36 rfl).trans ((xGetI 19 (I 87 19) ((sI_p (by decide)).trans (sI_p (by decide))) d142_37 zo_142 zfl_11_125 (by decide) rfl rfl (Or.inl (Nat.le_of_ble_eq_true rfl))).trans ((xIconst d142_40).trans ((xIadd d142_41).trans ((xPutI 19 d142_42 zo_142 zfl_11_125 rfl rfl (Nat.le_of_ble_eq_true rfl) (Or.inl rfl)).trans (xVret d142_45 zret_142))))))) rfl))))))) rfl))))))))))))
theorem run143 {h : zH} {x0 : Int} : zrun 143 [vR 87, vI x0] h = zX 143 0 [vR 87, vI x0, none] [] h := rfl
theorem e143_0 {I : Nat → Int → Int} {b : Bool} {S : Nat} {x0 : Int} : zX 143 0 [vR 87, vI x0, none] [] (I, zRs b, 103, S) = (zrun 135 [vR 87] (I, zRs b, 103, S)).bind (fun q => zX 143 4 [vR 87, vI x0, none] (zpush q.1 []) q.2) := (xAload_n d143_0 rfl).trans (xInvV [vR 87] [] d143_1 zo_143 zml_11_110 rfl rfl rfl (Or.inl ⟨rfl, (Nat.le_of_ble_eq_true rfl)⟩))
theorem e143_4 {I : Nat → Int → Int} {b : Bool} {S : Nat} {a1 : Int} : zX 143 4 [vR 87, vI a1, none] [] (I, zRs b, 103, S) = if a1 = 0 then (zrun 137 [vR 87, vI 0, vI (wr ((I 89 0) - 1))] (I, zRs b, 103, S)).bind (fun q => zX 143 21 [vR 87, vI a1, none] (zpush q.1 []) q.2) else if a1 = 1 then (zrun 137 [vR 87, vI 0, vI 9] (I, zRs b, 103, S)).bind (fun q => zX 143 71 [vR 87, vI a1, none] (zpush q.1 []) q.2) else if a1 = 2 then if a1 = 2 then (zrun 137 [vR 87, vI 1, vI 9] (I, zRs b, 103, S)).bind (fun q => zX 143 115 [vR 87, vI a1, none] (zpush q.1 []) q.2) else (zrun 137 [vR 87, vI 1, vI 3] (I, zRs b, 103, S)).bind (fun q => zX 143 115 [vR 87, vI a1, none] (zpush q.1 []) q.2) else if a1 = 2 then (zrun 137 [vR 87, vI 0, vI 9] (I, zRs b, 103, S)).bind (fun q => zX 143 115 [vR 87, vI a1, none] (zpush q.1 []) q.2) else (zrun 137 [vR 87, vI 0, vI 3] (I, zRs b, 103, S)).bind (fun q => zX 143 115 [vR 87, vI a1, none] (zpush q.1 []) q.2) := (xIload_n d143_4 rfl).trans ((xIfNe (t := 59) d143_5 rfl).trans (ziteC ((xAload_n d143_8 rfl).trans ((xIconst d143_9).trans ((xAload_n d143_10 rfl).trans ((xGetR 1 89 d143_11 zo_143 zfl_11_13 rfl rfl rfl (Or.inl (Nat.le_of_ble_eq_true rfl))).trans ((xIconst d143_14).trans ((xIald (N := 234) (I 89 0) rfl d143_15 rfl (Or.inl (Nat.le_of_ble_eq_true rfl)) rfl).trans ((if_pos (by decide)).trans ((xIconst d143_16).trans ((xIsub d143_17).trans (xInvV [vR 87, vI 0, vI (wr ((I 89 0) - 1))] [] d143_18 zo_143 zml_11_117 rfl rfl rfl (Or.inl ⟨rfl, (Nat.le_of_ble_eq_true rfl)⟩))))))))))) ((xIload_n d143_59 rfl).trans ((xIconst d143_60).trans ((xIcmpNe (t := 90) d143_61 rfl).trans (ziteC ((xAload_n d143_64 rfl).trans ((xIconst d143_65).trans ((xBipush d143_66).trans (xInvV [vR 87, vI 0, vI 9] [] d143_68 zo_143 zml_11_117 rfl rfl rfl (Or.inl ⟨rfl, (Nat.le_of_ble_eq_true rfl)⟩))))) ((xAload_n d143_90 rfl).trans ((xIload_n d143_91 rfl).trans ((xIconst d143_92).trans ((xIcmpNe (t := 100) d143_93 rfl).trans (ziteC ((xIconst d143_96).trans ((xGoto (t := 101) d143_97 rfl).trans ((xIload_n d143_101 rfl).trans ((xIconst d143_102).trans ((xIcmpNe (t := 111) d143_103 rfl).trans (ziteC ((xBipush d143_106).trans ((xGoto (t := 112) d143_108 rfl).trans (xInvV [vR 87, vI 1, vI 9] [] d143_112 zo_143 zml_11_117 rfl rfl rfl (Or.inl ⟨rfl, (Nat.le_of_ble_eq_true rfl)⟩)))) ((xIconst d143_111).trans (xInvV [vR 87, vI 1, vI 3] [] d143_112 zo_143 zml_11_117 rfl rfl rfl (Or.inl ⟨rfl, (Nat.le_of_ble_eq_true rfl)⟩))))))))) ((xIconst d143_100).trans ((xIload_n d143_101 rfl).trans ((xIconst d143_102).trans ((xIcmpNe (t := 111) d143_103 rfl).trans (ziteC ((xBipush d143_106).trans ((xGoto (t := 112) d143_108 rfl).trans (xInvV [vR 87, vI 0, vI 9] [] d143_112 zo_143 zml_11_117 rfl rfl rfl (Or.inl ⟨rfl, (Nat.le_of_ble_eq_true rfl)⟩)))) ((xIconst d143_111).trans (xInvV [vR 87, vI 0, vI 3] [] d143_112 zo_143 zml_11_117 rfl rfl rfl (Or.inl ⟨rfl, (Nat.le_of_ble_eq_true rfl)⟩)))))))))))))))))))
theorem e143_21 {I : Nat → Int → Int} {b : Bool} {S : Nat} {a1 t0 : Int} : zX 143 21 [vR 87, vI a1, none] [vI t0] (I, zRs b, 103, S) = if (I 87 15) = 0 then (zrun 140 [vR 87, vI 0, vI t0, vI (-4)] (I, zRs b, 103, S)).bind (fun q => zX 143 37 [vR 87, vI a1, vI t0] (zpush q.1 []) q.2) else zX 143 169 [vR 87, vI a1, vI t0] [] (I, zRs b, 103, S) := (xIstore_n d143_21 rfl rfl).trans ((xAload_n d143_22 rfl).trans ((xGetI 15 (I 87 15) rfl d143_23 zo_143 zfl_11_72 (by decide) rfl rfl (Or.inl (Nat.le_of_ble_eq_true rfl))).trans ((xIfNe (t := 56) d143_26 rfl).trans (ziteC ((xAload_n d143_29 rfl).trans ((xIconst d143_30).trans ((xIload_n d143_31 rfl).trans ((xBipush d143_32).trans (xInvV [vR 87, vI 0, vI t0, vI (-4)] [] d143_34 zo_143 zml_11_128 rfl rfl rfl (Or.inl ⟨rfl, (Nat.le_of_ble_eq_true rfl)⟩)))))) (xGoto (t := 169) d143_56 rfl)))))
theorem e143_37 {I : Nat → Int → Int} {b : Bool} {S : Nat} {a1 a2 : Int} : zX 143 37 [vR 87, vI a1, vI a2] [] (I, zRs b, 103, S) = if (I 87 19) ≤ 0 then zX 143 169 [vR 87, vI a1, vI a2] [] (I, zRs b, 103, S) else if 0 ≤ (wr ((I 87 19) - 1)) ∧ (wr ((I 87 19) - 1)) < 4 then zX 143 169 [vR 87, vI a1, vI a2] [] ((sI I 98 (wr ((I 87 19) - 1)) 1), zRs b, 103, S) else none := (xAload_n d143_37 rfl).trans ((xGetI 19 (I 87 19) rfl d143_38 zo_143 zfl_11_125 (by decide) rfl rfl (Or.inl (Nat.le_of_ble_eq_true rfl))).trans ((xIfLe (t := 56) d143_41 rfl).trans (ziteC (xGoto (t := 169) d143_56 rfl) ((xAload_n d143_44 rfl).trans ((xGetR 18 98 d143_45 zo_143 zfl_11_41 rfl rfl rfl (Or.inl (Nat.le_of_ble_eq_true rfl))).trans ((xAload_n d143_48 rfl).trans ((xGetI 19 (I 87 19) rfl d143_49 zo_143 zfl_11_125 (by decide) rfl rfl (Or.inl (Nat.le_of_ble_eq_true rfl))).trans ((xIconst d143_52).trans ((xIsub d143_53).trans ((xIconst d143_54).trans ((xZast (N := 4) d143_55 rfl (Nat.le_of_ble_eq_true rfl) (by decide) rfl).trans (ziteC (xGoto (t := 169) d143_56 rfl) rfl))))))))))))
theorem e143_71 {I : Nat → Int → Int} {b : Bool} {S : Nat} {a1 t0 : Int} : zX 143 71 [vR 87, vI a1, none] [vI t0] (I, zRs b, 103, S) = if (I 87 15) = 0 then (zrun 140 [vR 87, vI 1, vI t0, vI (-4)] (I, zRs b, 103, S)).bind (fun q => zX 143 87 [vR 87, vI a1, vI t0] (zpush q.1 []) q.2) else zX 143 87 [vR 87, vI a1, vI t0] [] (I, zRs b, 103, S) := (xIstore_n d143_71 rfl rfl).trans ((xAload_n d143_72 rfl).trans ((xGetI 15 (I 87 15) rfl d143_73 zo_143 zfl_11_72 (by decide) rfl rfl (Or.inl (Nat.le_of_ble_eq_true rfl))).trans ((xIfNe (t := 87) d143_76 rfl).trans (ziteC ((xAload_n d143_79 rfl).trans ((xIconst d143_80).trans ((xIload_n d143_81 rfl).trans ((xBipush d143_82).trans (xInvV [vR 87, vI 1, vI t0, vI (-4)] [] d143_84 zo_143 zml_11_128 rfl rfl rfl (Or.inl ⟨rfl, (Nat.le_of_ble_eq_true rfl)⟩)))))) rfl))))
theorem e143_87 {I : Nat → Int → Int} {b : Bool} {S : Nat} {a1 a2 : Int} : zX 143 87 [vR 87, vI a1, vI a2] [] (I, zRs b, 103, S) = zX 143 169 [vR 87, vI a1, vI a2] [] (I, zRs b, 103, S) := xGoto (t := 169) d143_87 rfl
theorem e143_115 {I : Nat → Int → Int} {b : Bool} {S : Nat} {a1 t0 : Int} : zX 143 115 [vR 87, vI a1, none] [vI t0] (I, zRs b, 103, S) = if (I 87 15) = 0 then (zrun 136 [vR 87, vI 40] (I, zRs b, 103, S)).bind (fun q => zX 143 130 [vR 87, vI a1, vI t0] (zpush q.1 [vR 87]) q.2) else zX 143 152 [vR 87, vI a1, vI t0] [] (I, zRs b, 103, S) := (xIstore_n d143_115 rfl rfl).trans ((xAload_n d143_116 rfl).trans ((xGetI 15 (I 87 15) rfl d143_117 zo_143 zfl_11_72 (by decide) rfl rfl (Or.inl (Nat.le_of_ble_eq_true rfl))).trans ((xIfNe (t := 152) d143_120 rfl).trans (ziteC ((xAload_n d143_123 rfl).trans ((xAload_n d143_124 rfl).trans ((xBipush d143_125).trans (xInvV [vR 87, vI 40] [vR 87] d143_127 zo_143 zml_11_113 rfl rfl rfl (Or.inl ⟨rfl, (Nat.le_of_ble_eq_true rfl)⟩))))) rfl))))
theorem e143_130 {I : Nat → Int → Int} {b : Bool} {S : Nat} {a1 a2 t1 : Int} : zX 143 130 [vR 87, vI a1, vI a2] [vI t1, vR 87] (I, zRs b, 103, S) = (zrun 129 [vR 87, vI t1, vI 2] (I, zRs b, 103, S)).bind (fun q => zX 143 134 [vR 87, vI a1, vI a2] (zpush q.1 []) q.2) := (xIconst d143_130).trans (xInvV [vR 87, vI t1, vI 2] [] d143_131 zo_143 zml_11_106 rfl rfl rfl (Or.inl ⟨rfl, (Nat.le_of_ble_eq_true rfl)⟩))
theorem e143_134 {I : Nat → Int → Int} {b : Bool} {S : Nat} {a1 a2 : Int} : zX 143 134 [vR 87, vI a1, vI a2] [] (I, zRs b, 103, S) = if 4 ≤ (I 87 19) then (zrun 129 [vR 87, vI 0, vI 5] (I, zRs b, 103, S)).bind (fun q => zX 143 152 [vR 87, vI a1, vI a2] (zpush q.1 []) q.2) else (zrun 129 [vR 87, vI 1, vI 5] (I, zRs b, 103, S)).bind (fun q => zX 143 152 [vR 87, vI a1, vI a2] (zpush q.1 []) q.2) := (xAload_n d143_134 rfl).trans ((xAload_n d143_135 rfl).trans ((xGetI 19 (I 87 19) rfl d143_136 zo_143 zfl_11_125 (by decide) rfl rfl (Or.inl (Nat.le_of_ble_eq_true rfl))).trans ((xIconst d143_139).trans ((xIcmpGe (t := 147) d143_140 rfl).trans (ziteC ((xIconst d143_147).trans ((xIconst d143_148).trans (xInvV [vR 87, vI 0, vI 5] [] d143_149 zo_143 zml_11_106 rfl rfl rfl (Or.inl ⟨rfl, (Nat.le_of_ble_eq_true rfl)⟩)))) ((xIconst d143_143).trans ((xGoto (t := 148) d143_144 rfl).trans ((xIconst d143_148).trans (xInvV [vR 87, vI 1, vI 5] [] d143_149 zo_143 zml_11_106 rfl rfl rfl (Or.inl ⟨rfl, (Nat.le_of_ble_eq_true rfl)⟩))))))))))
theorem e143_152 {I : Nat → Int → Int} {b : Bool} {S : Nat} {a1 a2 : Int} : zX 143 152 [vR 87, vI a1, vI a2] [] (I, zRs b, 103, S) = if (I 87 15) = 0 then (zrun 142 [vR 87, vI a1, vI a2] (I, zRs b, 103, S)).bind (fun q => zX 143 165 [vR 87, vI a1, vI a2] (zpush q.1 []) q.2) else zX 143 165 [vR 87, vI a1, vI a2] [] (I, zRs b, 103, S) := (xAload_n d143_152 rfl).trans ((xGetI 15 (I 87 15) rfl d143_153 zo_143 zfl_11_72 (by decide) rfl rfl (Or.inl (Nat.le_of_ble_eq_true rfl))).trans ((xIfNe (t := 165) d143_156 rfl).trans (ziteC ((xAload_n d143_159 rfl).trans ((xIload_n d143_160 rfl).trans ((xIload_n d143_161 rfl).trans (xInvV [vR 87, vI a1, vI a2] [] d143_162 zo_143 zml_11_132 rfl rfl rfl (Or.inl ⟨rfl, (Nat.le_of_ble_eq_true rfl)⟩))))) rfl)))
theorem e143_165 {I : Nat → Int → Int} {b : Bool} {S : Nat} {a1 a2 : Int} : zX 143 165 [vR 87, vI a1, vI a2] [] (I, zRs b, 103, S) = (zrun 135 [vR 87] (I, zRs b, 103, S)).bind (fun q => zX 143 169 [vR 87, vI a1, vI a2] (zpush q.1 []) q.2) := (xAload_n d143_165 rfl).trans (xInvV [vR 87] [] d143_166 zo_143 zml_11_110 rfl rfl rfl (Or.inl ⟨rfl, (Nat.le_of_ble_eq_true rfl)⟩))
theorem e143_169 {I : Nat → Int → Int} {b : Bool} {S : Nat} {a1 a2 : Int} : zX 143 169 [vR 87, vI a1, vI a2] [] (I, zRs b, 103, S) = some (none, (I, zRs b, 103, S)) := xVret d143_169 zret_143
theorem run144 {h : zH} : zrun 144 [vR 87] h = zX 144 0 [vR 87, none, none, none] [] h := rfl
theorem e144_0 {I : Nat → Int → Int} {b : Bool} {S : Nat} : zX 144 0 [vR 87, none, none, none] [] (I, zRs b, 103, S) = if (I 87 15) = 0 then zX 144 13 [vR 87, vI 1, none, none] [] (I, zRs b, 103, S) else zX 144 13 [vR 87, vI 0, none, none] [] (I, zRs b, 103, S) := (xAload_n d144_0 rfl).trans ((xGetI 15 (I 87 15) rfl d144_1 zo_144 zfl_11_72 (by decide) rfl rfl (Or.inl (Nat.le_of_ble_eq_true rfl))).trans ((xIfNe (t := 11) d144_4 rfl).trans (ziteC ((xIconst d144_7).trans ((xGoto (t := 12) d144_8 rfl).trans (xIstore_n d144_12 rfl rfl))) ((xIconst d144_11).trans (xIstore_n d144_12 rfl rfl)))))
theorem e144_13 {I : Nat → Int → Int} {b : Bool} {S : Nat} {a1 : Int} {w2 w3 : zV} : zX 144 13 [vR 87, vI a1, w2, w3] [] (I, zRs b, 103, S) = if a1 = 0 then if (I 87 15) = 0 then if (I 87 19) = 0 then (zrun 129 [vR 87, vI 1, vI 2] (I, zRs b, 103, S)).bind (fun q => zX 144 171 [vR 87, vI a1, w2, w3] (zpush q.1 []) q.2) else (zrun 129 [vR 87, vI 0, vI 2] (I, zRs b, 103, S)).bind (fun q => zX 144 171 [vR 87, vI a1, w2, w3] (zpush q.1 []) q.2) else zX 144 171 [vR 87, vI a1, w2, w3] [] (I, zRs b, 103, S) else (zrun 134 [vR 87] (I, zRs b, 103, S)).bind (fun q => zX 144 21 [vR 87, vI a1, w2, w3] (zpush q.1 []) q.2) := (xIload_n d144_13 rfl).trans ((xIfEq (t := 147) d144_14 rfl).trans (ziteC ((xAload_n d144_147 rfl).trans ((xGetI 15 (I 87 15) rfl d144_148 zo_144 zfl_11_72 (by decide) rfl rfl (Or.inl (Nat.le_of_ble_eq_true rfl))).trans ((xIfNe (t := 171) d144_151 rfl).trans (ziteC ((xAload_n d144_154 rfl).trans ((xAload_n d144_155 rfl).trans ((xGetI 19 (I 87 19) rfl d144_156 zo_144 zfl_11_125 (by decide) rfl rfl (Or.inl (Nat.le_of_ble_eq_true rfl))).trans ((xIfNe (t := 166) d144_159 rfl).trans (ziteC ((xIconst d144_162).trans ((xGoto (t := 167) d144_163 rfl).trans ((xIconst d144_167).trans (xInvV [vR 87, vI 1, vI 2] [] d144_168 zo_144 zml_11_106 rfl rfl rfl (Or.inl ⟨rfl, (Nat.le_of_ble_eq_true rfl)⟩))))) ((xIconst d144_166).trans ((xIconst d144_167).trans (xInvV [vR 87, vI 0, vI 2] [] d144_168 zo_144 zml_11_106 rfl rfl rfl (Or.inl ⟨rfl, (Nat.le_of_ble_eq_true rfl)⟩))))))))) rfl)))) ((xAload_n d144_17 rfl).trans (xInvV [vR 87] [] d144_18 zo_144 zml_11_136 rfl rfl rfl (Or.inl ⟨rfl, (Nat.le_of_ble_eq_true rfl)⟩)))))
theorem e144_21 {I : Nat → Int → Int} {b : Bool} {S : Nat} {a1 t0 : Int} {w2 w3 : zV} : zX 144 21 [vR 87, vI a1, w2, w3] [vI t0] (I, zRs b, 103, S) = (zrun 136 [vR 87, vI 41] (I, zRs b, 103, S)).bind (fun q => zX 144 28 [vR 87, vI a1, vI t0, w3] (zpush q.1 []) q.2) := (xIstore_n d144_21 rfl rfl).trans ((xAload_n d144_22 rfl).trans ((xBipush d144_23).trans (xInvV [vR 87, vI 41] [] d144_25 zo_144 zml_11_113 rfl rfl rfl (Or.inl ⟨rfl, (Nat.le_of_ble_eq_true rfl)⟩))))
theorem e144_28 {I : Nat → Int → Int} {b : Bool} {S : Nat} {a1 a2 t0 : Int} {w3 : zV} : zX 144 28 [vR 87, vI a1, vI a2, w3] [vI t0] (I, zRs b, 103, S) = if t0 = 0 then if a2 = (-4) then zX 144 13 [vR 87, vI 0, vI a2, vI 0] [] (I, zRs b, 103, S) else if 24 ≤ (I 89 1) then (zrun 129 [vR 87, vI 0, vI 4] (I, zRs b, 103, S)).bind (fun q => zX 144 80 [vR 87, vI a1, vI a2, vI 0] (zpush q.1 []) q.2) else (zrun 129 [vR 87, vI 1, vI 4] (I, zRs b, 103, S)).bind (fun q => zX 144 80 [vR 87, vI a1, vI a2, vI 0] (zpush q.1 []) q.2) else if (I 87 19) ≤ 0 then if a2 = (-4) then zX 144 13 [vR 87, vI 0, vI a2, vI 0] [] (I, zRs b, 103, S) else if 24 ≤ (I 89 1) then (zrun 129 [vR 87, vI 0, vI 4] (I, zRs b, 103, S)).bind (fun q => zX 144 80 [vR 87, vI a1, vI a2, vI 0] (zpush q.1 []) q.2) else (zrun 129 [vR 87, vI 1, vI 4] (I, zRs b, 103, S)).bind (fun q => zX 144 80 [vR 87, vI a1, vI a2, vI 0] (zpush q.1 []) q.2) else if a2 = (-4) then if 24 ≤ (I 89 1) then (zrun 129 [vR 87, vI 0, vI 4] (I, zRs b, 103, S)).bind (fun q => zX 144 80 [vR 87, vI a1, vI a2, vI 1] (zpush q.1 []) q.2) else (zrun 129 [vR 87, vI 1, vI 4] (I, zRs b, 103, S)).bind (fun q => zX 144 80 [vR 87, vI a1, vI a2, vI 1] (zpush q.1 []) q.2) else if 24 ≤ (I 89 1) then (zrun 129 [vR 87, vI 0, vI 4] (I, zRs b, 103, S)).bind (fun q => zX 144 80 [vR 87, vI a1, vI a2, vI 1] (zpush q.1 []) q.2) else (zrun 129 [vR 87, vI 1, vI 4] (I, zRs b, 103, S)).bind (fun q => zX 144 80 [vR 87, vI a1, vI a2, vI 1] (zpush q.1 []) q.2) := (xIfEq (t := 42) d144_28 rfl).trans (ziteC ((xIconst d144_42).trans ((xIstore_n d144_43 rfl rfl).trans ((xIload_n d144_44 rfl).trans ((xBipush d144_45).trans ((xIcmpNe (t := 59) d144_47 rfl).trans (ziteC ((xIload_n d144_50 rfl).trans ((xIfNe (t := 59) d144_51 rfl).trans ((if_pos (by decide)).trans ((xIconst d144_54).trans ((xIstore_n d144_55 rfl rfl).trans ((xGoto (t := 144) d144_56 rfl).trans (xGoto (t := 13) d144_144 rfl))))))) ((xAload_n d144_59 rfl).trans ((xAload_n d144_60 rfl).trans ((xGetR 1 89 d144_61 zo_144 zfl_11_13 rfl rfl rfl (Or.inl (Nat.le_of_ble_eq_true rfl))).trans ((xIconst d144_64).trans ((xIald (N := 234) (I 89 1) rfl d144_65 rfl (Or.inl (Nat.le_of_ble_eq_true rfl)) rfl).trans ((if_pos (by decide)).trans ((xBipush d144_66).trans ((xIcmpGe (t := 75) d144_68 rfl).trans (ziteC ((xIconst d144_75).trans ((xIconst d144_76).trans (xInvV [vR 87, vI 0, vI 4] [] d144_77 zo_144 zml_11_106 rfl rfl rfl (Or.inl ⟨rfl, (Nat.le_of_ble_eq_true rfl)⟩)))) ((xIconst d144_71).trans ((xGoto (t := 76) d144_72 rfl).trans ((xIconst d144_76).trans (xInvV [vR 87, vI 1, vI 4] [] d144_77 zo_144 zml_11_106 rfl rfl rfl (Or.inl ⟨rfl, (Nat.le_of_ble_eq_true rfl)⟩)))))))))))))))))))) ((xAload_n d144_31 rfl).trans ((xGetI 19 (I 87 19) rfl d144_32 zo_144 zfl_11_125 (by decide) rfl rfl (Or.inl (Nat.le_of_ble_eq_true rfl))).trans ((xIfLe (t := 42) d144_35 rfl).trans (ziteC ((xIconst d144_42).trans ((xIstore_n d144_43 rfl rfl).trans ((xIload_n d144_44 rfl).trans ((xBipush d144_45).trans ((xIcmpNe (t := 59) d144_47 rfl).trans (ziteC ((xIload_n d144_50 rfl).trans ((xIfNe (t := 59) d144_51 rfl).trans ((if_pos (by decide)).trans ((xIconst d144_54).trans ((xIstore_n d144_55 rfl rfl).trans ((xGoto (t := 144) d144_56 rfl).trans (xGoto (t := 13) d144_144 rfl))))))) ((xAload_n d144_59 rfl).trans ((xAload_n d144_60 rfl).trans ((xGetR 1 89 d144_61 zo_144 zfl_11_13 rfl rfl rfl (Or.inl (Nat.le_of_ble_eq_true rfl))).trans ((xIconst d144_64).trans ((xIald (N := 234) (I 89 1) rfl d144_65 rfl (Or.inl (Nat.le_of_ble_eq_true rfl)) rfl).trans ((if_pos (by decide)).trans ((xBipush d144_66).trans ((xIcmpGe (t := 75) d144_68 rfl).trans (ziteC ((xIconst d144_75).trans ((xIconst d144_76).trans (xInvV [vR 87, vI 0, vI 4] [] d144_77 zo_144 zml_11_106 rfl rfl rfl (Or.inl ⟨rfl, (Nat.le_of_ble_eq_true rfl)⟩)))) ((xIconst d144_71).trans ((xGoto (t := 76) d144_72 rfl).trans ((xIconst d144_76).trans (xInvV [vR 87, vI 1, vI 4] [] d144_77 zo_144 zml_11_106 rfl rfl rfl (Or.inl ⟨rfl, (Nat.le_of_ble_eq_true rfl)⟩)))))))))))))))))))) ((xIconst d144_38).trans ((xGoto (t := 43) d144_39 rfl).trans ((xIstore_n d144_43 rfl rfl).trans ((xIload_n d144_44 rfl).trans ((xBipush d144_45).trans ((xIcmpNe (t := 59) d144_47 rfl).trans (ziteC ((xIload_n d144_50 rfl).trans ((xIfNe (t := 59) d144_51 rfl).trans ((if_neg (by decide)).trans ((xAload_n d144_59 rfl).trans ((xAload_n d144_60 rfl).trans ((xGetR 1 89 d144_61 zo_144 zfl_11_13 rfl rfl rfl (Or.inl (Nat.le_of_ble_eq_true rfl))).trans ((xIconst d144_64).trans ((xIald (N := 234) (I 89 1) rfl d144_65 rfl (Or.inl (Nat.le_of_ble_eq_true rfl)) rfl).trans ((if_pos (by decide)).trans ((xBipush d144_66).trans ((xIcmpGe (t := 75) d144_68 rfl).trans (ziteC ((xIconst d144_75).trans ((xIconst d144_76).trans (xInvV [vR 87, vI 0, vI 4] [] d144_77 zo_144 zml_11_106 rfl rfl rfl (Or.inl ⟨rfl, (Nat.le_of_ble_eq_true rfl)⟩)))) ((xIconst d144_71).trans ((xGoto (t := 76) d144_72 rfl).trans ((xIconst d144_76).trans (xInvV [vR 87, vI 1, vI 4] [] d144_77 zo_144 zml_11_106 rfl rfl rfl (Or.inl ⟨rfl, (Nat.le_of_ble_eq_true rfl)⟩))))))))))))))))) ((xAload_n d144_59 rfl).trans ((xAload_n d144_60 rfl).trans ((xGetR 1 89 d144_61 zo_144 zfl_11_13 rfl rfl rfl (Or.inl (Nat.le_of_ble_eq_true rfl))).trans ((xIconst d144_64).trans ((xIald (N := 234) (I 89 1) rfl d144_65 rfl (Or.inl (Nat.le_of_ble_eq_true rfl)) rfl).trans ((if_pos (by decide)).trans ((xBipush d144_66).trans ((xIcmpGe (t := 75) d144_68 rfl).trans (ziteC ((xIconst d144_75).trans ((xIconst d144_76).trans (xInvV [vR 87, vI 0, vI 4] [] d144_77 zo_144 zml_11_106 rfl rfl rfl (Or.inl ⟨rfl, (Nat.le_of_ble_eq_true rfl)⟩)))) ((xIconst d144_71).trans ((xGoto (t := 76) d144_72 rfl).trans ((xIconst d144_76).trans (xInvV [vR 87, vI 1, vI 4] [] d144_77 zo_144 zml_11_106 rfl rfl rfl (Or.inl ⟨rfl, (Nat.le_of_ble_eq_true rfl)⟩))))))))))))))))))))))))))
theorem e144_80 {I : Nat → Int → Int} {b : Bool} {S : Nat} {a1 a2 a3 : Int} : zX 144 80 [vR 87, vI a1, vI a2, vI a3] [] (I, zRs b, 103, S) = if a3 = 0 then if (I 87 15) = 0 then (zrun 143 [vR 87, vI a2] (I, zRs b, 103, S)).bind (fun q => zX 144 131 [vR 87, vI a1, vI a2, vI a3] (zpush q.1 []) q.2) else zX 144 131 [vR 87, vI a1, vI a2, vI a3] [] (I, zRs b, 103, S) else if 0 ≤ (wr ((I 87 19) - 1)) ∧ (wr ((I 87 19) - 1)) < 4 then (zrun 129 [vR 87, vI (I 98 (wr ((I 87 19) - 1))), vI 6] (I, zRs b, 103, S)).bind (fun q => zX 144 101 [vR 87, vI a1, vI a2, vI a3] (zpush q.1 []) q.2) else none := (xIload_n d144_80 rfl).trans ((xIfEq (t := 119) d144_81 rfl).trans (ziteC ((xAload_n d144_119 rfl).trans ((xGetI 15 (I 87 15) rfl d144_120 zo_144 zfl_11_72 (by decide) rfl rfl (Or.inl (Nat.le_of_ble_eq_true rfl))).trans ((xIfNe (t := 131) d144_123 rfl).trans (ziteC ((xAload_n d144_126 rfl).trans ((xIload_n d144_127 rfl).trans (xInvV [vR 87, vI a2] [] d144_128 zo_144 zml_11_143 rfl rfl rfl (Or.inl ⟨rfl, (Nat.le_of_ble_eq_true rfl)⟩)))) rfl)))) ((xAload_n d144_84 rfl).trans ((xAload_n d144_85 rfl).trans ((xGetR 18 98 d144_86 zo_144 zfl_11_41 rfl rfl rfl (Or.inl (Nat.le_of_ble_eq_true rfl))).trans ((xAload_n d144_89 rfl).trans ((xGetI 19 (I 87 19) rfl d144_90 zo_144 zfl_11_125 (by decide) rfl rfl (Or.inl (Nat.le_of_ble_eq_true rfl))).trans ((xIconst d144_93).trans ((xIsub d144_94).trans ((xBald (N := 4) (I 98 (wr ((I 87 19) - 1))) rfl d144_95 (Or.inr rfl) (Or.inl (Nat.le_of_ble_eq_true rfl)) rfl).trans (ziteC ((xBipush d144_96).trans (xInvV [vR 87, vI (I 98 (wr ((I 87 19) - 1))), vI 6] [] d144_98 zo_144 zml_11_106 rfl rfl rfl (Or.inl ⟨rfl, (Nat.le_of_ble_eq_true rfl)⟩))) rfl)))))))))))
theorem e144_101 {I : Nat → Int → Int} {b : Bool} {S : Nat} {a1 a2 a3 : Int} : zX 144 101 [vR 87, vI a1, vI a2, vI a3] [] (I, zRs b, 103, S) = if (I 87 15) = 0 then (zrun 141 [vR 87] (I, zRs b, 103, S)).bind (fun q => zX 144 112 [vR 87, vI a1, vI a2, vI a3] (zpush q.1 []) q.2) else zX 144 112 [vR 87, vI a1, vI a2, vI a3] [] (I, zRs b, 103, S) := (xAload_n d144_101 rfl).trans ((xGetI 15 (I 87 15) rfl d144_102 zo_144 zfl_11_72 (by decide) rfl rfl (Or.inl (Nat.le_of_ble_eq_true rfl))).trans ((xIfNe (t := 112) d144_105 rfl).trans (ziteC ((xAload_n d144_108 rfl).trans (xInvV [vR 87] [] d144_109 zo_144 zml_11_140 rfl rfl rfl (Or.inl ⟨rfl, (Nat.le_of_ble_eq_true rfl)⟩))) rfl)))
theorem e144_112 {I : Nat → Int → Int} {b : Bool} {S : Nat} {a1 a2 a3 : Int} : zX 144 112 [vR 87, vI a1, vI a2, vI a3] [] (I, zRs b, 103, S) = (zrun 135 [vR 87] (I, zRs b, 103, S)).bind (fun q => zX 144 116 [vR 87, vI a1, vI a2, vI a3] (zpush q.1 []) q.2) := (xAload_n d144_112 rfl).trans (xInvV [vR 87] [] d144_113 zo_144 zml_11_110 rfl rfl rfl (Or.inl ⟨rfl, (Nat.le_of_ble_eq_true rfl)⟩))
theorem e144_116 {I : Nat → Int → Int} {b : Bool} {S : Nat} {a1 a2 a3 : Int} : zX 144 116 [vR 87, vI a1, vI a2, vI a3] [] (I, zRs b, 103, S) = zX 144 131 [vR 87, vI a1, vI a2, vI a3] [] (I, zRs b, 103, S) := xGoto (t := 131) d144_116 rfl
theorem e144_131 {I : Nat → Int → Int} {b : Bool} {S : Nat} {a1 a2 a3 : Int} : zX 144 131 [vR 87, vI a1, vI a2, vI a3] [] (I, zRs b, 103, S) = if (I 87 15) = 0 then zX 144 13 [vR 87, vI 1, vI a2, vI a3] [] (I, zRs b, 103, S) else zX 144 13 [vR 87, vI 0, vI a2, vI a3] [] (I, zRs b, 103, S) := (xAload_n d144_131 rfl).trans ((xGetI 15 (I 87 15) rfl d144_132 zo_144 zfl_11_72 (by decide) rfl rfl (Or.inl (Nat.le_of_ble_eq_true rfl))).trans ((xIfNe (t := 142) d144_135 rfl).trans (ziteC ((xIconst d144_138).trans ((xGoto (t := 143) d144_139 rfl).trans ((xIstore_n d144_143 rfl rfl).trans (xGoto (t := 13) d144_144 rfl)))) ((xIconst d144_142).trans ((xIstore_n d144_143 rfl rfl).trans (xGoto (t := 13) d144_144 rfl))))))
theorem e144_171 {I : Nat → Int → Int} {b : Bool} {S : Nat} {a1 : Int} {w2 w3 : zV} : zX 144 171 [vR 87, vI a1, w2, w3] [] (I, zRs b, 103, S) = (zrun 138 [vR 87, vI 59] (I, zRs b, 103, S)).bind (fun q => zX 144 177 [vR 87, vI a1, w2, w3] (zpush q.1 []) q.2) := (xAload_n d144_171 rfl).trans ((xBipush d144_172).trans (xInvV [vR 87, vI 59] [] d144_174 zo_144 zml_11_121 rfl rfl rfl (Or.inl ⟨rfl, (Nat.le_of_ble_eq_true rfl)⟩)))
theorem e144_177 {I : Nat → Int → Int} {b : Bool} {S : Nat} {a1 : Int} {w2 w3 : zV} : zX 144 177 [vR 87, vI a1, w2, w3] [] (I, zRs b, 103, S) = some (none, (I, zRs b, 103, S)) := xVret d144_177 zret_144
theorem run145 {h : zH} : zrun 145 [vR 87] h = zX 145 0 [vR 87, none] [] h := rfl
theorem e145_0 {I : Nat → Int → Int} {b : Bool} {S : Nat} : zX 145 0 [vR 87, none] [] (I, zRs b, 103, S) = zX 145 17 [vR 87, vI 0] [] ((sI (sI (sI I 87 15 0) 87 11 0) 87 19 0), zRs b, 103, S) := (xAload_n d145_0 rfl).trans ((xIconst d145_1).trans ((xPutI 15 d145_2 zo_145 zfl_11_72 rfl rfl (Nat.le_of_ble_eq_true rfl) (Or.inl rfl)).trans ((xAload_n d145_5 rfl).trans ((xIconst d145_6).trans ((xPutI 11 d145_7 zo_145 zfl_11_84 rfl rfl (Nat.le_of_ble_eq_true rfl) (Or.inl rfl)).trans ((xAload_n d145_10 rfl).trans ((xIconst d145_11).trans ((xPutI 19 d145_12 zo_145 zfl_11_125 rfl rfl (Nat.le_of_ble_eq_true rfl) (Or.inl rfl)).trans ((xIconst d145_15).trans (xIstore_n d145_16 rfl rfl))))))))))
theorem e145_17 {I : Nat → Int → Int} {b : Bool} {S : Nat} {a1 : Int} : zX 145 17 [vR 87, vI a1] [] (I, zRs b, 103, S) = if 234 ≤ a1 then (zrun 135 [vR 87] (I, zRs b, 103, S)).bind (fun q => zX 145 41 [vR 87, vI a1] (zpush q.1 []) q.2) else if 0 ≤ a1 ∧ a1 < 234 then zX 145 17 [vR 87, vI (wr (a1 + 1))] [] ((sI I 89 a1 0), zRs b, 103, S) else none := (xIload_n d145_17 rfl).trans ((xSipush d145_18).trans ((xIcmpGe (t := 37) d145_21 rfl).trans (ziteC ((xAload_n d145_37 rfl).trans (xInvV [vR 87] [] d145_38 zo_145 zml_11_110 rfl rfl rfl (Or.inl ⟨rfl, (Nat.le_of_ble_eq_true rfl)⟩))) ((xAload_n d145_24 rfl).trans ((xGetR 1 89 d145_25 zo_145 zfl_11_13 rfl rfl rfl (Or.inl (Nat.le_of_ble_eq_true rfl))).trans ((xIload_n d145_28 rfl).trans ((xIconst d145_29).trans ((xIast (N := 234) d145_30 rfl (Nat.le_of_ble_eq_true rfl) rfl).trans (ziteC ((xIinc d145_31 rfl rfl rfl).trans (xGoto (t := 17) d145_34 rfl)) rfl)))))))))
theorem e145_41 {I : Nat → Int → Int} {b : Bool} {S : Nat} {a1 : Int} : zX 145 41 [vR 87, vI a1] [] (I, zRs b, 103, S) = if (I 87 15) = 0 then (zrun 132 [vR 87] (I, zRs b, 103, S)).bind (fun q => zX 145 52 [vR 87, vI a1] (zpush q.1 []) q.2) else if (I 87 15) = 0 then (zrun 133 [vR 87] (I, zRs b, 103, S)).bind (fun q => zX 145 74 [vR 87, vI a1] (zpush q.1 [vR 87]) q.2) else zX 145 78 [vR 87, vI a1] [] (I, zRs b, 103, S) := (xAload_n d145_41 rfl).trans ((xGetI 15 (I 87 15) rfl d145_42 zo_145 zfl_11_72 (by decide) rfl rfl (Or.inl (Nat.le_of_ble_eq_true rfl))).trans ((xIfNe (t := 62) d145_45 rfl).trans (ziteC ((xAload_n d145_48 rfl).trans (xInvV [vR 87] [] d145_49 zo_145 zml_11_146 rfl rfl rfl (Or.inl ⟨rfl, (Nat.le_of_ble_eq_true rfl)⟩))) ((xAload_n d145_62 rfl).trans ((xGetI 15 (I 87 15) rfl d145_63 zo_145 zfl_11_72 (by decide) rfl rfl (Or.inl (Nat.le_of_ble_eq_true rfl))).trans ((xIfNe (t := 78) d145_66 rfl).trans (ziteC ((xAload_n d145_69 rfl).trans ((xAload_n d145_70 rfl).trans (xInvV [vR 87] [vR 87] d145_71 zo_145 zml_11_153 rfl rfl rfl (Or.inl ⟨rfl, (Nat.le_of_ble_eq_true rfl)⟩)))) rfl)))))))
theorem e145_52 {I : Nat → Int → Int} {b : Bool} {S : Nat} {a1 t0 : Int} : zX 145 52 [vR 87, vI a1] [vI t0] (I, zRs b, 103, S) = if t0 = 0 then if (I 87 15) = 0 then (zrun 133 [vR 87] (I, zRs b, 103, S)).bind (fun q => zX 145 74 [vR 87, vI a1] (zpush q.1 [vR 87]) q.2) else zX 145 78 [vR 87, vI a1] [] (I, zRs b, 103, S) else (zrun 139 [vR 87] (I, zRs b, 103, S)).bind (fun q => zX 145 59 [vR 87, vI a1] (zpush q.1 []) q.2) := (xIfEq (t := 62) d145_52 rfl).trans (ziteC ((xAload_n d145_62 rfl).trans ((xGetI 15 (I 87 15) rfl d145_63 zo_145 zfl_11_72 (by decide) rfl rfl (Or.inl (Nat.le_of_ble_eq_true rfl))).trans ((xIfNe (t := 78) d145_66 rfl).trans (ziteC ((xAload_n d145_69 rfl).trans ((xAload_n d145_70 rfl).trans (xInvV [vR 87] [vR 87] d145_71 zo_145 zml_11_153 rfl rfl rfl (Or.inl ⟨rfl, (Nat.le_of_ble_eq_true rfl)⟩)))) rfl)))) ((xAload_n d145_55 rfl).trans (xInvV [vR 87] [] d145_56 zo_145 zml_11_150 rfl rfl rfl (Or.inl ⟨rfl, (Nat.le_of_ble_eq_true rfl)⟩))))
theorem e145_59 {I : Nat → Int → Int} {b : Bool} {S : Nat} {a1 : Int} : zX 145 59 [vR 87, vI a1] [] (I, zRs b, 103, S) = zX 145 41 [vR 87, vI a1] [] (I, zRs b, 103, S) := xGoto (t := 41) d145_59 rfl
theorem e145_74 {I : Nat → Int → Int} {b : Bool} {S : Nat} {a1 t1 : Int} : zX 145 74 [vR 87, vI a1] [vI t1, vR 87] (I, zRs b, 103, S) = (zrun 129 [vR 87, vI t1, vI 2] (I, zRs b, 103, S)).bind (fun q => zX 145 78 [vR 87, vI a1] (zpush q.1 []) q.2) := (xIconst d145_74).trans (xInvV [vR 87, vI t1, vI 2] [] d145_75 zo_145 zml_11_106 rfl rfl rfl (Or.inl ⟨rfl, (Nat.le_of_ble_eq_true rfl)⟩))
theorem e145_78 {I : Nat → Int → Int} {b : Bool} {S : Nat} {a1 : Int} : zX 145 78 [vR 87, vI a1] [] (I, zRs b, 103, S) = (zrun 135 [vR 87] (I, zRs b, 103, S)).bind (fun q => zX 145 82 [vR 87, vI a1] (zpush q.1 []) q.2) := (xAload_n d145_78 rfl).trans (xInvV [vR 87] [] d145_79 zo_145 zml_11_110 rfl rfl rfl (Or.inl ⟨rfl, (Nat.le_of_ble_eq_true rfl)⟩))
theorem e145_82 {I : Nat → Int → Int} {b : Bool} {S : Nat} {a1 : Int} : zX 145 82 [vR 87, vI a1] [] (I, zRs b, 103, S) = (zrun 144 [vR 87] (I, zRs b, 103, S)).bind (fun q => zX 145 86 [vR 87, vI a1] (zpush q.1 []) q.2) := (xAload_n d145_82 rfl).trans (xInvV [vR 87] [] d145_83 zo_145 zml_11_156 rfl rfl rfl (Or.inl ⟨rfl, (Nat.le_of_ble_eq_true rfl)⟩))
theorem e145_86 {I : Nat → Int → Int} {b : Bool} {S : Nat} {a1 : Int} : zX 145 86 [vR 87, vI a1] [] (I, zRs b, 103, S) = if (I 87 15) = 0 then if (I 87 13) = 0 then (zrun 129 [vR 87, vI 1, vI 2] (I, zRs b, 103, S)).bind (fun q => zX 145 110 [vR 87, vI a1] (zpush q.1 []) q.2) else (zrun 129 [vR 87, vI 0, vI 2] (I, zRs b, 103, S)).bind (fun q => zX 145 110 [vR 87, vI a1] (zpush q.1 []) q.2) else zX 145 110 [vR 87, vI a1] [] (I, zRs b, 103, S) := (xAload_n d145_86 rfl).trans ((xGetI 15 (I 87 15) rfl d145_87 zo_145 zfl_11_72 (by decide) rfl rfl (Or.inl (Nat.le_of_ble_eq_true rfl))).trans ((xIfNe (t := 110) d145_90 rfl).trans (ziteC ((xAload_n d145_93 rfl).trans ((xAload_n d145_94 rfl).trans ((xGetI 13 (I 87 13) rfl d145_95 zo_145 zfl_11_81 (by decide) rfl rfl (Or.inl (Nat.le_of_ble_eq_true rfl))).trans ((xIfNe (t := 105) d145_98 rfl).trans (ziteC ((xIconst d145_101).trans ((xGoto (t := 106) d145_102 rfl).trans ((xIconst d145_106).trans (xInvV [vR 87, vI 1, vI 2] [] d145_107 zo_145 zml_11_106 rfl rfl rfl (Or.inl ⟨rfl, (Nat.le_of_ble_eq_true rfl)⟩))))) ((xIconst d145_105).trans ((xIconst d145_106).trans (xInvV [vR 87, vI 0, vI 2] [] d145_107 zo_145 zml_11_106 rfl rfl rfl (Or.inl ⟨rfl, (Nat.le_of_ble_eq_true rfl)⟩))))))))) rfl)))
theorem e145_110 {I : Nat → Int → Int} {b : Bool} {S : Nat} {a1 : Int} : zX 145 110 [vR 87, vI a1] [] (I, zRs b, 103, S) = if (I 87 15) ≤ 0 then (zrun 146 [vR 87] ((sI I 87 10 0), zRs b, 103, S)).bind (fun q => zX 145 134 [vR 87, vI a1] (zpush q.1 []) q.2) else some (some (vI (wr ((-10) - (I 87 16)))), ((sI I 87 10 0), zRs b, 103, S)) := (xAload_n d145_110 rfl).trans ((xIconst d145_111).trans ((xPutI 10 d145_112 zo_145 zfl_11_68 rfl rfl (Nat.le_of_ble_eq_true rfl) (Or.inl rfl)).trans ((xAload_n d145_115 rfl).trans ((xGetI 15 (I 87 15) (sI_k (by decide)) d145_116 zo_145 zfl_11_72 (by decide) rfl rfl (Or.inl (Nat.le_of_ble_eq_true rfl))).trans ((xIfLe (t := 130) d145_119 rfl).trans (ziteC ((xAload_n d145_130 rfl).trans (xInvV [vR 87] [] d145_131 zo_145 zml_11_159 rfl rfl rfl (Or.inl ⟨rfl, (Nat.le_of_ble_eq_true rfl)⟩))) ((xBipush d145_122).trans ((xAload_n d145_124 rfl).trans ((xGetI 16 (I 87 16) (sI_k (by decide)) d145_125 zo_145 zfl_11_78 (by decide) rfl rfl (Or.inl (Nat.le_of_ble_eq_true rfl))).trans ((xIsub d145_128).trans (xIret d145_129 zret_145)))))))))))
theorem e145_134 {I : Nat → Int → Int} {b : Bool} {S : Nat} {a1 : Int} : zX 145 134 [vR 87, vI a1] [] (I, zRs b, 103, S) = some (some (vI (I 88 1)), (I, zRs b, 103, S)) := (xAload_n d145_134 rfl).trans ((xGetR 0 88 d145_135 zo_145 zfl_11_7 rfl rfl rfl (Or.inl (Nat.le_of_ble_eq_true rfl))).trans ((xIconst d145_138).trans ((xIald (N := 234) (I 88 1) rfl d145_139 rfl (Or.inl (Nat.le_of_ble_eq_true rfl)) rfl).trans ((if_pos (by decide)).trans (xIret d145_140 zret_145)))))
theorem run146 {h : zH} : zrun 146 [vR 87] h = zX 146 0 [vR 87, none] [] h := rfl
theorem e146_0 {I : Nat → Int → Int} {b : Bool} {S : Nat} : zX 146 0 [vR 87, none] [] (I, zRs b, 103, S) = zX 146 2 [vR 87, vI 0] [] (I, zRs b, 103, S) := (xIconst d146_0).trans (xIstore_n d146_1 rfl rfl)
theorem e146_2 {I : Nat → Int → Int} {b : Bool} {S : Nat} {a1 : Int} : zX 146 2 [vR 87, vI a1] [] (I, zRs b, 103, S) = if 234 ≤ a1 then zX 146 34 [vR 87, vI 0] [] ((sI I 87 3 0), zRs b, 103, S) else if 0 ≤ a1 ∧ a1 < 234 then if 0 ≤ a1 ∧ a1 < 234 then zX 146 2 [vR 87, vI (wr (a1 + 1))] [] ((sI I 88 a1 (I 89 a1)), zRs b, 103, S) else none else none := (xIload_n d146_2 rfl).trans ((xSipush d146_3).trans ((xIcmpGe (t := 27) d146_6 rfl).trans (ziteC ((xAload_n d146_27 rfl).trans ((xIconst d146_28).trans ((xPutI 3 d146_29 zo_146 zfl_11_162 rfl rfl (Nat.le_of_ble_eq_true rfl) (Or.inl rfl)).trans ((xIconst d146_32).trans (xIstore_n d146_33 rfl rfl))))) ((xAload_n d146_9 rfl).trans ((xGetR 0 88 d146_10 zo_146 zfl_11_7 rfl rfl rfl (Or.inl (Nat.le_of_ble_eq_true rfl))).trans ((xIload_n d146_13 rfl).trans ((xAload_n d146_14 rfl).trans ((xGetR 1 89 d146_15 zo_146 zfl_11_13 rfl rfl rfl (Or.inl (Nat.le_of_ble_eq_true rfl))).trans ((xIload_n d146_18 rfl).trans ((xIald (N := 234) (I 89 a1) rfl d146_19 rfl (Or.inl (Nat.le_of_ble_eq_true rfl)) rfl).trans (ziteC ((xIast (N := 234) d146_20 rfl (Nat.le_of_ble_eq_true rfl) rfl).trans (ziteC ((xIinc d146_21 rfl rfl rfl).trans (xGoto (t := 2) d146_24 rfl)) rfl)) rfl)))))))))))
theorem e146_34 {I : Nat → Int → Int} {b : Bool} {S : Nat} {a1 : Int} : zX 146 34 [vR 87, vI a1] [] (I, zRs b, 103, S) = if (I 88 0) ≤ a1 then (zrun 165 [vR 87] ((sI (sI I 95 0 0) 95 1 0), zRs b, 103, S)).bind (fun q => zX 146 73 [vR 87, vI a1] (zpush q.1 []) q.2) else (zrun 151 [vR 87, vI a1] (I, zRs b, 103, S)).bind (fun q => zX 146 49 [vR 87, vI a1] (zpush q.1 []) q.2) := (xIload_n d146_34 rfl).trans ((xAload_n d146_35 rfl).trans ((xGetR 0 88 d146_36 zo_146 zfl_11_7 rfl rfl rfl (Or.inl (Nat.le_of_ble_eq_true rfl))).trans ((xIconst d146_39).trans ((xIald (N := 234) (I 88 0) rfl d146_40 rfl (Or.inl (Nat.le_of_ble_eq_true rfl)) rfl).trans ((if_pos (by decide)).trans ((xIcmpGe (t := 55) d146_41 rfl).trans (ziteC ((xAload_n d146_55 rfl).trans ((xGetR 8 95 d146_56 zo_146 zfl_11_31 rfl rfl rfl (Or.inl (Nat.le_of_ble_eq_true rfl))).trans ((xIconst d146_59).trans ((xIconst d146_60).trans ((xZast (N := 2) d146_61 rfl (Nat.le_of_ble_eq_true rfl) (by decide) rfl).trans ((if_pos (by decide)).trans ((xAload_n d146_62 rfl).trans ((xGetR 8 95 d146_63 zo_146 zfl_11_31 rfl rfl rfl (Or.inl (Nat.le_of_ble_eq_true rfl))).trans ((xIconst d146_66).trans ((xIconst d146_67).trans ((xZast (N := 2) d146_68 rfl (Nat.le_of_ble_eq_true rfl) (by decide) rfl).trans ((if_pos (by decide)).trans ((xAload_n d146_69 rfl).trans (xInvV [vR 87] [] d146_70 zo_146 zml_11_59 rfl rfl rfl (Or.inl ⟨rfl, (Nat.le_of_ble_eq_true rfl)⟩))))))))))))))) ((xAload_n d146_44 rfl).trans ((xIload_n d146_45 rfl).trans (xInvV [vR 87, vI a1] [] d146_46 zo_146 zml_11_165 rfl rfl rfl (Or.inl ⟨rfl, (Nat.le_of_ble_eq_true rfl)⟩)))))))))))
theorem e146_49 {I : Nat → Int → Int} {b : Bool} {S : Nat} {a1 : Int} : zX 146 49 [vR 87, vI a1] [] (I, zRs b, 103, S) = zX 146 34 [vR 87, vI (wr (a1 + 1))] [] (I, zRs b, 103, S) := (xIinc d146_49 rfl rfl rfl).trans (xGoto (t := 34) d146_52 rfl)
theorem e146_73 {I : Nat → Int → Int} {b : Bool} {S : Nat} {a1 : Int} : zX 146 73 [vR 87, vI a1] [] (I, zRs b, 103, S) = some (none, (I, zRs b, 103, S)) := xVret d146_73 zret_146
theorem run147 {h : zH} : zrun 147 [vR 87] h = zX 147 0 [vR 87] [] h := rfl
theorem e147_0 {I : Nat → Int → Int} {b : Bool} {S : Nat} : zX 147 0 [vR 87] [] (I, zRs b, 103, S) = some (some (vI (I 87 15)), (I, zRs b, 103, S)) := (xAload_n d147_0 rfl).trans ((xGetI 15 (I 87 15) rfl d147_1 zo_147 zfl_11_72 (by decide) rfl rfl (Or.inl (Nat.le_of_ble_eq_true rfl))).trans (xIret d147_4 zret_147))
theorem run148 {h : zH} {x0 : Int} : zrun 148 [vR 87, vI x0] h = zX 148 0 [vR 87, vI x0] [] h := rfl
theorem e148_0 {I : Nat → Int → Int} {b : Bool} {S : Nat} {x0 : Int} : zX 148 0 [vR 87, vI x0] [] (I, zRs b, 103, S) = if 0 ≤ (wr (2 + (wr (17 * x0)))) ∧ (wr (2 + (wr (17 * x0)))) < 234 then some (some (vI (I 88 (wr (2 + (wr (17 * x0)))))), (I, zRs b, 103, S)) else none := (xAload_n d148_0 rfl).trans ((xGetR 0 88 d148_1 zo_148 zfl_11_7 rfl rfl rfl (Or.inl (Nat.le_of_ble_eq_true rfl))).trans ((xIconst d148_4).trans ((xBipush d148_5).trans ((xIload_n d148_7 rfl).trans ((xImul d148_8).trans ((xIadd d148_9).trans ((xIald (N := 234) (I 88 (wr (2 + (wr (17 * x0))))) rfl d148_10 rfl (Or.inl (Nat.le_of_ble_eq_true rfl)) rfl).trans (ziteC (xIret d148_11 zret_148) rfl))))))))
theorem run149 {h : zH} {x0 x1 : Int} : zrun 149 [vR 87, vI x0, vI x1] h = zX 149 0 [vR 87, vI x0, vI x1] [] h := rfl
theorem e149_0 {I : Nat → Int → Int} {b : Bool} {S : Nat} {x0 x1 : Int} : zX 149 0 [vR 87, vI x0, vI x1] [] (I, zRs b, 103, S) = if 0 ≤ (wr ((wr ((wr (2 + (wr (17 * x0)))) + 1)) + x1)) ∧ (wr ((wr ((wr (2 + (wr (17 * x0)))) + 1)) + x1)) < 234 then some (some (vI (I 88 (wr ((wr ((wr (2 + (wr (17 * x0)))) + 1)) + x1)))), (I, zRs b, 103, S)) else none := (xAload_n d149_0 rfl).trans ((xGetR 0 88 d149_1 zo_149 zfl_11_7 rfl rfl rfl (Or.inl (Nat.le_of_ble_eq_true rfl))).trans ((xIconst d149_4).trans ((xBipush d149_5).trans ((xIload_n d149_7 rfl).trans ((xImul d149_8).trans ((xIadd d149_9).trans ((xIconst d149_10).trans ((xIadd d149_11).trans ((xIload_n d149_12 rfl).trans ((xIadd d149_13).trans ((xIald (N := 234) (I 88 (wr ((wr ((wr (2 + (wr (17 * x0)))) + 1)) + x1))) rfl d149_14 rfl (Or.inl (Nat.le_of_ble_eq_true rfl)) rfl).trans (ziteC (xIret d149_15 zret_149) rfl))))))))))))
theorem run150 {h : zH} {x0 x1 : Int} : zrun 150 [vR 87, vI x0, vI x1] h = zX 150 0 [vR 87, vI x0, vI x1, none] [] h := rfl
theorem e150_0 {I : Nat → Int → Int} {b : Bool} {S : Nat} {x0 x1 : Int} : zX 150 0 [vR 87, vI x0, vI x1, none] [] (I, zRs b, 103, S) = zX 150 2 [vR 87, vI x0, vI x1, vI 0] [] (I, zRs b, 103, S) := (xIconst d150_0).trans (xIstore_n d150_1 rfl rfl)
theorem e150_2 {I : Nat → Int → Int} {b : Bool} {S : Nat} {a1 a2 a3 : Int} : zX 150 2 [vR 87, vI a1, vI a2, vI a3] [] (I, zRs b, 103, S) = (zrun 148 [vR 87, vI a1] (I, zRs b, 103, S)).bind (fun q => zX 150 8 [vR 87, vI a1, vI a2, vI a3] (zpush q.1 [vI a3]) q.2) := (xIload_n d150_2 rfl).trans ((xAload_n d150_3 rfl).trans ((xIload_n d150_4 rfl).trans (xInvV [vR 87, vI a1] [vI a3] d150_5 zo_150 zml_11_168 rfl rfl rfl (Or.inl ⟨rfl, (Nat.le_of_ble_eq_true rfl)⟩))))
theorem e150_8 {I : Nat → Int → Int} {b : Bool} {S : Nat} {a1 a2 a3 t0 t1 : Int} : zX 150 8 [vR 87, vI a1, vI a2, vI a3] [vI t1, vI t0] (I, zRs b, 103, S) = if t1 ≤ t0 then some (some (vI a3), (I, zRs b, 103, S)) else if (I 87 3) ≤ (wr (a2 + a3)) then some (some (vI a3), (I, zRs b, 103, S)) else if 0 ≤ (wr (a2 + a3)) ∧ (wr (a2 + a3)) < 128 then (zrun 149 [vR 87, vI a1, vI a3] (I, zRs b, 103, S)).bind (fun q => zX 150 35 [vR 87, vI a1, vI a2, vI a3] (zpush q.1 [vI (I 90 (wr (a2 + a3)))]) q.2) else none := (xIcmpGe (t := 47) d150_8 rfl).trans (ziteC ((xIload_n d150_47 rfl).trans (xIret d150_48 zret_150)) ((xIload_n d150_11 rfl).trans ((xIload_n d150_12 rfl).trans ((xIadd d150_13).trans ((xAload_n d150_14 rfl).trans ((xGetI 3 (I 87 3) rfl d150_15 zo_150 zfl_11_162 (by decide) rfl rfl (Or.inl (Nat.le_of_ble_eq_true rfl))).trans ((xIcmpGe (t := 47) d150_18 rfl).trans (ziteC ((xIload_n d150_47 rfl).trans (xIret d150_48 zret_150)) ((xAload_n d150_21 rfl).trans ((xGetR 2 90 d150_22 zo_150 zfl_11_16 rfl rfl rfl (Or.inl (Nat.le_of_ble_eq_true rfl))).trans ((xIload_n d150_25 rfl).trans ((xIload_n d150_26 rfl).trans ((xIadd d150_27).trans ((xIald (N := 128) (I 90 (wr (a2 + a3))) rfl d150_28 rfl (Or.inl (Nat.le_of_ble_eq_true rfl)) rfl).trans (ziteC ((xAload_n d150_29 rfl).trans ((xIload_n d150_30 rfl).trans ((xIload_n d150_31 rfl).trans (xInvV [vR 87, vI a1, vI a3] [vI (I 90 (wr (a2 + a3)))] d150_32 zo_150 zml_11_171 rfl rfl rfl (Or.inl ⟨rfl, (Nat.le_of_ble_eq_true rfl)⟩))))) rfl)))))))))))))))
theorem e150_35 {I : Nat → Int → Int} {b : Bool} {S : Nat} {a1 a2 a3 t0 t1 : Int} : zX 150 35 [vR 87, vI a1, vI a2, vI a3] [vI t1, vI t0] (I, zRs b, 103, S) = if t0 = t1 then zX 150 2 [vR 87, vI a1, vI a2, vI (wr (a3 + 1))] [] (I, zRs b, 103, S) else some (some (vI (-4)), (I, zRs b, 103, S)) := (xIcmpEq (t := 41) d150_35 rfl).trans (ziteC ((xIinc d150_41 rfl rfl rfl).trans (xGoto (t := 2) d150_44 rfl)) ((xBipush d150_38).trans (xIret d150_40 zret_150)))
theorem run151 {h : zH} {x0 : Int} : zrun 151 [vR 87, vI x0] h = zX 151 0 [vR 87, vI x0, none, none] [] h := rfl
theorem e151_0 {I : Nat → Int → Int} {b : Bool} {S : Nat} {x0 : Int} : zX 151 0 [vR 87, vI x0, none, none] [] (I, zRs b, 103, S) = zX 151 2 [vR 87, vI x0, vI 0, none] [] (I, zRs b, 103, S) := (xIconst d151_0).trans (xIstore_n d151_1 rfl rfl)
theorem e151_2 {I : Nat → Int → Int} {b : Bool} {S : Nat} {a1 a2 : Int} : zX 151 2 [vR 87, vI a1, vI a2, none] [] (I, zRs b, 103, S) = if (I 87 3) ≤ a2 then if a2 = (I 87 3) then zX 151 40 [vR 87, vI a1, vI 0, none] [] (I, zRs b, 103, S) else if 0 ≤ a1 ∧ a1 < 8 then if 0 ≤ a1 ∧ a1 < 8 then zX 151 86 [vR 87, vI a1, vI a2, vI (wr ((I 87 3) - a2))] [] ((sI (sI I 91 a1 a2) 92 a1 0), zRs b, 103, S) else none else none else (zrun 150 [vR 87, vI a1, vI a2] (I, zRs b, 103, S)).bind (fun q => zX 151 16 [vR 87, vI a1, vI a2, none] (zpush q.1 []) q.2) := (xIload_n d151_2 rfl).trans ((xAload_n d151_3 rfl).trans ((xGetI 3 (I 87 3) rfl d151_4 zo_151 zfl_11_162 (by decide) rfl rfl (Or.inl (Nat.le_of_ble_eq_true rfl))).trans ((xIcmpGe (t := 30) d151_7 rfl).trans (ziteC ((xIload_n d151_30 rfl).trans ((xAload_n d151_31 rfl).trans ((xGetI 3 (I 87 3) rfl d151_32 zo_151 zfl_11_162 (by decide) rfl rfl (Or.inl (Nat.le_of_ble_eq_true rfl))).trans ((xIcmpNe (t := 65) d151_35 rfl).trans (ziteC ((xIconst d151_38).trans (xIstore_n d151_39 rfl rfl)) ((xAload_n d151_65 rfl).trans ((xGetR 4 91 d151_66 zo_151 zfl_11_19 rfl rfl rfl (Or.inl (Nat.le_of_ble_eq_true rfl))).trans ((xIload_n d151_69 rfl).trans ((xIload_n d151_70 rfl).trans ((xIast (N := 8) d151_71 rfl (Nat.le_of_ble_eq_true rfl) rfl).trans (ziteC ((xAload_n d151_72 rfl).trans ((xGetR 5 92 d151_73 zo_151 zfl_11_22 rfl rfl rfl (Or.inl (Nat.le_of_ble_eq_true rfl))).trans ((xIload_n d151_76 rfl).trans ((xIconst d151_77).trans ((xIast (N := 8) d151_78 rfl (Nat.le_of_ble_eq_true rfl) rfl).trans (ziteC ((xAload_n d151_79 rfl).trans ((xGetI 3 (I 87 3) ((sI_p (by decide)).trans (sI_p (by decide))) d151_80 zo_151 zfl_11_162 (by decide) rfl rfl (Or.inl (Nat.le_of_ble_eq_true rfl))).trans ((xIload_n d151_83 rfl).trans ((xIsub d151_84).trans (xIstore_n d151_85 rfl rfl))))) rfl)))))) rfl))))))))))) ((xAload_n d151_10 rfl).trans ((xIload_n d151_11 rfl).trans ((xIload_n d151_12 rfl).trans (xInvV [vR 87, vI a1, vI a2] [] d151_13 zo_151 zml_11_174 rfl rfl rfl (Or.inl ⟨rfl, (Nat.le_of_ble_eq_true rfl)⟩)))))))))
theorem e151_16 {I : Nat → Int → Int} {b : Bool} {S : Nat} {a1 a2 t0 : Int} : zX 151 16 [vR 87, vI a1, vI a2, none] [vI t0] (I, zRs b, 103, S) = (zrun 148 [vR 87, vI a1] (I, zRs b, 103, S)).bind (fun q => zX 151 21 [vR 87, vI a1, vI a2, none] (zpush q.1 [vI t0]) q.2) := (xAload_n d151_16 rfl).trans ((xIload_n d151_17 rfl).trans (xInvV [vR 87, vI a1] [vI t0] d151_18 zo_151 zml_11_168 rfl rfl rfl (Or.inl ⟨rfl, (Nat.le_of_ble_eq_true rfl)⟩)))
theorem e151_21 {I : Nat → Int → Int} {b : Bool} {S : Nat} {a1 a2 t0 t1 : Int} : zX 151 21 [vR 87, vI a1, vI a2, none] [vI t1, vI t0] (I, zRs b, 103, S) = if t0 = t1 then if a2 = (I 87 3) then zX 151 40 [vR 87, vI a1, vI 0, none] [] (I, zRs b, 103, S) else if 0 ≤ a1 ∧ a1 < 8 then if 0 ≤ a1 ∧ a1 < 8 then zX 151 86 [vR 87, vI a1, vI a2, vI (wr ((I 87 3) - a2))] [] ((sI (sI I 91 a1 a2) 92 a1 0), zRs b, 103, S) else none else none else zX 151 2 [vR 87, vI a1, vI (wr (a2 + 1)), none] [] (I, zRs b, 103, S) := (xIcmpEq (t := 30) d151_21 rfl).trans (ziteC ((xIload_n d151_30 rfl).trans ((xAload_n d151_31 rfl).trans ((xGetI 3 (I 87 3) rfl d151_32 zo_151 zfl_11_162 (by decide) rfl rfl (Or.inl (Nat.le_of_ble_eq_true rfl))).trans ((xIcmpNe (t := 65) d151_35 rfl).trans (ziteC ((xIconst d151_38).trans (xIstore_n d151_39 rfl rfl)) ((xAload_n d151_65 rfl).trans ((xGetR 4 91 d151_66 zo_151 zfl_11_19 rfl rfl rfl (Or.inl (Nat.le_of_ble_eq_true rfl))).trans ((xIload_n d151_69 rfl).trans ((xIload_n d151_70 rfl).trans ((xIast (N := 8) d151_71 rfl (Nat.le_of_ble_eq_true rfl) rfl).trans (ziteC ((xAload_n d151_72 rfl).trans ((xGetR 5 92 d151_73 zo_151 zfl_11_22 rfl rfl rfl (Or.inl (Nat.le_of_ble_eq_true rfl))).trans ((xIload_n d151_76 rfl).trans ((xIconst d151_77).trans ((xIast (N := 8) d151_78 rfl (Nat.le_of_ble_eq_true rfl) rfl).trans (ziteC ((xAload_n d151_79 rfl).trans ((xGetI 3 (I 87 3) ((sI_p (by decide)).trans (sI_p (by decide))) d151_80 zo_151 zfl_11_162 (by decide) rfl rfl (Or.inl (Nat.le_of_ble_eq_true rfl))).trans ((xIload_n d151_83 rfl).trans ((xIsub d151_84).trans (xIstore_n d151_85 rfl rfl))))) rfl)))))) rfl))))))))))) ((xIinc d151_24 rfl rfl rfl).trans (xGoto (t := 2) d151_27 rfl)))
theorem e151_40 {I : Nat → Int → Int} {b : Bool} {S : Nat} {a1 a2 : Int} : zX 151 40 [vR 87, vI a1, vI a2, none] [] (I, zRs b, 103, S) = if (I 87 3) ≤ a2 then if 0 ≤ a1 ∧ a1 < 8 then if 0 ≤ a1 ∧ a1 < 8 then zX 151 86 [vR 87, vI a1, vI a2, vI (wr ((I 87 3) - a2))] [] ((sI (sI I 91 a1 a2) 92 a1 0), zRs b, 103, S) else none else none else (zrun 150 [vR 87, vI a1, vI a2] (I, zRs b, 103, S)).bind (fun q => zX 151 54 [vR 87, vI a1, vI a2, none] (zpush q.1 []) q.2) := (xIload_n d151_40 rfl).trans ((xAload_n d151_41 rfl).trans ((xGetI 3 (I 87 3) rfl d151_42 zo_151 zfl_11_162 (by decide) rfl rfl (Or.inl (Nat.le_of_ble_eq_true rfl))).trans ((xIcmpGe (t := 65) d151_45 rfl).trans (ziteC ((xAload_n d151_65 rfl).trans ((xGetR 4 91 d151_66 zo_151 zfl_11_19 rfl rfl rfl (Or.inl (Nat.le_of_ble_eq_true rfl))).trans ((xIload_n d151_69 rfl).trans ((xIload_n d151_70 rfl).trans ((xIast (N := 8) d151_71 rfl (Nat.le_of_ble_eq_true rfl) rfl).trans (ziteC ((xAload_n d151_72 rfl).trans ((xGetR 5 92 d151_73 zo_151 zfl_11_22 rfl rfl rfl (Or.inl (Nat.le_of_ble_eq_true rfl))).trans ((xIload_n d151_76 rfl).trans ((xIconst d151_77).trans ((xIast (N := 8) d151_78 rfl (Nat.le_of_ble_eq_true rfl) rfl).trans (ziteC ((xAload_n d151_79 rfl).trans ((xGetI 3 (I 87 3) ((sI_p (by decide)).trans (sI_p (by decide))) d151_80 zo_151 zfl_11_162 (by decide) rfl rfl (Or.inl (Nat.le_of_ble_eq_true rfl))).trans ((xIload_n d151_83 rfl).trans ((xIsub d151_84).trans (xIstore_n d151_85 rfl rfl))))) rfl)))))) rfl)))))) ((xAload_n d151_48 rfl).trans ((xIload_n d151_49 rfl).trans ((xIload_n d151_50 rfl).trans (xInvV [vR 87, vI a1, vI a2] [] d151_51 zo_151 zml_11_174 rfl rfl rfl (Or.inl ⟨rfl, (Nat.le_of_ble_eq_true rfl)⟩)))))))))
theorem e151_54 {I : Nat → Int → Int} {b : Bool} {S : Nat} {a1 a2 t0 : Int} : zX 151 54 [vR 87, vI a1, vI a2, none] [vI t0] (I, zRs b, 103, S) = if t0 = (-4) then zX 151 40 [vR 87, vI a1, vI (wr (a2 + 1)), none] [] (I, zRs b, 103, S) else if 0 ≤ a1 ∧ a1 < 8 then if 0 ≤ a1 ∧ a1 < 8 then zX 151 86 [vR 87, vI a1, vI a2, vI (wr ((I 87 3) - a2))] [] ((sI (sI I 91 a1 a2) 92 a1 0), zRs b, 103, S) else none else none := (xBipush d151_54).trans ((xIcmpNe (t := 65) d151_56 rfl).trans (ziteC ((xIinc d151_59 rfl rfl rfl).trans (xGoto (t := 40) d151_62 rfl)) ((xAload_n d151_65 rfl).trans ((xGetR 4 91 d151_66 zo_151 zfl_11_19 rfl rfl rfl (Or.inl (Nat.le_of_ble_eq_true rfl))).trans ((xIload_n d151_69 rfl).trans ((xIload_n d151_70 rfl).trans ((xIast (N := 8) d151_71 rfl (Nat.le_of_ble_eq_true rfl) rfl).trans (ziteC ((xAload_n d151_72 rfl).trans ((xGetR 5 92 d151_73 zo_151 zfl_11_22 rfl rfl rfl (Or.inl (Nat.le_of_ble_eq_true rfl))).trans ((xIload_n d151_76 rfl).trans ((xIconst d151_77).trans ((xIast (N := 8) d151_78 rfl (Nat.le_of_ble_eq_true rfl) rfl).trans (ziteC ((xAload_n d151_79 rfl).trans ((xGetI 3 (I 87 3) ((sI_p (by decide)).trans (sI_p (by decide))) d151_80 zo_151 zfl_11_162 (by decide) rfl rfl (Or.inl (Nat.le_of_ble_eq_true rfl))).trans ((xIload_n d151_83 rfl).trans ((xIsub d151_84).trans (xIstore_n d151_85 rfl rfl))))) rfl)))))) rfl))))))))
theorem e151_86 {I : Nat → Int → Int} {b : Bool} {S : Nat} {a1 a2 a3 : Int} : zX 151 86 [vR 87, vI a1, vI a2, vI a3] [] (I, zRs b, 103, S) = (zrun 148 [vR 87, vI a1] (I, zRs b, 103, S)).bind (fun q => zX 151 92 [vR 87, vI a1, vI a2, vI a3] (zpush q.1 [vI a3]) q.2) := (xIload_n d151_86 rfl).trans ((xAload_n d151_87 rfl).trans ((xIload_n d151_88 rfl).trans (xInvV [vR 87, vI a1] [vI a3] d151_89 zo_151 zml_11_168 rfl rfl rfl (Or.inl ⟨rfl, (Nat.le_of_ble_eq_true rfl)⟩))))
theorem e151_92 {I : Nat → Int → Int} {b : Bool} {S : Nat} {a1 a2 a3 t0 t1 : Int} : zX 151 92 [vR 87, vI a1, vI a2, vI a3] [vI t1, vI t0] (I, zRs b, 103, S) = if t1 ≤ t0 then some (none, (I, zRs b, 103, S)) else (zrun 149 [vR 87, vI a1, vI a3] (I, zRs b, 103, S)).bind (fun q => zX 151 109 [vR 87, vI a1, vI a2, vI a3] (zpush q.1 [vI (I 87 3), vR 90]) q.2) := (xIcmpGe (t := 136) d151_92 rfl).trans (ziteC (xVret d151_136 zret_151) ((xAload_n d151_95 rfl).trans ((xGetR 2 90 d151_96 zo_151 zfl_11_16 rfl rfl rfl (Or.inl (Nat.le_of_ble_eq_true rfl))).trans ((xAload_n d151_99 rfl).trans ((xGetI 3 (I 87 3) rfl d151_100 zo_151 zfl_11_162 (by decide) rfl rfl (Or.inl (Nat.le_of_ble_eq_true rfl))).trans ((xAload_n d151_103 rfl).trans ((xIload_n d151_104 rfl).trans ((xIload_n d151_105 rfl).trans (xInvV [vR 87, vI a1, vI a3] [vI (I 87 3), vR 90] d151_106 zo_151 zml_11_171 rfl rfl rfl (Or.inl ⟨rfl, (Nat.le_of_ble_eq_true rfl)⟩))))))))))
theorem e151_109 {I : Nat → Int → Int} {b : Bool} {S : Nat} {a1 a2 a3 t1 t2 : Int} : zX 151 109 [vR 87, vI a1, vI a2, vI a3] [vI t2, vI t1, vR 90] (I, zRs b, 103, S) = if 0 ≤ t1 ∧ t1 < 128 then if 0 ≤ a1 ∧ a1 < 8 then if 0 ≤ a1 ∧ a1 < 8 then zX 151 86 [vR 87, vI a1, vI a2, vI (wr (a3 + 1))] [] ((sI (sI (sI I 90 t1 t2) 87 3 (wr ((I 87 3) + 1))) 92 a1 (wr ((I 92 a1) + 1))), zRs b, 103, S) else none else none else none := (xIast (N := 128) d151_109 rfl (Nat.le_of_ble_eq_true rfl) rfl).trans (ziteC ((xAload_n d151_110 rfl).trans ((xDup d151_111 rfl).trans ((xGetI 3 (I 87 3) (sI_p (by decide)) d151_112 zo_151 zfl_11_162 (by decide) rfl rfl (Or.inl (Nat.le_of_ble_eq_true rfl))).trans ((xIconst d151_115).trans ((xIadd d151_116).trans ((xPutI 3 d151_117 zo_151 zfl_11_162 rfl rfl (Nat.le_of_ble_eq_true rfl) (Or.inl rfl)).trans ((xAload_n d151_120 rfl).trans ((xGetR 5 92 d151_121 zo_151 zfl_11_22 rfl rfl rfl (Or.inl (Nat.le_of_ble_eq_true rfl))).trans ((xIload_n d151_124 rfl).trans ((xDup2 d151_125 rfl rfl).trans ((xIald (N := 8) (I 92 a1) ((sI_p (by decide)).trans (sI_p (by decide))) d151_126 rfl (Or.inl (Nat.le_of_ble_eq_true rfl)) rfl).trans (ziteC ((xIconst d151_127).trans ((xIadd d151_128).trans ((xIast (N := 8) d151_129 rfl (Nat.le_of_ble_eq_true rfl) rfl).trans (ziteC ((xIinc d151_130 rfl rfl rfl).trans (xGoto (t := 86) d151_133 rfl)) rfl)))) rfl)))))))))))) rfl)
theorem run152 {h : zH} : zrun 152 [vR 87] h = zX 152 0 [vR 87, none, none] [] h := rfl
theorem e152_0 {I : Nat → Int → Int} {b : Bool} {S : Nat} : zX 152 0 [vR 87, none, none] [] (I, zRs b, 103, S) = zX 152 4 [vR 87, vI 0, vI 0] [] (I, zRs b, 103, S) := (xIconst d152_0).trans ((xIstore_n d152_1 rfl rfl).trans ((xIconst d152_2).trans (xIstore_n d152_3 rfl rfl)))
theorem e152_4 {I : Nat → Int → Int} {b : Bool} {S : Nat} {a1 a2 : Int} : zX 152 4 [vR 87, vI a1, vI a2] [] (I, zRs b, 103, S) = if (I 88 0) ≤ a2 then some (some (vI a1), (I, zRs b, 103, S)) else (zrun 148 [vR 87, vI a2] (I, zRs b, 103, S)).bind (fun q => zX 152 20 [vR 87, vI a1, vI a2] (zpush q.1 [vI a1]) q.2) := (xIload_n d152_4 rfl).trans ((xAload_n d152_5 rfl).trans ((xGetR 0 88 d152_6 zo_152 zfl_11_7 rfl rfl rfl (Or.inl (Nat.le_of_ble_eq_true rfl))).trans ((xIconst d152_9).trans ((xIald (N := 234) (I 88 0) rfl d152_10 rfl (Or.inl (Nat.le_of_ble_eq_true rfl)) rfl).trans ((if_pos (by decide)).trans ((xIcmpGe (t := 28) d152_11 rfl).trans (ziteC ((xIload_n d152_28 rfl).trans (xIret d152_29 zret_152)) ((xIload_n d152_14 rfl).trans ((xAload_n d152_15 rfl).trans ((xIload_n d152_16 rfl).trans (xInvV [vR 87, vI a2] [vI a1] d152_17 zo_152 zml_11_168 rfl rfl rfl (Or.inl ⟨rfl, (Nat.le_of_ble_eq_true rfl)⟩))))))))))))
theorem e152_20 {I : Nat → Int → Int} {b : Bool} {S : Nat} {a1 a2 t0 t1 : Int} : zX 152 20 [vR 87, vI a1, vI a2] [vI t1, vI t0] (I, zRs b, 103, S) = zX 152 4 [vR 87, vI (wr (t0 + t1)), vI (wr (a2 + 1))] [] (I, zRs b, 103, S) := (xIadd d152_20).trans ((xIstore_n d152_21 rfl rfl).trans ((xIinc d152_22 rfl rfl rfl).trans (xGoto (t := 4) d152_25 rfl)))
end
