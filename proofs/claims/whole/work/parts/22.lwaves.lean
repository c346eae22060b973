theorem zo_92 : zo 92 = 10 := by decide +kernel
theorem zret_92 : zret 92 = some .int := by decide +kernel
theorem d92_0 : decode (zb 92) 0 = .ok (.iload_n 1, 1) := by decide +kernel
theorem d92_1 : decode (zb 92) 1 = .ok (.ifCond .lt 9, 3) := by decide +kernel
theorem d92_4 : decode (zb 92) 4 = .ok (.iload_n 1, 1) := by decide +kernel
theorem d92_5 : decode (zb 92) 5 = .ok (.bipush 127, 2) := by decide +kernel
theorem d92_7 : decode (zb 92) 7 = .ok (.if_icmp .le 5, 3) := by decide +kernel
theorem d92_10 : decode (zb 92) 10 = .ok (.iconst (-1), 1) := by decide +kernel
theorem d92_11 : decode (zb 92) 11 = .ok (.ireturn, 1) := by decide +kernel
theorem d92_12 : decode (zb 92) 12 = .ok (.aload_n 0, 1) := by decide +kernel
theorem d92_13 : decode (zb 92) 13 = .ok (.getfield 12, 3) := by decide +kernel
theorem d92_16 : decode (zb 92) 16 = .ok (.iload_n 1, 1) := by decide +kernel
theorem d92_17 : decode (zb 92) 17 = .ok (.invokevirtual 64, 3) := by decide +kernel
theorem d92_20 : decode (zb 92) 20 = .ok (.ifCond .eq 13, 3) := by decide +kernel
theorem d92_23 : decode (zb 92) 23 = .ok (.aload_n 0, 1) := by decide +kernel
theorem d92_24 : decode (zb 92) 24 = .ok (.getfield 12, 3) := by decide +kernel
theorem d92_27 : decode (zb 92) 27 = .ok (.getfield 68, 3) := by decide +kernel
theorem d92_30 : decode (zb 92) 30 = .ok (.goto 5, 3) := by decide +kernel
theorem d92_33 : decode (zb 92) 33 = .ok (.bipush (-3), 2) := by decide +kernel
theorem d92_35 : decode (zb 92) 35 = .ok (.ireturn, 1) := by decide +kernel
theorem run92 {h : zH} {x0 : Int} : zrun 92 [vR 1, vI x0] h = zX 92 0 [vR 1, vI x0] [] h := rfl
theorem e92_0 {I : Nat → Int → Int} {b : Bool} {S : Nat} {x0 : Int} : zX 92 0 [vR 1, vI x0] [] (I, zRs b, 103, S) = if x0 < 0 then some (some (vI (-1)), (I, zRs b, 103, S)) else if x0 ≤ 127 then (zrun 84 [vR 2, vI x0] (I, zRs b, 103, S)).bind (fun q => zX 92 20 [vR 1, vI x0] (zpush q.1 []) q.2) else some (some (vI (-1)), (I, zRs b, 103, S)) := (xIload_n d92_0 rfl).trans ((xIfLt (t := 10) d92_1 rfl).trans (ziteC ((xIconst d92_10).trans (xIret d92_11 zret_92)) ((xIload_n d92_4 rfl).trans ((xBipush d92_5).trans ((xIcmpLe (t := 12) d92_7 rfl).trans (ziteC ((xAload_n d92_12 rfl).trans ((xGetR 0 2 d92_13 zo_92 zfl_10_12 rfl rfl rfl (Or.inl (Nat.le_of_ble_eq_true rfl))).trans ((xIload_n d92_16 rfl).trans (xInvV [vR 2, vI x0] [] d92_17 zo_92 zml_10_64 rfl rfl rfl (Or.inl ⟨rfl, (Nat.le_of_ble_eq_true rfl)⟩))))) ((xIconst d92_10).trans (xIret d92_11 zret_92))))))))
theorem e92_20 {I : Nat → Int → Int} {b : Bool} {S : Nat} {a1 t0 : Int} : zX 92 20 [vR 1, vI a1] [vI t0] (I, zRs b, 103, S) = if t0 = 0 then some (some (vI (-3)), (I, zRs b, 103, S)) else some (some (vI (I 2 1)), (I, zRs b, 103, S)) := (xIfEq (t := 33) d92_20 rfl).trans (ziteC ((xBipush d92_33).trans (xIret d92_35 zret_92)) ((xAload_n d92_23 rfl).trans ((xGetR 0 2 d92_24 zo_92 zfl_10_12 rfl rfl rfl (Or.inl (Nat.le_of_ble_eq_true rfl))).trans ((xGetI 1 (I 2 1) rfl d92_27 zo_92 zfl_10_68 (by decide) rfl rfl (Or.inl (Nat.le_of_ble_eq_true rfl))).trans ((xGoto (t := 35) d92_30 rfl).trans (xIret d92_35 zret_92))))))
theorem zo_93 : zo 93 = 10 := by decide +kernel
theorem zret_93 : zret 93 = some .int := by decide +kernel
theorem d93_0 : decode (zb 93) 0 = .ok (.aload_n 0, 1) := by decide +kernel
theorem d93_1 : decode (zb 93) 1 = .ok (.getfield 12, 3) := by decide +kernel
theorem d93_4 : decode (zb 93) 4 = .ok (.getfield 68, 3) := by decide +kernel
theorem d93_7 : decode (zb 93) 7 = .ok (.istore_n 2, 1) := by decide +kernel
theorem d93_8 : decode (zb 93) 8 = .ok (.iload_n 1, 1) := by decide +kernel
theorem d93_9 : decode (zb 93) 9 = .ok (.ifCond .lt 8, 3) := by decide +kernel
theorem d93_12 : decode (zb 93) 12 = .ok (.iload_n 1, 1) := by decide +kernel
theorem d93_13 : decode (zb 93) 13 = .ok (.iload_n 2, 1) := by decide +kernel
theorem d93_14 : decode (zb 93) 14 = .ok (.if_icmp .le 5, 3) := by decide +kernel
theorem d93_17 : decode (zb 93) 17 = .ok (.iconst (-1), 1) := by decide +kernel
theorem d93_18 : decode (zb 93) 18 = .ok (.ireturn, 1) := by decide +kernel
theorem d93_19 : decode (zb 93) 19 = .ok (.aload_n 0, 1) := by decide +kernel
theorem d93_20 : decode (zb 93) 20 = .ok (.getfield 12, 3) := by decide +kernel
theorem d93_23 : decode (zb 93) 23 = .ok (.iload_n 1, 1) := by decide +kernel
theorem d93_24 : decode (zb 93) 24 = .ok (.putfield 68, 3) := by decide +kernel
theorem d93_27 : decode (zb 93) 27 = .ok (.iload_n 2, 1) := by decide +kernel
theorem d93_28 : decode (zb 93) 28 = .ok (.ireturn, 1) := by decide +kernel
theorem run93 {h : zH} {x0 : Int} : zrun 93 [vR 1, vI x0] h = zX 93 0 [vR 1, vI x0, none] [] h := rfl
theorem e93_0 {I : Nat → Int → Int} {b : Bool} {S : Nat} {x0 : Int} : zX 93 0 [vR 1, vI x0, none] [] (I, zRs b, 103, S) = if x0 < 0 then some (some (vI (-1)), (I, zRs b, 103, S)) else if x0 ≤ (I 2 1) then some (some (vI (I 2 1)), ((sI I 2 1 x0), zRs b, 103, S)) else some (some (vI (-1)), (I, zRs b, 103, S)) := (xAload_n d93_0 rfl).trans ((xGetR 0 2 d93_1 zo_93 zfl_10_12 rfl rfl rfl (Or.inl (Nat.le_of_ble_eq_true rfl))).trans ((xGetI 1 (I 2 1) rfl d93_4 zo_93 zfl_10_68 (by decide) rfl rfl (Or.inl (Nat.le_of_ble_eq_true rfl))).trans ((xIstore_n d93_7 rfl rfl).trans ((xIload_n d93_8 rfl).trans ((xIfLt (t := 17) d93_9 rfl).trans (ziteC ((xIconst d93_17).trans (xIret d93_18 zret_93)) ((xIload_n d93_12 rfl).trans ((xIload_n d93_13 rfl).trans ((xIcmpLe (t := 19) d93_14 rfl).trans (ziteC ((xAload_n d93_19 rfl).trans ((xGetR 0 2 d93_20 zo_93 zfl_10_12 rfl rfl rfl (Or.inl (Nat.le_of_ble_eq_true rfl))).trans ((xIload_n d93_23 rfl).trans ((xPutI 1 d93_24 zo_93 zfl_10_68 rfl rfl (Nat.le_of_ble_eq_true rfl) (Or.inl rfl)).trans ((xIload_n d93_27 rfl).trans (xIret d93_28 zret_93)))))) ((xIconst d93_17).trans (xIret d93_18 zret_93))))))))))))
theorem zo_94 : zo 94 = 10 := by decide +kernel
theorem zret_94 : zret 94 = some .int := by decide +kernel
theorem d94_0 : decode (zb 94) 0 = .ok (.aload_n 0, 1) := by decide +kernel
theorem d94_1 : decode (zb 94) 1 = .ok (.getfield 60, 3) := by decide +kernel
theorem d94_4 : decode (zb 94) 4 = .ok (.astore_n 1, 1) := by decide +kernel
theorem d94_5 : decode (zb 94) 5 = .ok (.aload_n 0, 1) := by decide +kernel
theorem d94_6 : decode (zb 94) 6 = .ok (.getfield 21, 3) := by decide +kernel
theorem d94_9 : decode (zb 94) 9 = .ok (.aload_n 1, 1) := by decide +kernel
theorem d94_10 : decode (zb 94) 10 = .ok (.invokevirtual 72, 3) := by decide +kernel
theorem d94_13 : decode (zb 94) 13 = .ok (.istore_n 2, 1) := by decide +kernel
theorem d94_14 : decode (zb 94) 14 = .ok (.aload_n 0, 1) := by decide +kernel
theorem d94_15 : decode (zb 94) 15 = .ok (.getfield 12, 3) := by decide +kernel
theorem d94_18 : decode (zb 94) 18 = .ok (.iconst 0, 1) := by decide +kernel
theorem d94_19 : decode (zb 94) 19 = .ok (.putfield 68, 3) := by decide +kernel
theorem d94_22 : decode (zb 94) 22 = .ok (.iload_n 2, 1) := by decide +kernel
theorem d94_23 : decode (zb 94) 23 = .ok (.ifCond .ne 14, 3) := by decide +kernel
theorem d94_26 : decode (zb 94) 26 = .ok (.bipush (-10), 2) := by decide +kernel
theorem d94_28 : decode (zb 94) 28 = .ok (.aload_n 0, 1) := by decide +kernel
theorem d94_29 : decode (zb 94) 29 = .ok (.getfield 21, 3) := by decide +kernel
theorem d94_32 : decode (zb 94) 32 = .ok (.getfield 76, 3) := by decide +kernel
theorem d94_35 : decode (zb 94) 35 = .ok (.isub, 1) := by decide +kernel
theorem d94_36 : decode (zb 94) 36 = .ok (.ireturn, 1) := by decide +kernel
theorem d94_37 : decode (zb 94) 37 = .ok (.aload_n 0, 1) := by decide +kernel
theorem d94_38 : decode (zb 94) 38 = .ok (.aload_n 0, 1) := by decide +kernel
theorem d94_39 : decode (zb 94) 39 = .ok (.getfield 56, 3) := by decide +kernel
theorem d94_42 : decode (zb 94) 42 = .ok (.putfield 60, 3) := by decide +kernel
theorem d94_45 : decode (zb 94) 45 = .ok (.aload_n 0, 1) := by decide +kernel
theorem d94_46 : decode (zb 94) 46 = .ok (.aload_n 1, 1) := by decide +kernel
theorem d94_47 : decode (zb 94) 47 = .ok (.putfield 56, 3) := by decide +kernel
theorem d94_50 : decode (zb 94) 50 = .ok (.aload_n 0, 1) := by decide +kernel
theorem d94_51 : decode (zb 94) 51 = .ok (.invokevirtual 79, 3) := by decide +kernel
theorem d94_54 : decode (zb 94) 54 = .ok (.aload_n 0, 1) := by decide +kernel
theorem d94_55 : decode (zb 94) 55 = .ok (.getfield 56, 3) := by decide +kernel
theorem d94_58 : decode (zb 94) 58 = .ok (.getfield 82, 3) := by decide +kernel
theorem d94_61 : decode (zb 94) 61 = .ok (.ireturn, 1) := by decide +kernel
theorem run94 {h : zH} : zrun 94 [vR 1] h = zX 94 0 [vR 1, none, none] [] h := rfl
theorem e94_0 {I : Nat → Int → Int} {b : Bool} {S : Nat} : zX 94 0 [vR 1, none, none] [] (I, zRs b, 103, S) = (zrun 70 [vR 4, vR (zg2 b)] (I, zRs b, 103, S)).bind (fun q => zX 94 13 [vR 1, vR (zg2 b), none] (zpush q.1 []) q.2) := (xAload_n d94_0 rfl).trans ((xGetR 8 (zg2 b) d94_1 zo_94 zfl_10_60 rfl rfl rfl (Or.inl (Nat.le_of_ble_eq_true rfl))).trans ((xAstore_n d94_4 rfl rfl).trans ((xAload_n d94_5 rfl).trans ((xGetR 1 4 d94_6 zo_94 zfl_10_21 rfl rfl rfl (Or.inl (Nat.le_of_ble_eq_true rfl))).trans ((xAload_n d94_9 rfl).trans (xInvV [vR 4, vR (zg2 b)] [] d94_10 zo_94 zml_10_72 rfl rfl rfl (Or.inl ⟨rfl, (Nat.le_of_ble_eq_true rfl)⟩)))))))
theorem e94_13 {I : Nat → Int → Int} {b : Bool} {S : Nat} {t0 : Int} : zX 94 13 [vR 1, vR (zg2 b), none] [vI t0] (I, zRs b, 103, S) = if t0 = 0 then some (some (vI (wr ((-10) - (I 4 2)))), ((sI I 2 1 0), zRs b, 103, S)) else (zrun 119 [vR 1] ((sI I 2 1 0), (sR (sR (zRs b) 1 8 (zg b)) 1 7 (zg2 b)), 103, S)).bind (fun q => zX 94 54 [vR 1, vR (zg2 b), vI t0] (zpush q.1 []) q.2) := (xIstore_n d94_13 rfl rfl).trans ((xAload_n d94_14 rfl).trans ((xGetR 0 2 d94_15 zo_94 zfl_10_12 rfl rfl rfl (Or.inl (Nat.le_of_ble_eq_true rfl))).trans ((xIconst d94_18).trans ((xPutI 1 d94_19 zo_94 zfl_10_68 rfl rfl (Nat.le_of_ble_eq_true rfl) (Or.inl rfl)).trans ((xIload_n d94_22 rfl).trans ((xIfNe (t := 37) d94_23 rfl).trans (ziteC ((xBipush d94_26).trans ((xAload_n d94_28 rfl).trans ((xGetR 1 4 d94_29 zo_94 zfl_10_21 rfl rfl rfl (Or.inl (Nat.le_of_ble_eq_true rfl))).trans ((xGetI 2 (I 4 2) (sI_p (by decide)) d94_32 zo_94 zfl_10_76 (by decide) rfl rfl (Or.inl (Nat.le_of_ble_eq_true rfl))).trans ((xIsub d94_35).trans (xIret d94_36 zret_94)))))) ((xAload_n d94_37 rfl).trans ((xAload_n d94_38 rfl).trans ((xGetR 7 (zg b) d94_39 zo_94 zfl_10_56 rfl rfl rfl (Or.inl (Nat.le_of_ble_eq_true rfl))).trans ((xPutR 8 d94_42 zo_94 zfl_10_60 rfl rfl (Nat.le_of_ble_eq_true rfl) (isProg_n (zg_ok b)) (Or.inl rfl)).trans ((xAload_n d94_45 rfl).trans ((xAload_n d94_46 rfl).trans ((xPutR 7 d94_47 zo_94 zfl_10_56 rfl rfl (Nat.le_of_ble_eq_true rfl) (isProg_n (zg2_ok b)) (Or.inl rfl)).trans ((xAload_n d94_50 rfl).trans (xInvV [vR 1] [] d94_51 zo_94 zml_10_79 rfl rfl rfl (Or.inl ⟨rfl, (Nat.le_of_ble_eq_true rfl)⟩)))))))))))))))))
theorem e94_54 {I : Nat → Int → Int} {b : Bool} {S : Nat} {a2 : Int} : zX 94 54 [vR 1, vR (zg2 b), vI a2] [] (I, zRs b, 103, S) = some (some (vI (I (zg b) 6)), (I, zRs b, 103, S)) := (xAload_n d94_54 rfl).trans ((xGetR 7 (zg b) d94_55 zo_94 zfl_10_56 rfl rfl rfl (Or.inl (Nat.le_of_ble_eq_true rfl))).trans ((xGetI 6 (I (zg b) 6) rfl d94_58 zo_94 zfl_10_82 (by decide) rfl (isProg_k (zg_ok b)) (Or.inl (isProg_n (zg_ok b)))).trans (xIret d94_61 zret_94)))
theorem zo_95 : zo 95 = 10 := by decide +kernel
theorem zret_95 : zret 95 = some .int := by decide +kernel
theorem d95_0 : decode (zb 95) 0 = .ok (.aload_n 0, 1) := by decide +kernel
theorem d95_1 : decode (zb 95) 1 = .ok (.getfield 21, 3) := by decide +kernel
theorem d95_4 : decode (zb 95) 4 = .ok (.getfield 85, 3) := by decide +kernel
theorem d95_7 : decode (zb 95) 7 = .ok (.ireturn, 1) := by decide +kernel
theorem run95 {h : zH} : zrun 95 [vR 1] h = zX 95 0 [vR 1] [] h := rfl
theorem e95_0 {I : Nat → Int → Int} {b : Bool} {S : Nat} : zX 95 0 [vR 1] [] (I, zRs b, 103, S) = some (some (vI (I 4 1)), (I, zRs b, 103, S)) := (xAload_n d95_0 rfl).trans ((xGetR 1 4 d95_1 zo_95 zfl_10_21 rfl rfl rfl (Or.inl (Nat.le_of_ble_eq_true rfl))).trans ((xGetI 1 (I 4 1) rfl d95_4 zo_95 zfl_10_85 (by decide) rfl rfl (Or.inl (Nat.le_of_ble_eq_true rfl))).trans (xIret d95_7 zret_95)))
theorem zo_96 : zo 96 = 10 := by decide +kernel
theorem zret_96 : zret 96 = some .int := by decide +kernel
theorem d96_0 : decode (zb 96) 0 = .ok (.iload_n 1, 1) := by decide +kernel
theorem d96_1 : decode (zb 96) 1 = .ok (.tableswitch 102 0 5 #[39, 50, 61, 72, 83, 91], 39) := by decide +kernel
theorem d96_40 : decode (zb 96) 40 = .ok (.aload_n 0, 1) := by decide +kernel
theorem d96_41 : decode (zb 96) 41 = .ok (.getfield 56, 3) := by decide +kernel
theorem d96_44 : decode (zb 96) 44 = .ok (.getfield 88, 3) := by decide +kernel
theorem d96_47 : decode (zb 96) 47 = .ok (.getfield 92, 3) := by decide +kernel
theorem d96_50 : decode (zb 96) 50 = .ok (.ireturn, 1) := by decide +kernel
theorem d96_51 : decode (zb 96) 51 = .ok (.aload_n 0, 1) := by decide +kernel
theorem d96_52 : decode (zb 96) 52 = .ok (.getfield 56, 3) := by decide +kernel
theorem d96_55 : decode (zb 96) 55 = .ok (.getfield 88, 3) := by decide +kernel
theorem d96_58 : decode (zb 96) 58 = .ok (.getfield 97, 3) := by decide +kernel
theorem d96_61 : decode (zb 96) 61 = .ok (.ireturn, 1) := by decide +kernel
theorem d96_62 : decode (zb 96) 62 = .ok (.aload_n 0, 1) := by decide +kernel
theorem d96_63 : decode (zb 96) 63 = .ok (.getfield 56, 3) := by decide +kernel
theorem d96_66 : decode (zb 96) 66 = .ok (.getfield 88, 3) := by decide +kernel
theorem d96_69 : decode (zb 96) 69 = .ok (.invokevirtual 100, 3) := by decide +kernel
theorem d96_72 : decode (zb 96) 72 = .ok (.ireturn, 1) := by decide +kernel
theorem d96_73 : decode (zb 96) 73 = .ok (.aload_n 0, 1) := by decide +kernel
theorem d96_74 : decode (zb 96) 74 = .ok (.getfield 56, 3) := by decide +kernel
theorem d96_77 : decode (zb 96) 77 = .ok (.getfield 88, 3) := by decide +kernel
theorem d96_80 : decode (zb 96) 80 = .ok (.invokevirtual 104, 3) := by decide +kernel
theorem d96_83 : decode (zb 96) 83 = .ok (.ireturn, 1) := by decide +kernel
theorem d96_84 : decode (zb 96) 84 = .ok (.aload_n 0, 1) := by decide +kernel
theorem d96_85 : decode (zb 96) 85 = .ok (.getfield 56, 3) := by decide +kernel
theorem d96_88 : decode (zb 96) 88 = .ok (.getfield 82, 3) := by decide +kernel
theorem d96_91 : decode (zb 96) 91 = .ok (.ireturn, 1) := by decide +kernel
theorem d96_92 : decode (zb 96) 92 = .ok (.aload_n 0, 1) := by decide +kernel
theorem d96_93 : decode (zb 96) 93 = .ok (.getfield 56, 3) := by decide +kernel
theorem d96_96 : decode (zb 96) 96 = .ok (.getfield 88, 3) := by decide +kernel
theorem d96_99 : decode (zb 96) 99 = .ok (.invokevirtual 107, 3) := by decide +kernel
theorem d96_102 : decode (zb 96) 102 = .ok (.ireturn, 1) := by decide +kernel
theorem d96_103 : decode (zb 96) 103 = .ok (.iload_n 1, 1) := by decide +kernel
theorem d96_104 : decode (zb 96) 104 = .ok (.invokestatic 110, 3) := by decide +kernel
theorem d96_107 : decode (zb 96) 107 = .ok (.ifCond .eq 18, 3) := by decide +kernel
theorem d96_110 : decode (zb 96) 110 = .ok (.aload_n 0, 1) := by decide +kernel
theorem d96_111 : decode (zb 96) 111 = .ok (.getfield 35, 3) := by decide +kernel
theorem d96_114 : decode (zb 96) 114 = .ok (.getfield 113, 3) := by decide +kernel
theorem d96_117 : decode (zb 96) 117 = .ok (.iload_n 1, 1) := by decide +kernel
theorem d96_118 : decode (zb 96) 118 = .ok (.bipush 6, 2) := by decide +kernel
theorem d96_120 : decode (zb 96) 120 = .ok (.isub, 1) := by decide +kernel
theorem d96_121 : decode (zb 96) 121 = .ok (.iaload, 1) := by decide +kernel
theorem d96_122 : decode (zb 96) 122 = .ok (.goto 4, 3) := by decide +kernel
theorem d96_125 : decode (zb 96) 125 = .ok (.iconst (-1), 1) := by decide +kernel
theorem d96_126 : decode (zb 96) 126 = .ok (.ireturn, 1) := by decide +kernel
theorem run96 {h : zH} {x0 : Int} : zrun 96 [vR 1, vI x0] h = zX 96 0 [vR 1, vI x0] [] h := rfl
theorem e96_0 {I : Nat → Int → Int} {b : Bool} {S : Nat} {x0 : Int} : zX 96 0 [vR 1, vI x0] [] (I, zRs b, 103, S) = if x0 = 0 then some (some (vI (I ((zg b) + 1) 5)), (I, zRs b, 103, S)) else if x0 = 1 then some (some (vI (I ((zg b) + 1) 4)), (I, zRs b, 103, S)) else if x0 = 2 then (zrun 49 [vR ((zg b) + 1)] (I, zRs b, 103, S)).bind (fun q => zX 96 72 [vR 1, vI x0] (zpush q.1 []) q.2) else if x0 = 3 then (zrun 50 [vR ((zg b) + 1)] (I, zRs b, 103, S)).bind (fun q => zX 96 83 [vR 1, vI x0] (zpush q.1 []) q.2) else if x0 = 4 then some (some (vI (I (zg b) 6)), (I, zRs b, 103, S)) else if x0 = 5 then (zrun 51 [vR ((zg b) + 1)] (I, zRs b, 103, S)).bind (fun q => zX 96 102 [vR 1, vI x0] (zpush q.1 []) q.2) else (zrun 121 [vI x0] (I, zRs b, 103, S)).bind (fun q => zX 96 107 [vR 1, vI x0] (zpush q.1 []) q.2) := (xIload_n d96_0 rfl).trans ((xTab [(0, 40), (1, 51), (2, 62), (3, 73), (4, 84), (5, 92)] 103 d96_1 rfl).trans (ziteC ((xAload_n d96_40 rfl).trans ((xGetR 7 (zg b) d96_41 zo_96 zfl_10_56 rfl rfl rfl (Or.inl (Nat.le_of_ble_eq_true rfl))).trans ((xGetR 0 ((zg b) + 1) d96_44 zo_96 zfl_10_88 rfl (isProg_r0 (zg_ok b)) (isProg_k (zg_ok b)) (Or.inl (isProg_n (zg_ok b)))).trans ((xGetI 5 (I ((zg b) + 1) 5) rfl d96_47 zo_96 zfl_10_92 (by decide) rfl (isProg_k1 (zg_ok b)) (Or.inl (isProg_n1 (zg_ok b)))).trans (xIret d96_50 zret_96))))) (ziteC ((xAload_n d96_51 rfl).trans ((xGetR 7 (zg b) d96_52 zo_96 zfl_10_56 rfl rfl rfl (Or.inl (Nat.le_of_ble_eq_true rfl))).trans ((xGetR 0 ((zg b) + 1) d96_55 zo_96 zfl_10_88 rfl (isProg_r0 (zg_ok b)) (isProg_k (zg_ok b)) (Or.inl (isProg_n (zg_ok b)))).trans ((xGetI 4 (I ((zg b) + 1) 4) rfl d96_58 zo_96 zfl_10_97 (by decide) rfl (isProg_k1 (zg_ok b)) (Or.inl (isProg_n1 (zg_ok b)))).trans (xIret d96_61 zret_96))))) (ziteC ((xAload_n d96_62 rfl).trans ((xGetR 7 (zg b) d96_63 zo_96 zfl_10_56 rfl rfl rfl (Or.inl (Nat.le_of_ble_eq_true rfl))).trans ((xGetR 0 ((zg b) + 1) d96_66 zo_96 zfl_10_88 rfl (isProg_r0 (zg_ok b)) (isProg_k (zg_ok b)) (Or.inl (isProg_n (zg_ok b)))).trans (xInvV [vR ((zg b) + 1)] [] d96_69 zo_96 zml_10_100 rfl rfl rfl (Or.inl ⟨(isProg_k1 (zg_ok b)), (isProg_n1 (zg_ok b))⟩))))) (ziteC ((xAload_n d96_73 rfl).trans ((xGetR 7 (zg b) d96_74 zo_96 zfl_10_56 rfl rfl rfl (Or.inl (Nat.le_of_ble_eq_true rfl))).trans ((xGetR 0 ((zg b) + 1) d96_77 zo_96 zfl_10_88 rfl (isProg_r0 (zg_ok b)) (isProg_k (zg_ok b)) (Or.inl (isProg_n (zg_ok b)))).trans (xInvV [vR ((zg b) + 1)] [] d96_80 zo_96 zml_10_104 rfl rfl rfl (Or.inl ⟨(isProg_k1 (zg_ok b)), (isProg_n1 (zg_ok b))⟩))))) (ziteC ((xAload_n d96_84 rfl).trans ((xGetR 7 (zg b) d96_85 zo_96 zfl_10_56 rfl rfl rfl (Or.inl (Nat.le_of_ble_eq_true rfl))).trans ((xGetI 6 (I (zg b) 6) rfl d96_88 zo_96 zfl_10_82 (by decide) rfl (isProg_k (zg_ok b)) (Or.inl (isProg_n (zg_ok b)))).trans (xIret d96_91 zret_96)))) (ziteC ((xAload_n d96_92 rfl).trans ((xGetR 7 (zg b) d96_93 zo_96 zfl_10_56 rfl rfl rfl (Or.inl (Nat.le_of_ble_eq_true rfl))).trans ((xGetR 0 ((zg b) + 1) d96_96 zo_96 zfl_10_88 rfl (isProg_r0 (zg_ok b)) (isProg_k (zg_ok b)) (Or.inl (isProg_n (zg_ok b)))).trans (xInvV [vR ((zg b) + 1)] [] d96_99 zo_96 zml_10_107 rfl rfl rfl (Or.inl ⟨(isProg_k1 (zg_ok b)), (isProg_n1 (zg_ok b))⟩))))) ((xIload_n d96_103 rfl).trans (xInvS [vI x0] [] d96_104 zo_96 zml_10_110 rfl rfl)))))))))
theorem e96_72 {I : Nat → Int → Int} {b : Bool} {S : Nat} {a1 t0 : Int} : zX 96 72 [vR 1, vI a1] [vI t0] (I, zRs b, 103, S) = some (some (vI t0), (I, zRs b, 103, S)) := xIret d96_72 zret_96
theorem e96_83 {I : Nat → Int → Int} {b : Bool} {S : Nat} {a1 t0 : Int} : zX 96 83 [vR 1, vI a1] [vI t0] (I, zRs b, 103, S) = some (some (vI t0), (I, zRs b, 103, S)) := xIret d96_83 zret_96
theorem e96_102 {I : Nat → Int → Int} {b : Bool} {S : Nat} {a1 t0 : Int} : zX 96 102 [vR 1, vI a1] [vI t0] (I, zRs b, 103, S) = some (some (vI t0), (I, zRs b, 103, S)) := xIret d96_102 zret_96
theorem e96_107 {I : Nat → Int → Int} {b : Bool} {S : Nat} {a1 t0 : Int} : zX 96 107 [vR 1, vI a1] [vI t0] (I, zRs b, 103, S) = if t0 = 0 then some (some (vI (-1)), (I, zRs b, 103, S)) else if 0 ≤ (wr (a1 - 6)) ∧ (wr (a1 - 6)) < 5 then some (some (vI (I 19 (wr (a1 - 6)))), (I, zRs b, 103, S)) else none := (xIfEq (t := 125) d96_107 rfl).trans (ziteC ((xIconst d96_125).trans (xIret d96_126 zret_96)) ((xAload_n d96_110 rfl).trans ((xGetR 3 8 d96_111 zo_96 zfl_10_35 rfl rfl rfl (Or.inl (Nat.le_of_ble_eq_true rfl))).trans ((xGetR 4 19 d96_114 zo_96 zfl_10_113 rfl rfl rfl (Or.inl (Nat.le_of_ble_eq_true rfl))).trans ((xIload_n d96_117 rfl).trans ((xBipush d96_118).trans ((xIsub d96_120).trans ((xIald (N := 5) (I 19 (wr (a1 - 6))) rfl d96_121 rfl (Or.inl (Nat.le_of_ble_eq_true rfl)) rfl).trans (ziteC ((xGoto (t := 126) d96_122 rfl).trans (xIret d96_126 zret_96)) rfl)))))))))
theorem zo_97 : zo 97 = 10 := by decide +kernel
theorem zret_97 : zret 97 = some .int := by decide +kernel
theorem d97_0 : decode (zb 97) 0 = .ok (.iload_n 1, 1) := by decide +kernel
theorem d97_1 : decode (zb 97) 1 = .ok (.ifCond .ge 5, 3) := by decide +kernel
theorem d97_4 : decode (zb 97) 4 = .ok (.iconst (-1), 1) := by decide +kernel
theorem d97_5 : decode (zb 97) 5 = .ok (.ireturn, 1) := by decide +kernel
theorem d97_6 : decode (zb 97) 6 = .ok (.iload_n 1, 1) := by decide +kernel
theorem d97_7 : decode (zb 97) 7 = .ok (.aload_n 0, 1) := by decide +kernel
theorem d97_8 : decode (zb 97) 8 = .ok (.getfield 56, 3) := by decide +kernel
theorem d97_11 : decode (zb 97) 11 = .ok (.getfield 88, 3) := by decide +kernel
theorem d97_14 : decode (zb 97) 14 = .ok (.getfield 97, 3) := by decide +kernel
theorem d97_17 : decode (zb 97) 17 = .ok (.if_icmp .ge 18, 3) := by decide +kernel
theorem d97_20 : decode (zb 97) 20 = .ok (.aload_n 0, 1) := by decide +kernel
theorem d97_21 : decode (zb 97) 21 = .ok (.getfield 56, 3) := by decide +kernel
theorem d97_24 : decode (zb 97) 24 = .ok (.getfield 88, 3) := by decide +kernel
theorem d97_27 : decode (zb 97) 27 = .ok (.getfield 117, 3) := by decide +kernel
theorem d97_30 : decode (zb 97) 30 = .ok (.iload_n 1, 1) := by decide +kernel
theorem d97_31 : decode (zb 97) 31 = .ok (.iaload, 1) := by decide +kernel
theorem d97_32 : decode (zb 97) 32 = .ok (.goto 5, 3) := by decide +kernel
theorem d97_35 : decode (zb 97) 35 = .ok (.bipush (-4), 2) := by decide +kernel
theorem d97_37 : decode (zb 97) 37 = .ok (.ireturn, 1) := by decide +kernel
theorem run97 {h : zH} {x0 : Int} : zrun 97 [vR 1, vI x0] h = zX 97 0 [vR 1, vI x0] [] h := rfl
theorem e97_0 {I : Nat → Int → Int} {b : Bool} {S : Nat} {x0 : Int} : zX 97 0 [vR 1, vI x0] [] (I, zRs b, 103, S) = if 0 ≤ x0 then if (I ((zg b) + 1) 4) ≤ x0 then some (some (vI (-4)), (I, zRs b, 103, S)) else if 0 ≤ x0 ∧ x0 < 128 then some (some (vI (I ((zg b) + 2) x0)), (I, zRs b, 103, S)) else none else some (some (vI (-1)), (I, zRs b, 103, S)) := (xIload_n d97_0 rfl).trans ((xIfGe (t := 6) d97_1 rfl).trans (ziteC ((xIload_n d97_6 rfl).trans ((xAload_n d97_7 rfl).trans ((xGetR 7 (zg b) d97_8 zo_97 zfl_10_56 rfl rfl rfl (Or.inl (Nat.le_of_ble_eq_true rfl))).trans ((xGetR 0 ((zg b) + 1) d97_11 zo_97 zfl_10_88 rfl (isProg_r0 (zg_ok b)) (isProg_k (zg_ok b)) (Or.inl (isProg_n (zg_ok b)))).trans ((xGetI 4 (I ((zg b) + 1) 4) rfl d97_14 zo_97 zfl_10_97 (by decide) rfl (isProg_k1 (zg_ok b)) (Or.inl (isProg_n1 (zg_ok b)))).trans ((xIcmpGe (t := 35) d97_17 rfl).trans (ziteC ((xBipush d97_35).trans (xIret d97_37 zret_97)) ((xAload_n d97_20 rfl).trans ((xGetR 7 (zg b) d97_21 zo_97 zfl_10_56 rfl rfl rfl (Or.inl (Nat.le_of_ble_eq_true rfl))).trans ((xGetR 0 ((zg b) + 1) d97_24 zo_97 zfl_10_88 rfl (isProg_r0 (zg_ok b)) (isProg_k (zg_ok b)) (Or.inl (isProg_n (zg_ok b)))).trans ((xGetR 0 ((zg b) + 2) d97_27 zo_97 zfl_10_117 rfl (isPool_r0 (isProg_pool (zg_ok b))) (isProg_k1 (zg_ok b)) (Or.inl (isProg_n1 (zg_ok b)))).trans ((xIload_n d97_30 rfl).trans ((xIald (N := 128) (I ((zg b) + 2) x0) rfl d97_31 (by rw [(isProg_k2 (zg_ok b))]) (Or.inl (isProg_n2 (zg_ok b))) (zal_of (isProg_k2 (zg_ok b)) (isProg_n2 (zg_ok b)))).trans (ziteC ((xGoto (t := 37) d97_32 rfl).trans (xIret d97_37 zret_97)) rfl)))))))))))))) ((xIconst d97_4).trans (xIret d97_5 zret_97))))
theorem zo_98 : zo 98 = 10 := by decide +kernel
theorem zret_98 : zret 98 = some .int := by decide +kernel
theorem d98_0 : decode (zb 98) 0 = .ok (.iload_n 1, 1) := by decide +kernel
theorem d98_1 : decode (zb 98) 1 = .ok (.ifCond .lt 17, 3) := by decide +kernel
theorem d98_4 : decode (zb 98) 4 = .ok (.iload_n 1, 1) := by decide +kernel
theorem d98_5 : decode (zb 98) 5 = .ok (.aload_n 0, 1) := by decide +kernel
theorem d98_6 : decode (zb 98) 6 = .ok (.getfield 56, 3) := by decide +kernel
theorem d98_9 : decode (zb 98) 9 = .ok (.getfield 88, 3) := by decide +kernel
theorem d98_12 : decode (zb 98) 12 = .ok (.getfield 92, 3) := by decide +kernel
theorem d98_15 : decode (zb 98) 15 = .ok (.if_icmp .lt 5, 3) := by decide +kernel
theorem d98_18 : decode (zb 98) 18 = .ok (.iconst (-1), 1) := by decide +kernel
theorem d98_19 : decode (zb 98) 19 = .ok (.ireturn, 1) := by decide +kernel
theorem d98_20 : decode (zb 98) 20 = .ok (.iload_n 2, 1) := by decide +kernel
theorem d98_21 : decode (zb 98) 21 = .ok (.tableswitch 66 0 2 #[27, 40, 53], 27) := by decide +kernel
theorem d98_48 : decode (zb 98) 48 = .ok (.aload_n 0, 1) := by decide +kernel
theorem d98_49 : decode (zb 98) 49 = .ok (.getfield 56, 3) := by decide +kernel
theorem d98_52 : decode (zb 98) 52 = .ok (.getfield 88, 3) := by decide +kernel
theorem d98_55 : decode (zb 98) 55 = .ok (.getfield 120, 3) := by decide +kernel
theorem d98_58 : decode (zb 98) 58 = .ok (.iload_n 1, 1) := by decide +kernel
theorem d98_59 : decode (zb 98) 59 = .ok (.iaload, 1) := by decide +kernel
theorem d98_60 : decode (zb 98) 60 = .ok (.ireturn, 1) := by decide +kernel
theorem d98_61 : decode (zb 98) 61 = .ok (.aload_n 0, 1) := by decide +kernel
theorem d98_62 : decode (zb 98) 62 = .ok (.getfield 56, 3) := by decide +kernel
theorem d98_65 : decode (zb 98) 65 = .ok (.getfield 88, 3) := by decide +kernel
theorem d98_68 : decode (zb 98) 68 = .ok (.getfield 123, 3) := by decide +kernel
theorem d98_71 : decode (zb 98) 71 = .ok (.iload_n 1, 1) := by decide +kernel
theorem d98_72 : decode (zb 98) 72 = .ok (.iaload, 1) := by decide +kernel
theorem d98_73 : decode (zb 98) 73 = .ok (.ireturn, 1) := by decide +kernel
theorem d98_74 : decode (zb 98) 74 = .ok (.aload_n 0, 1) := by decide +kernel
theorem d98_75 : decode (zb 98) 75 = .ok (.getfield 56, 3) := by decide +kernel
theorem d98_78 : decode (zb 98) 78 = .ok (.getfield 88, 3) := by decide +kernel
theorem d98_81 : decode (zb 98) 81 = .ok (.getfield 125, 3) := by decide +kernel
theorem d98_84 : decode (zb 98) 84 = .ok (.iload_n 1, 1) := by decide +kernel
theorem d98_85 : decode (zb 98) 85 = .ok (.iaload, 1) := by decide +kernel
theorem d98_86 : decode (zb 98) 86 = .ok (.ireturn, 1) := by decide +kernel
theorem d98_87 : decode (zb 98) 87 = .ok (.iconst (-1), 1) := by decide +kernel
theorem d98_88 : decode (zb 98) 88 = .ok (.ireturn, 1) := by decide +kernel
theorem run98 {h : zH} {x0 x1 : Int} : zrun 98 [vR 1, vI x0, vI x1] h = zX 98 0 [vR 1, vI x0, vI x1] [] h := rfl
theorem e98_0 {I : Nat → Int → Int} {b : Bool} {S : Nat} {x0 x1 : Int} : zX 98 0 [vR 1, vI x0, vI x1] [] (I, zRs b, 103, S) = if x0 < 0 then some (some (vI (-1)), (I, zRs b, 103, S)) else if x0 < (I ((zg b) + 1) 5) then if x1 = 0 then if 0 ≤ x0 ∧ x0 < 8 then some (some (vI (I ((zg b) + 3) x0)), (I, zRs b, 103, S)) else none else if x1 = 1 then if 0 ≤ x0 ∧ x0 < 8 then some (some (vI (I ((zg b) + 4) x0)), (I, zRs b, 103, S)) else none else if x1 = 2 then if 0 ≤ x0 ∧ x0 < 8 then some (some (vI (I ((zg b) + 5) x0)), (I, zRs b, 103, S)) else none else some (some (vI (-1)), (I, zRs b, 103, S)) else some (some (vI (-1)), (I, zRs b, 103, S)) := (xIload_n d98_0 rfl).trans ((xIfLt (t := 18) d98_1 rfl).trans (ziteC ((xIconst d98_18).trans (xIret d98_19 zret_98)) ((xIload_n d98_4 rfl).trans ((xAload_n d98_5 rfl).trans ((xGetR 7 (zg b) d98_6 zo_98 zfl_10_56 rfl rfl rfl (Or.inl (Nat.le_of_ble_eq_true rfl))).trans ((xGetR 0 ((zg b) + 1) d98_9 zo_98 zfl_10_88 rfl (isProg_r0 (zg_ok b)) (isProg_k (zg_ok b)) (Or.inl (isProg_n (zg_ok b)))).trans ((xGetI 5 (I ((zg b) + 1) 5) rfl d98_12 zo_98 zfl_10_92 (by decide) rfl (isProg_k1 (zg_ok b)) (Or.inl (isProg_n1 (zg_ok b)))).trans ((xIcmpLt (t := 20) d98_15 rfl).trans (ziteC ((xIload_n d98_20 rfl).trans ((xTab [(0, 48), (1, 61), (2, 74)] 87 d98_21 rfl).trans (ziteC ((xAload_n d98_48 rfl).trans ((xGetR 7 (zg b) d98_49 zo_98 zfl_10_56 rfl rfl rfl (Or.inl (Nat.le_of_ble_eq_true rfl))).trans ((xGetR 0 ((zg b) + 1) d98_52 zo_98 zfl_10_88 rfl (isProg_r0 (zg_ok b)) (isProg_k (zg_ok b)) (Or.inl (isProg_n (zg_ok b)))).trans ((xGetR 1 ((zg b) + 3) d98_55 zo_98 zfl_10_120 rfl (isPool_r1 (isProg_pool (zg_ok b))) (isProg_k1 (zg_ok b)) (Or.inl (isProg_n1 (zg_ok b)))).trans ((xIload_n d98_58 rfl).trans ((xIald (N := 8) (I ((zg b) + 3) x0) rfl d98_59 (by rw [(isProg_k3 (zg_ok b))]) (Or.inl (isProg_n3 (zg_ok b))) (zal_of (isProg_k3 (zg_ok b)) (isProg_n3 (zg_ok b)))).trans (ziteC (xIret d98_60 zret_98) rfl))))))) (ziteC ((xAload_n d98_61 rfl).trans ((xGetR 7 (zg b) d98_62 zo_98 zfl_10_56 rfl rfl rfl (Or.inl (Nat.le_of_ble_eq_true rfl))).trans ((xGetR 0 ((zg b) + 1) d98_65 zo_98 zfl_10_88 rfl (isProg_r0 (zg_ok b)) (isProg_k (zg_ok b)) (Or.inl (isProg_n (zg_ok b)))).trans ((xGetR 2 ((zg b) + 4) d98_68 zo_98 zfl_10_123 rfl (isPool_r2 (isProg_pool (zg_ok b))) (isProg_k1 (zg_ok b)) (Or.inl (isProg_n1 (zg_ok b)))).trans ((xIload_n d98_71 rfl).trans ((xIald (N := 8) (I ((zg b) + 4) x0) rfl d98_72 (by rw [(isProg_k4 (zg_ok b))]) (Or.inl (isProg_n4 (zg_ok b))) (zal_of (isProg_k4 (zg_ok b)) (isProg_n4 (zg_ok b)))).trans (ziteC (xIret d98_73 zret_98) rfl))))))) (ziteC ((xAload_n d98_74 rfl).trans ((xGetR 7 (zg b) d98_75 zo_98 zfl_10_56 rfl rfl rfl (Or.inl (Nat.le_of_ble_eq_true rfl))).trans ((xGetR 0 ((zg b) + 1) d98_78 zo_98 zfl_10_88 rfl (isProg_r0 (zg_ok b)) (isProg_k (zg_ok b)) (Or.inl (isProg_n (zg_ok b)))).trans ((xGetR 3 ((zg b) + 5) d98_81 zo_98 zfl_10_125 rfl (isPool_r3 (isProg_pool (zg_ok b))) (isProg_k1 (zg_ok b)) (Or.inl (isProg_n1 (zg_ok b)))).trans ((xIload_n d98_84 rfl).trans ((xIald (N := 8) (I ((zg b) + 5) x0) rfl d98_85 (by rw [(isProg_k5 (zg_ok b))]) (Or.inl (isProg_n5 (zg_ok b))) (zal_of (isProg_k5 (zg_ok b)) (isProg_n5 (zg_ok b)))).trans (ziteC (xIret d98_86 zret_98) rfl))))))) ((xIconst d98_87).trans (xIret d98_88 zret_98))))))) ((xIconst d98_18).trans (xIret d98_19 zret_98)))))))))))
theorem zo_99 : zo 99 = 10 := by decide +kernel
theorem zret_99 : zret 99 = some .int := by decide +kernel
theorem d99_0 : decode (zb 99) 0 = .ok (.iload_n 1, 1) := by decide +kernel
theorem d99_1 : decode (zb 99) 1 = .ok (.ifCond .lt 14, 3) := by decide +kernel
theorem d99_4 : decode (zb 99) 4 = .ok (.iload_n 1, 1) := by decide +kernel
theorem d99_5 : decode (zb 99) 5 = .ok (.aload_n 0, 1) := by decide +kernel
theorem d99_6 : decode (zb 99) 6 = .ok (.getfield 56, 3) := by decide +kernel
theorem d99_9 : decode (zb 99) 9 = .ok (.getfield 82, 3) := by decide +kernel
theorem d99_12 : decode (zb 99) 12 = .ok (.if_icmp .lt 5, 3) := by decide +kernel
theorem d99_15 : decode (zb 99) 15 = .ok (.iconst (-1), 1) := by decide +kernel
theorem d99_16 : decode (zb 99) 16 = .ok (.ireturn, 1) := by decide +kernel
theorem d99_17 : decode (zb 99) 17 = .ok (.iload_n 2, 1) := by decide +kernel
theorem d99_18 : decode (zb 99) 18 = .ok (.tableswitch 70 0 3 #[30, 40, 50, 60], 30) := by decide +kernel
theorem d99_48 : decode (zb 99) 48 = .ok (.aload_n 0, 1) := by decide +kernel
theorem d99_49 : decode (zb 99) 49 = .ok (.getfield 56, 3) := by decide +kernel
theorem d99_52 : decode (zb 99) 52 = .ok (.getfield 128, 3) := by decide +kernel
theorem d99_55 : decode (zb 99) 55 = .ok (.iload_n 1, 1) := by decide +kernel
theorem d99_56 : decode (zb 99) 56 = .ok (.iaload, 1) := by decide +kernel
theorem d99_57 : decode (zb 99) 57 = .ok (.ireturn, 1) := by decide +kernel
theorem d99_58 : decode (zb 99) 58 = .ok (.aload_n 0, 1) := by decide +kernel
theorem d99_59 : decode (zb 99) 59 = .ok (.getfield 56, 3) := by decide +kernel
theorem d99_62 : decode (zb 99) 62 = .ok (.getfield 131, 3) := by decide +kernel
theorem d99_65 : decode (zb 99) 65 = .ok (.iload_n 1, 1) := by decide +kernel
theorem d99_66 : decode (zb 99) 66 = .ok (.iaload, 1) := by decide +kernel
theorem d99_67 : decode (zb 99) 67 = .ok (.ireturn, 1) := by decide +kernel
theorem d99_68 : decode (zb 99) 68 = .ok (.aload_n 0, 1) := by decide +kernel
theorem d99_69 : decode (zb 99) 69 = .ok (.getfield 56, 3) := by decide +kernel
theorem d99_72 : decode (zb 99) 72 = .ok (.getfield 134, 3) := by decide +kernel
theorem d99_75 : decode (zb 99) 75 = .ok (.iload_n 1, 1) := by decide +kernel
theorem d99_76 : decode (zb 99) 76 = .ok (.iaload, 1) := by decide +kernel
theorem d99_77 : decode (zb 99) 77 = .ok (.ireturn, 1) := by decide +kernel
theorem d99_78 : decode (zb 99) 78 = .ok (.aload_n 0, 1) := by decide +kernel
theorem d99_79 : decode (zb 99) 79 = .ok (.getfield 56, 3) := by decide +kernel
theorem d99_82 : decode (zb 99) 82 = .ok (.getfield 137, 3) := by decide +kernel
theorem d99_85 : decode (zb 99) 85 = .ok (.iload_n 1, 1) := by decide +kernel
theorem d99_86 : decode (zb 99) 86 = .ok (.iaload, 1) := by decide +kernel
theorem d99_87 : decode (zb 99) 87 = .ok (.ireturn, 1) := by decide +kernel
theorem d99_88 : decode (zb 99) 88 = .ok (.iconst (-1), 1) := by decide +kernel
theorem d99_89 : decode (zb 99) 89 = .ok (.ireturn, 1) := by decide +kernel
theorem run99 {h : zH} {x0 x1 : Int} : zrun 99 [vR 1, vI x0, vI x1] h = zX 99 0 [vR 1, vI x0, vI x1] [] h := rfl
theorem e99_0 {I : Nat → Int → Int} {b : Bool} {S : Nat} {x0 x1 : Int} : zX 99 0 [vR 1, vI x0, vI x1] [] (I, zRs b, 103, S) = if x0 < 0 then some (some (vI (-1)), (I, zRs b, 103, S)) else if x0 < (I (zg b) 6) then if x1 = 0 then if 0 ≤ x0 ∧ x0 < 24 then some (some (vI (I ((zg b) + 6) x0)), (I, zRs b, 103, S)) else none else if x1 = 1 then if 0 ≤ x0 ∧ x0 < 24 then some (some (vI (I ((zg b) + 7) x0)), (I, zRs b, 103, S)) else none else if x1 = 2 then if 0 ≤ x0 ∧ x0 < 24 then some (some (vI (I ((zg b) + 8) x0)), (I, zRs b, 103, S)) else none else if x1 = 3 then if 0 ≤ x0 ∧ x0 < 24 then some (some (vI (I ((zg b) + 9) x0)), (I, zRs b, 103, S)) else none else some (some (vI (-1)), (I, zRs b, 103, S)) else some (some (vI (-1)), (I, zRs b, 103, S)) := (xIload_n d99_0 rfl).trans ((xIfLt (t := 15) d99_1 rfl).trans (ziteC ((xIconst d99_15).trans (xIret d99_16 zret_99)) ((xIload_n d99_4 rfl).trans ((xAload_n d99_5 rfl).trans ((xGetR 7 (zg b) d99_6 zo_99 zfl_10_56 rfl rfl rfl (Or.inl (Nat.le_of_ble_eq_true rfl))).trans ((xGetI 6 (I (zg b) 6) rfl d99_9 zo_99 zfl_10_82 (by decide) rfl (isProg_k (zg_ok b)) (Or.inl (isProg_n (zg_ok b)))).trans ((xIcmpLt (t := 17) d99_12 rfl).trans (ziteC ((xIload_n d99_17 rfl).trans ((xTab [(0, 48), (1, 58), (2, 68), (3, 78)] 88 d99_18 rfl).trans (ziteC ((xAload_n d99_48 rfl).trans ((xGetR 7 (zg b) d99_49 zo_99 zfl_10_56 rfl rfl rfl (Or.inl (Nat.le_of_ble_eq_true rfl))).trans ((xGetR 1 ((zg b) + 6) d99_52 zo_99 zfl_10_128 rfl (isProg_r1 (zg_ok b)) (isProg_k (zg_ok b)) (Or.inl (isProg_n (zg_ok b)))).trans ((xIload_n d99_55 rfl).trans ((xIald (N := 24) (I ((zg b) + 6) x0) rfl d99_56 (by rw [(isProg_k6 (zg_ok b))]) (Or.inl (isProg_n6 (zg_ok b))) (zal_of (isProg_k6 (zg_ok b)) (isProg_n6 (zg_ok b)))).trans (ziteC (xIret d99_57 zret_99) rfl)))))) (ziteC ((xAload_n d99_58 rfl).trans ((xGetR 7 (zg b) d99_59 zo_99 zfl_10_56 rfl rfl rfl (Or.inl (Nat.le_of_ble_eq_true rfl))).trans ((xGetR 2 ((zg b) + 7) d99_62 zo_99 zfl_10_131 rfl (isProg_r2 (zg_ok b)) (isProg_k (zg_ok b)) (Or.inl (isProg_n (zg_ok b)))).trans ((xIload_n d99_65 rfl).trans ((xIald (N := 24) (I ((zg b) + 7) x0) rfl d99_66 (by rw [(isProg_k7 (zg_ok b))]) (Or.inl (isProg_n7 (zg_ok b))) (zal_of (isProg_k7 (zg_ok b)) (isProg_n7 (zg_ok b)))).trans (ziteC (xIret d99_67 zret_99) rfl)))))) (ziteC ((xAload_n d99_68 rfl).trans ((xGetR 7 (zg b) d99_69 zo_99 zfl_10_56 rfl rfl rfl (Or.inl (Nat.le_of_ble_eq_true rfl))).trans ((xGetR 3 ((zg b) + 8) d99_72 zo_99 zfl_10_134 rfl (isProg_r3 (zg_ok b)) (isProg_k (zg_ok b)) (Or.inl (isProg_n (zg_ok b)))).trans ((xIload_n d99_75 rfl).trans ((xIald (N := 24) (I ((zg b) + 8) x0) rfl d99_76 (by rw [(isProg_k8 (zg_ok b))]) (Or.inl (isProg_n8 (zg_ok b))) (zal_of (isProg_k8 (zg_ok b)) (isProg_n8 (zg_ok b)))).trans (ziteC (xIret d99_77 zret_99) rfl)))))) (ziteC ((xAload_n d99_78 rfl).trans ((xGetR 7 (zg b) d99_79 zo_99 zfl_10_56 rfl rfl rfl (Or.inl (Nat.le_of_ble_eq_true rfl))).trans ((xGetR 4 ((zg b) + 9) d99_82 zo_99 zfl_10_137 rfl (isProg_r4 (zg_ok b)) (isProg_k (zg_ok b)) (Or.inl (isProg_n (zg_ok b)))).trans ((xIload_n d99_85 rfl).trans ((xIald (N := 24) (I ((zg b) + 9) x0) rfl d99_86 (by rw [(isProg_k9 (zg_ok b))]) (Or.inl (isProg_n9 (zg_ok b))) (zal_of (isProg_k9 (zg_ok b)) (isProg_n9 (zg_ok b)))).trans (ziteC (xIret d99_87 zret_99) rfl)))))) ((xIconst d99_88).trans (xIret d99_89 zret_99)))))))) ((xIconst d99_15).trans (xIret d99_16 zret_99))))))))))
theorem zo_100 : zo 100 = 10 := by decide +kernel
theorem zret_100 : zret 100 = some .int := by decide +kernel
theorem d100_0 : decode (zb 100) 0 = .ok (.iload_n 1, 1) := by decide +kernel
theorem d100_1 : decode (zb 100) 1 = .ok (.ifCond .lt 10, 3) := by decide +kernel
theorem d100_4 : decode (zb 100) 4 = .ok (.iload_n 1, 1) := by decide +kernel
theorem d100_5 : decode (zb 100) 5 = .ok (.sipush 9999, 3) := by decide +kernel
theorem d100_8 : decode (zb 100) 8 = .ok (.if_icmp .le 5, 3) := by decide +kernel
theorem d100_11 : decode (zb 100) 11 = .ok (.iconst (-1), 1) := by decide +kernel
theorem d100_12 : decode (zb 100) 12 = .ok (.ireturn, 1) := by decide +kernel
theorem d100_13 : decode (zb 100) 13 = .ok (.aload_n 0, 1) := by decide +kernel
theorem d100_14 : decode (zb 100) 14 = .ok (.getfield 56, 3) := by decide +kernel
theorem d100_17 : decode (zb 100) 17 = .ok (.iload_n 1, 1) := by decide +kernel
theorem d100_18 : decode (zb 100) 18 = .ok (.invokevirtual 140, 3) := by decide +kernel
theorem d100_21 : decode (zb 100) 21 = .ok (.ireturn, 1) := by decide +kernel
theorem run100 {h : zH} {x0 : Int} : zrun 100 [vR 1, vI x0] h = zX 100 0 [vR 1, vI x0] [] h := rfl
theorem e100_0 {I : Nat → Int → Int} {b : Bool} {S : Nat} {x0 : Int} : zX 100 0 [vR 1, vI x0] [] (I, zRs b, 103, S) = if x0 < 0 then some (some (vI (-1)), (I, zRs b, 103, S)) else if x0 ≤ 9999 then (zrun 64 [vR (zg b), vI x0] (I, zRs b, 103, S)).bind (fun q => zX 100 21 [vR 1, vI x0] (zpush q.1 []) q.2) else some (some (vI (-1)), (I, zRs b, 103, S)) := (xIload_n d100_0 rfl).trans ((xIfLt (t := 11) d100_1 rfl).trans (ziteC ((xIconst d100_11).trans (xIret d100_12 zret_100)) ((xIload_n d100_4 rfl).trans ((xSipush d100_5).trans ((xIcmpLe (t := 13) d100_8 rfl).trans (ziteC ((xAload_n d100_13 rfl).trans ((xGetR 7 (zg b) d100_14 zo_100 zfl_10_56 rfl rfl rfl (Or.inl (Nat.le_of_ble_eq_true rfl))).trans ((xIload_n d100_17 rfl).trans (xInvV [vR (zg b), vI x0] [] d100_18 zo_100 zml_10_140 rfl rfl rfl (Or.inl ⟨(isProg_k (zg_ok b)), (isProg_n (zg_ok b))⟩))))) ((xIconst d100_11).trans (xIret d100_12 zret_100))))))))
theorem e100_21 {I : Nat → Int → Int} {b : Bool} {S : Nat} {a1 t0 : Int} : zX 100 21 [vR 1, vI a1] [vI t0] (I, zRs b, 103, S) = some (some (vI t0), (I, zRs b, 103, S)) := xIret d100_21 zret_100
theorem zo_101 : zo 101 = 10 := by decide +kernel
theorem zret_101 : zret 101 = some .int := by decide +kernel
theorem d101_0 : decode (zb 101) 0 = .ok (.aload_n 0, 1) := by decide +kernel
theorem d101_1 : decode (zb 101) 1 = .ok (.getfield 56, 3) := by decide +kernel
theorem d101_4 : decode (zb 101) 4 = .ok (.getfield 144, 3) := by decide +kernel
theorem d101_7 : decode (zb 101) 7 = .ok (.iconst 0, 1) := by decide +kernel
theorem d101_8 : decode (zb 101) 8 = .ok (.iaload, 1) := by decide +kernel
theorem d101_9 : decode (zb 101) 9 = .ok (.istore_n 1, 1) := by decide +kernel
theorem d101_10 : decode (zb 101) 10 = .ok (.iload_n 1, 1) := by decide +kernel
theorem d101_11 : decode (zb 101) 11 = .ok (.ldc 147, 2) := by decide +kernel
theorem d101_13 : decode (zb 101) 13 = .ok (.if_icmp .ne 8, 3) := by decide +kernel
theorem d101_16 : decode (zb 101) 16 = .ok (.bipush (-4), 2) := by decide +kernel
theorem d101_18 : decode (zb 101) 18 = .ok (.goto 4, 3) := by decide +kernel
theorem d101_21 : decode (zb 101) 21 = .ok (.iload_n 1, 1) := by decide +kernel
theorem d101_22 : decode (zb 101) 22 = .ok (.ireturn, 1) := by decide +kernel
theorem run101 {h : zH} : zrun 101 [vR 1] h = zX 101 0 [vR 1, none] [] h := rfl
theorem e101_0 {I : Nat → Int → Int} {b : Bool} {S : Nat} : zX 101 0 [vR 1, none] [] (I, zRs b, 103, S) = if (I ((zg b) + 12) 0) = 2147483647 then some (some (vI (-4)), (I, zRs b, 103, S)) else some (some (vI (I ((zg b) + 12) 0)), (I, zRs b, 103, S)) := (xAload_n d101_0 rfl).trans ((xGetR 7 (zg b) d101_1 zo_101 zfl_10_56 rfl rfl rfl (Or.inl (Nat.le_of_ble_eq_true rfl))).trans ((xGetR 9 ((zg b) + 12) d101_4 zo_101 zfl_10_144 rfl (isProg_r9 (zg_ok b)) (isProg_k (zg_ok b)) (Or.inl (isProg_n (zg_ok b)))).trans ((xIconst d101_7).trans ((xIald (N := 5) (I ((zg b) + 12) 0) rfl d101_8 (by rw [(isProg_k12 (zg_ok b))]) (Or.inl (isProg_n12 (zg_ok b))) (zal_of (isProg_k12 (zg_ok b)) (isProg_n12 (zg_ok b)))).trans ((if_pos (by decide)).trans ((xIstore_n d101_9 rfl rfl).trans ((xIload_n d101_10 rfl).trans ((xLdc d101_11 zo_101 zct_10_147 (by decide)).trans ((xIcmpNe (t := 21) d101_13 rfl).trans (ziteC ((xBipush d101_16).trans ((xGoto (t := 22) d101_18 rfl).trans (xIret d101_22 zret_101))) ((xIload_n d101_21 rfl).trans (xIret d101_22 zret_101))))))))))))
theorem zo_102 : zo 102 = 10 := by decide +kernel
theorem zret_102 : zret 102 = some .int := by decide +kernel
theorem d102_0 : decode (zb 102) 0 = .ok (.aload_n 0, 1) := by decide +kernel
theorem d102_1 : decode (zb 102) 1 = .ok (.getfield 35, 3) := by decide +kernel
theorem d102_4 : decode (zb 102) 4 = .ok (.iload_n 1, 1) := by decide +kernel
theorem d102_5 : decode (zb 102) 5 = .ok (.invokevirtual 148, 3) := by decide +kernel
theorem d102_8 : decode (zb 102) 8 = .ok (.ireturn, 1) := by decide +kernel
theorem run102 {h : zH} {x0 : Int} : zrun 102 [vR 1, vI x0] h = zX 102 0 [vR 1, vI x0] [] h := rfl
theorem e102_0 {I : Nat → Int → Int} {b : Bool} {S : Nat} {x0 : Int} : zX 102 0 [vR 1, vI x0] [] (I, zRs b, 103, S) = (zrun 38 [vR 8, vI x0] (I, zRs b, 103, S)).bind (fun q => zX 102 8 [vR 1, vI x0] (zpush q.1 []) q.2) := (xAload_n d102_0 rfl).trans ((xGetR 3 8 d102_1 zo_102 zfl_10_35 rfl rfl rfl (Or.inl (Nat.le_of_ble_eq_true rfl))).trans ((xIload_n d102_4 rfl).trans (xInvV [vR 8, vI x0] [] d102_5 zo_102 zml_10_148 rfl rfl rfl (Or.inl ⟨rfl, (Nat.le_of_ble_eq_true rfl)⟩))))
theorem e102_8 {I : Nat → Int → Int} {b : Bool} {S : Nat} {a1 t0 : Int} : zX 102 8 [vR 1, vI a1] [vI t0] (I, zRs b, 103, S) = some (some (vI t0), (I, zRs b, 103, S)) := xIret d102_8 zret_102
theorem zo_103 : zo 103 = 10 := by decide +kernel
theorem zret_103 : zret 103 = some .int := by decide +kernel
theorem d103_0 : decode (zb 103) 0 = .ok (.iload_n 1, 1) := by decide +kernel
theorem d103_1 : decode (zb 103) 1 = .ok (.ifCond .lt 27, 3) := by decide +kernel
theorem d103_4 : decode (zb 103) 4 = .ok (.iload_n 1, 1) := by decide +kernel
theorem d103_5 : decode (zb 103) 5 = .ok (.aload_n 0, 1) := by decide +kernel
theorem d103_6 : decode (zb 103) 6 = .ok (.getfield 56, 3) := by decide +kernel
theorem d103_9 : decode (zb 103) 9 = .ok (.getfield 82, 3) := by decide +kernel
theorem d103_12 : decode (zb 103) 12 = .ok (.if_icmp .ge 16, 3) := by decide +kernel
theorem d103_15 : decode (zb 103) 15 = .ok (.aload_n 0, 1) := by decide +kernel
theorem d103_16 : decode (zb 103) 16 = .ok (.getfield 56, 3) := by decide +kernel
theorem d103_19 : decode (zb 103) 19 = .ok (.getfield 128, 3) := by decide +kernel
theorem d103_22 : decode (zb 103) 22 = .ok (.iload_n 1, 1) := by decide +kernel
theorem d103_23 : decode (zb 103) 23 = .ok (.iaload, 1) := by decide +kernel
theorem d103_24 : decode (zb 103) 24 = .ok (.iconst 2, 1) := by decide +kernel
theorem d103_25 : decode (zb 103) 25 = .ok (.if_icmp .eq 5, 3) := by decide +kernel
theorem d103_28 : decode (zb 103) 28 = .ok (.iconst (-1), 1) := by decide +kernel
theorem d103_29 : decode (zb 103) 29 = .ok (.ireturn, 1) := by decide +kernel
theorem d103_30 : decode (zb 103) 30 = .ok (.aload_n 0, 1) := by decide +kernel
theorem d103_31 : decode (zb 103) 31 = .ok (.getfield 35, 3) := by decide +kernel
theorem d103_34 : decode (zb 103) 34 = .ok (.getfield 151, 3) := by decide +kernel
theorem d103_37 : decode (zb 103) 37 = .ok (.getfield 155, 3) := by decide +kernel
theorem d103_40 : decode (zb 103) 40 = .ok (.iload_n 1, 1) := by decide +kernel
theorem d103_41 : decode (zb 103) 41 = .ok (.iaload, 1) := by decide +kernel
theorem d103_42 : decode (zb 103) 42 = .ok (.ireturn, 1) := by decide +kernel
theorem run103 {h : zH} {x0 : Int} : zrun 103 [vR 1, vI x0] h = zX 103 0 [vR 1, vI x0] [] h := rfl
theorem e103_0 {I : Nat → Int → Int} {b : Bool} {S : Nat} {x0 : Int} : zX 103 0 [vR 1, vI x0] [] (I, zRs b, 103, S) = if x0 < 0 then some (some (vI (-1)), (I, zRs b, 103, S)) else if (I (zg b) 6) ≤ x0 then some (some (vI (-1)), (I, zRs b, 103, S)) else if 0 ≤ x0 ∧ x0 < 24 then if (I ((zg b) + 6) x0) = 2 then if 0 ≤ x0 ∧ x0 < 24 then some (some (vI (I 10 x0)), (I, zRs b, 103, S)) else none else some (some (vI (-1)), (I, zRs b, 103, S)) else none := (xIload_n d103_0 rfl).trans ((xIfLt (t := 28) d103_1 rfl).trans (ziteC ((xIconst d103_28).trans (xIret d103_29 zret_103)) ((xIload_n d103_4 rfl).trans ((xAload_n d103_5 rfl).trans ((xGetR 7 (zg b) d103_6 zo_103 zfl_10_56 rfl rfl rfl (Or.inl (Nat.le_of_ble_eq_true rfl))).trans ((xGetI 6 (I (zg b) 6) rfl d103_9 zo_103 zfl_10_82 (by decide) rfl (isProg_k (zg_ok b)) (Or.inl (isProg_n (zg_ok b)))).trans ((xIcmpGe (t := 28) d103_12 rfl).trans (ziteC ((xIconst d103_28).trans (xIret d103_29 zret_103)) ((xAload_n d103_15 rfl).trans ((xGetR 7 (zg b) d103_16 zo_103 zfl_10_56 rfl rfl rfl (Or.inl (Nat.le_of_ble_eq_true rfl))).trans ((xGetR 1 ((zg b) + 6) d103_19 zo_103 zfl_10_128 rfl (isProg_r1 (zg_ok b)) (isProg_k (zg_ok b)) (Or.inl (isProg_n (zg_ok b)))).trans ((xIload_n d103_22 rfl).trans ((xIald (N := 24) (I ((zg b) + 6) x0) rfl d103_23 (by rw [(isProg_k6 (zg_ok b))]) (Or.inl (isProg_n6 (zg_ok b))) (zal_of (isProg_k6 (zg_ok b)) (isProg_n6 (zg_ok b)))).trans (ziteC ((xIconst d103_24).trans ((xIcmpEq (t := 30) d103_25 rfl).trans (ziteC ((xAload_n d103_30 rfl).trans ((xGetR 3 8 d103_31 zo_103 zfl_10_35 rfl rfl rfl (Or.inl (Nat.le_of_ble_eq_true rfl))).trans ((xGetR 0 9 d103_34 zo_103 zfl_10_151 rfl rfl rfl (Or.inl (Nat.le_of_ble_eq_true rfl))).trans ((xGetR 2 10 d103_37 zo_103 zfl_10_155 rfl rfl rfl (Or.inl (Nat.le_of_ble_eq_true rfl))).trans ((xIload_n d103_40 rfl).trans ((xIald (N := 24) (I 10 x0) rfl d103_41 rfl (Or.inl (Nat.le_of_ble_eq_true rfl)) rfl).trans (ziteC (xIret d103_42 zret_103) rfl))))))) ((xIconst d103_28).trans (xIret d103_29 zret_103))))) rfl))))))))))))))
theorem zo_104 : zo 104 = 10 := by decide +kernel
theorem zret_104 : zret 104 = some .int := by decide +kernel
theorem d104_0 : decode (zb 104) 0 = .ok (.iload_n 1, 1) := by decide +kernel
theorem d104_1 : decode (zb 104) 1 = .ok (.iconst 1, 1) := by decide +kernel
theorem d104_2 : decode (zb 104) 2 = .ok (.if_icmp .lt 9, 3) := by decide +kernel
theorem d104_5 : decode (zb 104) 5 = .ok (.iload_n 1, 1) := by decide +kernel
theorem d104_6 : decode (zb 104) 6 = .ok (.bipush 30, 2) := by decide +kernel
theorem d104_8 : decode (zb 104) 8 = .ok (.if_icmp .le 5, 3) := by decide +kernel
theorem d104_11 : decode (zb 104) 11 = .ok (.iconst (-1), 1) := by decide +kernel
theorem d104_12 : decode (zb 104) 12 = .ok (.ireturn, 1) := by decide +kernel
theorem d104_13 : decode (zb 104) 13 = .ok (.iconst 0, 1) := by decide +kernel
theorem d104_14 : decode (zb 104) 14 = .ok (.istore_n 2, 1) := by decide +kernel
theorem d104_15 : decode (zb 104) 15 = .ok (.iload_n 2, 1) := by decide +kernel
theorem d104_16 : decode (zb 104) 16 = .ok (.iload_n 1, 1) := by decide +kernel
theorem d104_17 : decode (zb 104) 17 = .ok (.if_icmp .ge 20, 3) := by decide +kernel
theorem d104_20 : decode (zb 104) 20 = .ok (.aload_n 0, 1) := by decide +kernel
theorem d104_21 : decode (zb 104) 21 = .ok (.getfield 35, 3) := by decide +kernel
theorem d104_24 : decode (zb 104) 24 = .ok (.aload_n 0, 1) := by decide +kernel
theorem d104_25 : decode (zb 104) 25 = .ok (.getfield 56, 3) := by decide +kernel
theorem d104_28 : decode (zb 104) 28 = .ok (.invokevirtual 160, 3) := by decide +kernel
theorem d104_31 : decode (zb 104) 31 = .ok (.iinc 2 1, 3) := by decide +kernel
theorem d104_34 : decode (zb 104) 34 = .ok (.goto (-19), 3) := by decide +kernel
theorem d104_37 : decode (zb 104) 37 = .ok (.aload_n 0, 1) := by decide +kernel
theorem d104_38 : decode (zb 104) 38 = .ok (.getfield 35, 3) := by decide +kernel
theorem d104_41 : decode (zb 104) 41 = .ok (.getfield 164, 3) := by decide +kernel
theorem d104_44 : decode (zb 104) 44 = .ok (.ireturn, 1) := by decide +kernel
theorem run104 {h : zH} {x0 : Int} : zrun 104 [vR 1, vI x0] h = zX 104 0 [vR 1, vI x0, none] [] h := rfl
theorem e104_0 {I : Nat → Int → Int} {b : Bool} {S : Nat} {x0 : Int} : zX 104 0 [vR 1, vI x0, none] [] (I, zRs b, 103, S) = if x0 < 1 then some (some (vI (-1)), (I, zRs b, 103, S)) else if x0 ≤ 30 then zX 104 15 [vR 1, vI x0, vI 0] [] (I, zRs b, 103, S) else some (some (vI (-1)), (I, zRs b, 103, S)) := (xIload_n d104_0 rfl).trans ((xIconst d104_1).trans ((xIcmpLt (t := 11) d104_2 rfl).trans (ziteC ((xIconst d104_11).trans (xIret d104_12 zret_104)) ((xIload_n d104_5 rfl).trans ((xBipush d104_6).trans ((xIcmpLe (t := 13) d104_8 rfl).trans (ziteC ((xIconst d104_13).trans (xIstore_n d104_14 rfl rfl)) ((xIconst d104_11).trans (xIret d104_12 zret_104)))))))))
theorem e104_15 {I : Nat → Int → Int} {b : Bool} {S : Nat} {a1 a2 : Int} : zX 104 15 [vR 1, vI a1, vI a2] [] (I, zRs b, 103, S) = if a1 ≤ a2 then some (some (vI (I 8 8)), (I, zRs b, 103, S)) else (zrun 39 [vR 8, vR (zg b)] (I, zRs b, 103, S)).bind (fun q => zX 104 31 [vR 1, vI a1, vI a2] (zpush q.1 []) q.2) := (xIload_n d104_15 rfl).trans ((xIload_n d104_16 rfl).trans ((xIcmpGe (t := 37) d104_17 rfl).trans (ziteC ((xAload_n d104_37 rfl).trans ((xGetR 3 8 d104_38 zo_104 zfl_10_35 rfl rfl rfl (Or.inl (Nat.le_of_ble_eq_true rfl))).trans ((xGetI 8 (I 8 8) rfl d104_41 zo_104 zfl_10_164 (by decide) rfl rfl (Or.inl (Nat.le_of_ble_eq_true rfl))).trans (xIret d104_44 zret_104)))) ((xAload_n d104_20 rfl).trans ((xGetR 3 8 d104_21 zo_104 zfl_10_35 rfl rfl rfl (Or.inl (Nat.le_of_ble_eq_true rfl))).trans ((xAload_n d104_24 rfl).trans ((xGetR 7 (zg b) d104_25 zo_104 zfl_10_56 rfl rfl rfl (Or.inl (Nat.le_of_ble_eq_true rfl))).trans (xInvV [vR 8, vR (zg b)] [] d104_28 zo_104 zml_10_160 rfl rfl rfl (Or.inl ⟨rfl, (Nat.le_of_ble_eq_true rfl)⟩)))))))))
theorem e104_31 {I : Nat → Int → Int} {b : Bool} {S : Nat} {a1 a2 : Int} : zX 104 31 [vR 1, vI a1, vI a2] [] (I, zRs b, 103, S) = zX 104 15 [vR 1, vI a1, vI (wr (a2 + 1))] [] (I, zRs b, 103, S) := (xIinc d104_31 rfl rfl rfl).trans (xGoto (t := 15) d104_34 rfl)
theorem zo_105 : zo 105 = 10 := by decide +kernel
theorem zret_105 : zret 105 = some .int := by decide +kernel
theorem d105_0 : decode (zb 105) 0 = .ok (.iload_n 1, 1) := by decide +kernel
theorem d105_1 : decode (zb 105) 1 = .ok (.ifCond .ge 5, 3) := by decide +kernel
theorem d105_4 : decode (zb 105) 4 = .ok (.iconst (-1), 1) := by decide +kernel
theorem d105_5 : decode (zb 105) 5 = .ok (.ireturn, 1) := by decide +kernel
theorem d105_6 : decode (zb 105) 6 = .ok (.iload_n 1, 1) := by decide +kernel
theorem d105_7 : decode (zb 105) 7 = .ok (.aload_n 0, 1) := by decide +kernel
theorem d105_8 : decode (zb 105) 8 = .ok (.getfield 35, 3) := by decide +kernel
theorem d105_11 : decode (zb 105) 11 = .ok (.getfield 167, 3) := by decide +kernel
theorem d105_14 : decode (zb 105) 14 = .ok (.sipush 200, 3) := by decide +kernel
theorem d105_17 : decode (zb 105) 17 = .ok (.invokestatic 170, 3) := by decide +kernel
theorem d105_20 : decode (zb 105) 20 = .ok (.if_icmp .ge 15, 3) := by decide +kernel
theorem d105_23 : decode (zb 105) 23 = .ok (.aload_n 0, 1) := by decide +kernel
theorem d105_24 : decode (zb 105) 24 = .ok (.getfield 35, 3) := by decide +kernel
theorem d105_27 : decode (zb 105) 27 = .ok (.getfield 176, 3) := by decide +kernel
theorem d105_30 : decode (zb 105) 30 = .ok (.iload_n 1, 1) := by decide +kernel
theorem d105_31 : decode (zb 105) 31 = .ok (.iaload, 1) := by decide +kernel
theorem d105_32 : decode (zb 105) 32 = .ok (.goto 5, 3) := by decide +kernel
theorem d105_35 : decode (zb 105) 35 = .ok (.bipush (-4), 2) := by decide +kernel
theorem d105_37 : decode (zb 105) 37 = .ok (.ireturn, 1) := by decide +kernel
theorem run105 {h : zH} {x0 : Int} : zrun 105 [vR 1, vI x0] h = zX 105 0 [vR 1, vI x0] [] h := rfl
theorem e105_0 {I : Nat → Int → Int} {b : Bool} {S : Nat} {x0 : Int} : zX 105 0 [vR 1, vI x0] [] (I, zRs b, 103, S) = if 0 ≤ x0 then (zrun 209 [vI (I 8 5), vI 200] (I, zRs b, 103, S)).bind (fun q => zX 105 20 [vR 1, vI x0] (zpush q.1 [vI x0]) q.2) else some (some (vI (-1)), (I, zRs b, 103, S)) := (xIload_n d105_0 rfl).trans ((xIfGe (t := 6) d105_1 rfl).trans (ziteC ((xIload_n d105_6 rfl).trans ((xAload_n d105_7 rfl).trans ((xGetR 3 8 d105_8 zo_105 zfl_10_35 rfl rfl rfl (Or.inl (Nat.le_of_ble_eq_true rfl))).trans ((xGetI 5 (I 8 5) rfl d105_11 zo_105 zfl_10_167 (by decide) rfl rfl (Or.inl (Nat.le_of_ble_eq_true rfl))).trans ((xSipush d105_14).trans (xInvS [vI (I 8 5), vI 200] [vI x0] d105_17 zo_105 zml_10_170 rfl rfl)))))) ((xIconst d105_4).trans (xIret d105_5 zret_105))))
theorem e105_20 {I : Nat → Int → Int} {b : Bool} {S : Nat} {a1 t0 t1 : Int} : zX 105 20 [vR 1, vI a1] [vI t1, vI t0] (I, zRs b, 103, S) = if t1 ≤ t0 then some (some (vI (-4)), (I, zRs b, 103, S)) else if 0 ≤ a1 ∧ a1 < 200 then some (some (vI (I 18 a1)), (I, zRs b, 103, S)) else none := (xIcmpGe (t := 35) d105_20 rfl).trans (ziteC ((xBipush d105_35).trans (xIret d105_37 zret_105)) ((xAload_n d105_23 rfl).trans ((xGetR 3 8 d105_24 zo_105 zfl_10_35 rfl rfl rfl (Or.inl (Nat.le_of_ble_eq_true rfl))).trans ((xGetR 3 18 d105_27 zo_105 zfl_10_176 rfl rfl rfl (Or.inl (Nat.le_of_ble_eq_true rfl))).trans ((xIload_n d105_30 rfl).trans ((xIald (N := 200) (I 18 a1) rfl d105_31 rfl (Or.inl (Nat.le_of_ble_eq_true rfl)) rfl).trans (ziteC ((xGoto (t := 37) d105_32 rfl).trans (xIret d105_37 zret_105)) rfl)))))))
theorem zo_106 : zo 106 = 10 := by decide +kernel
theorem zret_106 : zret 106 = some .int := by decide +kernel
theorem d106_0 : decode (zb 106) 0 = .ok (.iload_n 1, 1) := by decide +kernel
theorem d106_1 : decode (zb 106) 1 = .ok (.ifCond .lt 12, 3) := by decide +kernel
theorem d106_4 : decode (zb 106) 4 = .ok (.iload_n 2, 1) := by decide +kernel
theorem d106_5 : decode (zb 106) 5 = .ok (.ifCond .lt 8, 3) := by decide +kernel
theorem d106_8 : decode (zb 106) 8 = .ok (.iload_n 2, 1) := by decide +kernel
theorem d106_9 : decode (zb 106) 9 = .ok (.iconst 1, 1) := by decide +kernel
theorem d106_10 : decode (zb 106) 10 = .ok (.if_icmp .le 5, 3) := by decide +kernel
theorem d106_13 : decode (zb 106) 13 = .ok (.iconst (-1), 1) := by decide +kernel
theorem d106_14 : decode (zb 106) 14 = .ok (.ireturn, 1) := by decide +kernel
theorem d106_15 : decode (zb 106) 15 = .ok (.iload_n 1, 1) := by decide +kernel
theorem d106_16 : decode (zb 106) 16 = .ok (.aload_n 0, 1) := by decide +kernel
theorem d106_17 : decode (zb 106) 17 = .ok (.getfield 35, 3) := by decide +kernel
theorem d106_20 : decode (zb 106) 20 = .ok (.getfield 179, 3) := by decide +kernel
theorem d106_23 : decode (zb 106) 23 = .ok (.invokevirtual 183, 3) := by decide +kernel
theorem d106_26 : decode (zb 106) 26 = .ok (.if_icmp .lt 6, 3) := by decide +kernel
theorem d106_29 : decode (zb 106) 29 = .ok (.bipush (-4), 2) := by decide +kernel
theorem d106_31 : decode (zb 106) 31 = .ok (.ireturn, 1) := by decide +kernel
theorem d106_32 : decode (zb 106) 32 = .ok (.aload_n 0, 1) := by decide +kernel
theorem d106_33 : decode (zb 106) 33 = .ok (.getfield 35, 3) := by decide +kernel
theorem d106_36 : decode (zb 106) 36 = .ok (.getfield 179, 3) := by decide +kernel
theorem d106_39 : decode (zb 106) 39 = .ok (.iload_n 1, 1) := by decide +kernel
theorem d106_40 : decode (zb 106) 40 = .ok (.invokevirtual 188, 3) := by decide +kernel
theorem d106_43 : decode (zb 106) 43 = .ok (.istore_n 3, 1) := by decide +kernel
theorem d106_44 : decode (zb 106) 44 = .ok (.iload_n 2, 1) := by decide +kernel
theorem d106_45 : decode (zb 106) 45 = .ok (.ifCond .ne 18, 3) := by decide +kernel
theorem d106_48 : decode (zb 106) 48 = .ok (.aload_n 0, 1) := by decide +kernel
theorem d106_49 : decode (zb 106) 49 = .ok (.getfield 35, 3) := by decide +kernel
theorem d106_52 : decode (zb 106) 52 = .ok (.getfield 179, 3) := by decide +kernel
theorem d106_55 : decode (zb 106) 55 = .ok (.getfield 191, 3) := by decide +kernel
theorem d106_58 : decode (zb 106) 58 = .ok (.iload_n 3, 1) := by decide +kernel
theorem d106_59 : decode (zb 106) 59 = .ok (.iaload, 1) := by decide +kernel
theorem d106_60 : decode (zb 106) 60 = .ok (.goto 15, 3) := by decide +kernel
theorem d106_63 : decode (zb 106) 63 = .ok (.aload_n 0, 1) := by decide +kernel
theorem d106_64 : decode (zb 106) 64 = .ok (.getfield 35, 3) := by decide +kernel
theorem d106_67 : decode (zb 106) 67 = .ok (.getfield 179, 3) := by decide +kernel
theorem d106_70 : decode (zb 106) 70 = .ok (.getfield 194, 3) := by decide +kernel
theorem d106_73 : decode (zb 106) 73 = .ok (.iload_n 3, 1) := by decide +kernel
theorem d106_74 : decode (zb 106) 74 = .ok (.iaload, 1) := by decide +kernel
theorem d106_75 : decode (zb 106) 75 = .ok (.ireturn, 1) := by decide +kernel
theorem run106 {h : zH} {x0 x1 : Int} : zrun 106 [vR 1, vI x0, vI x1] h = zX 106 0 [vR 1, vI x0, vI x1, none] [] h := rfl
theorem e106_0 {I : Nat → Int → Int} {b : Bool} {S : Nat} {x0 x1 : Int} : zX 106 0 [vR 1, vI x0, vI x1, none] [] (I, zRs b, 103, S) = if x0 < 0 then some (some (vI (-1)), (I, zRs b, 103, S)) else if x1 < 0 then some (some (vI (-1)), (I, zRs b, 103, S)) else if x1 ≤ 1 then (zrun 24 [vR 15] (I, zRs b, 103, S)).bind (fun q => zX 106 26 [vR 1, vI x0, vI x1, none] (zpush q.1 [vI x0]) q.2) else some (some (vI (-1)), (I, zRs b, 103, S)) := (xIload_n d106_0 rfl).trans ((xIfLt (t := 13) d106_1 rfl).trans (ziteC ((xIconst d106_13).trans (xIret d106_14 zret_106)) ((xIload_n d106_4 rfl).trans ((xIfLt (t := 13) d106_5 rfl).trans (ziteC ((xIconst d106_13).trans (xIret d106_14 zret_106)) ((xIload_n d106_8 rfl).trans ((xIconst d106_9).trans ((xIcmpLe (t := 15) d106_10 rfl).trans (ziteC ((xIload_n d106_15 rfl).trans ((xAload_n d106_16 rfl).trans ((xGetR 3 8 d106_17 zo_106 zfl_10_35 rfl rfl rfl (Or.inl (Nat.le_of_ble_eq_true rfl))).trans ((xGetR 2 15 d106_20 zo_106 zfl_10_179 rfl rfl rfl (Or.inl (Nat.le_of_ble_eq_true rfl))).trans (xInvV [vR 15] [vI x0] d106_23 zo_106 zml_10_183 rfl rfl rfl (Or.inl ⟨rfl, (Nat.le_of_ble_eq_true rfl)⟩)))))) ((xIconst d106_13).trans (xIret d106_14 zret_106)))))))))))
theorem e106_26 {I : Nat → Int → Int} {b : Bool} {S : Nat} {a1 a2 t0 t1 : Int} : zX 106 26 [vR 1, vI a1, vI a2, none] [vI t1, vI t0] (I, zRs b, 103, S) = if t0 < t1 then (zrun 25 [vR 15, vI a1] (I, zRs b, 103, S)).bind (fun q => zX 106 43 [vR 1, vI a1, vI a2, none] (zpush q.1 []) q.2) else some (some (vI (-4)), (I, zRs b, 103, S)) := (xIcmpLt (t := 32) d106_26 rfl).trans (ziteC ((xAload_n d106_32 rfl).trans ((xGetR 3 8 d106_33 zo_106 zfl_10_35 rfl rfl rfl (Or.inl (Nat.le_of_ble_eq_true rfl))).trans ((xGetR 2 15 d106_36 zo_106 zfl_10_179 rfl rfl rfl (Or.inl (Nat.le_of_ble_eq_true rfl))).trans ((xIload_n d106_39 rfl).trans (xInvV [vR 15, vI a1] [] d106_40 zo_106 zml_10_188 rfl rfl rfl (Or.inl ⟨rfl, (Nat.le_of_ble_eq_true rfl)⟩)))))) ((xBipush d106_29).trans (xIret d106_31 zret_106)))
theorem e106_43 {I : Nat → Int → Int} {b : Bool} {S : Nat} {a1 a2 t0 : Int} : zX 106 43 [vR 1, vI a1, vI a2, none] [vI t0] (I, zRs b, 103, S) = if a2 = 0 then if 0 ≤ t0 ∧ t0 < 40 then some (some (vI (I 16 t0)), (I, zRs b, 103, S)) else none else if 0 ≤ t0 ∧ t0 < 40 then some (some (vI (I 17 t0)), (I, zRs b, 103, S)) else none := (xIstore_n d106_43 rfl rfl).trans ((xIload_n d106_44 rfl).trans ((xIfNe (t := 63) d106_45 rfl).trans (ziteC ((xAload_n d106_48 rfl).trans ((xGetR 3 8 d106_49 zo_106 zfl_10_35 rfl rfl rfl (Or.inl (Nat.le_of_ble_eq_true rfl))).trans ((xGetR 2 15 d106_52 zo_106 zfl_10_179 rfl rfl rfl (Or.inl (Nat.le_of_ble_eq_true rfl))).trans ((xGetR 0 16 d106_55 zo_106 zfl_10_191 rfl rfl rfl (Or.inl (Nat.le_of_ble_eq_true rfl))).trans ((xIload_n d106_58 rfl).trans ((xIald (N := 40) (I 16 t0) rfl d106_59 rfl (Or.inl (Nat.le_of_ble_eq_true rfl)) rfl).trans (ziteC ((xGoto (t := 75) d106_60 rfl).trans (xIret d106_75 zret_106)) rfl))))))) ((xAload_n d106_63 rfl).trans ((xGetR 3 8 d106_64 zo_106 zfl_10_35 rfl rfl rfl (Or.inl (Nat.le_of_ble_eq_true rfl))).trans ((xGetR 2 15 d106_67 zo_106 zfl_10_179 rfl rfl rfl (Or.inl (Nat.le_of_ble_eq_true rfl))).trans ((xGetR 1 17 d106_70 zo_106 zfl_10_194 rfl rfl rfl (Or.inl (Nat.le_of_ble_eq_true rfl))).trans ((xIload_n d106_73 rfl).trans ((xIald (N := 40) (I 17 t0) rfl d106_74 rfl (Or.inl (Nat.le_of_ble_eq_true rfl)) rfl).trans (ziteC (xIret d106_75 zret_106) rfl))))))))))
theorem zo_107 : zo 107 = 10 := by decide +kernel
theorem zret_107 : zret 107 = some .int := by decide +kernel
theorem d107_0 : decode (zb 107) 0 = .ok (.iload_n 1, 1) := by decide +kernel
theorem d107_1 : decode (zb 107) 1 = .ok (.ifCond .lt 12, 3) := by decide +kernel
theorem d107_4 : decode (zb 107) 4 = .ok (.iload_n 2, 1) := by decide +kernel
theorem d107_5 : decode (zb 107) 5 = .ok (.ifCond .lt 8, 3) := by decide +kernel
theorem d107_8 : decode (zb 107) 8 = .ok (.iload_n 2, 1) := by decide +kernel
theorem d107_9 : decode (zb 107) 9 = .ok (.iconst 2, 1) := by decide +kernel
theorem d107_10 : decode (zb 107) 10 = .ok (.if_icmp .le 5, 3) := by decide +kernel
theorem d107_13 : decode (zb 107) 13 = .ok (.iconst (-1), 1) := by decide +kernel
theorem d107_14 : decode (zb 107) 14 = .ok (.ireturn, 1) := by decide +kernel
theorem d107_15 : decode (zb 107) 15 = .ok (.aload_n 0, 1) := by decide +kernel
theorem d107_16 : decode (zb 107) 16 = .ok (.getfield 35, 3) := by decide +kernel
theorem d107_19 : decode (zb 107) 19 = .ok (.getfield 197, 3) := by decide +kernel
theorem d107_22 : decode (zb 107) 22 = .ok (.astore_n 3, 1) := by decide +kernel
theorem d107_23 : decode (zb 107) 23 = .ok (.iload_n 1, 1) := by decide +kernel
theorem d107_24 : decode (zb 107) 24 = .ok (.iload_n 2, 1) := by decide +kernel
theorem d107_25 : decode (zb 107) 25 = .ok (.ifCond .ne 10, 3) := by decide +kernel
theorem d107_28 : decode (zb 107) 28 = .ok (.aload_n 3, 1) := by decide +kernel
theorem d107_29 : decode (zb 107) 29 = .ok (.getfield 200, 3) := by decide +kernel
theorem d107_32 : decode (zb 107) 32 = .ok (.goto 7, 3) := by decide +kernel
theorem d107_35 : decode (zb 107) 35 = .ok (.aload_n 3, 1) := by decide +kernel
theorem d107_36 : decode (zb 107) 36 = .ok (.getfield 205, 3) := by decide +kernel
theorem d107_39 : decode (zb 107) 39 = .ok (.if_icmp .lt 6, 3) := by decide +kernel
theorem d107_42 : decode (zb 107) 42 = .ok (.bipush (-4), 2) := by decide +kernel
theorem d107_44 : decode (zb 107) 44 = .ok (.ireturn, 1) := by decide +kernel
theorem d107_45 : decode (zb 107) 45 = .ok (.iload_n 2, 1) := by decide +kernel
theorem d107_46 : decode (zb 107) 46 = .ok (.lookupswitch 40 #[(0, 26), (1, 33)], 26) := by decide +kernel
theorem d107_72 : decode (zb 107) 72 = .ok (.aload_n 3, 1) := by decide +kernel
theorem d107_73 : decode (zb 107) 73 = .ok (.getfield 208, 3) := by decide +kernel
theorem d107_76 : decode (zb 107) 76 = .ok (.iload_n 1, 1) := by decide +kernel
theorem d107_77 : decode (zb 107) 77 = .ok (.iaload, 1) := by decide +kernel
theorem d107_78 : decode (zb 107) 78 = .ok (.ireturn, 1) := by decide +kernel
theorem d107_79 : decode (zb 107) 79 = .ok (.aload_n 3, 1) := by decide +kernel
theorem d107_80 : decode (zb 107) 80 = .ok (.getfield 211, 3) := by decide +kernel
theorem d107_83 : decode (zb 107) 83 = .ok (.iload_n 1, 1) := by decide +kernel
theorem d107_84 : decode (zb 107) 84 = .ok (.iaload, 1) := by decide +kernel
theorem d107_85 : decode (zb 107) 85 = .ok (.ireturn, 1) := by decide +kernel
theorem d107_86 : decode (zb 107) 86 = .ok (.aload_n 3, 1) := by decide +kernel
theorem d107_87 : decode (zb 107) 87 = .ok (.getfield 214, 3) := by decide +kernel
theorem d107_90 : decode (zb 107) 90 = .ok (.iload_n 1, 1) := by decide +kernel
theorem d107_91 : decode (zb 107) 91 = .ok (.iaload, 1) := by decide +kernel
theorem d107_92 : decode (zb 107) 92 = .ok (.ireturn, 1) := by decide +kernel
theorem run107 {h : zH} {x0 x1 : Int} : zrun 107 [vR 1, vI x0, vI x1] h = zX 107 0 [vR 1, vI x0, vI x1, none] [] h := rfl
theorem e107_0 {I : Nat → Int → Int} {b : Bool} {S : Nat} {x0 x1 : Int} : zX 107 0 [vR 1, vI x0, vI x1, none] [] (I, zRs b, 103, S) = if x0 < 0 then some (some (vI (-1)), (I, zRs b, 103, S)) else if x1 < 0 then some (some (vI (-1)), (I, zRs b, 103, S)) else if x1 ≤ 2 then if x1 = 0 then if x0 < (I 11 1) then if x1 = 0 then if 0 ≤ x0 ∧ x0 < 6 then some (some (vI (I 12 x0)), (I, zRs b, 103, S)) else none else if x1 = 1 then if 0 ≤ x0 ∧ x0 < 16 then some (some (vI (I 13 x0)), (I, zRs b, 103, S)) else none else if 0 ≤ x0 ∧ x0 < 16 then some (some (vI (I 14 x0)), (I, zRs b, 103, S)) else none else some (some (vI (-4)), (I, zRs b, 103, S)) else if x0 < (I 11 4) then if x1 = 0 then if 0 ≤ x0 ∧ x0 < 6 then some (some (vI (I 12 x0)), (I, zRs b, 103, S)) else none else if x1 = 1 then if 0 ≤ x0 ∧ x0 < 16 then some (some (vI (I 13 x0)), (I, zRs b, 103, S)) else none else if 0 ≤ x0 ∧ x0 < 16 then some (some (vI (I 14 x0)), (I, zRs b, 103, S)) else none else some (some (vI (-4)), (I, zRs b, 103, S)) else some (some (vI (-1)), (I, zRs b, 103, S)) := (xIload_n d107_0 rfl).trans ((xIfLt (t := 13) d107_1 rfl).trans (ziteC ((xIconst d107_13).trans (xIret d107_14 zret_107)) ((xIload_n d107_4 rfl).trans ((xIfLt (t := 13) d107_5 rfl).trans (ziteC ((xIconst d107_13).trans (xIret d107_14 zret_107)) ((xIload_n d107_8 rfl).trans ((xIconst d107_9).trans ((xIcmpLe (t := 15) d107_10 rfl).trans (ziteC ((xAload_n d107_15 rfl).trans ((xGetR 3 8 d107_16 zo_107 zfl_10_35 rfl rfl rfl (Or.inl (Nat.le_of_ble_eq_true rfl))).trans ((xGetR 1 11 d107_19 zo_107 zfl_10_197 rfl rfl rfl (Or.inl (Nat.le_of_ble_eq_true rfl))).trans ((xAstore_n d107_22 rfl rfl).trans ((xIload_n d107_23 rfl).trans ((xIload_n d107_24 rfl).trans ((xIfNe (t := 35) d107_25 rfl).trans (ziteC ((xAload_n d107_28 rfl).trans ((xGetI 1 (I 11 1) rfl d107_29 zo_107 zfl_10_200 (by decide) rfl rfl (Or.inl (Nat.le_of_ble_eq_true rfl))).trans ((xGoto (t := 39) d107_32 rfl).trans ((xIcmpLt (t := 45) d107_39 rfl).trans (ziteC ((xIload_n d107_45 rfl).trans ((xLook [(0, 72), (1, 79)] 86 d107_46 rfl rfl rfl).trans (ziteC ((xAload_n d107_72 rfl).trans ((xGetR 0 12 d107_73 zo_107 zfl_10_208 rfl rfl rfl (Or.inl (Nat.le_of_ble_eq_true rfl))).trans ((xIload_n d107_76 rfl).trans ((xIald (N := 6) (I 12 x0) rfl d107_77 rfl (Or.inl (Nat.le_of_ble_eq_true rfl)) rfl).trans (ziteC (xIret d107_78 zret_107) rfl))))) (ziteC ((xAload_n d107_79 rfl).trans ((xGetR 2 13 d107_80 zo_107 zfl_10_211 rfl rfl rfl (Or.inl (Nat.le_of_ble_eq_true rfl))).trans ((xIload_n d107_83 rfl).trans ((xIald (N := 16) (I 13 x0) rfl d107_84 rfl (Or.inl (Nat.le_of_ble_eq_true rfl)) rfl).trans (ziteC (xIret d107_85 zret_107) rfl))))) ((xAload_n d107_86 rfl).trans ((xGetR 3 14 d107_87 zo_107 zfl_10_214 rfl rfl rfl (Or.inl (Nat.le_of_ble_eq_true rfl))).trans ((xIload_n d107_90 rfl).trans ((xIald (N := 16) (I 14 x0) rfl d107_91 rfl (Or.inl (Nat.le_of_ble_eq_true rfl)) rfl).trans (ziteC (xIret d107_92 zret_107) rfl))))))))) ((xBipush d107_42).trans (xIret d107_44 zret_107))))))) ((xAload_n d107_35 rfl).trans ((xGetI 4 (I 11 4) rfl d107_36 zo_107 zfl_10_205 (by decide) rfl rfl (Or.inl (Nat.le_of_ble_eq_true rfl))).trans ((xIcmpLt (t := 45) d107_39 rfl).trans (ziteC ((xIload_n d107_45 rfl).trans ((xLook [(0, 72), (1, 79)] 86 d107_46 rfl rfl rfl).trans (ziteC ((xAload_n d107_72 rfl).trans ((xGetR 0 12 d107_73 zo_107 zfl_10_208 rfl rfl rfl (Or.inl (Nat.le_of_ble_eq_true rfl))).trans ((xIload_n d107_76 rfl).trans ((xIald (N := 6) (I 12 x0) rfl d107_77 rfl (Or.inl (Nat.le_of_ble_eq_true rfl)) rfl).trans (ziteC (xIret d107_78 zret_107) rfl))))) (ziteC ((xAload_n d107_79 rfl).trans ((xGetR 2 13 d107_80 zo_107 zfl_10_211 rfl rfl rfl (Or.inl (Nat.le_of_ble_eq_true rfl))).trans ((xIload_n d107_83 rfl).trans ((xIald (N := 16) (I 13 x0) rfl d107_84 rfl (Or.inl (Nat.le_of_ble_eq_true rfl)) rfl).trans (ziteC (xIret d107_85 zret_107) rfl))))) ((xAload_n d107_86 rfl).trans ((xGetR 3 14 d107_87 zo_107 zfl_10_214 rfl rfl rfl (Or.inl (Nat.le_of_ble_eq_true rfl))).trans ((xIload_n d107_90 rfl).trans ((xIald (N := 16) (I 14 x0) rfl d107_91 rfl (Or.inl (Nat.le_of_ble_eq_true rfl)) rfl).trans (ziteC (xIret d107_92 zret_107) rfl))))))))) ((xBipush d107_42).trans (xIret d107_44 zret_107)))))))))))))) ((xIconst d107_13).trans (xIret d107_14 zret_107)))))))))))
theorem zo_108 : zo 108 = 10 := by decide +kernel
theorem zret_108 : zret 108 = some .int := by decide +kernel
theorem d108_0 : decode (zb 108) 0 = .ok (.iload_n 1, 1) := by decide +kernel
theorem d108_1 : decode (zb 108) 1 = .ok (.ifCond .lt 8, 3) := by decide +kernel
theorem d108_4 : decode (zb 108) 4 = .ok (.iload_n 1, 1) := by decide +kernel
theorem d108_5 : decode (zb 108) 5 = .ok (.iconst 4, 1) := by decide +kernel
theorem d108_6 : decode (zb 108) 6 = .ok (.if_icmp .lt 5, 3) := by decide +kernel
theorem d108_9 : decode (zb 108) 9 = .ok (.iconst (-1), 1) := by decide +kernel
theorem d108_10 : decode (zb 108) 10 = .ok (.ireturn, 1) := by decide +kernel
theorem d108_11 : decode (zb 108) 11 = .ok (.aload_n 0, 1) := by decide +kernel
theorem d108_12 : decode (zb 108) 12 = .ok (.getfield 35, 3) := by decide +kernel
theorem d108_15 : decode (zb 108) 15 = .ok (.getfield 151, 3) := by decide +kernel
theorem d108_18 : decode (zb 108) 18 = .ok (.iload_n 1, 1) := by decide +kernel
theorem d108_19 : decode (zb 108) 19 = .ok (.invokevirtual 217, 3) := by decide +kernel
theorem d108_22 : decode (zb 108) 22 = .ok (.ifCond .eq 7, 3) := by decide +kernel
theorem d108_25 : decode (zb 108) 25 = .ok (.iconst 1, 1) := by decide +kernel
theorem d108_26 : decode (zb 108) 26 = .ok (.goto 4, 3) := by decide +kernel
theorem d108_29 : decode (zb 108) 29 = .ok (.iconst 0, 1) := by decide +kernel
theorem d108_30 : decode (zb 108) 30 = .ok (.ireturn, 1) := by decide +kernel
theorem run108 {h : zH} {x0 : Int} : zrun 108 [vR 1, vI x0] h = zX 108 0 [vR 1, vI x0] [] h := rfl
theorem e108_0 {I : Nat → Int → Int} {b : Bool} {S : Nat} {x0 : Int} : zX 108 0 [vR 1, vI x0] [] (I, zRs b, 103, S) = if x0 < 0 then some (some (vI (-1)), (I, zRs b, 103, S)) else if x0 < 4 then (zrun 4 [vR 9, vI x0] (I, zRs b, 103, S)).bind (fun q => zX 108 22 [vR 1, vI x0] (zpush q.1 []) q.2) else some (some (vI (-1)), (I, zRs b, 103, S)) := (xIload_n d108_0 rfl).trans ((xIfLt (t := 9) d108_1 rfl).trans (ziteC ((xIconst d108_9).trans (xIret d108_10 zret_108)) ((xIload_n d108_4 rfl).trans ((xIconst d108_5).trans ((xIcmpLt (t := 11) d108_6 rfl).trans (ziteC ((xAload_n d108_11 rfl).trans ((xGetR 3 8 d108_12 zo_108 zfl_10_35 rfl rfl rfl (Or.inl (Nat.le_of_ble_eq_true rfl))).trans ((xGetR 0 9 d108_15 zo_108 zfl_10_151 rfl rfl rfl (Or.inl (Nat.le_of_ble_eq_true rfl))).trans ((xIload_n d108_18 rfl).trans (xInvV [vR 9, vI x0] [] d108_19 zo_108 zml_10_217 rfl rfl rfl (Or.inl ⟨rfl, (Nat.le_of_ble_eq_true rfl)⟩)))))) ((xIconst d108_9).trans (xIret d108_10 zret_108))))))))
theorem e108_22 {I : Nat → Int → Int} {b : Bool} {S : Nat} {a1 t0 : Int} : zX 108 22 [vR 1, vI a1] [vI t0] (I, zRs b, 103, S) = if t0 = 0 then some (some (vI 0), (I, zRs b, 103, S)) else some (some (vI 1), (I, zRs b, 103, S)) := (xIfEq (t := 29) d108_22 rfl).trans (ziteC ((xIconst d108_29).trans (xIret d108_30 zret_108)) ((xIconst d108_25).trans ((xGoto (t := 30) d108_26 rfl).trans (xIret d108_30 zret_108))))
theorem zo_109 : zo 109 = 10 := by decide +kernel
theorem zret_109 : zret 109 = some .int := by decide +kernel
theorem d109_0 : decode (zb 109) 0 = .ok (.iload_n 1, 1) := by decide +kernel
theorem d109_1 : decode (zb 109) 1 = .ok (.invokestatic 110, 3) := by decide +kernel
theorem d109_4 : decode (zb 109) 4 = .ok (.ifCond .ne 5, 3) := by decide +kernel
theorem d109_7 : decode (zb 109) 7 = .ok (.iconst (-1), 1) := by decide +kernel
theorem d109_8 : decode (zb 109) 8 = .ok (.ireturn, 1) := by decide +kernel
theorem d109_9 : decode (zb 109) 9 = .ok (.iload_n 1, 1) := by decide +kernel
theorem d109_10 : decode (zb 109) 10 = .ok (.bipush 6, 2) := by decide +kernel
theorem d109_12 : decode (zb 109) 12 = .ok (.isub, 1) := by decide +kernel
theorem d109_13 : decode (zb 109) 13 = .ok (.istore_n 3, 1) := by decide +kernel
theorem d109_14 : decode (zb 109) 14 = .ok (.iload_n 2, 1) := by decide +kernel
theorem d109_15 : decode (zb 109) 15 = .ok (.getstatic 220, 3) := by decide +kernel
theorem d109_18 : decode (zb 109) 18 = .ok (.iload_n 3, 1) := by decide +kernel
theorem d109_19 : decode (zb 109) 19 = .ok (.iaload, 1) := by decide +kernel
theorem d109_20 : decode (zb 109) 20 = .ok (.if_icmp .lt 12, 3) := by decide +kernel
theorem d109_23 : decode (zb 109) 23 = .ok (.iload_n 2, 1) := by decide +kernel
theorem d109_24 : decode (zb 109) 24 = .ok (.getstatic 223, 3) := by decide +kernel
theorem d109_27 : decode (zb 109) 27 = .ok (.iload_n 3, 1) := by decide +kernel
theorem d109_28 : decode (zb 109) 28 = .ok (.iaload, 1) := by decide +kernel
theorem d109_29 : decode (zb 109) 29 = .ok (.if_icmp .le 5, 3) := by decide +kernel
theorem d109_32 : decode (zb 109) 32 = .ok (.iconst (-1), 1) := by decide +kernel
theorem d109_33 : decode (zb 109) 33 = .ok (.ireturn, 1) := by decide +kernel
theorem d109_34 : decode (zb 109) 34 = .ok (.aload_n 0, 1) := by decide +kernel
theorem d109_35 : decode (zb 109) 35 = .ok (.getfield 35, 3) := by decide +kernel
theorem d109_38 : decode (zb 109) 38 = .ok (.getfield 113, 3) := by decide +kernel
theorem d109_41 : decode (zb 109) 41 = .ok (.iload_n 3, 1) := by decide +kernel
theorem d109_42 : decode (zb 109) 42 = .ok (.iaload, 1) := by decide +kernel
theorem d109_43 : decode (zb 109) 43 = .ok (.istore 4, 2) := by decide +kernel
theorem d109_45 : decode (zb 109) 45 = .ok (.aload_n 0, 1) := by decide +kernel
theorem d109_46 : decode (zb 109) 46 = .ok (.getfield 35, 3) := by decide +kernel
theorem d109_49 : decode (zb 109) 49 = .ok (.getfield 113, 3) := by decide +kernel
theorem d109_52 : decode (zb 109) 52 = .ok (.iload_n 3, 1) := by decide +kernel
theorem d109_53 : decode (zb 109) 53 = .ok (.iload_n 2, 1) := by decide +kernel
theorem d109_54 : decode (zb 109) 54 = .ok (.iastore, 1) := by decide +kernel
theorem d109_55 : decode (zb 109) 55 = .ok (.aload_n 0, 1) := by decide +kernel
theorem d109_56 : decode (zb 109) 56 = .ok (.getfield 35, 3) := by decide +kernel
theorem d109_59 : decode (zb 109) 59 = .ok (.getfield 197, 3) := by decide +kernel
theorem d109_62 : decode (zb 109) 62 = .ok (.aload_n 0, 1) := by decide +kernel
theorem d109_63 : decode (zb 109) 63 = .ok (.getfield 35, 3) := by decide +kernel
theorem d109_66 : decode (zb 109) 66 = .ok (.getfield 113, 3) := by decide +kernel
theorem d109_69 : decode (zb 109) 69 = .ok (.iconst 2, 1) := by decide +kernel
theorem d109_70 : decode (zb 109) 70 = .ok (.iaload, 1) := by decide +kernel
theorem d109_71 : decode (zb 109) 71 = .ok (.invokevirtual 226, 3) := by decide +kernel
theorem d109_74 : decode (zb 109) 74 = .ok (.iload 4, 2) := by decide +kernel
theorem d109_76 : decode (zb 109) 76 = .ok (.ireturn, 1) := by decide +kernel
theorem run109 {h : zH} {x0 x1 : Int} : zrun 109 [vR 1, vI x0, vI x1] h = zX 109 0 [vR 1, vI x0, vI x1, none, none] [] h := rfl
theorem e109_0 {I : Nat → Int → Int} {b : Bool} {S : Nat} {x0 x1 : Int} : zX 109 0 [vR 1, vI x0, vI x1, none, none] [] (I, zRs b, 103, S) = (zrun 121 [vI x0] (I, zRs b, 103, S)).bind (fun q => zX 109 4 [vR 1, vI x0, vI x1, none, none] (zpush q.1 []) q.2) := (xIload_n d109_0 rfl).trans (xInvS [vI x0] [] d109_1 zo_109 zml_10_110 rfl rfl)
theorem e109_4 {I : Nat → Int → Int} {b : Bool} {S : Nat} {a1 a2 t0 : Int} : zX 109 4 [vR 1, vI a1, vI a2, none, none] [vI t0] (I, zRs b, 103, S) = if t0 = 0 then some (some (vI (-1)), (I, zRs b, 103, S)) else if 0 ≤ (wr (a1 - 6)) ∧ (wr (a1 - 6)) < 5 then if a2 < (I 901 (wr (a1 - 6))) then some (some (vI (-1)), (I, zRs b, 103, S)) else if 0 ≤ (wr (a1 - 6)) ∧ (wr (a1 - 6)) < 5 then if a2 ≤ (I 902 (wr (a1 - 6))) then if 0 ≤ (wr (a1 - 6)) ∧ (wr (a1 - 6)) < 5 then if 0 ≤ (wr (a1 - 6)) ∧ (wr (a1 - 6)) < 5 then (zrun 30 [vR 11, vI ((sI I 19 (wr (a1 - 6)) a2) 19 2)] ((sI I 19 (wr (a1 - 6)) a2), zRs b, 103, S)).bind (fun q => zX 109 74 [vR 1, vI a1, vI a2, vI (wr (a1 - 6)), vI (I 19 (wr (a1 - 6)))] (zpush q.1 []) q.2) else none else none else some (some (vI (-1)), (I, zRs b, 103, S)) else none else none := (xIfNe (t := 9) d109_4 rfl).trans (ziteC ((xIconst d109_7).trans (xIret d109_8 zret_109)) ((xIload_n d109_9 rfl).trans ((xBipush d109_10).trans ((xIsub d109_12).trans ((xIstore_n d109_13 rfl rfl).trans ((xIload_n d109_14 rfl).trans ((xGetstR (q := 901) d109_15 zo_109 zgs_10_220 rfl).trans ((xIload_n d109_18 rfl).trans ((xIald (N := 5) (I 901 (wr (a1 - 6))) rfl d109_19 rfl (Or.inr (Nat.le_of_ble_eq_true rfl)) rfl).trans (ziteC ((xIcmpLt (t := 32) d109_20 rfl).trans (ziteC ((xIconst d109_32).trans (xIret d109_33 zret_109)) ((xIload_n d109_23 rfl).trans ((xGetstR (q := 902) d109_24 zo_109 zgs_10_223 rfl).trans ((xIload_n d109_27 rfl).trans ((xIald (N := 5) (I 902 (wr (a1 - 6))) rfl d109_28 rfl (Or.inr (Nat.le_of_ble_eq_true rfl)) rfl).trans (ziteC ((xIcmpLe (t := 34) d109_29 rfl).trans (ziteC ((xAload_n d109_34 rfl).trans ((xGetR 3 8 d109_35 zo_109 zfl_10_35 rfl rfl rfl (Or.inl (Nat.le_of_ble_eq_true rfl))).trans ((xGetR 4 19 d109_38 zo_109 zfl_10_113 rfl rfl rfl (Or.inl (Nat.le_of_ble_eq_true rfl))).trans ((xIload_n d109_41 rfl).trans ((xIald (N := 5) (I 19 (wr (a1 - 6))) rfl d109_42 rfl (Or.inl (Nat.le_of_ble_eq_true rfl)) rfl).trans (ziteC ((xIstore d109_43 rfl rfl).trans ((xAload_n d109_45 rfl).trans ((xGetR 3 8 d109_46 zo_109 zfl_10_35 rfl rfl rfl (Or.inl (Nat.le_of_ble_eq_true rfl))).trans ((xGetR 4 19 d109_49 zo_109 zfl_10_113 rfl rfl rfl (Or.inl (Nat.le_of_ble_eq_true rfl))).trans ((xIload_n d109_52 rfl).trans ((xIload_n d109_53 rfl).trans ((xIast (N := 5) d109_54 rfl (Nat.le_of_ble_eq_true rfl) rfl).trans (ziteC ((xAload_n d109_55 rfl).trans ((xGetR 3 8 d109_56 zo_109 zfl_10_35 rfl rfl rfl (Or.inl (Nat.le_of_ble_eq_true rfl))).trans ((xGetR 1 11 d109_59 zo_109 zfl_10_197 rfl rfl rfl (Or.inl (Nat.le_of_ble_eq_true rfl))).trans ((xAload_n d109_62 rfl).trans ((xGetR 3 8 d109_63 zo_109 zfl_10_35 rfl rfl rfl (Or.inl (Nat.le_of_ble_eq_true rfl))).trans ((xGetR 4 19 d109_66 zo_109 zfl_10_113 rfl rfl rfl (Or.inl (Nat.le_of_ble_eq_true rfl))).trans ((xIconst d109_69).trans ((xIald (N := 5) ((sI I 19 (wr (a1 - 6)) a2) 19 2) rfl d109_70 rfl (Or.inl (Nat.le_of_ble_eq_true rfl)) rfl).trans ((if_pos (by decide)).trans (xInvV [vR 11, vI ((sI I 19 (wr (a1 - 6)) a2) 19 2)] [] d109_71 zo_109 zml_10_226 rfl rfl rfl (Or.inl ⟨rfl, (Nat.le_of_ble_eq_true rfl)⟩))))))))))) rfl)))))))) rfl)))))) ((xIconst d109_32).trans (xIret d109_33 zret_109)))) rfl))))))) rfl))))))))))
theorem e109_74 {I : Nat → Int → Int} {b : Bool} {S : Nat} {a1 a2 a3 a4 : Int} : zX 109 74 [vR 1, vI a1, vI a2, vI a3, vI a4] [] (I, zRs b, 103, S) = some (some (vI a4), (I, zRs b, 103, S)) := (xIload d109_74 rfl).trans (xIret d109_76 zret_109)
theorem zo_110 : zo 110 = 10 := by decide +kernel
theorem zret_110 : zret 110 = some .int := by decide +kernel
theorem d110_0 : decode (zb 110) 0 = .ok (.aload_n 0, 1) := by decide +kernel
theorem d110_1 : decode (zb 110) 1 = .ok (.getfield 35, 3) := by decide +kernel
theorem d110_4 : decode (zb 110) 4 = .ok (.aload_n 0, 1) := by decide +kernel
theorem d110_5 : decode (zb 110) 5 = .ok (.getfield 56, 3) := by decide +kernel
theorem d110_8 : decode (zb 110) 8 = .ok (.invokevirtual 230, 3) := by decide +kernel
theorem d110_11 : decode (zb 110) 11 = .ok (.aload_n 0, 1) := by decide +kernel
theorem d110_12 : decode (zb 110) 12 = .ok (.getfield 35, 3) := by decide +kernel
theorem d110_15 : decode (zb 110) 15 = .ok (.getfield 151, 3) := by decide +kernel
theorem d110_18 : decode (zb 110) 18 = .ok (.getfield 233, 3) := by decide +kernel
theorem d110_21 : decode (zb 110) 21 = .ok (.ireturn, 1) := by decide +kernel
theorem run110 {h : zH} : zrun 110 [vR 1] h = zX 110 0 [vR 1] [] h := rfl
theorem e110_0 {I : Nat → Int → Int} {b : Bool} {S : Nat} : zX 110 0 [vR 1] [] (I, zRs b, 103, S) = (zrun 36 [vR 8, vR (zg b)] (I, zRs b, 103, S)).bind (fun q => zX 110 11 [vR 1] (zpush q.1 []) q.2) := (xAload_n d110_0 rfl).trans ((xGetR 3 8 d110_1 zo_110 zfl_10_35 rfl rfl rfl (Or.inl (Nat.le_of_ble_eq_true rfl))).trans ((xAload_n d110_4 rfl).trans ((xGetR 7 (zg b) d110_5 zo_110 zfl_10_56 rfl rfl rfl (Or.inl (Nat.le_of_ble_eq_true rfl))).trans (xInvV [vR 8, vR (zg b)] [] d110_8 zo_110 zml_10_230 rfl rfl rfl (Or.inl ⟨rfl, (Nat.le_of_ble_eq_true rfl)⟩)))))
theorem e110_11 {I : Nat → Int → Int} {b : Bool} {S : Nat} : zX 110 11 [vR 1] [] (I, zRs b, 103, S) = some (some (vI (I 9 0)), (I, zRs b, 103, S)) := (xAload_n d110_11 rfl).trans ((xGetR 3 8 d110_12 zo_110 zfl_10_35 rfl rfl rfl (Or.inl (Nat.le_of_ble_eq_true rfl))).trans ((xGetR 0 9 d110_15 zo_110 zfl_10_151 rfl rfl rfl (Or.inl (Nat.le_of_ble_eq_true rfl))).trans ((xGetI 0 (I 9 0) rfl d110_18 zo_110 zfl_10_233 (by decide) rfl rfl (Or.inl (Nat.le_of_ble_eq_true rfl))).trans (xIret d110_21 zret_110))))
theorem zo_111 : zo 111 = 10 := by decide +kernel
theorem zret_111 : zret 111 = some .int := by decide +kernel
theorem d111_0 : decode (zb 111) 0 = .ok (.iload_n 2, 1) := by decide +kernel
theorem d111_1 : decode (zb 111) 1 = .ok (.iconst 1, 1) := by decide +kernel
theorem d111_2 : decode (zb 111) 2 = .ok (.if_icmp .lt 9, 3) := by decide +kernel
theorem d111_5 : decode (zb 111) 5 = .ok (.iload_n 2, 1) := by decide +kernel
theorem d111_6 : decode (zb 111) 6 = .ok (.bipush 8, 2) := by decide +kernel
theorem d111_8 : decode (zb 111) 8 = .ok (.if_icmp .le 5, 3) := by decide +kernel
theorem d111_11 : decode (zb 111) 11 = .ok (.iconst (-1), 1) := by decide +kernel
theorem d111_12 : decode (zb 111) 12 = .ok (.ireturn, 1) := by decide +kernel
theorem d111_13 : decode (zb 111) 13 = .ok (.aload_n 0, 1) := by decide +kernel
theorem d111_14 : decode (zb 111) 14 = .ok (.getfield 28, 3) := by decide +kernel
theorem d111_17 : decode (zb 111) 17 = .ok (.aload_n 0, 1) := by decide +kernel
theorem d111_18 : decode (zb 111) 18 = .ok (.getfield 56, 3) := by decide +kernel
theorem d111_21 : decode (zb 111) 21 = .ok (.iload_n 1, 1) := by decide +kernel
theorem d111_22 : decode (zb 111) 22 = .ok (.iload_n 2, 1) := by decide +kernel
theorem d111_23 : decode (zb 111) 23 = .ok (.invokevirtual 236, 3) := by decide +kernel
theorem d111_26 : decode (zb 111) 26 = .ok (.aload_n 0, 1) := by decide +kernel
theorem d111_27 : decode (zb 111) 27 = .ok (.invokevirtual 79, 3) := by decide +kernel
theorem d111_30 : decode (zb 111) 30 = .ok (.aload_n 0, 1) := by decide +kernel
theorem d111_31 : decode (zb 111) 31 = .ok (.getfield 56, 3) := by decide +kernel
theorem d111_34 : decode (zb 111) 34 = .ok (.getfield 82, 3) := by decide +kernel
theorem d111_37 : decode (zb 111) 37 = .ok (.ireturn, 1) := by decide +kernel
theorem run111 {h : zH} {x0 x1 : Int} : zrun 111 [vR 1, vI x0, vI x1] h = zX 111 0 [vR 1, vI x0, vI x1] [] h := rfl
theorem e111_0 {I : Nat → Int → Int} {b : Bool} {S : Nat} {x0 x1 : Int} : zX 111 0 [vR 1, vI x0, vI x1] [] (I, zRs b, 103, S) = if x1 < 1 then some (some (vI (-1)), (I, zRs b, 103, S)) else if x1 ≤ 8 then (zrun 14 [vR 6, vR (zg b), vI x0, vI x1] (I, zRs b, 103, S)).bind (fun q => zX 111 26 [vR 1, vI x0, vI x1] (zpush q.1 []) q.2) else some (some (vI (-1)), (I, zRs b, 103, S)) := (xIload_n d111_0 rfl).trans ((xIconst d111_1).trans ((xIcmpLt (t := 11) d111_2 rfl).trans (ziteC ((xIconst d111_11).trans (xIret d111_12 zret_111)) ((xIload_n d111_5 rfl).trans ((xBipush d111_6).trans ((xIcmpLe (t := 13) d111_8 rfl).trans (ziteC ((xAload_n d111_13 rfl).trans ((xGetR 2 6 d111_14 zo_111 zfl_10_28 rfl rfl rfl (Or.inl (Nat.le_of_ble_eq_true rfl))).trans ((xAload_n d111_17 rfl).trans ((xGetR 7 (zg b) d111_18 zo_111 zfl_10_56 rfl rfl rfl (Or.inl (Nat.le_of_ble_eq_true rfl))).trans ((xIload_n d111_21 rfl).trans ((xIload_n d111_22 rfl).trans (xInvV [vR 6, vR (zg b), vI x0, vI x1] [] d111_23 zo_111 zml_10_236 rfl rfl rfl (Or.inl ⟨rfl, (Nat.le_of_ble_eq_true rfl)⟩)))))))) ((xIconst d111_11).trans (xIret d111_12 zret_111)))))))))
theorem e111_26 {I : Nat → Int → Int} {b : Bool} {S : Nat} {a1 a2 : Int} : zX 111 26 [vR 1, vI a1, vI a2] [] (I, zRs b, 103, S) = (zrun 119 [vR 1] (I, zRs b, 103, S)).bind (fun q => zX 111 30 [vR 1, vI a1, vI a2] (zpush q.1 []) q.2) := (xAload_n d111_26 rfl).trans (xInvV [vR 1] [] d111_27 zo_111 zml_10_79 rfl rfl rfl (Or.inl ⟨rfl, (Nat.le_of_ble_eq_true rfl)⟩))
theorem e111_30 {I : Nat → Int → Int} {b : Bool} {S : Nat} {a1 a2 : Int} : zX 111 30 [vR 1, vI a1, vI a2] [] (I, zRs b, 103, S) = some (some (vI (I (zg b) 6)), (I, zRs b, 103, S)) := (xAload_n d111_30 rfl).trans ((xGetR 7 (zg b) d111_31 zo_111 zfl_10_56 rfl rfl rfl (Or.inl (Nat.le_of_ble_eq_true rfl))).trans ((xGetI 6 (I (zg b) 6) rfl d111_34 zo_111 zfl_10_82 (by decide) rfl (isProg_k (zg_ok b)) (Or.inl (isProg_n (zg_ok b)))).trans (xIret d111_37 zret_111)))
theorem zo_112 : zo 112 = 10 := by decide +kernel
theorem zret_112 : zret 112 = some .int := by decide +kernel
theorem d112_0 : decode (zb 112) 0 = .ok (.iload_n 1, 1) := by decide +kernel
theorem d112_1 : decode (zb 112) 1 = .ok (.ifCond .lt 8, 3) := by decide +kernel
theorem d112_4 : decode (zb 112) 4 = .ok (.iload_n 1, 1) := by decide +kernel
theorem d112_5 : decode (zb 112) 5 = .ok (.iconst 2, 1) := by decide +kernel
theorem d112_6 : decode (zb 112) 6 = .ok (.if_icmp .lt 5, 3) := by decide +kernel
theorem d112_9 : decode (zb 112) 9 = .ok (.iconst (-1), 1) := by decide +kernel
theorem d112_10 : decode (zb 112) 10 = .ok (.ireturn, 1) := by decide +kernel
theorem d112_11 : decode (zb 112) 11 = .ok (.aload_n 0, 1) := by decide +kernel
theorem d112_12 : decode (zb 112) 12 = .ok (.getfield 43, 3) := by decide +kernel
theorem d112_15 : decode (zb 112) 15 = .ok (.iload_n 1, 1) := by decide +kernel
theorem d112_16 : decode (zb 112) 16 = .ok (.baload, 1) := by decide +kernel
theorem d112_17 : decode (zb 112) 17 = .ok (.ifCond .eq 7, 3) := by decide +kernel
theorem d112_20 : decode (zb 112) 20 = .ok (.iconst 1, 1) := by decide +kernel
theorem d112_21 : decode (zb 112) 21 = .ok (.goto 4, 3) := by decide +kernel
theorem d112_24 : decode (zb 112) 24 = .ok (.iconst 0, 1) := by decide +kernel
theorem d112_25 : decode (zb 112) 25 = .ok (.istore_n 2, 1) := by decide +kernel
theorem d112_26 : decode (zb 112) 26 = .ok (.aload_n 0, 1) := by decide +kernel
theorem d112_27 : decode (zb 112) 27 = .ok (.getfield 39, 3) := by decide +kernel
theorem d112_30 : decode (zb 112) 30 = .ok (.iload_n 1, 1) := by decide +kernel
theorem d112_31 : decode (zb 112) 31 = .ok (.aaload, 1) := by decide +kernel
theorem d112_32 : decode (zb 112) 32 = .ok (.aload_n 0, 1) := by decide +kernel
theorem d112_33 : decode (zb 112) 33 = .ok (.getfield 35, 3) := by decide +kernel
theorem d112_36 : decode (zb 112) 36 = .ok (.invokevirtual 240, 3) := by decide +kernel
theorem d112_39 : decode (zb 112) 39 = .ok (.aload_n 0, 1) := by decide +kernel
theorem d112_40 : decode (zb 112) 40 = .ok (.getfield 43, 3) := by decide +kernel
theorem d112_43 : decode (zb 112) 43 = .ok (.iload_n 1, 1) := by decide +kernel
theorem d112_44 : decode (zb 112) 44 = .ok (.iconst 1, 1) := by decide +kernel
theorem d112_45 : decode (zb 112) 45 = .ok (.bastore, 1) := by decide +kernel
theorem d112_46 : decode (zb 112) 46 = .ok (.iload_n 2, 1) := by decide +kernel
theorem d112_47 : decode (zb 112) 47 = .ok (.ireturn, 1) := by decide +kernel
theorem run112 {h : zH} {x0 : Int} : zrun 112 [vR 1, vI x0] h = zX 112 0 [vR 1, vI x0, none] [] h := rfl
theorem e112_0 {I : Nat → Int → Int} {b : Bool} {S : Nat} {x0 : Int} {s31 : Nat} (hs31 : isPl s31) (es31 : zRs b 22 x0 = s31) : zX 112 0 [vR 1, vI x0, none] [] (I, zRs b, 103, S) = if x0 < 0 then some (some (vI (-1)), (I, zRs b, 103, S)) else if x0 < 2 then if 0 ≤ x0 ∧ x0 < 2 then if (I 23 x0) = 0 then if 0 ≤ x0 ∧ x0 < 2 then (zrun 37 [vR s31, vR 8] (I, zRs b, 103, S)).bind (fun q => zX 112 39 [vR 1, vI x0, vI 0] (zpush q.1 []) q.2) else none else if 0 ≤ x0 ∧ x0 < 2 then (zrun 37 [vR s31, vR 8] (I, zRs b, 103, S)).bind (fun q => zX 112 39 [vR 1, vI x0, vI 1] (zpush q.1 []) q.2) else none else none else some (some (vI (-1)), (I, zRs b, 103, S)) := (xIload_n d112_0 rfl).trans ((xIfLt (t := 9) d112_1 rfl).trans (ziteC ((xIconst d112_9).trans (xIret d112_10 zret_112)) ((xIload_n d112_4 rfl).trans ((xIconst d112_5).trans ((xIcmpLt (t := 11) d112_6 rfl).trans (ziteC ((xAload_n d112_11 rfl).trans ((xGetR 5 23 d112_12 zo_112 zfl_10_43 rfl rfl rfl (Or.inl (Nat.le_of_ble_eq_true rfl))).trans ((xIload_n d112_15 rfl).trans ((xBald (N := 2) (I 23 x0) rfl d112_16 (Or.inr rfl) (Or.inl (Nat.le_of_ble_eq_true rfl)) rfl).trans (ziteC ((xIfEq (t := 24) d112_17 rfl).trans (ziteC ((xIconst d112_24).trans ((xIstore_n d112_25 rfl rfl).trans ((xAload_n d112_26 rfl).trans ((xGetR 4 22 d112_27 zo_112 zfl_10_39 rfl rfl rfl (Or.inl (Nat.le_of_ble_eq_true rfl))).trans ((xIload_n d112_30 rfl).trans ((xAald (N := 2) d112_31 (Or.inl rfl) (Or.inl (Nat.le_of_ble_eq_true rfl)) rfl).trans (ziteC (by rw [es31]; exact ((xAload_n d112_32 rfl).trans ((xGetR 3 8 d112_33 zo_112 zfl_10_35 rfl rfl rfl (Or.inl (Nat.le_of_ble_eq_true rfl))).trans (xInvV [vR s31, vR 8] [] d112_36 zo_112 zml_10_240 rfl rfl rfl (Or.inl ⟨(isPl_k hs31), (isPl_n hs31)⟩))))) rfl))))))) ((xIconst d112_20).trans ((xGoto (t := 25) d112_21 rfl).trans ((xIstore_n d112_25 rfl rfl).trans ((xAload_n d112_26 rfl).trans ((xGetR 4 22 d112_27 zo_112 zfl_10_39 rfl rfl rfl (Or.inl (Nat.le_of_ble_eq_true rfl))).trans ((xIload_n d112_30 rfl).trans ((xAald (N := 2) d112_31 (Or.inl rfl) (Or.inl (Nat.le_of_ble_eq_true rfl)) rfl).trans (ziteC (by rw [es31]; exact ((xAload_n d112_32 rfl).trans ((xGetR 3 8 d112_33 zo_112 zfl_10_35 rfl rfl rfl (Or.inl (Nat.le_of_ble_eq_true rfl))).trans (xInvV [vR s31, vR 8] [] d112_36 zo_112 zml_10_240 rfl rfl rfl (Or.inl ⟨(isPl_k hs31), (isPl_n hs31)⟩))))) rfl)))))))))) rfl))))) ((xIconst d112_9).trans (xIret d112_10 zret_112))))))))
theorem e112_39 {I : Nat → Int → Int} {b : Bool} {S : Nat} {a1 a2 : Int} : zX 112 39 [vR 1, vI a1, vI a2] [] (I, zRs b, 103, S) = if 0 ≤ a1 ∧ a1 < 2 then some (some (vI a2), ((sI I 23 a1 1), zRs b, 103, S)) else none := (xAload_n d112_39 rfl).trans ((xGetR 5 23 d112_40 zo_112 zfl_10_43 rfl rfl rfl (Or.inl (Nat.le_of_ble_eq_true rfl))).trans ((xIload_n d112_43 rfl).trans ((xIconst d112_44).trans ((xZast (N := 2) d112_45 rfl (Nat.le_of_ble_eq_true rfl) (by decide) rfl).trans (ziteC ((xIload_n d112_46 rfl).trans (xIret d112_47 zret_112)) rfl)))))
theorem zo_113 : zo 113 = 10 := by decide +kernel
theorem zret_113 : zret 113 = some .int := by decide +kernel
theorem d113_0 : decode (zb 113) 0 = .ok (.iload_n 1, 1) := by decide +kernel
theorem d113_1 : decode (zb 113) 1 = .ok (.ifCond .lt 8, 3) := by decide +kernel
theorem d113_4 : decode (zb 113) 4 = .ok (.iload_n 1, 1) := by decide +kernel
theorem d113_5 : decode (zb 113) 5 = .ok (.iconst 2, 1) := by decide +kernel
theorem d113_6 : decode (zb 113) 6 = .ok (.if_icmp .lt 5, 3) := by decide +kernel
theorem d113_9 : decode (zb 113) 9 = .ok (.iconst (-1), 1) := by decide +kernel
theorem d113_10 : decode (zb 113) 10 = .ok (.ireturn, 1) := by decide +kernel
theorem d113_11 : decode (zb 113) 11 = .ok (.aload_n 0, 1) := by decide +kernel
theorem d113_12 : decode (zb 113) 12 = .ok (.getfield 43, 3) := by decide +kernel
theorem d113_15 : decode (zb 113) 15 = .ok (.iload_n 1, 1) := by decide +kernel
theorem d113_16 : decode (zb 113) 16 = .ok (.baload, 1) := by decide +kernel
theorem d113_17 : decode (zb 113) 17 = .ok (.ifCond .ne 6, 3) := by decide +kernel
theorem d113_20 : decode (zb 113) 20 = .ok (.bipush (-2), 2) := by decide +kernel
theorem d113_22 : decode (zb 113) 22 = .ok (.ireturn, 1) := by decide +kernel
theorem d113_23 : decode (zb 113) 23 = .ok (.aload_n 0, 1) := by decide +kernel
theorem d113_24 : decode (zb 113) 24 = .ok (.getfield 35, 3) := by decide +kernel
theorem d113_27 : decode (zb 113) 27 = .ok (.aload_n 0, 1) := by decide +kernel
theorem d113_28 : decode (zb 113) 28 = .ok (.getfield 39, 3) := by decide +kernel
theorem d113_31 : decode (zb 113) 31 = .ok (.iload_n 1, 1) := by decide +kernel
theorem d113_32 : decode (zb 113) 32 = .ok (.aaload, 1) := by decide +kernel
theorem d113_33 : decode (zb 113) 33 = .ok (.invokevirtual 240, 3) := by decide +kernel
theorem d113_36 : decode (zb 113) 36 = .ok (.aload_n 0, 1) := by decide +kernel
theorem d113_37 : decode (zb 113) 37 = .ok (.getfield 35, 3) := by decide +kernel
theorem d113_40 : decode (zb 113) 40 = .ok (.getfield 244, 3) := by decide +kernel
theorem d113_43 : decode (zb 113) 43 = .ok (.ireturn, 1) := by decide +kernel
theorem run113 {h : zH} {x0 : Int} : zrun 113 [vR 1, vI x0] h = zX 113 0 [vR 1, vI x0] [] h := rfl
theorem e113_0 {I : Nat → Int → Int} {b : Bool} {S : Nat} {x0 : Int} {s32 : Nat} (hs32 : isPl s32) (es32 : zRs b 22 x0 = s32) : zX 113 0 [vR 1, vI x0] [] (I, zRs b, 103, S) = if x0 < 0 then some (some (vI (-1)), (I, zRs b, 103, S)) else if x0 < 2 then if 0 ≤ x0 ∧ x0 < 2 then if (I 23 x0) = 0 then some (some (vI (-2)), (I, zRs b, 103, S)) else if 0 ≤ x0 ∧ x0 < 2 then (zrun 37 [vR 8, vR s32] (I, zRs b, 103, S)).bind (fun q => zX 113 36 [vR 1, vI x0] (zpush q.1 []) q.2) else none else none else some (some (vI (-1)), (I, zRs b, 103, S)) := (xIload_n d113_0 rfl).trans ((xIfLt (t := 9) d113_1 rfl).trans (ziteC ((xIconst d113_9).trans (xIret d113_10 zret_113)) ((xIload_n d113_4 rfl).trans ((xIconst d113_5).trans ((xIcmpLt (t := 11) d113_6 rfl).trans (ziteC ((xAload_n d113_11 rfl).trans ((xGetR 5 23 d113_12 zo_113 zfl_10_43 rfl rfl rfl (Or.inl (Nat.le_of_ble_eq_true rfl))).trans ((xIload_n d113_15 rfl).trans ((xBald (N := 2) (I 23 x0) rfl d113_16 (Or.inr rfl) (Or.inl (Nat.le_of_ble_eq_true rfl)) rfl).trans (ziteC ((xIfNe (t := 23) d113_17 rfl).trans (ziteC ((xBipush d113_20).trans (xIret d113_22 zret_113)) ((xAload_n d113_23 rfl).trans ((xGetR 3 8 d113_24 zo_113 zfl_10_35 rfl rfl rfl (Or.inl (Nat.le_of_ble_eq_true rfl))).trans ((xAload_n d113_27 rfl).trans ((xGetR 4 22 d113_28 zo_113 zfl_10_39 rfl rfl rfl (Or.inl (Nat.le_of_ble_eq_true rfl))).trans ((xIload_n d113_31 rfl).trans ((xAald (N := 2) d113_32 (Or.inl rfl) (Or.inl (Nat.le_of_ble_eq_true rfl)) rfl).trans (ziteC (by rw [es32]; exact (xInvV [vR 8, vR s32] [] d113_33 zo_113 zml_10_240 rfl rfl rfl (Or.inl ⟨rfl, (Nat.le_of_ble_eq_true rfl)⟩))) rfl))))))))) rfl))))) ((xIconst d113_9).trans (xIret d113_10 zret_113))))))))
theorem e113_36 {I : Nat → Int → Int} {b : Bool} {S : Nat} {a1 : Int} : zX 113 36 [vR 1, vI a1] [] (I, zRs b, 103, S) = some (some (vI (I 8 7)), (I, zRs b, 103, S)) := (xAload_n d113_36 rfl).trans ((xGetR 3 8 d113_37 zo_113 zfl_10_35 rfl rfl rfl (Or.inl (Nat.le_of_ble_eq_true rfl))).trans ((xGetI 7 (I 8 7) rfl d113_40 zo_113 zfl_10_244 (by decide) rfl rfl (Or.inl (Nat.le_of_ble_eq_true rfl))).trans (xIret d113_43 zret_113)))
theorem zo_114 : zo 114 = 10 := by decide +kernel
theorem zret_114 : zret 114 = some .int := by decide +kernel
theorem d114_0 : decode (zb 114) 0 = .ok (.iload_n 1, 1) := by decide +kernel
theorem d114_1 : decode (zb 114) 1 = .ok (.invokestatic 247, 3) := by decide +kernel
theorem d114_4 : decode (zb 114) 4 = .ok (.ifCond .eq 16, 3) := by decide +kernel
theorem d114_7 : decode (zb 114) 7 = .ok (.iload_n 2, 1) := by decide +kernel
theorem d114_8 : decode (zb 114) 8 = .ok (.invokestatic 250, 3) := by decide +kernel
theorem d114_11 : decode (zb 114) 11 = .ok (.ifCond .eq 9, 3) := by decide +kernel
theorem d114_14 : decode (zb 114) 14 = .ok (.iload_n 3, 1) := by decide +kernel
theorem d114_15 : decode (zb 114) 15 = .ok (.bipush 30, 2) := by decide +kernel
theorem d114_17 : decode (zb 114) 17 = .ok (.if_icmp .le 5, 3) := by decide +kernel
theorem d114_20 : decode (zb 114) 20 = .ok (.iconst (-1), 1) := by decide +kernel
theorem d114_21 : decode (zb 114) 21 = .ok (.ireturn, 1) := by decide +kernel
theorem d114_22 : decode (zb 114) 22 = .ok (.iload_n 3, 1) := by decide +kernel
theorem d114_23 : decode (zb 114) 23 = .ok (.ifCond .ge 6, 3) := by decide +kernel
theorem d114_26 : decode (zb 114) 26 = .ok (.bipush (-14), 2) := by decide +kernel
theorem d114_28 : decode (zb 114) 28 = .ok (.ireturn, 1) := by decide +kernel
theorem d114_29 : decode (zb 114) 29 = .ok (.aload_n 0, 1) := by decide +kernel
theorem d114_30 : decode (zb 114) 30 = .ok (.getfield 49, 3) := by decide +kernel
theorem d114_33 : decode (zb 114) 33 = .ok (.iload_n 1, 1) := by decide +kernel
theorem d114_34 : decode (zb 114) 34 = .ok (.aaload, 1) := by decide +kernel
theorem d114_35 : decode (zb 114) 35 = .ok (.iload_n 2, 1) := by decide +kernel
theorem d114_36 : decode (zb 114) 36 = .ok (.iload_n 3, 1) := by decide +kernel
theorem d114_37 : decode (zb 114) 37 = .ok (.invokevirtual 253, 3) := by decide +kernel
theorem d114_40 : decode (zb 114) 40 = .ok (.iconst 1, 1) := by decide +kernel
theorem d114_41 : decode (zb 114) 41 = .ok (.ireturn, 1) := by decide +kernel
theorem run114 {h : zH} {x0 x1 x2 : Int} : zrun 114 [vR 1, vI x0, vI x1, vI x2] h = zX 114 0 [vR 1, vI x0, vI x1, vI x2] [] h := rfl
theorem e114_0 {I : Nat → Int → Int} {b : Bool} {S : Nat} {x0 x1 x2 : Int} : zX 114 0 [vR 1, vI x0, vI x1, vI x2] [] (I, zRs b, 103, S) = (zrun 122 [vI x0] (I, zRs b, 103, S)).bind (fun q => zX 114 4 [vR 1, vI x0, vI x1, vI x2] (zpush q.1 []) q.2) := (xIload_n d114_0 rfl).trans (xInvS [vI x0] [] d114_1 zo_114 zml_10_247 rfl rfl)
theorem e114_4 {I : Nat → Int → Int} {b : Bool} {S : Nat} {a1 a2 a3 t0 : Int} : zX 114 4 [vR 1, vI a1, vI a2, vI a3] [vI t0] (I, zRs b, 103, S) = if t0 = 0 then some (some (vI (-1)), (I, zRs b, 103, S)) else (zrun 123 [vI a2] (I, zRs b, 103, S)).bind (fun q => zX 114 11 [vR 1, vI a1, vI a2, vI a3] (zpush q.1 []) q.2) := (xIfEq (t := 20) d114_4 rfl).trans (ziteC ((xIconst d114_20).trans (xIret d114_21 zret_114)) ((xIload_n d114_7 rfl).trans (xInvS [vI a2] [] d114_8 zo_114 zml_10_250 rfl rfl)))
theorem e114_11 {I : Nat → Int → Int} {b : Bool} {S : Nat} {a1 a2 a3 t0 : Int} {s34 : Nat} (hs34 : isSh s34) (es34 : zRs b 24 a1 = s34) : zX 114 11 [vR 1, vI a1, vI a2, vI a3] [vI t0] (I, zRs b, 103, S) = if t0 = 0 then some (some (vI (-1)), (I, zRs b, 103, S)) else if a3 ≤ 30 then if 0 ≤ a3 then if 0 ≤ a1 ∧ a1 < 4 then (zrun 81 [vR s34, vI a2, vI a3] (I, zRs b, 103, S)).bind (fun q => zX 114 40 [vR 1, vI a1, vI a2, vI a3] (zpush q.1 []) q.2) else none else some (some (vI (-14)), (I, zRs b, 103, S)) else some (some (vI (-1)), (I, zRs b, 103, S)) := (xIfEq (t := 20) d114_11 rfl).trans (ziteC ((xIconst d114_20).trans (xIret d114_21 zret_114)) ((xIload_n d114_14 rfl).trans ((xBipush d114_15).trans ((xIcmpLe (t := 22) d114_17 rfl).trans (ziteC ((xIload_n d114_22 rfl).trans ((xIfGe (t := 29) d114_23 rfl).trans (ziteC ((xAload_n d114_29 rfl).trans ((xGetR 6 24 d114_30 zo_114 zfl_10_49 rfl rfl rfl (Or.inl (Nat.le_of_ble_eq_true rfl))).trans ((xIload_n d114_33 rfl).trans ((xAald (N := 4) d114_34 (Or.inr rfl) (Or.inl (Nat.le_of_ble_eq_true rfl)) rfl).trans (ziteC (by rw [es34]; exact ((xIload_n d114_35 rfl).trans ((xIload_n d114_36 rfl).trans (xInvV [vR s34, vI a2, vI a3] [] d114_37 zo_114 zml_10_253 rfl rfl rfl (Or.inl ⟨(isSh_k hs34), (isSh_n hs34)⟩))))) rfl))))) ((xBipush d114_26).trans (xIret d114_28 zret_114))))) ((xIconst d114_20).trans (xIret d114_21 zret_114)))))))
theorem e114_40 {I : Nat → Int → Int} {b : Bool} {S : Nat} {a1 a2 a3 : Int} : zX 114 40 [vR 1, vI a1, vI a2, vI a3] [] (I, zRs b, 103, S) = some (some (vI 1), (I, zRs b, 103, S)) := (xIconst d114_40).trans (xIret d114_41 zret_114)
theorem zo_115 : zo 115 = 10 := by decide +kernel
theorem zret_115 : zret 115 = some .int := by decide +kernel
theorem d115_0 : decode (zb 115) 0 = .ok (.iload_n 1, 1) := by decide +kernel
theorem d115_1 : decode (zb 115) 1 = .ok (.invokestatic 247, 3) := by decide +kernel
theorem d115_4 : decode (zb 115) 4 = .ok (.ifCond .ne 5, 3) := by decide +kernel
theorem d115_7 : decode (zb 115) 7 = .ok (.iconst (-1), 1) := by decide +kernel
theorem d115_8 : decode (zb 115) 8 = .ok (.ireturn, 1) := by decide +kernel
theorem d115_9 : decode (zb 115) 9 = .ok (.aload_n 0, 1) := by decide +kernel
theorem d115_10 : decode (zb 115) 10 = .ok (.getfield 49, 3) := by decide +kernel
theorem d115_13 : decode (zb 115) 13 = .ok (.iload_n 1, 1) := by decide +kernel
theorem d115_14 : decode (zb 115) 14 = .ok (.aaload, 1) := by decide +kernel
theorem d115_15 : decode (zb 115) 15 = .ok (.astore 4, 2) := by decide +kernel
theorem d115_17 : decode (zb 115) 17 = .ok (.aload 4, 2) := by decide +kernel
theorem d115_19 : decode (zb 115) 19 = .ok (.aload 4, 2) := by decide +kernel
theorem d115_21 : decode (zb 115) 21 = .ok (.getfield 257, 3) := by decide +kernel
theorem d115_24 : decode (zb 115) 24 = .ok (.iload_n 2, 1) := by decide +kernel
theorem d115_25 : decode (zb 115) 25 = .ok (.invokevirtual 260, 3) := by decide +kernel
theorem d115_28 : decode (zb 115) 28 = .ok (.istore 5, 2) := by decide +kernel
theorem d115_30 : decode (zb 115) 30 = .ok (.iload 5, 2) := by decide +kernel
theorem d115_32 : decode (zb 115) 32 = .ok (.ifCond .eq 9, 3) := by decide +kernel
theorem d115_35 : decode (zb 115) 35 = .ok (.bipush (-10), 2) := by decide +kernel
theorem d115_37 : decode (zb 115) 37 = .ok (.iload 5, 2) := by decide +kernel
theorem d115_39 : decode (zb 115) 39 = .ok (.isub, 1) := by decide +kernel
theorem d115_40 : decode (zb 115) 40 = .ok (.ireturn, 1) := by decide +kernel
theorem d115_41 : decode (zb 115) 41 = .ok (.aload 4, 2) := by decide +kernel
theorem d115_43 : decode (zb 115) 43 = .ok (.getfield 263, 3) := by decide +kernel
theorem d115_46 : decode (zb 115) 46 = .ok (.iload_n 2, 1) := by decide +kernel
theorem d115_47 : decode (zb 115) 47 = .ok (.aload 4, 2) := by decide +kernel
theorem d115_49 : decode (zb 115) 49 = .ok (.getfield 257, 3) := by decide +kernel
theorem d115_52 : decode (zb 115) 52 = .ok (.ifCond .ne 9, 3) := by decide +kernel
theorem d115_55 : decode (zb 115) 55 = .ok (.iload_n 3, 1) := by decide +kernel
theorem d115_56 : decode (zb 115) 56 = .ok (.i2b, 1) := by decide +kernel
theorem d115_57 : decode (zb 115) 57 = .ok (.i2l, 1) := by decide +kernel
theorem d115_58 : decode (zb 115) 58 = .ok (.goto 5, 3) := by decide +kernel
theorem d115_61 : decode (zb 115) 61 = .ok (.iload_n 3, 1) := by decide +kernel
theorem d115_62 : decode (zb 115) 62 = .ok (.i2l, 1) := by decide +kernel
theorem d115_63 : decode (zb 115) 63 = .ok (.lastore, 1) := by decide +kernel
theorem d115_64 : decode (zb 115) 64 = .ok (.iconst 1, 1) := by decide +kernel
theorem d115_65 : decode (zb 115) 65 = .ok (.ireturn, 1) := by decide +kernel
theorem run115 {h : zH} {x0 x1 x2 : Int} : zrun 115 [vR 1, vI x0, vI x1, vI x2] h = zX 115 0 [vR 1, vI x0, vI x1, vI x2, none, none] [] h := rfl
theorem e115_0 {I : Nat → Int → Int} {b : Bool} {S : Nat} {x0 x1 x2 : Int} : zX 115 0 [vR 1, vI x0, vI x1, vI x2, none, none] [] (I, zRs b, 103, S) = (zrun 122 [vI x0] (I, zRs b, 103, S)).bind (fun q => zX 115 4 [vR 1, vI x0, vI x1, vI x2, none, none] (zpush q.1 []) q.2) := (xIload_n d115_0 rfl).trans (xInvS [vI x0] [] d115_1 zo_115 zml_10_247 rfl rfl)
theorem e115_4 {I : Nat → Int → Int} {b : Bool} {S : Nat} {a1 a2 a3 t0 : Int} {s14 : Nat} (hs14 : isSh s14) (es14 : zRs b 24 a1 = s14) : zX 115 4 [vR 1, vI a1, vI a2, vI a3, none, none] [vI t0] (I, zRs b, 103, S) = if t0 = 0 then some (some (vI (-1)), (I, zRs b, 103, S)) else if 0 ≤ a1 ∧ a1 < 4 then (zrun 82 [vR s14, vI (I s14 1), vI a2] (I, zRs b, 103, S)).bind (fun q => zX 115 28 [vR 1, vI a1, vI a2, vI a3, vR s14, none] (zpush q.1 []) q.2) else none := (xIfNe (t := 9) d115_4 rfl).trans (ziteC ((xIconst d115_7).trans (xIret d115_8 zret_115)) ((xAload_n d115_9 rfl).trans ((xGetR 6 24 d115_10 zo_115 zfl_10_49 rfl rfl rfl (Or.inl (Nat.le_of_ble_eq_true rfl))).trans ((xIload_n d115_13 rfl).trans ((xAald (N := 4) d115_14 (Or.inr rfl) (Or.inl (Nat.le_of_ble_eq_true rfl)) rfl).trans (ziteC (by rw [es14]; exact ((xAstore d115_15 rfl rfl).trans ((xAload d115_17 rfl).trans ((xAload d115_19 rfl).trans ((xGetI 1 (I s14 1) rfl d115_21 zo_115 zfl_10_257 (by decide) rfl (isSh_k hs14) (Or.inl (isSh_n hs14))).trans ((xIload_n d115_24 rfl).trans (xInvV [vR s14, vI (I s14 1), vI a2] [] d115_25 zo_115 zml_10_260 rfl rfl rfl (Or.inl ⟨(isSh_k hs14), (isSh_n hs14)⟩)))))))) rfl))))))
theorem e115_28 {I : Nat → Int → Int} {b : Bool} {S : Nat} {a1 a2 a3 t0 : Int} {s14 : Nat} (hs14 : isSh s14) : zX 115 28 [vR 1, vI a1, vI a2, vI a3, vR s14, none] [vI t0] (I, zRs b, 103, S) = if t0 = 0 then if (I s14 1) = 0 then if (0 ≤ a2 ∧ a2 < 30) ∧ -2147483648 ≤ (wb a3) ∧ (wb a3) ≤ 2147483647 then some (some (vI 1), ((sI I (s14 + 1) a2 (wb a3)), zRs b, 103, S)) else none else if (0 ≤ a2 ∧ a2 < 30) ∧ -2147483648 ≤ a3 ∧ a3 ≤ 2147483647 then some (some (vI 1), ((sI I (s14 + 1) a2 a3), zRs b, 103, S)) else none else some (some (vI (wr ((-10) - t0))), (I, zRs b, 103, S)) := (xIstore d115_28 rfl rfl).trans ((xIload d115_30 rfl).trans ((xIfEq (t := 41) d115_32 rfl).trans (ziteC ((xAload d115_41 rfl).trans ((xGetR 0 (s14 + 1) d115_43 zo_115 zfl_10_263 rfl (isSh_r0 hs14) (isSh_k hs14) (Or.inl (isSh_n hs14))).trans ((xIload_n d115_46 rfl).trans ((xAload d115_47 rfl).trans ((xGetI 1 (I s14 1) rfl d115_49 zo_115 zfl_10_257 (by decide) rfl (isSh_k hs14) (Or.inl (isSh_n hs14))).trans ((xIfNe (t := 61) d115_52 rfl).trans (ziteC ((xIload_n d115_55 rfl).trans ((xI2b d115_56).trans ((xI2l d115_57).trans ((xGoto (t := 63) d115_58 rfl).trans ((xLastG (N := 30) d115_63 (by rw [(isSh_k1 hs14)]) (isSh_n1 hs14) (by rw [(isSh_k1 hs14)]; rfl)).trans (ziteC ((xIconst d115_64).trans (xIret d115_65 zret_115)) rfl)))))) ((xIload_n d115_61 rfl).trans ((xI2l d115_62).trans ((xLastG (N := 30) d115_63 (by rw [(isSh_k1 hs14)]) (isSh_n1 hs14) (by rw [(isSh_k1 hs14)]; rfl)).trans (ziteC ((xIconst d115_64).trans (xIret d115_65 zret_115)) rfl))))))))))) ((xBipush d115_35).trans ((xIload d115_37 rfl).trans ((xIsub d115_39).trans (xIret d115_40 zret_115)))))))
theorem zo_116 : zo 116 = 10 := by decide +kernel
theorem zret_116 : zret 116 = some .int := by decide +kernel
theorem d116_0 : decode (zb 116) 0 = .ok (.iload_n 1, 1) := by decide +kernel
theorem d116_1 : decode (zb 116) 1 = .ok (.invokestatic 247, 3) := by decide +kernel
theorem d116_4 : decode (zb 116) 4 = .ok (.ifCond .eq 22, 3) := by decide +kernel
theorem d116_7 : decode (zb 116) 7 = .ok (.iload_n 2, 1) := by decide +kernel
theorem d116_8 : decode (zb 116) 8 = .ok (.invokestatic 250, 3) := by decide +kernel
theorem d116_11 : decode (zb 116) 11 = .ok (.ifCond .eq 15, 3) := by decide +kernel
theorem d116_14 : decode (zb 116) 14 = .ok (.iload 4, 2) := by decide +kernel
theorem d116_16 : decode (zb 116) 16 = .ok (.ifCond .lt 10, 3) := by decide +kernel
theorem d116_19 : decode (zb 116) 19 = .ok (.iload 4, 2) := by decide +kernel
theorem d116_21 : decode (zb 116) 21 = .ok (.bipush 20, 2) := by decide +kernel
theorem d116_23 : decode (zb 116) 23 = .ok (.if_icmp .le 5, 3) := by decide +kernel
theorem d116_26 : decode (zb 116) 26 = .ok (.iconst (-1), 1) := by decide +kernel
theorem d116_27 : decode (zb 116) 27 = .ok (.ireturn, 1) := by decide +kernel
theorem d116_28 : decode (zb 116) 28 = .ok (.aload_n 0, 1) := by decide +kernel
theorem d116_29 : decode (zb 116) 29 = .ok (.iconst 0, 1) := by decide +kernel
theorem d116_30 : decode (zb 116) 30 = .ok (.putfield 267, 3) := by decide +kernel
theorem d116_33 : decode (zb 116) 33 = .ok (.iconst 0, 1) := by decide +kernel
theorem d116_34 : decode (zb 116) 34 = .ok (.istore 5, 2) := by decide +kernel
theorem d116_36 : decode (zb 116) 36 = .ok (.iload 5, 2) := by decide +kernel
theorem d116_38 : decode (zb 116) 38 = .ok (.iload 4, 2) := by decide +kernel
theorem d116_40 : decode (zb 116) 40 = .ok (.if_icmp .ge 66, 3) := by decide +kernel
theorem d116_43 : decode (zb 116) 43 = .ok (.aload_n 0, 1) := by decide +kernel
theorem d116_44 : decode (zb 116) 44 = .ok (.aload_n 0, 1) := by decide +kernel
theorem d116_45 : decode (zb 116) 45 = .ok (.getfield 49, 3) := by decide +kernel
theorem d116_48 : decode (zb 116) 48 = .ok (.iload_n 1, 1) := by decide +kernel
theorem d116_49 : decode (zb 116) 49 = .ok (.aaload, 1) := by decide +kernel
theorem d116_50 : decode (zb 116) 50 = .ok (.iload_n 2, 1) := by decide +kernel
theorem d116_51 : decode (zb 116) 51 = .ok (.iload_n 3, 1) := by decide +kernel
theorem d116_52 : decode (zb 116) 52 = .ok (.iload 5, 2) := by decide +kernel
theorem d116_54 : decode (zb 116) 54 = .ok (.iadd, 1) := by decide +kernel
theorem d116_55 : decode (zb 116) 55 = .ok (.invokevirtual 260, 3) := by decide +kernel
theorem d116_58 : decode (zb 116) 58 = .ok (.putfield 267, 3) := by decide +kernel
theorem d116_61 : decode (zb 116) 61 = .ok (.aload_n 0, 1) := by decide +kernel
theorem d116_62 : decode (zb 116) 62 = .ok (.getfield 267, 3) := by decide +kernel
theorem d116_65 : decode (zb 116) 65 = .ok (.ifCond .eq 6, 3) := by decide +kernel
theorem d116_68 : decode (zb 116) 68 = .ok (.iload 5, 2) := by decide +kernel
theorem d116_70 : decode (zb 116) 70 = .ok (.ireturn, 1) := by decide +kernel
theorem d116_71 : decode (zb 116) 71 = .ok (.aload_n 0, 1) := by decide +kernel
theorem d116_72 : decode (zb 116) 72 = .ok (.aload_n 0, 1) := by decide +kernel
theorem d116_73 : decode (zb 116) 73 = .ok (.getfield 49, 3) := by decide +kernel
theorem d116_76 : decode (zb 116) 76 = .ok (.iload_n 1, 1) := by decide +kernel
theorem d116_77 : decode (zb 116) 77 = .ok (.aaload, 1) := by decide +kernel
theorem d116_78 : decode (zb 116) 78 = .ok (.getfield 263, 3) := by decide +kernel
theorem d116_81 : decode (zb 116) 81 = .ok (.iload_n 3, 1) := by decide +kernel
theorem d116_82 : decode (zb 116) 82 = .ok (.iload 5, 2) := by decide +kernel
theorem d116_84 : decode (zb 116) 84 = .ok (.iadd, 1) := by decide +kernel
theorem d116_85 : decode (zb 116) 85 = .ok (.laload, 1) := by decide +kernel
theorem d116_86 : decode (zb 116) 86 = .ok (.invokevirtual 270, 3) := by decide +kernel
theorem d116_89 : decode (zb 116) 89 = .ok (.aload_n 0, 1) := by decide +kernel
theorem d116_90 : decode (zb 116) 90 = .ok (.getfield 35, 3) := by decide +kernel
theorem d116_93 : decode (zb 116) 93 = .ok (.aload_n 0, 1) := by decide +kernel
theorem d116_94 : decode (zb 116) 94 = .ok (.getfield 56, 3) := by decide +kernel
theorem d116_97 : decode (zb 116) 97 = .ok (.invokevirtual 160, 3) := by decide +kernel
theorem d116_100 : decode (zb 116) 100 = .ok (.iinc 5 1, 3) := by decide +kernel
theorem d116_103 : decode (zb 116) 103 = .ok (.goto (-67), 3) := by decide +kernel
theorem d116_106 : decode (zb 116) 106 = .ok (.iload 4, 2) := by decide +kernel
theorem d116_108 : decode (zb 116) 108 = .ok (.ireturn, 1) := by decide +kernel
theorem run116 {h : zH} {x0 x1 x2 x3 : Int} : zrun 116 [vR 1, vI x0, vI x1, vI x2, vI x3] h = zX 116 0 [vR 1, vI x0, vI x1, vI x2, vI x3, none] [] h := rfl
theorem e116_0 {I : Nat → Int → Int} {b : Bool} {S : Nat} {x0 x1 x2 x3 : Int} : zX 116 0 [vR 1, vI x0, vI x1, vI x2, vI x3, none] [] (I, zRs b, 103, S) = (zrun 122 [vI x0] (I, zRs b, 103, S)).bind (fun q => zX 116 4 [vR 1, vI x0, vI x1, vI x2, vI x3, none] (zpush q.1 []) q.2) := (xIload_n d116_0 rfl).trans (xInvS [vI x0] [] d116_1 zo_116 zml_10_247 rfl rfl)
theorem e116_4 {I : Nat → Int → Int} {b : Bool} {S : Nat} {a1 a2 a3 a4 t0 : Int} : zX 116 4 [vR 1, vI a1, vI a2, vI a3, vI a4, none] [vI t0] (I, zRs b, 103, S) = if t0 = 0 then some (some (vI (-1)), (I, zRs b, 103, S)) else (zrun 123 [vI a2] (I, zRs b, 103, S)).bind (fun q => zX 116 11 [vR 1, vI a1, vI a2, vI a3, vI a4, none] (zpush q.1 []) q.2) := (xIfEq (t := 26) d116_4 rfl).trans (ziteC ((xIconst d116_26).trans (xIret d116_27 zret_116)) ((xIload_n d116_7 rfl).trans (xInvS [vI a2] [] d116_8 zo_116 zml_10_250 rfl rfl)))
theorem e116_11 {I : Nat → Int → Int} {b : Bool} {S : Nat} {a1 a2 a3 a4 t0 : Int} : zX 116 11 [vR 1, vI a1, vI a2, vI a3, vI a4, none] [vI t0] (I, zRs b, 103, S) = if t0 = 0 then some (some (vI (-1)), (I, zRs b, 103, S)) else if a4 < 0 then some (some (vI (-1)), (I, zRs b, 103, S)) else if a4 ≤ 20 then zX 116 36 [vR 1, vI a1, vI a2, vI a3, vI a4, vI 0] [] ((sI I 1 9 0), zRs b, 103, S) else some (some (vI (-1)), (I, zRs b, 103, S)) := (xIfEq (t := 26) d116_11 rfl).trans (ziteC ((xIconst d116_26).trans (xIret d116_27 zret_116)) ((xIload d116_14 rfl).trans ((xIfLt (t := 26) d116_16 rfl).trans (ziteC ((xIconst d116_26).trans (xIret d116_27 zret_116)) ((xIload d116_19 rfl).trans ((xBipush d116_21).trans ((xIcmpLe (t := 28) d116_23 rfl).trans (ziteC ((xAload_n d116_28 rfl).trans ((xIconst d116_29).trans ((xPutI 9 d116_30 zo_116 zfl_10_267 rfl rfl (Nat.le_of_ble_eq_true rfl) (Or.inl rfl)).trans ((xIconst d116_33).trans (xIstore d116_34 rfl rfl))))) ((xIconst d116_26).trans (xIret d116_27 zret_116))))))))))
theorem e116_36 {I : Nat → Int → Int} {b : Bool} {S : Nat} {a1 a2 a3 a4 a5 : Int} {s49 : Nat} (hs49 : isSh s49) (es49 : zRs b 24 a1 = s49) : zX 116 36 [vR 1, vI a1, vI a2, vI a3, vI a4, vI a5] [] (I, zRs b, 103, S) = if a4 ≤ a5 then some (some (vI a4), (I, zRs b, 103, S)) else if 0 ≤ a1 ∧ a1 < 4 then (zrun 82 [vR s49, vI a2, vI (wr (a3 + a5))] (I, zRs b, 103, S)).bind (fun q => zX 116 58 [vR 1, vI a1, vI a2, vI a3, vI a4, vI a5] (zpush q.1 [vR 1]) q.2) else none := (xIload d116_36 rfl).trans ((xIload d116_38 rfl).trans ((xIcmpGe (t := 106) d116_40 rfl).trans (ziteC ((xIload d116_106 rfl).trans (xIret d116_108 zret_116)) ((xAload_n d116_43 rfl).trans ((xAload_n d116_44 rfl).trans ((xGetR 6 24 d116_45 zo_116 zfl_10_49 rfl rfl rfl (Or.inl (Nat.le_of_ble_eq_true rfl))).trans ((xIload_n d116_48 rfl).trans ((xAald (N := 4) d116_49 (Or.inr rfl) (Or.inl (Nat.le_of_ble_eq_true rfl)) rfl).trans (ziteC (by rw [es49]; exact ((xIload_n d116_50 rfl).trans ((xIload_n d116_51 rfl).trans ((xIload d116_52 rfl).trans ((xIadd d116_54).trans (xInvV [vR s49, vI a2, vI (wr (a3 + a5))] [vR 1] d116_55 zo_116 zml_10_260 rfl rfl rfl (Or.inl ⟨(isSh_k hs49), (isSh_n hs49)⟩))))))) rfl)))))))))
theorem e116_58 {I : Nat → Int → Int} {b : Bool} {S : Nat} {a1 a2 a3 a4 a5 t1 : Int} {s77 : Nat} (hs77 : isSh s77) (es77 : zRs b 24 a1 = s77) : zX 116 58 [vR 1, vI a1, vI a2, vI a3, vI a4, vI a5] [vI t1, vR 1] (I, zRs b, 103, S) = if t1 = 0 then if 0 ≤ a1 ∧ a1 < 4 then if 0 ≤ (wr (a3 + a5)) ∧ (wr (a3 + a5)) < 30 then (zrun 120 [vR 1, vL ((sI I 1 9 t1) (s77 + 1) (wr (a3 + a5)))] ((sI I 1 9 t1), zRs b, 103, S)).bind (fun q => zX 116 89 [vR 1, vI a1, vI a2, vI a3, vI a4, vI a5] (zpush q.1 []) q.2) else none else none else some (some (vI a5), ((sI I 1 9 t1), zRs b, 103, S)) := (xPutI 9 d116_58 zo_116 zfl_10_267 rfl rfl (Nat.le_of_ble_eq_true rfl) (Or.inl rfl)).trans ((xAload_n d116_61 rfl).trans ((xGetI 9 t1 sI_s d116_62 zo_116 zfl_10_267 (by decide) rfl rfl (Or.inl (Nat.le_of_ble_eq_true rfl))).trans ((xIfEq (t := 71) d116_65 rfl).trans (ziteC ((xAload_n d116_71 rfl).trans ((xAload_n d116_72 rfl).trans ((xGetR 6 24 d116_73 zo_116 zfl_10_49 rfl rfl rfl (Or.inl (Nat.le_of_ble_eq_true rfl))).trans ((xIload_n d116_76 rfl).trans ((xAald (N := 4) d116_77 (Or.inr rfl) (Or.inl (Nat.le_of_ble_eq_true rfl)) rfl).trans (ziteC (by rw [es77]; exact ((xGetR 0 (s77 + 1) d116_78 zo_116 zfl_10_263 rfl (isSh_r0 hs77) (isSh_k hs77) (Or.inl (isSh_n hs77))).trans ((xIload_n d116_81 rfl).trans ((xIload d116_82 rfl).trans ((xIadd d116_84).trans ((xLald (N := 30) ((sI I 1 9 t1) (s77 + 1) (wr (a3 + a5))) rfl d116_85 (by rw [(isSh_k1 hs77)]) (Or.inl (isSh_n1 hs77)) (zal_of (isSh_k1 hs77) (isSh_n1 hs77))).trans (ziteC (xInvV [vR 1, vL ((sI I 1 9 t1) (s77 + 1) (wr (a3 + a5)))] [] d116_86 zo_116 zml_10_270 rfl rfl rfl (Or.inl ⟨rfl, (Nat.le_of_ble_eq_true rfl)⟩)) rfl))))))) rfl)))))) ((xIload d116_68 rfl).trans (xIret d116_70 zret_116))))))
theorem e116_89 {I : Nat → Int → Int} {b : Bool} {S : Nat} {a1 a2 a3 a4 a5 : Int} : zX 116 89 [vR 1, vI a1, vI a2, vI a3, vI a4, vI a5] [] (I, zRs b, 103, S) = (zrun 39 [vR 8, vR (zg b)] (I, zRs b, 103, S)).bind (fun q => zX 116 100 [vR 1, vI a1, vI a2, vI a3, vI a4, vI a5] (zpush q.1 []) q.2) := (xAload_n d116_89 rfl).trans ((xGetR 3 8 d116_90 zo_116 zfl_10_35 rfl rfl rfl (Or.inl (Nat.le_of_ble_eq_true rfl))).trans ((xAload_n d116_93 rfl).trans ((xGetR 7 (zg b) d116_94 zo_116 zfl_10_56 rfl rfl rfl (Or.inl (Nat.le_of_ble_eq_true rfl))).trans (xInvV [vR 8, vR (zg b)] [] d116_97 zo_116 zml_10_160 rfl rfl rfl (Or.inl ⟨rfl, (Nat.le_of_ble_eq_true rfl)⟩)))))
theorem e116_100 {I : Nat → Int → Int} {b : Bool} {S : Nat} {a1 a2 a3 a4 a5 : Int} : zX 116 100 [vR 1, vI a1, vI a2, vI a3, vI a4, vI a5] [] (I, zRs b, 103, S) = zX 116 36 [vR 1, vI a1, vI a2, vI a3, vI a4, vI (wr (a5 + 1))] [] (I, zRs b, 103, S) := (xIinc d116_100 rfl rfl rfl).trans (xGoto (t := 36) d116_103 rfl)
theorem zo_117 : zo 117 = 10 := by decide +kernel
theorem zret_117 : zret 117 = some .int := by decide +kernel
theorem d117_0 : decode (zb 117) 0 = .ok (.aload_n 0, 1) := by decide +kernel
theorem d117_1 : decode (zb 117) 1 = .ok (.getfield 267, 3) := by decide +kernel
theorem d117_4 : decode (zb 117) 4 = .ok (.ireturn, 1) := by decide +kernel
theorem run117 {h : zH} : zrun 117 [vR 1] h = zX 117 0 [vR 1] [] h := rfl
theorem e117_0 {I : Nat → Int → Int} {b : Bool} {S : Nat} : zX 117 0 [vR 1] [] (I, zRs b, 103, S) = some (some (vI (I 1 9)), (I, zRs b, 103, S)) := (xAload_n d117_0 rfl).trans ((xGetI 9 (I 1 9) rfl d117_1 zo_117 zfl_10_267 (by decide) rfl rfl (Or.inl (Nat.le_of_ble_eq_true rfl))).trans (xIret d117_4 zret_117))
theorem zo_118 : zo 118 = 10 := by decide +kernel
theorem zret_118 : zret 118 = some .int := by decide +kernel
theorem d118_0 : decode (zb 118) 0 = .ok (.iload_n 1, 1) := by decide +kernel
theorem d118_1 : decode (zb 118) 1 = .ok (.tableswitch 75 0 2 #[27, 57, 65], 27) := by decide +kernel
theorem d118_28 : decode (zb 118) 28 = .ok (.aload_n 0, 1) := by decide +kernel
theorem d118_29 : decode (zb 118) 29 = .ok (.getfield 43, 3) := by decide +kernel
theorem d118_32 : decode (zb 118) 32 = .ok (.iconst 0, 1) := by decide +kernel
theorem d118_33 : decode (zb 118) 33 = .ok (.baload, 1) := by decide +kernel
theorem d118_34 : decode (zb 118) 34 = .ok (.ifCond .eq 7, 3) := by decide +kernel
theorem d118_37 : decode (zb 118) 37 = .ok (.iconst 1, 1) := by decide +kernel
theorem d118_38 : decode (zb 118) 38 = .ok (.goto 4, 3) := by decide +kernel
theorem d118_41 : decode (zb 118) 41 = .ok (.iconst 0, 1) := by decide +kernel
theorem d118_42 : decode (zb 118) 42 = .ok (.aload_n 0, 1) := by decide +kernel
theorem d118_43 : decode (zb 118) 43 = .ok (.getfield 43, 3) := by decide +kernel
theorem d118_46 : decode (zb 118) 46 = .ok (.iconst 1, 1) := by decide +kernel
theorem d118_47 : decode (zb 118) 47 = .ok (.baload, 1) := by decide +kernel
theorem d118_48 : decode (zb 118) 48 = .ok (.ifCond .eq 7, 3) := by decide +kernel
theorem d118_51 : decode (zb 118) 51 = .ok (.iconst 1, 1) := by decide +kernel
theorem d118_52 : decode (zb 118) 52 = .ok (.goto 4, 3) := by decide +kernel
theorem d118_55 : decode (zb 118) 55 = .ok (.iconst 0, 1) := by decide +kernel
theorem d118_56 : decode (zb 118) 56 = .ok (.iadd, 1) := by decide +kernel
theorem d118_57 : decode (zb 118) 57 = .ok (.ireturn, 1) := by decide +kernel
theorem d118_58 : decode (zb 118) 58 = .ok (.aload_n 0, 1) := by decide +kernel
theorem d118_59 : decode (zb 118) 59 = .ok (.getfield 12, 3) := by decide +kernel
theorem d118_62 : decode (zb 118) 62 = .ok (.getfield 68, 3) := by decide +kernel
theorem d118_65 : decode (zb 118) 65 = .ok (.ireturn, 1) := by decide +kernel
theorem d118_66 : decode (zb 118) 66 = .ok (.aload_n 0, 1) := by decide +kernel
theorem d118_67 : decode (zb 118) 67 = .ok (.getfield 49, 3) := by decide +kernel
theorem d118_70 : decode (zb 118) 70 = .ok (.iconst 0, 1) := by decide +kernel
theorem d118_71 : decode (zb 118) 71 = .ok (.aaload, 1) := by decide +kernel
theorem d118_72 : decode (zb 118) 72 = .ok (.getfield 274, 3) := by decide +kernel
theorem d118_75 : decode (zb 118) 75 = .ok (.ireturn, 1) := by decide +kernel
theorem d118_76 : decode (zb 118) 76 = .ok (.iconst (-1), 1) := by decide +kernel
theorem d118_77 : decode (zb 118) 77 = .ok (.ireturn, 1) := by decide +kernel
theorem run118 {h : zH} {x0 : Int} : zrun 118 [vR 1, vI x0] h = zX 118 0 [vR 1, vI x0] [] h := rfl
theorem e118_0 {I : Nat → Int → Int} {b : Bool} {S : Nat} {x0 : Int} : zX 118 0 [vR 1, vI x0] [] (I, zRs b, 103, S) = if x0 = 0 then if (I 23 0) = 0 then if (I 23 1) = 0 then some (some (vI (wr (0 + 0))), (I, zRs b, 103, S)) else some (some (vI (wr (0 + 1))), (I, zRs b, 103, S)) else if (I 23 1) = 0 then some (some (vI (wr (1 + 0))), (I, zRs b, 103, S)) else some (some (vI (wr (1 + 1))), (I, zRs b, 103, S)) else if x0 = 1 then some (some (vI (I 2 1)), (I, zRs b, 103, S)) else if x0 = 2 then some (some (vI (I 79 2)), (I, zRs b, 103, S)) else some (some (vI (-1)), (I, zRs b, 103, S)) := (xIload_n d118_0 rfl).trans ((xTab [(0, 28), (1, 58), (2, 66)] 76 d118_1 rfl).trans (ziteC ((xAload_n d118_28 rfl).trans ((xGetR 5 23 d118_29 zo_118 zfl_10_43 rfl rfl rfl (Or.inl (Nat.le_of_ble_eq_true rfl))).trans ((xIconst d118_32).trans ((xBald (N := 2) (I 23 0) rfl d118_33 (Or.inr rfl) (Or.inl (Nat.le_of_ble_eq_true rfl)) rfl).trans ((if_pos (by decide)).trans ((xIfEq (t := 41) d118_34 rfl).trans (ziteC ((xIconst d118_41).trans ((xAload_n d118_42 rfl).trans ((xGetR 5 23 d118_43 zo_118 zfl_10_43 rfl rfl rfl (Or.inl (Nat.le_of_ble_eq_true rfl))).trans ((xIconst d118_46).trans ((xBald (N := 2) (I 23 1) rfl d118_47 (Or.inr rfl) (Or.inl (Nat.le_of_ble_eq_true rfl)) rfl).trans ((if_pos (by decide)).trans ((xIfEq (t := 55) d118_48 rfl).trans (ziteC ((xIconst d118_55).trans ((xIadd d118_56).trans (xIret d118_57 zret_118))) ((xIconst d118_51).trans ((xGoto (t := 56) d118_52 rfl).trans ((xIadd d118_56).trans (xIret d118_57 zret_118)))))))))))) ((xIconst d118_37).trans ((xGoto (t := 42) d118_38 rfl).trans ((xAload_n d118_42 rfl).trans ((xGetR 5 23 d118_43 zo_118 zfl_10_43 rfl rfl rfl (Or.inl (Nat.le_of_ble_eq_true rfl))).trans ((xIconst d118_46).trans ((xBald (N := 2) (I 23 1) rfl d118_47 (Or.inr rfl) (Or.inl (Nat.le_of_ble_eq_true rfl)) rfl).trans ((if_pos (by decide)).trans ((xIfEq (t := 55) d118_48 rfl).trans (ziteC ((xIconst d118_55).trans ((xIadd d118_56).trans (xIret d118_57 zret_118))) ((xIconst d118_51).trans ((xGoto (t := 56) d118_52 rfl).trans ((xIadd d118_56).trans (xIret d118_57 zret_118)))))))))))))))))))) (ziteC ((xAload_n d118_58 rfl).trans ((xGetR 0 2 d118_59 zo_118 zfl_10_12 rfl rfl rfl (Or.inl (Nat.le_of_ble_eq_true rfl))).trans ((xGetI 1 (I 2 1) rfl d118_62 zo_118 zfl_10_68 (by decide) rfl rfl (Or.inl (Nat.le_of_ble_eq_true rfl))).trans (xIret d118_65 zret_118)))) (ziteC ((xAload_n d118_66 rfl).trans ((xGetR 6 24 d118_67 zo_118 zfl_10_49 rfl rfl rfl (Or.inl (Nat.le_of_ble_eq_true rfl))).trans ((xIconst d118_70).trans ((xAald (N := 4) d118_71 (Or.inr rfl) (Or.inl (Nat.le_of_ble_eq_true rfl)) rfl).trans ((if_pos (by decide)).trans ((xGetI 2 (I 79 2) rfl d118_72 zo_118 zfl_10_274 (by decide) rfl rfl (Or.inl (Nat.le_of_ble_eq_true rfl))).trans (xIret d118_75 zret_118))))))) ((xIconst d118_76).trans (xIret d118_77 zret_118))))))
theorem zo_119 : zo 119 = 10 := by decide +kernel
theorem zret_119 : zret 119 = none := by decide +kernel
theorem d119_0 : decode (zb 119) 0 = .ok (.iconst 0, 1) := by decide +kernel
theorem d119_1 : decode (zb 119) 1 = .ok (.istore_n 1, 1) := by decide +kernel
theorem d119_2 : decode (zb 119) 2 = .ok (.iload_n 1, 1) := by decide +kernel
theorem d119_3 : decode (zb 119) 3 = .ok (.iconst 2, 1) := by decide +kernel
theorem d119_4 : decode (zb 119) 4 = .ok (.if_icmp .ge 16, 3) := by decide +kernel
theorem d119_7 : decode (zb 119) 7 = .ok (.aload_n 0, 1) := by decide +kernel
theorem d119_8 : decode (zb 119) 8 = .ok (.getfield 43, 3) := by decide +kernel
theorem d119_11 : decode (zb 119) 11 = .ok (.iload_n 1, 1) := by decide +kernel
theorem d119_12 : decode (zb 119) 12 = .ok (.iconst 0, 1) := by decide +kernel
theorem d119_13 : decode (zb 119) 13 = .ok (.bastore, 1) := by decide +kernel
theorem d119_14 : decode (zb 119) 14 = .ok (.iinc 1 1, 3) := by decide +kernel
theorem d119_17 : decode (zb 119) 17 = .ok (.goto (-15), 3) := by decide +kernel
theorem d119_20 : decode (zb 119) 20 = .ok (.aload_n 0, 1) := by decide +kernel
theorem d119_21 : decode (zb 119) 21 = .ok (.getfield 35, 3) := by decide +kernel
theorem d119_24 : decode (zb 119) 24 = .ok (.aload_n 0, 1) := by decide +kernel
theorem d119_25 : decode (zb 119) 25 = .ok (.getfield 56, 3) := by decide +kernel
theorem d119_28 : decode (zb 119) 28 = .ok (.invokevirtual 230, 3) := by decide +kernel
theorem d119_31 : decode (zb 119) 31 = .ok (.return_, 1) := by decide +kernel
theorem run119 {h : zH} : zrun 119 [vR 1] h = zX 119 0 [vR 1, none] [] h := rfl
theorem e119_0 {I : Nat → Int → Int} {b : Bool} {S : Nat} : zX 119 0 [vR 1, none] [] (I, zRs b, 103, S) = zX 119 2 [vR 1, vI 0] [] (I, zRs b, 103, S) := (xIconst d119_0).trans (xIstore_n d119_1 rfl rfl)
theorem e119_2 {I : Nat → Int → Int} {b : Bool} {S : Nat} {a1 : Int} : zX 119 2 [vR 1, vI a1] [] (I, zRs b, 103, S) = if 2 ≤ a1 then (zrun 36 [vR 8, vR (zg b)] (I, zRs b, 103, S)).bind (fun q => zX 119 31 [vR 1, vI a1] (zpush q.1 []) q.2) else if 0 ≤ a1 ∧ a1 < 2 then zX 119 2 [vR 1, vI (wr (a1 + 1))] [] ((sI I 23 a1 0), zRs b, 103, S) else none := (xIload_n d119_2 rfl).trans ((xIconst d119_3).trans ((xIcmpGe (t := 20) d119_4 rfl).trans (ziteC ((xAload_n d119_20 rfl).trans ((xGetR 3 8 d119_21 zo_119 zfl_10_35 rfl rfl rfl (Or.inl (Nat.le_of_ble_eq_true rfl))).trans ((xAload_n d119_24 rfl).trans ((xGetR 7 (zg b) d119_25 zo_119 zfl_10_56 rfl rfl rfl (Or.inl (Nat.le_of_ble_eq_true rfl))).trans (xInvV [vR 8, vR (zg b)] [] d119_28 zo_119 zml_10_230 rfl rfl rfl (Or.inl ⟨rfl, (Nat.le_of_ble_eq_true rfl)⟩)))))) ((xAload_n d119_7 rfl).trans ((xGetR 5 23 d119_8 zo_119 zfl_10_43 rfl rfl rfl (Or.inl (Nat.le_of_ble_eq_true rfl))).trans ((xIload_n d119_11 rfl).trans ((xIconst d119_12).trans ((xZast (N := 2) d119_13 rfl (Nat.le_of_ble_eq_true rfl) (by decide) rfl).trans (ziteC ((xIinc d119_14 rfl rfl rfl).trans (xGoto (t := 2) d119_17 rfl)) rfl)))))))))
theorem e119_31 {I : Nat → Int → Int} {b : Bool} {S : Nat} {a1 : Int} : zX 119 31 [vR 1, vI a1] [] (I, zRs b, 103, S) = some (none, (I, zRs b, 103, S)) := xVret d119_31 zret_119
theorem zo_120 : zo 120 = 10 := by decide +kernel
theorem zret_120 : zret 120 = none := by decide +kernel
theorem d120_0 : decode (zb 120) 0 = .ok (.lload_n 1, 1) := by decide +kernel
theorem d120_1 : decode (zb 120) 1 = .ok (.lconst 0, 1) := by decide +kernel
theorem d120_2 : decode (zb 120) 2 = .ok (.lcmp, 1) := by decide +kernel
theorem d120_3 : decode (zb 120) 3 = .ok (.ifCond .lt 24, 3) := by decide +kernel
theorem d120_6 : decode (zb 120) 6 = .ok (.lload_n 1, 1) := by decide +kernel
theorem d120_7 : decode (zb 120) 7 = .ok (.ldc2_w 275, 3) := by decide +kernel
theorem d120_10 : decode (zb 120) 10 = .ok (.lcmp, 1) := by decide +kernel
theorem d120_11 : decode (zb 120) 11 = .ok (.ifCond .ge 16, 3) := by decide +kernel
theorem d120_14 : decode (zb 120) 14 = .ok (.aload_n 0, 1) := by decide +kernel
theorem d120_15 : decode (zb 120) 15 = .ok (.getfield 35, 3) := by decide +kernel
theorem d120_18 : decode (zb 120) 18 = .ok (.getfield 151, 3) := by decide +kernel
theorem d120_21 : decode (zb 120) 21 = .ok (.lload_n 1, 1) := by decide +kernel
theorem d120_22 : decode (zb 120) 22 = .ok (.l2i, 1) := by decide +kernel
theorem d120_23 : decode (zb 120) 23 = .ok (.invokevirtual 217, 3) := by decide +kernel
theorem d120_26 : decode (zb 120) 26 = .ok (.pop, 1) := by decide +kernel
theorem d120_27 : decode (zb 120) 27 = .ok (.return_, 1) := by decide +kernel
theorem run120 {h : zH} {x0 : Int} : zrun 120 [vR 1, vL x0] h = zX 120 0 [vR 1, vL x0, none] [] h := rfl
theorem e120_0 {I : Nat → Int → Int} {b : Bool} {S : Nat} {x0 : Int} : zX 120 0 [vR 1, vL x0, none] [] (I, zRs b, 103, S) = if (if x0 < 0 then -1 else if x0 = 0 then 0 else 1) < 0 then some (none, (I, zRs b, 103, S)) else if 0 ≤ (if x0 < 4 then -1 else if x0 = 4 then 0 else 1) then some (none, (I, zRs b, 103, S)) else (zrun 4 [vR 9, vI (wr x0)] (I, zRs b, 103, S)).bind (fun q => zX 120 26 [vR 1, vL x0, none] (zpush q.1 []) q.2) := (xLload_n d120_0 rfl).trans ((xLconstV 0 rfl d120_1).trans ((xLcmp d120_2).trans ((xIfLt (t := 27) d120_3 rfl).trans (ziteC (xVret d120_27 zret_120) ((xLload_n d120_6 rfl).trans ((xLdc2 d120_7 zo_120 zcl_10_275 (by decide)).trans ((xLcmp d120_10).trans ((xIfGe (t := 27) d120_11 rfl).trans (ziteC (xVret d120_27 zret_120) ((xAload_n d120_14 rfl).trans ((xGetR 3 8 d120_15 zo_120 zfl_10_35 rfl rfl rfl (Or.inl (Nat.le_of_ble_eq_true rfl))).trans ((xGetR 0 9 d120_18 zo_120 zfl_10_151 rfl rfl rfl (Or.inl (Nat.le_of_ble_eq_true rfl))).trans ((xLload_n d120_21 rfl).trans ((xL2i d120_22).trans (xInvV [vR 9, vI (wr x0)] [] d120_23 zo_120 zml_10_217 rfl rfl rfl (Or.inl ⟨rfl, (Nat.le_of_ble_eq_true rfl)⟩))))))))))))))))
theorem e120_26 {I : Nat → Int → Int} {b : Bool} {S : Nat} {a1 t0 : Int} : zX 120 26 [vR 1, vL a1, none] [vI t0] (I, zRs b, 103, S) = some (none, (I, zRs b, 103, S)) := (xPop d120_26 rfl).trans (xVret d120_27 zret_120)
theorem zo_121 : zo 121 = 10 := by decide +kernel
theorem zret_121 : zret 121 = some .boolean := by decide +kernel
theorem d121_0 : decode (zb 121) 0 = .ok (.iload_n 0, 1) := by decide +kernel
theorem d121_1 : decode (zb 121) 1 = .ok (.bipush 6, 2) := by decide +kernel
theorem d121_3 : decode (zb 121) 3 = .ok (.if_icmp .lt 13, 3) := by decide +kernel
theorem d121_6 : decode (zb 121) 6 = .ok (.iload_n 0, 1) := by decide +kernel
theorem d121_7 : decode (zb 121) 7 = .ok (.bipush 11, 2) := by decide +kernel
theorem d121_9 : decode (zb 121) 9 = .ok (.if_icmp .ge 7, 3) := by decide +kernel
theorem d121_12 : decode (zb 121) 12 = .ok (.iconst 1, 1) := by decide +kernel
theorem d121_13 : decode (zb 121) 13 = .ok (.goto 4, 3) := by decide +kernel
theorem d121_16 : decode (zb 121) 16 = .ok (.iconst 0, 1) := by decide +kernel
theorem d121_17 : decode (zb 121) 17 = .ok (.ireturn, 1) := by decide +kernel
theorem run121 {h : zH} {x0 : Int} : zrun 121 [vI x0] h = zX 121 0 [vI x0] [] h := rfl
theorem e121_0 {I : Nat → Int → Int} {b : Bool} {S : Nat} {x0 : Int} : zX 121 0 [vI x0] [] (I, zRs b, 103, S) = if x0 < 6 then some (some (vI 0), (I, zRs b, 103, S)) else if 11 ≤ x0 then some (some (vI 0), (I, zRs b, 103, S)) else some (some (vI 1), (I, zRs b, 103, S)) := (xIload_n d121_0 rfl).trans ((xBipush d121_1).trans ((xIcmpLt (t := 16) d121_3 rfl).trans (ziteC ((xIconst d121_16).trans (xZret d121_17 zret_121 (by decide))) ((xIload_n d121_6 rfl).trans ((xBipush d121_7).trans ((xIcmpGe (t := 16) d121_9 rfl).trans (ziteC ((xIconst d121_16).trans (xZret d121_17 zret_121 (by decide))) ((xIconst d121_12).trans ((xGoto (t := 17) d121_13 rfl).trans (xZret d121_17 zret_121 (by decide)))))))))))
theorem zo_122 : zo 122 = 10 := by decide +kernel
theorem zret_122 : zret 122 = some .boolean := by decide +kernel
theorem d122_0 : decode (zb 122) 0 = .ok (.iload_n 0, 1) := by decide +kernel
theorem d122_1 : decode (zb 122) 1 = .ok (.ifCond .lt 12, 3) := by decide +kernel
theorem d122_4 : decode (zb 122) 4 = .ok (.iload_n 0, 1) := by decide +kernel
theorem d122_5 : decode (zb 122) 5 = .ok (.iconst 4, 1) := by decide +kernel
theorem d122_6 : decode (zb 122) 6 = .ok (.if_icmp .ge 7, 3) := by decide +kernel
theorem d122_9 : decode (zb 122) 9 = .ok (.iconst 1, 1) := by decide +kernel
theorem d122_10 : decode (zb 122) 10 = .ok (.goto 4, 3) := by decide +kernel
theorem d122_13 : decode (zb 122) 13 = .ok (.iconst 0, 1) := by decide +kernel
theorem d122_14 : decode (zb 122) 14 = .ok (.ireturn, 1) := by decide +kernel
theorem run122 {h : zH} {x0 : Int} : zrun 122 [vI x0] h = zX 122 0 [vI x0] [] h := rfl
theorem e122_0 {I : Nat → Int → Int} {b : Bool} {S : Nat} {x0 : Int} : zX 122 0 [vI x0] [] (I, zRs b, 103, S) = if x0 < 0 then some (some (vI 0), (I, zRs b, 103, S)) else if 4 ≤ x0 then some (some (vI 0), (I, zRs b, 103, S)) else some (some (vI 1), (I, zRs b, 103, S)) := (xIload_n d122_0 rfl).trans ((xIfLt (t := 13) d122_1 rfl).trans (ziteC ((xIconst d122_13).trans (xZret d122_14 zret_122 (by decide))) ((xIload_n d122_4 rfl).trans ((xIconst d122_5).trans ((xIcmpGe (t := 13) d122_6 rfl).trans (ziteC ((xIconst d122_13).trans (xZret d122_14 zret_122 (by decide))) ((xIconst d122_9).trans ((xGoto (t := 14) d122_10 rfl).trans (xZret d122_14 zret_122 (by decide))))))))))
theorem zo_123 : zo 123 = 10 := by decide +kernel
theorem zret_123 : zret 123 = some .boolean := by decide +kernel
theorem d123_0 : decode (zb 123) 0 = .ok (.iload_n 0, 1) := by decide +kernel
theorem d123_1 : decode (zb 123) 1 = .ok (.ifCond .eq 8, 3) := by decide +kernel
theorem d123_4 : decode (zb 123) 4 = .ok (.iload_n 0, 1) := by decide +kernel
theorem d123_5 : decode (zb 123) 5 = .ok (.iconst 1, 1) := by decide +kernel
theorem d123_6 : decode (zb 123) 6 = .ok (.if_icmp .ne 7, 3) := by decide +kernel
theorem d123_9 : decode (zb 123) 9 = .ok (.iconst 1, 1) := by decide +kernel
theorem d123_10 : decode (zb 123) 10 = .ok (.goto 4, 3) := by decide +kernel
theorem d123_13 : decode (zb 123) 13 = .ok (.iconst 0, 1) := by decide +kernel
theorem d123_14 : decode (zb 123) 14 = .ok (.ireturn, 1) := by decide +kernel
theorem run123 {h : zH} {x0 : Int} : zrun 123 [vI x0] h = zX 123 0 [vI x0] [] h := rfl
theorem e123_0 {I : Nat → Int → Int} {b : Bool} {S : Nat} {x0 : Int} : zX 123 0 [vI x0] [] (I, zRs b, 103, S) = if x0 = 0 then some (some (vI 1), (I, zRs b, 103, S)) else if x0 = 1 then some (some (vI 1), (I, zRs b, 103, S)) else some (some (vI 0), (I, zRs b, 103, S)) := (xIload_n d123_0 rfl).trans ((xIfEq (t := 9) d123_1 rfl).trans (ziteC ((xIconst d123_9).trans ((xGoto (t := 14) d123_10 rfl).trans (xZret d123_14 zret_123 (by decide)))) ((xIload_n d123_4 rfl).trans ((xIconst d123_5).trans ((xIcmpNe (t := 13) d123_6 rfl).trans (ziteC ((xIconst d123_9).trans ((xGoto (t := 14) d123_10 rfl).trans (xZret d123_14 zret_123 (by decide)))) ((xIconst d123_13).trans (xZret d123_14 zret_123 (by decide)))))))))
