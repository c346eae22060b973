theorem zo_14 : zo 14 = 1 := by decide +kernel
theorem zret_14 : zret 14 = none := by decide +kernel
theorem d14_0 : decode (zb 14) 0 = .ok (.aload_n 0, 1) := by decide +kernel
theorem d14_1 : decode (zb 14) 1 = .ok (.iload_n 2, 1) := by decide +kernel
theorem d14_2 : decode (zb 14) 2 = .ok (.putfield 15, 3) := by decide +kernel
theorem d14_5 : decode (zb 14) 5 = .ok (.aload_n 0, 1) := by decide +kernel
theorem d14_6 : decode (zb 14) 6 = .ok (.iload_n 3, 1) := by decide +kernel
theorem d14_7 : decode (zb 14) 7 = .ok (.putfield 19, 3) := by decide +kernel
theorem d14_10 : decode (zb 14) 10 = .ok (.aload_n 1, 1) := by decide +kernel
theorem d14_11 : decode (zb 14) 11 = .ok (.invokevirtual 22, 3) := by decide +kernel
theorem d14_14 : decode (zb 14) 14 = .ok (.aload_n 0, 1) := by decide +kernel
theorem d14_15 : decode (zb 14) 15 = .ok (.aload_n 1, 1) := by decide +kernel
theorem d14_16 : decode (zb 14) 16 = .ok (.getfield 27, 3) := by decide +kernel
theorem d14_19 : decode (zb 14) 19 = .ok (.invokevirtual 31, 3) := by decide +kernel
theorem d14_22 : decode (zb 14) 22 = .ok (.iconst 0, 1) := by decide +kernel
theorem d14_23 : decode (zb 14) 23 = .ok (.istore 4, 2) := by decide +kernel
theorem d14_25 : decode (zb 14) 25 = .ok (.iload 4, 2) := by decide +kernel
theorem d14_27 : decode (zb 14) 27 = .ok (.ldc 35, 2) := by decide +kernel
theorem d14_29 : decode (zb 14) 29 = .ok (.if_icmp .ge 50, 3) := by decide +kernel
theorem d14_32 : decode (zb 14) 32 = .ok (.aload_n 1, 1) := by decide +kernel
theorem d14_33 : decode (zb 14) 33 = .ok (.invokestatic 36, 3) := by decide +kernel
theorem d14_36 : decode (zb 14) 36 = .ok (.ifCond .eq 10, 3) := by decide +kernel
theorem d14_39 : decode (zb 14) 39 = .ok (.aload_n 1, 1) := by decide +kernel
theorem d14_40 : decode (zb 14) 40 = .ok (.getfield 40, 3) := by decide +kernel
theorem d14_43 : decode (zb 14) 43 = .ok (.ifCond .le 36, 3) := by decide +kernel
theorem d14_46 : decode (zb 14) 46 = .ok (.aload_n 0, 1) := by decide +kernel
theorem d14_47 : decode (zb 14) 47 = .ok (.bipush 8, 2) := by decide +kernel
theorem d14_49 : decode (zb 14) 49 = .ok (.invokevirtual 43, 3) := by decide +kernel
theorem d14_52 : decode (zb 14) 52 = .ok (.istore 5, 2) := by decide +kernel
theorem d14_54 : decode (zb 14) 54 = .ok (.aload_n 0, 1) := by decide +kernel
theorem d14_55 : decode (zb 14) 55 = .ok (.aload_n 1, 1) := by decide +kernel
theorem d14_56 : decode (zb 14) 56 = .ok (.aload_n 1, 1) := by decide +kernel
theorem d14_57 : decode (zb 14) 57 = .ok (.invokestatic 36, 3) := by decide +kernel
theorem d14_60 : decode (zb 14) 60 = .ok (.ifCond .eq 8, 3) := by decide +kernel
theorem d14_63 : decode (zb 14) 63 = .ok (.bipush 7, 2) := by decide +kernel
theorem d14_65 : decode (zb 14) 65 = .ok (.goto 5, 3) := by decide +kernel
theorem d14_68 : decode (zb 14) 68 = .ok (.iload 5, 2) := by decide +kernel
theorem d14_70 : decode (zb 14) 70 = .ok (.invokevirtual 47, 3) := by decide +kernel
theorem d14_73 : decode (zb 14) 73 = .ok (.iinc 4 1, 3) := by decide +kernel
theorem d14_76 : decode (zb 14) 76 = .ok (.goto (-51), 3) := by decide +kernel
theorem d14_79 : decode (zb 14) 79 = .ok (.return_, 1) := by decide +kernel
theorem run14 {h : zH} {x1 x2 : Int} {g : Nat} : zrun 14 [vR 6, vR g, vI x1, vI x2] h = zX 14 0 [vR 6, vR g, vI x1, vI x2, none, none] [] h := rfl
theorem e14_0 {I : Nat → Int → Int} {b : Bool} {S : Nat} {x1 x2 : Int} {g : Nat} (hg : isProg g) : zX 14 0 [vR 6, vR g, vI x1, vI x2, none, none] [] (I, zRs b, 103, S) = (zrun 53 [vR g] ((sI (sI I 6 2 x1) 6 1 x2), zRs b, 103, S)).bind (fun q => zX 14 14 [vR 6, vR g, vI x1, vI x2, none, none] (zpush q.1 []) q.2) := (xAload_n d14_0 rfl).trans ((xIload_n d14_1 rfl).trans ((xPutI 2 d14_2 zo_14 zfl_1_15 rfl rfl (Nat.le_of_ble_eq_true rfl) (Or.inl rfl)).trans ((xAload_n d14_5 rfl).trans ((xIload_n d14_6 rfl).trans ((xPutI 1 d14_7 zo_14 zfl_1_19 rfl rfl (Nat.le_of_ble_eq_true rfl) (Or.inl rfl)).trans ((xAload_n d14_10 rfl).trans (xInvV [vR g] [] d14_11 zo_14 zml_1_22 rfl rfl rfl (Or.inl ⟨(isProg_k hg), (isProg_n hg)⟩))))))))
theorem e14_14 {I : Nat → Int → Int} {b : Bool} {S : Nat} {a2 a3 : Int} {g : Nat} (hg : isProg g) : zX 14 14 [vR 6, vR g, vI a2, vI a3, none, none] [] (I, zRs b, 103, S) = (zrun 16 [vR 6, vR (g + 1)] (I, zRs b, 103, S)).bind (fun q => zX 14 22 [vR 6, vR g, vI a2, vI a3, none, none] (zpush q.1 []) q.2) := (xAload_n d14_14 rfl).trans ((xAload_n d14_15 rfl).trans ((xGetR 0 (g + 1) d14_16 zo_14 zfl_1_27 rfl (isProg_r0 hg) (isProg_k hg) (Or.inl (isProg_n hg))).trans (xInvV [vR 6, vR (g + 1)] [] d14_19 zo_14 zml_1_31 rfl rfl rfl (Or.inl ⟨rfl, (Nat.le_of_ble_eq_true rfl)⟩))))
theorem e14_22 {I : Nat → Int → Int} {b : Bool} {S : Nat} {a2 a3 : Int} {g : Nat} (hg : isProg g) : zX 14 22 [vR 6, vR g, vI a2, vI a3, none, none] [] (I, zRs b, 103, S) = zX 14 25 [vR 6, vR g, vI a2, vI a3, vI 0, none] [] (I, zRs b, 103, S) := (xIconst d14_22).trans (xIstore d14_23 rfl rfl)
theorem e14_25 {I : Nat → Int → Int} {b : Bool} {S : Nat} {a2 a3 a4 : Int} {w5 : zV} {g : Nat} (hg : isProg g) : zX 14 25 [vR 6, vR g, vI a2, vI a3, vI a4, w5] [] (I, zRs b, 103, S) = if 1000000 ≤ a4 then some (none, (I, zRs b, 103, S)) else (zrun 17 [vR g] (I, zRs b, 103, S)).bind (fun q => zX 14 36 [vR 6, vR g, vI a2, vI a3, vI a4, w5] (zpush q.1 []) q.2) := (xIload d14_25 rfl).trans ((xLdc d14_27 zo_14 zct_1_35 (by decide)).trans ((xIcmpGe (t := 79) d14_29 rfl).trans (ziteC (xVret d14_79 zret_14) ((xAload_n d14_32 rfl).trans (xInvS [vR g] [] d14_33 zo_14 zml_1_36 rfl rfl)))))
theorem e14_36 {I : Nat → Int → Int} {b : Bool} {S : Nat} {a2 a3 a4 t0 : Int} {w5 : zV} {g : Nat} (hg : isProg g) : zX 14 36 [vR 6, vR g, vI a2, vI a3, vI a4, w5] [vI t0] (I, zRs b, 103, S) = if t0 = 0 then (zrun 15 [vR 6, vI 8] (I, zRs b, 103, S)).bind (fun q => zX 14 52 [vR 6, vR g, vI a2, vI a3, vI a4, w5] (zpush q.1 []) q.2) else if (I g 8) ≤ 0 then some (none, (I, zRs b, 103, S)) else (zrun 15 [vR 6, vI 8] (I, zRs b, 103, S)).bind (fun q => zX 14 52 [vR 6, vR g, vI a2, vI a3, vI a4, w5] (zpush q.1 []) q.2) := (xIfEq (t := 46) d14_36 rfl).trans (ziteC ((xAload_n d14_46 rfl).trans ((xBipush d14_47).trans (xInvV [vR 6, vI 8] [] d14_49 zo_14 zml_1_43 rfl rfl rfl (Or.inl ⟨rfl, (Nat.le_of_ble_eq_true rfl)⟩)))) ((xAload_n d14_39 rfl).trans ((xGetI 8 (I g 8) rfl d14_40 zo_14 zfl_1_40 (by decide) rfl (isProg_k hg) (Or.inl (isProg_n hg))).trans ((xIfLe (t := 79) d14_43 rfl).trans (ziteC (xVret d14_79 zret_14) ((xAload_n d14_46 rfl).trans ((xBipush d14_47).trans (xInvV [vR 6, vI 8] [] d14_49 zo_14 zml_1_43 rfl rfl rfl (Or.inl ⟨rfl, (Nat.le_of_ble_eq_true rfl)⟩)))))))))
theorem e14_52 {I : Nat → Int → Int} {b : Bool} {S : Nat} {a2 a3 a4 t0 : Int} {w5 : zV} {g : Nat} (hg : isProg g) : zX 14 52 [vR 6, vR g, vI a2, vI a3, vI a4, w5] [vI t0] (I, zRs b, 103, S) = (zrun 17 [vR g] (I, zRs b, 103, S)).bind (fun q => zX 14 60 [vR 6, vR g, vI a2, vI a3, vI a4, vI t0] (zpush q.1 [vR g, vR 6]) q.2) := (xIstore d14_52 rfl rfl).trans ((xAload_n d14_54 rfl).trans ((xAload_n d14_55 rfl).trans ((xAload_n d14_56 rfl).trans (xInvS [vR g] [vR g, vR 6] d14_57 zo_14 zml_1_36 rfl rfl))))
theorem e14_60 {I : Nat → Int → Int} {b : Bool} {S : Nat} {a2 a3 a4 a5 t2 : Int} {g : Nat} (hg : isProg g) : zX 14 60 [vR 6, vR g, vI a2, vI a3, vI a4, vI a5] [vI t2, vR g, vR 6] (I, zRs b, 103, S) = if t2 = 0 then (zrun 18 [vR 6, vR g, vI a5] (I, zRs b, 103, S)).bind (fun q => zX 14 73 [vR 6, vR g, vI a2, vI a3, vI a4, vI a5] (zpush q.1 []) q.2) else (zrun 18 [vR 6, vR g, vI 7] (I, zRs b, 103, S)).bind (fun q => zX 14 73 [vR 6, vR g, vI a2, vI a3, vI a4, vI a5] (zpush q.1 []) q.2) := (xIfEq (t := 68) d14_60 rfl).trans (ziteC ((xIload d14_68 rfl).trans (xInvV [vR 6, vR g, vI a5] [] d14_70 zo_14 zml_1_47 rfl rfl rfl (Or.inl ⟨rfl, (Nat.le_of_ble_eq_true rfl)⟩))) ((xBipush d14_63).trans ((xGoto (t := 70) d14_65 rfl).trans (xInvV [vR 6, vR g, vI 7] [] d14_70 zo_14 zml_1_47 rfl rfl rfl (Or.inl ⟨rfl, (Nat.le_of_ble_eq_true rfl)⟩)))))
theorem e14_73 {I : Nat → Int → Int} {b : Bool} {S : Nat} {a2 a3 a4 a5 : Int} {g : Nat} (hg : isProg g) : zX 14 73 [vR 6, vR g, vI a2, vI a3, vI a4, vI a5] [] (I, zRs b, 103, S) = zX 14 25 [vR 6, vR g, vI a2, vI a3, vI (wr (a4 + 1)), vI a5] [] (I, zRs b, 103, S) := (xIinc d14_73 rfl rfl rfl).trans (xGoto (t := 25) d14_76 rfl)
theorem zo_15 : zo 15 = 1 := by decide +kernel
theorem zret_15 : zret 15 = some .int := by decide +kernel
theorem d15_0 : decode (zb 15) 0 = .ok (.aload_n 0, 1) := by decide +kernel
theorem d15_1 : decode (zb 15) 1 = .ok (.aload_n 0, 1) := by decide +kernel
theorem d15_2 : decode (zb 15) 2 = .ok (.getfield 15, 3) := by decide +kernel
theorem d15_5 : decode (zb 15) 5 = .ok (.ldc 51, 2) := by decide +kernel
theorem d15_7 : decode (zb 15) 7 = .ok (.imul, 1) := by decide +kernel
theorem d15_8 : decode (zb 15) 8 = .ok (.sipush 12345, 3) := by decide +kernel
theorem d15_11 : decode (zb 15) 11 = .ok (.iadd, 1) := by decide +kernel
theorem d15_12 : decode (zb 15) 12 = .ok (.putfield 15, 3) := by decide +kernel
theorem d15_15 : decode (zb 15) 15 = .ok (.aload_n 0, 1) := by decide +kernel
theorem d15_16 : decode (zb 15) 16 = .ok (.getfield 15, 3) := by decide +kernel
theorem d15_19 : decode (zb 15) 19 = .ok (.bipush 16, 2) := by decide +kernel
theorem d15_21 : decode (zb 15) 21 = .ok (.iushr, 1) := by decide +kernel
theorem d15_22 : decode (zb 15) 22 = .ok (.sipush 32767, 3) := by decide +kernel
theorem d15_25 : decode (zb 15) 25 = .ok (.iand, 1) := by decide +kernel
theorem d15_26 : decode (zb 15) 26 = .ok (.istore_n 2, 1) := by decide +kernel
theorem d15_27 : decode (zb 15) 27 = .ok (.iload_n 1, 1) := by decide +kernel
theorem d15_28 : decode (zb 15) 28 = .ok (.ifCond .le 9, 3) := by decide +kernel
theorem d15_31 : decode (zb 15) 31 = .ok (.iload_n 2, 1) := by decide +kernel
theorem d15_32 : decode (zb 15) 32 = .ok (.iload_n 1, 1) := by decide +kernel
theorem d15_33 : decode (zb 15) 33 = .ok (.irem, 1) := by decide +kernel
theorem d15_34 : decode (zb 15) 34 = .ok (.goto 4, 3) := by decide +kernel
theorem d15_37 : decode (zb 15) 37 = .ok (.iconst 0, 1) := by decide +kernel
theorem d15_38 : decode (zb 15) 38 = .ok (.ireturn, 1) := by decide +kernel
theorem run15 {h : zH} {x0 : Int} : zrun 15 [vR 6, vI x0] h = zX 15 0 [vR 6, vI x0, none] [] h := rfl
theorem e15_0 {I : Nat → Int → Int} {b : Bool} {S : Nat} {x0 : Int} : zX 15 0 [vR 6, vI x0, none] [] (I, zRs b, 103, S) = if x0 ≤ 0 then some (some (vI 0), ((sI I 6 2 (wr ((wr ((I 6 2) * 1103515245)) + 12345))), zRs b, 103, S)) else if x0 = 0 then none else some (some (vI ((w2 (· &&& ·) (w2 zusr (wr ((wr ((I 6 2) * 1103515245)) + 12345)) 16) 32767).tmod x0)), ((sI I 6 2 (wr ((wr ((I 6 2) * 1103515245)) + 12345))), zRs b, 103, S)) := (xAload_n d15_0 rfl).trans ((xAload_n d15_1 rfl).trans ((xGetI 2 (I 6 2) rfl d15_2 zo_15 zfl_1_15 (by decide) rfl rfl (Or.inl (Nat.le_of_ble_eq_true rfl))).trans ((xLdc d15_5 zo_15 zct_1_51 (by decide)).trans ((xImul d15_7).trans ((xSipush d15_8).trans ((xIadd d15_11).trans ((xPutI 2 d15_12 zo_15 zfl_1_15 rfl rfl (Nat.le_of_ble_eq_true rfl) (Or.inl rfl)).trans ((xAload_n d15_15 rfl).trans ((xGetI 2 (wr ((wr ((I 6 2) * 1103515245)) + 12345)) sI_s d15_16 zo_15 zfl_1_15 (by decide) rfl rfl (Or.inl (Nat.le_of_ble_eq_true rfl))).trans ((xBipush d15_19).trans ((xIushr d15_21).trans ((xSipush d15_22).trans ((xIand d15_25).trans ((xIstore_n d15_26 rfl rfl).trans ((xIload_n d15_27 rfl).trans ((xIfLe (t := 37) d15_28 rfl).trans (ziteC ((xIconst d15_37).trans (xIret d15_38 zret_15)) ((xIload_n d15_31 rfl).trans ((xIload_n d15_32 rfl).trans ((xIremG d15_33).trans (ziteC rfl ((xGoto (t := 38) d15_34 rfl).trans (xIret d15_38 zret_15)))))))))))))))))))))))
theorem zo_16 : zo 16 = 1 := by decide +kernel
theorem zret_16 : zret 16 = none := by decide +kernel
theorem d16_0 : decode (zb 16) 0 = .ok (.iconst 0, 1) := by decide +kernel
theorem d16_1 : decode (zb 16) 1 = .ok (.istore_n 2, 1) := by decide +kernel
theorem d16_2 : decode (zb 16) 2 = .ok (.iload_n 2, 1) := by decide +kernel
theorem d16_3 : decode (zb 16) 3 = .ok (.aload_n 0, 1) := by decide +kernel
theorem d16_4 : decode (zb 16) 4 = .ok (.getfield 19, 3) := by decide +kernel
theorem d16_7 : decode (zb 16) 7 = .ok (.if_icmp .ge 54, 3) := by decide +kernel
theorem d16_10 : decode (zb 16) 10 = .ok (.aload_n 0, 1) := by decide +kernel
theorem d16_11 : decode (zb 16) 11 = .ok (.bipush 16, 2) := by decide +kernel
theorem d16_13 : decode (zb 16) 13 = .ok (.invokevirtual 43, 3) := by decide +kernel
theorem d16_16 : decode (zb 16) 16 = .ok (.iconst 1, 1) := by decide +kernel
theorem d16_17 : decode (zb 16) 17 = .ok (.iadd, 1) := by decide +kernel
theorem d16_18 : decode (zb 16) 18 = .ok (.istore_n 3, 1) := by decide +kernel
theorem d16_19 : decode (zb 16) 19 = .ok (.iconst 0, 1) := by decide +kernel
theorem d16_20 : decode (zb 16) 20 = .ok (.istore 4, 2) := by decide +kernel
theorem d16_22 : decode (zb 16) 22 = .ok (.iload 4, 2) := by decide +kernel
theorem d16_24 : decode (zb 16) 24 = .ok (.iload_n 3, 1) := by decide +kernel
theorem d16_25 : decode (zb 16) 25 = .ok (.if_icmp .ge 21, 3) := by decide +kernel
theorem d16_28 : decode (zb 16) 28 = .ok (.aload_n 0, 1) := by decide +kernel
theorem d16_29 : decode (zb 16) 29 = .ok (.getfield 9, 3) := by decide +kernel
theorem d16_32 : decode (zb 16) 32 = .ok (.iload 4, 2) := by decide +kernel
theorem d16_34 : decode (zb 16) 34 = .ok (.aload_n 0, 1) := by decide +kernel
theorem d16_35 : decode (zb 16) 35 = .ok (.iconst 4, 1) := by decide +kernel
theorem d16_36 : decode (zb 16) 36 = .ok (.invokevirtual 43, 3) := by decide +kernel
theorem d16_39 : decode (zb 16) 39 = .ok (.iastore, 1) := by decide +kernel
theorem d16_40 : decode (zb 16) 40 = .ok (.iinc 4 1, 3) := by decide +kernel
theorem d16_43 : decode (zb 16) 43 = .ok (.goto (-21), 3) := by decide +kernel
theorem d16_46 : decode (zb 16) 46 = .ok (.aload_n 1, 1) := by decide +kernel
theorem d16_47 : decode (zb 16) 47 = .ok (.aload_n 0, 1) := by decide +kernel
theorem d16_48 : decode (zb 16) 48 = .ok (.getfield 9, 3) := by decide +kernel
theorem d16_51 : decode (zb 16) 51 = .ok (.iload_n 3, 1) := by decide +kernel
theorem d16_52 : decode (zb 16) 52 = .ok (.invokevirtual 52, 3) := by decide +kernel
theorem d16_55 : decode (zb 16) 55 = .ok (.iinc 2 1, 3) := by decide +kernel
theorem d16_58 : decode (zb 16) 58 = .ok (.goto (-56), 3) := by decide +kernel
theorem d16_61 : decode (zb 16) 61 = .ok (.return_, 1) := by decide +kernel
theorem run16 {h : zH} {pq : Nat} : zrun 16 [vR 6, vR pq] h = zX 16 0 [vR 6, vR pq, none, none, none] [] h := rfl
theorem e16_0 {I : Nat → Int → Int} {b : Bool} {S : Nat} {pq : Nat} (hpq : isPool pq) : zX 16 0 [vR 6, vR pq, none, none, none] [] (I, zRs b, 103, S) = zX 16 2 [vR 6, vR pq, vI 0, none, none] [] (I, zRs b, 103, S) := (xIconst d16_0).trans (xIstore_n d16_1 rfl rfl)
theorem e16_2 {I : Nat → Int → Int} {b : Bool} {S : Nat} {a2 : Int} {w3 w4 : zV} {pq : Nat} (hpq : isPool pq) : zX 16 2 [vR 6, vR pq, vI a2, w3, w4] [] (I, zRs b, 103, S) = if (I 6 1) ≤ a2 then some (none, (I, zRs b, 103, S)) else (zrun 15 [vR 6, vI 16] (I, zRs b, 103, S)).bind (fun q => zX 16 16 [vR 6, vR pq, vI a2, w3, w4] (zpush q.1 []) q.2) := (xIload_n d16_2 rfl).trans ((xAload_n d16_3 rfl).trans ((xGetI 1 (I 6 1) rfl d16_4 zo_16 zfl_1_19 (by decide) rfl rfl (Or.inl (Nat.le_of_ble_eq_true rfl))).trans ((xIcmpGe (t := 61) d16_7 rfl).trans (ziteC (xVret d16_61 zret_16) ((xAload_n d16_10 rfl).trans ((xBipush d16_11).trans (xInvV [vR 6, vI 16] [] d16_13 zo_16 zml_1_43 rfl rfl rfl (Or.inl ⟨rfl, (Nat.le_of_ble_eq_true rfl)⟩))))))))
theorem e16_16 {I : Nat → Int → Int} {b : Bool} {S : Nat} {a2 t0 : Int} {w3 w4 : zV} {pq : Nat} (hpq : isPool pq) : zX 16 16 [vR 6, vR pq, vI a2, w3, w4] [vI t0] (I, zRs b, 103, S) = zX 16 22 [vR 6, vR pq, vI a2, vI (wr (t0 + 1)), vI 0] [] (I, zRs b, 103, S) := (xIconst d16_16).trans ((xIadd d16_17).trans ((xIstore_n d16_18 rfl rfl).trans ((xIconst d16_19).trans (xIstore d16_20 rfl rfl))))
theorem e16_22 {I : Nat → Int → Int} {b : Bool} {S : Nat} {a2 a3 a4 : Int} {pq : Nat} (hpq : isPool pq) : zX 16 22 [vR 6, vR pq, vI a2, vI a3, vI a4] [] (I, zRs b, 103, S) = if a3 ≤ a4 then (zrun 45 [vR pq, vR 7, vI a3] (I, zRs b, 103, S)).bind (fun q => zX 16 55 [vR 6, vR pq, vI a2, vI a3, vI a4] (zpush q.1 []) q.2) else (zrun 15 [vR 6, vI 4] (I, zRs b, 103, S)).bind (fun q => zX 16 39 [vR 6, vR pq, vI a2, vI a3, vI a4] (zpush q.1 [vI a4, vR 7]) q.2) := (xIload d16_22 rfl).trans ((xIload_n d16_24 rfl).trans ((xIcmpGe (t := 46) d16_25 rfl).trans (ziteC ((xAload_n d16_46 rfl).trans ((xAload_n d16_47 rfl).trans ((xGetR 0 7 d16_48 zo_16 zfl_1_9 rfl rfl rfl (Or.inl (Nat.le_of_ble_eq_true rfl))).trans ((xIload_n d16_51 rfl).trans (xInvV [vR pq, vR 7, vI a3] [] d16_52 zo_16 zml_1_52 rfl rfl rfl (Or.inl ⟨(isPool_k hpq), (isPool_n hpq)⟩)))))) ((xAload_n d16_28 rfl).trans ((xGetR 0 7 d16_29 zo_16 zfl_1_9 rfl rfl rfl (Or.inl (Nat.le_of_ble_eq_true rfl))).trans ((xIload d16_32 rfl).trans ((xAload_n d16_34 rfl).trans ((xIconst d16_35).trans (xInvV [vR 6, vI 4] [vI a4, vR 7] d16_36 zo_16 zml_1_43 rfl rfl rfl (Or.inl ⟨rfl, (Nat.le_of_ble_eq_true rfl)⟩))))))))))
theorem e16_39 {I : Nat → Int → Int} {b : Bool} {S : Nat} {a2 a3 a4 t1 t2 : Int} {pq : Nat} (hpq : isPool pq) : zX 16 39 [vR 6, vR pq, vI a2, vI a3, vI a4] [vI t2, vI t1, vR 7] (I, zRs b, 103, S) = if 0 ≤ t1 ∧ t1 < 16 then zX 16 22 [vR 6, vR pq, vI a2, vI a3, vI (wr (a4 + 1))] [] ((sI I 7 t1 t2), zRs b, 103, S) else none := (xIast (N := 16) d16_39 rfl (Nat.le_of_ble_eq_true rfl) rfl).trans (ziteC ((xIinc d16_40 rfl rfl rfl).trans (xGoto (t := 22) d16_43 rfl)) rfl)
theorem e16_55 {I : Nat → Int → Int} {b : Bool} {S : Nat} {a2 a3 a4 : Int} {pq : Nat} (hpq : isPool pq) : zX 16 55 [vR 6, vR pq, vI a2, vI a3, vI a4] [] (I, zRs b, 103, S) = zX 16 2 [vR 6, vR pq, vI (wr (a2 + 1)), vI a3, vI a4] [] (I, zRs b, 103, S) := (xIinc d16_55 rfl rfl rfl).trans (xGoto (t := 2) d16_58 rfl)
theorem zo_17 : zo 17 = 1 := by decide +kernel
theorem zret_17 : zret 17 = some .boolean := by decide +kernel
theorem d17_0 : decode (zb 17) 0 = .ok (.aload_n 0, 1) := by decide +kernel
theorem d17_1 : decode (zb 17) 1 = .ok (.getfield 58, 3) := by decide +kernel
theorem d17_4 : decode (zb 17) 4 = .ok (.bipush 16, 2) := by decide +kernel
theorem d17_6 : decode (zb 17) 6 = .ok (.if_icmp .lt 7, 3) := by decide +kernel
theorem d17_9 : decode (zb 17) 9 = .ok (.iconst 1, 1) := by decide +kernel
theorem d17_10 : decode (zb 17) 10 = .ok (.goto 4, 3) := by decide +kernel
theorem d17_13 : decode (zb 17) 13 = .ok (.iconst 0, 1) := by decide +kernel
theorem d17_14 : decode (zb 17) 14 = .ok (.ireturn, 1) := by decide +kernel
theorem run17 {h : zH} {g : Nat} : zrun 17 [vR g] h = zX 17 0 [vR g] [] h := rfl
theorem e17_0 {I : Nat → Int → Int} {b : Bool} {S : Nat} {g : Nat} (hg : isProg g) : zX 17 0 [vR g] [] (I, zRs b, 103, S) = if (I g 6) < 16 then some (some (vI 0), (I, zRs b, 103, S)) else some (some (vI 1), (I, zRs b, 103, S)) := (xAload_n d17_0 rfl).trans ((xGetI 6 (I g 6) rfl d17_1 zo_17 zfl_1_58 (by decide) rfl (isProg_k hg) (Or.inl (isProg_n hg))).trans ((xBipush d17_4).trans ((xIcmpLt (t := 13) d17_6 rfl).trans (ziteC ((xIconst d17_13).trans (xZret d17_14 zret_17 (by decide))) ((xIconst d17_9).trans ((xGoto (t := 14) d17_10 rfl).trans (xZret d17_14 zret_17 (by decide))))))))
theorem zo_18 : zo 18 = 1 := by decide +kernel
theorem zret_18 : zret 18 = none := by decide +kernel
theorem d18_0 : decode (zb 18) 0 = .ok (.iload_n 2, 1) := by decide +kernel
theorem d18_1 : decode (zb 18) 1 = .ok (.tableswitch 85 0 5 #[39, 39, 39, 54, 67, 67], 39) := by decide +kernel
theorem d18_40 : decode (zb 18) 40 = .ok (.aload_n 1, 1) := by decide +kernel
theorem d18_41 : decode (zb 18) 41 = .ok (.aload_n 0, 1) := by decide +kernel
theorem d18_42 : decode (zb 18) 42 = .ok (.aload_n 0, 1) := by decide +kernel
theorem d18_43 : decode (zb 18) 43 = .ok (.getfield 19, 3) := by decide +kernel
theorem d18_46 : decode (zb 18) 46 = .ok (.invokevirtual 43, 3) := by decide +kernel
theorem d18_49 : decode (zb 18) 49 = .ok (.invokevirtual 61, 3) := by decide +kernel
theorem d18_52 : decode (zb 18) 52 = .ok (.goto 38, 3) := by decide +kernel
theorem d18_55 : decode (zb 18) 55 = .ok (.aload_n 1, 1) := by decide +kernel
theorem d18_56 : decode (zb 18) 56 = .ok (.aload_n 0, 1) := by decide +kernel
theorem d18_57 : decode (zb 18) 57 = .ok (.bipush 10, 2) := by decide +kernel
theorem d18_59 : decode (zb 18) 59 = .ok (.invokevirtual 43, 3) := by decide +kernel
theorem d18_62 : decode (zb 18) 62 = .ok (.invokevirtual 65, 3) := by decide +kernel
theorem d18_65 : decode (zb 18) 65 = .ok (.goto 25, 3) := by decide +kernel
theorem d18_68 : decode (zb 18) 68 = .ok (.aload_n 0, 1) := by decide +kernel
theorem d18_69 : decode (zb 18) 69 = .ok (.aload_n 1, 1) := by decide +kernel
theorem d18_70 : decode (zb 18) 70 = .ok (.iload_n 2, 1) := by decide +kernel
theorem d18_71 : decode (zb 18) 71 = .ok (.iconst 4, 1) := by decide +kernel
theorem d18_72 : decode (zb 18) 72 = .ok (.if_icmp .ne 7, 3) := by decide +kernel
theorem d18_75 : decode (zb 18) 75 = .ok (.iconst 2, 1) := by decide +kernel
theorem d18_76 : decode (zb 18) 76 = .ok (.goto 4, 3) := by decide +kernel
theorem d18_79 : decode (zb 18) 79 = .ok (.iconst 3, 1) := by decide +kernel
theorem d18_80 : decode (zb 18) 80 = .ok (.invokevirtual 68, 3) := by decide +kernel
theorem d18_83 : decode (zb 18) 83 = .ok (.goto 7, 3) := by decide +kernel
theorem d18_86 : decode (zb 18) 86 = .ok (.aload_n 1, 1) := by decide +kernel
theorem d18_87 : decode (zb 18) 87 = .ok (.invokevirtual 71, 3) := by decide +kernel
theorem d18_90 : decode (zb 18) 90 = .ok (.return_, 1) := by decide +kernel
theorem run18 {h : zH} {x1 : Int} {g : Nat} : zrun 18 [vR 6, vR g, vI x1] h = zX 18 0 [vR 6, vR g, vI x1] [] h := rfl
theorem e18_0 {I : Nat → Int → Int} {b : Bool} {S : Nat} {x1 : Int} {g : Nat} (hg : isProg g) : zX 18 0 [vR 6, vR g, vI x1] [] (I, zRs b, 103, S) = if x1 = 0 then (zrun 15 [vR 6, vI (I 6 1)] (I, zRs b, 103, S)).bind (fun q => zX 18 49 [vR 6, vR g, vI x1] (zpush q.1 [vR g]) q.2) else if x1 = 1 then (zrun 15 [vR 6, vI (I 6 1)] (I, zRs b, 103, S)).bind (fun q => zX 18 49 [vR 6, vR g, vI x1] (zpush q.1 [vR g]) q.2) else if x1 = 2 then (zrun 15 [vR 6, vI (I 6 1)] (I, zRs b, 103, S)).bind (fun q => zX 18 49 [vR 6, vR g, vI x1] (zpush q.1 [vR g]) q.2) else if x1 = 3 then (zrun 15 [vR 6, vI 10] (I, zRs b, 103, S)).bind (fun q => zX 18 62 [vR 6, vR g, vI x1] (zpush q.1 [vR g]) q.2) else if x1 = 4 then if x1 = 4 then (zrun 19 [vR 6, vR g, vI 2] (I, zRs b, 103, S)).bind (fun q => zX 18 83 [vR 6, vR g, vI x1] (zpush q.1 []) q.2) else (zrun 19 [vR 6, vR g, vI 3] (I, zRs b, 103, S)).bind (fun q => zX 18 83 [vR 6, vR g, vI x1] (zpush q.1 []) q.2) else if x1 = 5 then if x1 = 4 then (zrun 19 [vR 6, vR g, vI 2] (I, zRs b, 103, S)).bind (fun q => zX 18 83 [vR 6, vR g, vI x1] (zpush q.1 []) q.2) else (zrun 19 [vR 6, vR g, vI 3] (I, zRs b, 103, S)).bind (fun q => zX 18 83 [vR 6, vR g, vI x1] (zpush q.1 []) q.2) else (zrun 59 [vR g] (I, zRs b, 103, S)).bind (fun q => zX 18 90 [vR 6, vR g, vI x1] (zpush q.1 []) q.2) := (xIload_n d18_0 rfl).trans ((xTab [(0, 40), (1, 40), (2, 40), (3, 55), (4, 68), (5, 68)] 86 d18_1 rfl).trans (ziteC ((xAload_n d18_40 rfl).trans ((xAload_n d18_41 rfl).trans ((xAload_n d18_42 rfl).trans ((xGetI 1 (I 6 1) rfl d18_43 zo_18 zfl_1_19 (by decide) rfl rfl (Or.inl (Nat.le_of_ble_eq_true rfl))).trans (xInvV [vR 6, vI (I 6 1)] [vR g] d18_46 zo_18 zml_1_43 rfl rfl rfl (Or.inl ⟨rfl, (Nat.le_of_ble_eq_true rfl)⟩)))))) (ziteC ((xAload_n d18_40 rfl).trans ((xAload_n d18_41 rfl).trans ((xAload_n d18_42 rfl).trans ((xGetI 1 (I 6 1) rfl d18_43 zo_18 zfl_1_19 (by decide) rfl rfl (Or.inl (Nat.le_of_ble_eq_true rfl))).trans (xInvV [vR 6, vI (I 6 1)] [vR g] d18_46 zo_18 zml_1_43 rfl rfl rfl (Or.inl ⟨rfl, (Nat.le_of_ble_eq_true rfl)⟩)))))) (ziteC ((xAload_n d18_40 rfl).trans ((xAload_n d18_41 rfl).trans ((xAload_n d18_42 rfl).trans ((xGetI 1 (I 6 1) rfl d18_43 zo_18 zfl_1_19 (by decide) rfl rfl (Or.inl (Nat.le_of_ble_eq_true rfl))).trans (xInvV [vR 6, vI (I 6 1)] [vR g] d18_46 zo_18 zml_1_43 rfl rfl rfl (Or.inl ⟨rfl, (Nat.le_of_ble_eq_true rfl)⟩)))))) (ziteC ((xAload_n d18_55 rfl).trans ((xAload_n d18_56 rfl).trans ((xBipush d18_57).trans (xInvV [vR 6, vI 10] [vR g] d18_59 zo_18 zml_1_43 rfl rfl rfl (Or.inl ⟨rfl, (Nat.le_of_ble_eq_true rfl)⟩))))) (ziteC ((xAload_n d18_68 rfl).trans ((xAload_n d18_69 rfl).trans ((xIload_n d18_70 rfl).trans ((xIconst d18_71).trans ((xIcmpNe (t := 79) d18_72 rfl).trans (ziteC ((xIconst d18_75).trans ((xGoto (t := 80) d18_76 rfl).trans (xInvV [vR 6, vR g, vI 2] [] d18_80 zo_18 zml_1_68 rfl rfl rfl (Or.inl ⟨rfl, (Nat.le_of_ble_eq_true rfl)⟩)))) ((xIconst d18_79).trans (xInvV [vR 6, vR g, vI 3] [] d18_80 zo_18 zml_1_68 rfl rfl rfl (Or.inl ⟨rfl, (Nat.le_of_ble_eq_true rfl)⟩))))))))) (ziteC ((xAload_n d18_68 rfl).trans ((xAload_n d18_69 rfl).trans ((xIload_n d18_70 rfl).trans ((xIconst d18_71).trans ((xIcmpNe (t := 79) d18_72 rfl).trans (ziteC ((xIconst d18_75).trans ((xGoto (t := 80) d18_76 rfl).trans (xInvV [vR 6, vR g, vI 2] [] d18_80 zo_18 zml_1_68 rfl rfl rfl (Or.inl ⟨rfl, (Nat.le_of_ble_eq_true rfl)⟩)))) ((xIconst d18_79).trans (xInvV [vR 6, vR g, vI 3] [] d18_80 zo_18 zml_1_68 rfl rfl rfl (Or.inl ⟨rfl, (Nat.le_of_ble_eq_true rfl)⟩))))))))) ((xAload_n d18_86 rfl).trans (xInvV [vR g] [] d18_87 zo_18 zml_1_71 rfl rfl rfl (Or.inl ⟨(isProg_k hg), (isProg_n hg)⟩))))))))))
theorem e18_49 {I : Nat → Int → Int} {b : Bool} {S : Nat} {a2 t1 : Int} {g : Nat} (hg : isProg g) : zX 18 49 [vR 6, vR g, vI a2] [vI t1, vR g] (I, zRs b, 103, S) = (zrun 56 [vR g, vI t1] (I, zRs b, 103, S)).bind (fun q => zX 18 52 [vR 6, vR g, vI a2] (zpush q.1 []) q.2) := xInvV [vR g, vI t1] [] d18_49 zo_18 zml_1_61 rfl rfl rfl (Or.inl ⟨(isProg_k hg), (isProg_n hg)⟩)
theorem e18_52 {I : Nat → Int → Int} {b : Bool} {S : Nat} {a2 : Int} {g : Nat} (hg : isProg g) : zX 18 52 [vR 6, vR g, vI a2] [] (I, zRs b, 103, S) = zX 18 90 [vR 6, vR g, vI a2] [] (I, zRs b, 103, S) := xGoto (t := 90) d18_52 rfl
theorem e18_62 {I : Nat → Int → Int} {b : Bool} {S : Nat} {a2 t1 : Int} {g : Nat} (hg : isProg g) : zX 18 62 [vR 6, vR g, vI a2] [vI t1, vR g] (I, zRs b, 103, S) = (zrun 57 [vR g, vI t1] (I, zRs b, 103, S)).bind (fun q => zX 18 65 [vR 6, vR g, vI a2] (zpush q.1 []) q.2) := xInvV [vR g, vI t1] [] d18_62 zo_18 zml_1_65 rfl rfl rfl (Or.inl ⟨(isProg_k hg), (isProg_n hg)⟩)
theorem e18_65 {I : Nat → Int → Int} {b : Bool} {S : Nat} {a2 : Int} {g : Nat} (hg : isProg g) : zX 18 65 [vR 6, vR g, vI a2] [] (I, zRs b, 103, S) = zX 18 90 [vR 6, vR g, vI a2] [] (I, zRs b, 103, S) := xGoto (t := 90) d18_65 rfl
theorem e18_83 {I : Nat → Int → Int} {b : Bool} {S : Nat} {a2 : Int} {g : Nat} (hg : isProg g) : zX 18 83 [vR 6, vR g, vI a2] [] (I, zRs b, 103, S) = zX 18 90 [vR 6, vR g, vI a2] [] (I, zRs b, 103, S) := xGoto (t := 90) d18_83 rfl
theorem e18_90 {I : Nat → Int → Int} {b : Bool} {S : Nat} {a2 : Int} {g : Nat} (hg : isProg g) : zX 18 90 [vR 6, vR g, vI a2] [] (I, zRs b, 103, S) = some (none, (I, zRs b, 103, S)) := xVret d18_90 zret_18
theorem zo_19 : zo 19 = 1 := by decide +kernel
theorem zret_19 : zret 19 = none := by decide +kernel
theorem d19_0 : decode (zb 19) 0 = .ok (.aload_n 1, 1) := by decide +kernel
theorem d19_1 : decode (zb 19) 1 = .ok (.invokevirtual 74, 3) := by decide +kernel
theorem d19_4 : decode (zb 19) 4 = .ok (.ifCond .ne 40, 3) := by decide +kernel
theorem d19_7 : decode (zb 19) 7 = .ok (.aload_n 1, 1) := by decide +kernel
theorem d19_8 : decode (zb 19) 8 = .ok (.iload_n 2, 1) := by decide +kernel
theorem d19_9 : decode (zb 19) 9 = .ok (.iload_n 2, 1) := by decide +kernel
theorem d19_10 : decode (zb 19) 10 = .ok (.iconst 2, 1) := by decide +kernel
theorem d19_11 : decode (zb 19) 11 = .ok (.if_icmp .ne 13, 3) := by decide +kernel
theorem d19_14 : decode (zb 19) 14 = .ok (.aload_n 0, 1) := by decide +kernel
theorem d19_15 : decode (zb 19) 15 = .ok (.iconst 3, 1) := by decide +kernel
theorem d19_16 : decode (zb 19) 16 = .ok (.invokevirtual 43, 3) := by decide +kernel
theorem d19_19 : decode (zb 19) 19 = .ok (.iconst 1, 1) := by decide +kernel
theorem d19_20 : decode (zb 19) 20 = .ok (.iadd, 1) := by decide +kernel
theorem d19_21 : decode (zb 19) 21 = .ok (.goto 8, 3) := by decide +kernel
theorem d19_24 : decode (zb 19) 24 = .ok (.aload_n 0, 1) := by decide +kernel
theorem d19_25 : decode (zb 19) 25 = .ok (.iconst 4, 1) := by decide +kernel
theorem d19_26 : decode (zb 19) 26 = .ok (.invokevirtual 43, 3) := by decide +kernel
theorem d19_29 : decode (zb 19) 29 = .ok (.invokevirtual 78, 3) := by decide +kernel
theorem d19_32 : decode (zb 19) 32 = .ok (.aload_n 1, 1) := by decide +kernel
theorem d19_33 : decode (zb 19) 33 = .ok (.aload_n 0, 1) := by decide +kernel
theorem d19_34 : decode (zb 19) 34 = .ok (.aload_n 0, 1) := by decide +kernel
theorem d19_35 : decode (zb 19) 35 = .ok (.getfield 19, 3) := by decide +kernel
theorem d19_38 : decode (zb 19) 38 = .ok (.invokevirtual 43, 3) := by decide +kernel
theorem d19_41 : decode (zb 19) 41 = .ok (.invokevirtual 61, 3) := by decide +kernel
theorem d19_44 : decode (zb 19) 44 = .ok (.return_, 1) := by decide +kernel
theorem run19 {h : zH} {x1 : Int} {g : Nat} : zrun 19 [vR 6, vR g, vI x1] h = zX 19 0 [vR 6, vR g, vI x1] [] h := rfl
theorem e19_0 {I : Nat → Int → Int} {b : Bool} {S : Nat} {x1 : Int} {g : Nat} (hg : isProg g) : zX 19 0 [vR 6, vR g, vI x1] [] (I, zRs b, 103, S) = (zrun 55 [vR g] (I, zRs b, 103, S)).bind (fun q => zX 19 4 [vR 6, vR g, vI x1] (zpush q.1 []) q.2) := (xAload_n d19_0 rfl).trans (xInvV [vR g] [] d19_1 zo_19 zml_1_74 rfl rfl rfl (Or.inl ⟨(isProg_k hg), (isProg_n hg)⟩))
theorem e19_4 {I : Nat → Int → Int} {b : Bool} {S : Nat} {a2 t0 : Int} {g : Nat} (hg : isProg g) : zX 19 4 [vR 6, vR g, vI a2] [vI t0] (I, zRs b, 103, S) = if t0 = 0 then if a2 = 2 then (zrun 15 [vR 6, vI 3] (I, zRs b, 103, S)).bind (fun q => zX 19 19 [vR 6, vR g, vI a2] (zpush q.1 [vI a2, vR g]) q.2) else (zrun 15 [vR 6, vI 4] (I, zRs b, 103, S)).bind (fun q => zX 19 29 [vR 6, vR g, vI a2] (zpush q.1 [vI a2, vR g]) q.2) else zX 19 44 [vR 6, vR g, vI a2] [] (I, zRs b, 103, S) := (xIfNe (t := 44) d19_4 rfl).trans (ziteC ((xAload_n d19_7 rfl).trans ((xIload_n d19_8 rfl).trans ((xIload_n d19_9 rfl).trans ((xIconst d19_10).trans ((xIcmpNe (t := 24) d19_11 rfl).trans (ziteC ((xAload_n d19_14 rfl).trans ((xIconst d19_15).trans (xInvV [vR 6, vI 3] [vI a2, vR g] d19_16 zo_19 zml_1_43 rfl rfl rfl (Or.inl ⟨rfl, (Nat.le_of_ble_eq_true rfl)⟩)))) ((xAload_n d19_24 rfl).trans ((xIconst d19_25).trans (xInvV [vR 6, vI 4] [vI a2, vR g] d19_26 zo_19 zml_1_43 rfl rfl rfl (Or.inl ⟨rfl, (Nat.le_of_ble_eq_true rfl)⟩)))))))))) rfl)
theorem e19_19 {I : Nat → Int → Int} {b : Bool} {S : Nat} {a2 t1 t2 : Int} {g : Nat} (hg : isProg g) : zX 19 19 [vR 6, vR g, vI a2] [vI t2, vI t1, vR g] (I, zRs b, 103, S) = zX 19 29 [vR 6, vR g, vI a2] [vI (wr (t2 + 1)), vI t1, vR g] (I, zRs b, 103, S) := (xIconst d19_19).trans ((xIadd d19_20).trans (xGoto (t := 29) d19_21 rfl))
theorem e19_29 {I : Nat → Int → Int} {b : Bool} {S : Nat} {a2 t1 t2 : Int} {g : Nat} (hg : isProg g) : zX 19 29 [vR 6, vR g, vI a2] [vI t2, vI t1, vR g] (I, zRs b, 103, S) = (zrun 58 [vR g, vI t1, vI t2] (I, zRs b, 103, S)).bind (fun q => zX 19 32 [vR 6, vR g, vI a2] (zpush q.1 []) q.2) := xInvV [vR g, vI t1, vI t2] [] d19_29 zo_19 zml_1_78 rfl rfl rfl (Or.inl ⟨(isProg_k hg), (isProg_n hg)⟩)
theorem e19_32 {I : Nat → Int → Int} {b : Bool} {S : Nat} {a2 : Int} {g : Nat} (hg : isProg g) : zX 19 32 [vR 6, vR g, vI a2] [] (I, zRs b, 103, S) = (zrun 15 [vR 6, vI (I 6 1)] (I, zRs b, 103, S)).bind (fun q => zX 19 41 [vR 6, vR g, vI a2] (zpush q.1 [vR g]) q.2) := (xAload_n d19_32 rfl).trans ((xAload_n d19_33 rfl).trans ((xAload_n d19_34 rfl).trans ((xGetI 1 (I 6 1) rfl d19_35 zo_19 zfl_1_19 (by decide) rfl rfl (Or.inl (Nat.le_of_ble_eq_true rfl))).trans (xInvV [vR 6, vI (I 6 1)] [vR g] d19_38 zo_19 zml_1_43 rfl rfl rfl (Or.inl ⟨rfl, (Nat.le_of_ble_eq_true rfl)⟩)))))
theorem e19_41 {I : Nat → Int → Int} {b : Bool} {S : Nat} {a2 t1 : Int} {g : Nat} (hg : isProg g) : zX 19 41 [vR 6, vR g, vI a2] [vI t1, vR g] (I, zRs b, 103, S) = (zrun 56 [vR g, vI t1] (I, zRs b, 103, S)).bind (fun q => zX 19 44 [vR 6, vR g, vI a2] (zpush q.1 []) q.2) := xInvV [vR g, vI t1] [] d19_41 zo_19 zml_1_61 rfl rfl rfl (Or.inl ⟨(isProg_k hg), (isProg_n hg)⟩)
theorem e19_44 {I : Nat → Int → Int} {b : Bool} {S : Nat} {a2 : Int} {g : Nat} (hg : isProg g) : zX 19 44 [vR 6, vR g, vI a2] [] (I, zRs b, 103, S) = some (none, (I, zRs b, 103, S)) := xVret d19_44 zret_19
