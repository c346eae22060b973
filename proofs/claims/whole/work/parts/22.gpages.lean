theorem zo_27 : zo 27 = 3 := by decide +kernel
theorem zret_27 : zret 27 = none := by decide +kernel
theorem d27_0 : decode (zb 27) 0 = .ok (.aload_n 0, 1) := by decide +kernel
theorem d27_1 : decode (zb 27) 1 = .ok (.iconst 0, 1) := by decide +kernel
theorem d27_2 : decode (zb 27) 2 = .ok (.putfield 21, 3) := by decide +kernel
theorem d27_5 : decode (zb 27) 5 = .ok (.aload_n 0, 1) := by decide +kernel
theorem d27_6 : decode (zb 27) 6 = .ok (.iconst 0, 1) := by decide +kernel
theorem d27_7 : decode (zb 27) 7 = .ok (.putfield 25, 3) := by decide +kernel
theorem d27_10 : decode (zb 27) 10 = .ok (.return_, 1) := by decide +kernel
theorem run27 {h : zH} : zrun 27 [vR 11] h = zX 27 0 [vR 11] [] h := rfl
theorem e27_0 {I : Nat → Int → Int} {b : Bool} {S : Nat} : zX 27 0 [vR 11] [] (I, zRs b, 103, S) = some (none, ((sI (sI I 11 1 0) 11 4 0), zRs b, 103, S)) := (xAload_n d27_0 rfl).trans ((xIconst d27_1).trans ((xPutI 1 d27_2 zo_27 zfl_3_21 rfl rfl (Nat.le_of_ble_eq_true rfl) (Or.inl rfl)).trans ((xAload_n d27_5 rfl).trans ((xIconst d27_6).trans ((xPutI 4 d27_7 zo_27 zfl_3_25 rfl rfl (Nat.le_of_ble_eq_true rfl) (Or.inl rfl)).trans (xVret d27_10 zret_27))))))
theorem zo_28 : zo 28 = 3 := by decide +kernel
theorem zret_28 : zret 28 = none := by decide +kernel
theorem d28_0 : decode (zb 28) 0 = .ok (.aload_n 0, 1) := by decide +kernel
theorem d28_1 : decode (zb 28) 1 = .ok (.aload_n 1, 1) := by decide +kernel
theorem d28_2 : decode (zb 28) 2 = .ok (.getfield 21, 3) := by decide +kernel
theorem d28_5 : decode (zb 28) 5 = .ok (.putfield 21, 3) := by decide +kernel
theorem d28_8 : decode (zb 28) 8 = .ok (.aload_n 0, 1) := by decide +kernel
theorem d28_9 : decode (zb 28) 9 = .ok (.aload_n 1, 1) := by decide +kernel
theorem d28_10 : decode (zb 28) 10 = .ok (.getfield 25, 3) := by decide +kernel
theorem d28_13 : decode (zb 28) 13 = .ok (.putfield 25, 3) := by decide +kernel
theorem d28_16 : decode (zb 28) 16 = .ok (.aload_n 1, 1) := by decide +kernel
theorem d28_17 : decode (zb 28) 17 = .ok (.getfield 9, 3) := by decide +kernel
theorem d28_20 : decode (zb 28) 20 = .ok (.iconst 0, 1) := by decide +kernel
theorem d28_21 : decode (zb 28) 21 = .ok (.aload_n 0, 1) := by decide +kernel
theorem d28_22 : decode (zb 28) 22 = .ok (.getfield 9, 3) := by decide +kernel
theorem d28_25 : decode (zb 28) 25 = .ok (.iconst 0, 1) := by decide +kernel
theorem d28_26 : decode (zb 28) 26 = .ok (.bipush 6, 2) := by decide +kernel
theorem d28_28 : decode (zb 28) 28 = .ok (.invokestatic 28, 3) := by decide +kernel
theorem d28_31 : decode (zb 28) 31 = .ok (.aload_n 1, 1) := by decide +kernel
theorem d28_32 : decode (zb 28) 32 = .ok (.getfield 15, 3) := by decide +kernel
theorem d28_35 : decode (zb 28) 35 = .ok (.iconst 0, 1) := by decide +kernel
theorem d28_36 : decode (zb 28) 36 = .ok (.aload_n 0, 1) := by decide +kernel
theorem d28_37 : decode (zb 28) 37 = .ok (.getfield 15, 3) := by decide +kernel
theorem d28_40 : decode (zb 28) 40 = .ok (.iconst 0, 1) := by decide +kernel
theorem d28_41 : decode (zb 28) 41 = .ok (.bipush 16, 2) := by decide +kernel
theorem d28_43 : decode (zb 28) 43 = .ok (.invokestatic 28, 3) := by decide +kernel
theorem d28_46 : decode (zb 28) 46 = .ok (.aload_n 1, 1) := by decide +kernel
theorem d28_47 : decode (zb 28) 47 = .ok (.getfield 18, 3) := by decide +kernel
theorem d28_50 : decode (zb 28) 50 = .ok (.iconst 0, 1) := by decide +kernel
theorem d28_51 : decode (zb 28) 51 = .ok (.aload_n 0, 1) := by decide +kernel
theorem d28_52 : decode (zb 28) 52 = .ok (.getfield 18, 3) := by decide +kernel
theorem d28_55 : decode (zb 28) 55 = .ok (.iconst 0, 1) := by decide +kernel
theorem d28_56 : decode (zb 28) 56 = .ok (.bipush 16, 2) := by decide +kernel
theorem d28_58 : decode (zb 28) 58 = .ok (.invokestatic 28, 3) := by decide +kernel
theorem d28_61 : decode (zb 28) 61 = .ok (.return_, 1) := by decide +kernel
theorem run28 {h : zH} {c c2 : Nat} : zrun 28 [vR c, vR c2] h = zX 28 0 [vR c, vR c2] [] h := rfl
theorem e28_0 {I : Nat → Int → Int} {b : Bool} {S : Nat} {c : Nat} (hc : isPgs c) {c2 : Nat} (hc2 : isPgs c2) : zX 28 0 [vR c, vR c2] [] (I, zRs b, 103, S) = some (none, ((zcpy (zcpy (zcpy (sI (sI I c 1 (I c2 1)) c 4 ((sI I c 1 (I c2 1)) c2 4)) (c2 + 1) 0 (c + 1) 0 6) (c2 + 2) 0 (c + 2) 0 16) (c2 + 3) 0 (c + 3) 0 16), zRs b, 103, S)) := (xAload_n d28_0 rfl).trans ((xAload_n d28_1 rfl).trans ((xGetI 1 (I c2 1) rfl d28_2 zo_28 zfl_3_21 (by decide) rfl (isPgs_k hc2) (Or.inl (isPgs_n hc2))).trans ((xPutI 1 d28_5 zo_28 zfl_3_21 rfl (isPgs_k hc) (isPgs_n hc) (Or.inl rfl)).trans ((xAload_n d28_8 rfl).trans ((xAload_n d28_9 rfl).trans ((xGetI 4 ((sI I c 1 (I c2 1)) c2 4) rfl d28_10 zo_28 zfl_3_25 (by decide) rfl (isPgs_k hc2) (Or.inl (isPgs_n hc2))).trans ((xPutI 4 d28_13 zo_28 zfl_3_25 rfl (isPgs_k hc) (isPgs_n hc) (Or.inl rfl)).trans ((xAload_n d28_16 rfl).trans ((xGetR 0 (c2 + 1) d28_17 zo_28 zfl_3_9 rfl (isPgs_r0 hc2) (isPgs_k hc2) (Or.inl (isPgs_n hc2))).trans ((xIconst d28_20).trans ((xAload_n d28_21 rfl).trans ((xGetR 0 (c + 1) d28_22 zo_28 zfl_3_9 rfl (isPgs_r0 hc) (isPgs_k hc) (Or.inl (isPgs_n hc))).trans ((xIconst d28_25).trans ((xBipush d28_26).trans ((xCopy (N := 6) (M := 6) d28_28 zo_28 zml_3_28 (by rw [(isPgs_k1 hc)]) (isPgs_n1 hc) (by rw [(isPgs_k1 hc2)]) (isPgs_n1 hc2) (by rw [(isPgs_k1 hc)]; rfl) (by rw [(isPgs_k1 hc2)]; rfl) rfl (by decide)).trans ((xAload_n d28_31 rfl).trans ((xGetR 2 (c2 + 2) d28_32 zo_28 zfl_3_15 rfl (isPgs_r2 hc2) (isPgs_k hc2) (Or.inl (isPgs_n hc2))).trans ((xIconst d28_35).trans ((xAload_n d28_36 rfl).trans ((xGetR 2 (c + 2) d28_37 zo_28 zfl_3_15 rfl (isPgs_r2 hc) (isPgs_k hc) (Or.inl (isPgs_n hc))).trans ((xIconst d28_40).trans ((xBipush d28_41).trans ((xCopy (N := 16) (M := 16) d28_43 zo_28 zml_3_28 (by rw [(isPgs_k2 hc)]) (isPgs_n2 hc) (by rw [(isPgs_k2 hc2)]) (isPgs_n2 hc2) (by rw [(isPgs_k2 hc)]; rfl) (by rw [(isPgs_k2 hc2)]; rfl) rfl (by decide)).trans ((xAload_n d28_46 rfl).trans ((xGetR 3 (c2 + 3) d28_47 zo_28 zfl_3_18 rfl (isPgs_r3 hc2) (isPgs_k hc2) (Or.inl (isPgs_n hc2))).trans ((xIconst d28_50).trans ((xAload_n d28_51 rfl).trans ((xGetR 3 (c + 3) d28_52 zo_28 zfl_3_18 rfl (isPgs_r3 hc) (isPgs_k hc) (Or.inl (isPgs_n hc))).trans ((xIconst d28_55).trans ((xBipush d28_56).trans ((xCopy (N := 16) (M := 16) d28_58 zo_28 zml_3_28 (by rw [(isPgs_k3 hc)]) (isPgs_n3 hc) (by rw [(isPgs_k3 hc2)]) (isPgs_n3 hc2) (by rw [(isPgs_k3 hc)]; rfl) (by rw [(isPgs_k3 hc2)]; rfl) rfl (by decide)).trans (xVret d28_61 zret_28))))))))))))))))))))))))))))))))
theorem zo_29 : zo 29 = 3 := by decide +kernel
theorem zret_29 : zret 29 = some .boolean := by decide +kernel
theorem d29_0 : decode (zb 29) 0 = .ok (.iload_n 1, 1) := by decide +kernel
theorem d29_1 : decode (zb 29) 1 = .ok (.aload_n 0, 1) := by decide +kernel
theorem d29_2 : decode (zb 29) 2 = .ok (.getfield 9, 3) := by decide +kernel
theorem d29_5 : decode (zb 29) 5 = .ok (.aload_n 0, 1) := by decide +kernel
theorem d29_6 : decode (zb 29) 6 = .ok (.getfield 21, 3) := by decide +kernel
theorem d29_9 : decode (zb 29) 9 = .ok (.invokestatic 34, 3) := by decide +kernel
theorem d29_12 : decode (zb 29) 12 = .ok (.istore_n 2, 1) := by decide +kernel
theorem d29_13 : decode (zb 29) 13 = .ok (.iload_n 2, 1) := by decide +kernel
theorem d29_14 : decode (zb 29) 14 = .ok (.ifCond .ge 5, 3) := by decide +kernel
theorem d29_17 : decode (zb 29) 17 = .ok (.iconst 0, 1) := by decide +kernel
theorem d29_18 : decode (zb 29) 18 = .ok (.ireturn, 1) := by decide +kernel
theorem d29_19 : decode (zb 29) 19 = .ok (.iload_n 2, 1) := by decide +kernel
theorem d29_20 : decode (zb 29) 20 = .ok (.istore_n 3, 1) := by decide +kernel
theorem d29_21 : decode (zb 29) 21 = .ok (.iload_n 3, 1) := by decide +kernel
theorem d29_22 : decode (zb 29) 22 = .ok (.iconst 1, 1) := by decide +kernel
theorem d29_23 : decode (zb 29) 23 = .ok (.iadd, 1) := by decide +kernel
theorem d29_24 : decode (zb 29) 24 = .ok (.aload_n 0, 1) := by decide +kernel
theorem d29_25 : decode (zb 29) 25 = .ok (.getfield 21, 3) := by decide +kernel
theorem d29_28 : decode (zb 29) 28 = .ok (.if_icmp .ge 23, 3) := by decide +kernel
theorem d29_31 : decode (zb 29) 31 = .ok (.aload_n 0, 1) := by decide +kernel
theorem d29_32 : decode (zb 29) 32 = .ok (.getfield 9, 3) := by decide +kernel
theorem d29_35 : decode (zb 29) 35 = .ok (.iload_n 3, 1) := by decide +kernel
theorem d29_36 : decode (zb 29) 36 = .ok (.aload_n 0, 1) := by decide +kernel
theorem d29_37 : decode (zb 29) 37 = .ok (.getfield 9, 3) := by decide +kernel
theorem d29_40 : decode (zb 29) 40 = .ok (.iload_n 3, 1) := by decide +kernel
theorem d29_41 : decode (zb 29) 41 = .ok (.iconst 1, 1) := by decide +kernel
theorem d29_42 : decode (zb 29) 42 = .ok (.iadd, 1) := by decide +kernel
theorem d29_43 : decode (zb 29) 43 = .ok (.iaload, 1) := by decide +kernel
theorem d29_44 : decode (zb 29) 44 = .ok (.iastore, 1) := by decide +kernel
theorem d29_45 : decode (zb 29) 45 = .ok (.iinc 3 1, 3) := by decide +kernel
theorem d29_48 : decode (zb 29) 48 = .ok (.goto (-27), 3) := by decide +kernel
theorem d29_51 : decode (zb 29) 51 = .ok (.aload_n 0, 1) := by decide +kernel
theorem d29_52 : decode (zb 29) 52 = .ok (.getfield 9, 3) := by decide +kernel
theorem d29_55 : decode (zb 29) 55 = .ok (.aload_n 0, 1) := by decide +kernel
theorem d29_56 : decode (zb 29) 56 = .ok (.getfield 21, 3) := by decide +kernel
theorem d29_59 : decode (zb 29) 59 = .ok (.iconst 1, 1) := by decide +kernel
theorem d29_60 : decode (zb 29) 60 = .ok (.isub, 1) := by decide +kernel
theorem d29_61 : decode (zb 29) 61 = .ok (.iload_n 1, 1) := by decide +kernel
theorem d29_62 : decode (zb 29) 62 = .ok (.iastore, 1) := by decide +kernel
theorem d29_63 : decode (zb 29) 63 = .ok (.iconst 1, 1) := by decide +kernel
theorem d29_64 : decode (zb 29) 64 = .ok (.ireturn, 1) := by decide +kernel
theorem run29 {h : zH} {x0 : Int} : zrun 29 [vR 11, vI x0] h = zX 29 0 [vR 11, vI x0, none, none] [] h := rfl
theorem e29_0 {I : Nat → Int → Int} {b : Bool} {S : Nat} {x0 : Int} : zX 29 0 [vR 11, vI x0, none, none] [] (I, zRs b, 103, S) = (zrun 34 [vI x0, vR 12, vI (I 11 1)] (I, zRs b, 103, S)).bind (fun q => zX 29 12 [vR 11, vI x0, none, none] (zpush q.1 []) q.2) := (xIload_n d29_0 rfl).trans ((xAload_n d29_1 rfl).trans ((xGetR 0 12 d29_2 zo_29 zfl_3_9 rfl rfl rfl (Or.inl (Nat.le_of_ble_eq_true rfl))).trans ((xAload_n d29_5 rfl).trans ((xGetI 1 (I 11 1) rfl d29_6 zo_29 zfl_3_21 (by decide) rfl rfl (Or.inl (Nat.le_of_ble_eq_true rfl))).trans (xInvS [vI x0, vR 12, vI (I 11 1)] [] d29_9 zo_29 zml_3_34 rfl rfl)))))
theorem e29_12 {I : Nat → Int → Int} {b : Bool} {S : Nat} {a1 t0 : Int} : zX 29 12 [vR 11, vI a1, none, none] [vI t0] (I, zRs b, 103, S) = if 0 ≤ t0 then zX 29 21 [vR 11, vI a1, vI t0, vI t0] [] (I, zRs b, 103, S) else some (some (vI 0), (I, zRs b, 103, S)) := (xIstore_n d29_12 rfl rfl).trans ((xIload_n d29_13 rfl).trans ((xIfGe (t := 19) d29_14 rfl).trans (ziteC ((xIload_n d29_19 rfl).trans (xIstore_n d29_20 rfl rfl)) ((xIconst d29_17).trans (xZret d29_18 zret_29 (by decide))))))
theorem e29_21 {I : Nat → Int → Int} {b : Bool} {S : Nat} {a1 a2 a3 : Int} : zX 29 21 [vR 11, vI a1, vI a2, vI a3] [] (I, zRs b, 103, S) = if (I 11 1) ≤ (wr (a3 + 1)) then if 0 ≤ (wr ((I 11 1) - 1)) ∧ (wr ((I 11 1) - 1)) < 6 then some (some (vI 1), ((sI I 12 (wr ((I 11 1) - 1)) a1), zRs b, 103, S)) else none else if 0 ≤ (wr (a3 + 1)) ∧ (wr (a3 + 1)) < 6 then if 0 ≤ a3 ∧ a3 < 6 then zX 29 21 [vR 11, vI a1, vI a2, vI (wr (a3 + 1))] [] ((sI I 12 a3 (I 12 (wr (a3 + 1)))), zRs b, 103, S) else none else none := (xIload_n d29_21 rfl).trans ((xIconst d29_22).trans ((xIadd d29_23).trans ((xAload_n d29_24 rfl).trans ((xGetI 1 (I 11 1) rfl d29_25 zo_29 zfl_3_21 (by decide) rfl rfl (Or.inl (Nat.le_of_ble_eq_true rfl))).trans ((xIcmpGe (t := 51) d29_28 rfl).trans (ziteC ((xAload_n d29_51 rfl).trans ((xGetR 0 12 d29_52 zo_29 zfl_3_9 rfl rfl rfl (Or.inl (Nat.le_of_ble_eq_true rfl))).trans ((xAload_n d29_55 rfl).trans ((xGetI 1 (I 11 1) rfl d29_56 zo_29 zfl_3_21 (by decide) rfl rfl (Or.inl (Nat.le_of_ble_eq_true rfl))).trans ((xIconst d29_59).trans ((xIsub d29_60).trans ((xIload_n d29_61 rfl).trans ((xIast (N := 6) d29_62 rfl (Nat.le_of_ble_eq_true rfl) rfl).trans (ziteC ((xIconst d29_63).trans (xZret d29_64 zret_29 (by decide))) rfl))))))))) ((xAload_n d29_31 rfl).trans ((xGetR 0 12 d29_32 zo_29 zfl_3_9 rfl rfl rfl (Or.inl (Nat.le_of_ble_eq_true rfl))).trans ((xIload_n d29_35 rfl).trans ((xAload_n d29_36 rfl).trans ((xGetR 0 12 d29_37 zo_29 zfl_3_9 rfl rfl rfl (Or.inl (Nat.le_of_ble_eq_true rfl))).trans ((xIload_n d29_40 rfl).trans ((xIconst d29_41).trans ((xIadd d29_42).trans ((xIald (N := 6) (I 12 (wr (a3 + 1))) rfl d29_43 rfl (Or.inl (Nat.le_of_ble_eq_true rfl)) rfl).trans (ziteC ((xIast (N := 6) d29_44 rfl (Nat.le_of_ble_eq_true rfl) rfl).trans (ziteC ((xIinc d29_45 rfl rfl rfl).trans (xGoto (t := 21) d29_48 rfl)) rfl)) rfl))))))))))))))))
theorem zo_30 : zo 30 = 3 := by decide +kernel
theorem zret_30 : zret 30 = none := by decide +kernel
theorem d30_0 : decode (zb 30) 0 = .ok (.aload_n 0, 1) := by decide +kernel
theorem d30_1 : decode (zb 30) 1 = .ok (.getfield 21, 3) := by decide +kernel
theorem d30_4 : decode (zb 30) 4 = .ok (.iload_n 1, 1) := by decide +kernel
theorem d30_5 : decode (zb 30) 5 = .ok (.isub, 1) := by decide +kernel
theorem d30_6 : decode (zb 30) 6 = .ok (.istore_n 2, 1) := by decide +kernel
theorem d30_7 : decode (zb 30) 7 = .ok (.iload_n 2, 1) := by decide +kernel
theorem d30_8 : decode (zb 30) 8 = .ok (.ifCond .le 7, 3) := by decide +kernel
theorem d30_11 : decode (zb 30) 11 = .ok (.iload_n 1, 1) := by decide +kernel
theorem d30_12 : decode (zb 30) 12 = .ok (.ifCond .ge 4, 3) := by decide +kernel
theorem d30_15 : decode (zb 30) 15 = .ok (.return_, 1) := by decide +kernel
theorem d30_16 : decode (zb 30) 16 = .ok (.iconst 0, 1) := by decide +kernel
theorem d30_17 : decode (zb 30) 17 = .ok (.istore_n 3, 1) := by decide +kernel
theorem d30_18 : decode (zb 30) 18 = .ok (.iload_n 3, 1) := by decide +kernel
theorem d30_19 : decode (zb 30) 19 = .ok (.iload_n 1, 1) := by decide +kernel
theorem d30_20 : decode (zb 30) 20 = .ok (.if_icmp .ge 23, 3) := by decide +kernel
theorem d30_23 : decode (zb 30) 23 = .ok (.aload_n 0, 1) := by decide +kernel
theorem d30_24 : decode (zb 30) 24 = .ok (.getfield 9, 3) := by decide +kernel
theorem d30_27 : decode (zb 30) 27 = .ok (.iload_n 3, 1) := by decide +kernel
theorem d30_28 : decode (zb 30) 28 = .ok (.aload_n 0, 1) := by decide +kernel
theorem d30_29 : decode (zb 30) 29 = .ok (.getfield 9, 3) := by decide +kernel
theorem d30_32 : decode (zb 30) 32 = .ok (.iload_n 3, 1) := by decide +kernel
theorem d30_33 : decode (zb 30) 33 = .ok (.iload_n 2, 1) := by decide +kernel
theorem d30_34 : decode (zb 30) 34 = .ok (.iadd, 1) := by decide +kernel
theorem d30_35 : decode (zb 30) 35 = .ok (.iaload, 1) := by decide +kernel
theorem d30_36 : decode (zb 30) 36 = .ok (.iastore, 1) := by decide +kernel
theorem d30_37 : decode (zb 30) 37 = .ok (.iinc 3 1, 3) := by decide +kernel
theorem d30_40 : decode (zb 30) 40 = .ok (.goto (-22), 3) := by decide +kernel
theorem d30_43 : decode (zb 30) 43 = .ok (.aload_n 0, 1) := by decide +kernel
theorem d30_44 : decode (zb 30) 44 = .ok (.iload_n 1, 1) := by decide +kernel
theorem d30_45 : decode (zb 30) 45 = .ok (.putfield 21, 3) := by decide +kernel
theorem d30_48 : decode (zb 30) 48 = .ok (.return_, 1) := by decide +kernel
theorem run30 {h : zH} {x0 : Int} : zrun 30 [vR 11, vI x0] h = zX 30 0 [vR 11, vI x0, none, none] [] h := rfl
theorem e30_0 {I : Nat → Int → Int} {b : Bool} {S : Nat} {x0 : Int} : zX 30 0 [vR 11, vI x0, none, none] [] (I, zRs b, 103, S) = if (wr ((I 11 1) - x0)) ≤ 0 then some (none, (I, zRs b, 103, S)) else if 0 ≤ x0 then zX 30 18 [vR 11, vI x0, vI (wr ((I 11 1) - x0)), vI 0] [] (I, zRs b, 103, S) else some (none, (I, zRs b, 103, S)) := (xAload_n d30_0 rfl).trans ((xGetI 1 (I 11 1) rfl d30_1 zo_30 zfl_3_21 (by decide) rfl rfl (Or.inl (Nat.le_of_ble_eq_true rfl))).trans ((xIload_n d30_4 rfl).trans ((xIsub d30_5).trans ((xIstore_n d30_6 rfl rfl).trans ((xIload_n d30_7 rfl).trans ((xIfLe (t := 15) d30_8 rfl).trans (ziteC (xVret d30_15 zret_30) ((xIload_n d30_11 rfl).trans ((xIfGe (t := 16) d30_12 rfl).trans (ziteC ((xIconst d30_16).trans (xIstore_n d30_17 rfl rfl)) (xVret d30_15 zret_30)))))))))))
theorem e30_18 {I : Nat → Int → Int} {b : Bool} {S : Nat} {a1 a2 a3 : Int} : zX 30 18 [vR 11, vI a1, vI a2, vI a3] [] (I, zRs b, 103, S) = if a1 ≤ a3 then some (none, ((sI I 11 1 a1), zRs b, 103, S)) else if 0 ≤ (wr (a3 + a2)) ∧ (wr (a3 + a2)) < 6 then if 0 ≤ a3 ∧ a3 < 6 then zX 30 18 [vR 11, vI a1, vI a2, vI (wr (a3 + 1))] [] ((sI I 12 a3 (I 12 (wr (a3 + a2)))), zRs b, 103, S) else none else none := (xIload_n d30_18 rfl).trans ((xIload_n d30_19 rfl).trans ((xIcmpGe (t := 43) d30_20 rfl).trans (ziteC ((xAload_n d30_43 rfl).trans ((xIload_n d30_44 rfl).trans ((xPutI 1 d30_45 zo_30 zfl_3_21 rfl rfl (Nat.le_of_ble_eq_true rfl) (Or.inl rfl)).trans (xVret d30_48 zret_30)))) ((xAload_n d30_23 rfl).trans ((xGetR 0 12 d30_24 zo_30 zfl_3_9 rfl rfl rfl (Or.inl (Nat.le_of_ble_eq_true rfl))).trans ((xIload_n d30_27 rfl).trans ((xAload_n d30_28 rfl).trans ((xGetR 0 12 d30_29 zo_30 zfl_3_9 rfl rfl rfl (Or.inl (Nat.le_of_ble_eq_true rfl))).trans ((xIload_n d30_32 rfl).trans ((xIload_n d30_33 rfl).trans ((xIadd d30_34).trans ((xIald (N := 6) (I 12 (wr (a3 + a2))) rfl d30_35 rfl (Or.inl (Nat.le_of_ble_eq_true rfl)) rfl).trans (ziteC ((xIast (N := 6) d30_36 rfl (Nat.le_of_ble_eq_true rfl) rfl).trans (ziteC ((xIinc d30_37 rfl rfl rfl).trans (xGoto (t := 18) d30_40 rfl)) rfl)) rfl)))))))))))))
theorem zo_31 : zo 31 = 3 := by decide +kernel
theorem zret_31 : zret 31 = none := by decide +kernel
theorem d31_0 : decode (zb 31) 0 = .ok (.iconst 0, 1) := by decide +kernel
theorem d31_1 : decode (zb 31) 1 = .ok (.istore_n 3, 1) := by decide +kernel
theorem d31_2 : decode (zb 31) 2 = .ok (.iconst 0, 1) := by decide +kernel
theorem d31_3 : decode (zb 31) 3 = .ok (.istore 4, 2) := by decide +kernel
theorem d31_5 : decode (zb 31) 5 = .ok (.iload 4, 2) := by decide +kernel
theorem d31_7 : decode (zb 31) 7 = .ok (.aload_n 0, 1) := by decide +kernel
theorem d31_8 : decode (zb 31) 8 = .ok (.getfield 25, 3) := by decide +kernel
theorem d31_11 : decode (zb 31) 11 = .ok (.if_icmp .ge 64, 3) := by decide +kernel
theorem d31_14 : decode (zb 31) 14 = .ok (.aload_n 0, 1) := by decide +kernel
theorem d31_15 : decode (zb 31) 15 = .ok (.getfield 18, 3) := by decide +kernel
theorem d31_18 : decode (zb 31) 18 = .ok (.iload 4, 2) := by decide +kernel
theorem d31_20 : decode (zb 31) 20 = .ok (.iaload, 1) := by decide +kernel
theorem d31_21 : decode (zb 31) 21 = .ok (.iload_n 1, 1) := by decide +kernel
theorem d31_22 : decode (zb 31) 22 = .ok (.if_icmp .gt 18, 3) := by decide +kernel
theorem d31_25 : decode (zb 31) 25 = .ok (.aload_n 0, 1) := by decide +kernel
theorem d31_26 : decode (zb 31) 26 = .ok (.aload_n 0, 1) := by decide +kernel
theorem d31_27 : decode (zb 31) 27 = .ok (.getfield 15, 3) := by decide +kernel
theorem d31_30 : decode (zb 31) 30 = .ok (.iload 4, 2) := by decide +kernel
theorem d31_32 : decode (zb 31) 32 = .ok (.iaload, 1) := by decide +kernel
theorem d31_33 : decode (zb 31) 33 = .ok (.iload_n 2, 1) := by decide +kernel
theorem d31_34 : decode (zb 31) 34 = .ok (.invokevirtual 38, 3) := by decide +kernel
theorem d31_37 : decode (zb 31) 37 = .ok (.goto 32, 3) := by decide +kernel
theorem d31_40 : decode (zb 31) 40 = .ok (.aload_n 0, 1) := by decide +kernel
theorem d31_41 : decode (zb 31) 41 = .ok (.getfield 15, 3) := by decide +kernel
theorem d31_44 : decode (zb 31) 44 = .ok (.iload_n 3, 1) := by decide +kernel
theorem d31_45 : decode (zb 31) 45 = .ok (.aload_n 0, 1) := by decide +kernel
theorem d31_46 : decode (zb 31) 46 = .ok (.getfield 15, 3) := by decide +kernel
theorem d31_49 : decode (zb 31) 49 = .ok (.iload 4, 2) := by decide +kernel
theorem d31_51 : decode (zb 31) 51 = .ok (.iaload, 1) := by decide +kernel
theorem d31_52 : decode (zb 31) 52 = .ok (.iastore, 1) := by decide +kernel
theorem d31_53 : decode (zb 31) 53 = .ok (.aload_n 0, 1) := by decide +kernel
theorem d31_54 : decode (zb 31) 54 = .ok (.getfield 18, 3) := by decide +kernel
theorem d31_57 : decode (zb 31) 57 = .ok (.iload_n 3, 1) := by decide +kernel
theorem d31_58 : decode (zb 31) 58 = .ok (.aload_n 0, 1) := by decide +kernel
theorem d31_59 : decode (zb 31) 59 = .ok (.getfield 18, 3) := by decide +kernel
theorem d31_62 : decode (zb 31) 62 = .ok (.iload 4, 2) := by decide +kernel
theorem d31_64 : decode (zb 31) 64 = .ok (.iaload, 1) := by decide +kernel
theorem d31_65 : decode (zb 31) 65 = .ok (.iastore, 1) := by decide +kernel
theorem d31_66 : decode (zb 31) 66 = .ok (.iinc 3 1, 3) := by decide +kernel
theorem d31_69 : decode (zb 31) 69 = .ok (.iinc 4 1, 3) := by decide +kernel
theorem d31_72 : decode (zb 31) 72 = .ok (.goto (-67), 3) := by decide +kernel
theorem d31_75 : decode (zb 31) 75 = .ok (.aload_n 0, 1) := by decide +kernel
theorem d31_76 : decode (zb 31) 76 = .ok (.iload_n 3, 1) := by decide +kernel
theorem d31_77 : decode (zb 31) 77 = .ok (.putfield 25, 3) := by decide +kernel
theorem d31_80 : decode (zb 31) 80 = .ok (.return_, 1) := by decide +kernel
theorem run31 {h : zH} {x0 x1 : Int} : zrun 31 [vR 11, vI x0, vI x1] h = zX 31 0 [vR 11, vI x0, vI x1, none, none] [] h := rfl
theorem e31_0 {I : Nat → Int → Int} {b : Bool} {S : Nat} {x0 x1 : Int} : zX 31 0 [vR 11, vI x0, vI x1, none, none] [] (I, zRs b, 103, S) = zX 31 5 [vR 11, vI x0, vI x1, vI 0, vI 0] [] (I, zRs b, 103, S) := (xIconst d31_0).trans ((xIstore_n d31_1 rfl rfl).trans ((xIconst d31_2).trans (xIstore d31_3 rfl rfl)))
theorem e31_5 {I : Nat → Int → Int} {b : Bool} {S : Nat} {a1 a2 a3 a4 : Int} : zX 31 5 [vR 11, vI a1, vI a2, vI a3, vI a4] [] (I, zRs b, 103, S) = if (I 11 4) ≤ a4 then some (none, ((sI I 11 4 a3), zRs b, 103, S)) else if 0 ≤ a4 ∧ a4 < 16 then if a1 < (I 14 a4) then if 0 ≤ a4 ∧ a4 < 16 then if 0 ≤ a3 ∧ a3 < 16 then if 0 ≤ a4 ∧ a4 < 16 then if 0 ≤ a3 ∧ a3 < 16 then zX 31 5 [vR 11, vI a1, vI a2, vI (wr (a3 + 1)), vI (wr (a4 + 1))] [] ((sI (sI I 13 a3 (I 13 a4)) 14 a3 (I 14 a4)), zRs b, 103, S) else none else none else none else none else if 0 ≤ a4 ∧ a4 < 16 then (zrun 32 [vR 11, vI (I 13 a4), vI a2] (I, zRs b, 103, S)).bind (fun q => zX 31 37 [vR 11, vI a1, vI a2, vI a3, vI a4] (zpush q.1 []) q.2) else none else none := (xIload d31_5 rfl).trans ((xAload_n d31_7 rfl).trans ((xGetI 4 (I 11 4) rfl d31_8 zo_31 zfl_3_25 (by decide) rfl rfl (Or.inl (Nat.le_of_ble_eq_true rfl))).trans ((xIcmpGe (t := 75) d31_11 rfl).trans (ziteC ((xAload_n d31_75 rfl).trans ((xIload_n d31_76 rfl).trans ((xPutI 4 d31_77 zo_31 zfl_3_25 rfl rfl (Nat.le_of_ble_eq_true rfl) (Or.inl rfl)).trans (xVret d31_80 zret_31)))) ((xAload_n d31_14 rfl).trans ((xGetR 3 14 d31_15 zo_31 zfl_3_18 rfl rfl rfl (Or.inl (Nat.le_of_ble_eq_true rfl))).trans ((xIload d31_18 rfl).trans ((xIald (N := 16) (I 14 a4) rfl d31_20 rfl (Or.inl (Nat.le_of_ble_eq_true rfl)) rfl).trans (ziteC ((xIload_n d31_21 rfl).trans ((xIcmpGt (t := 40) d31_22 rfl).trans (ziteC ((xAload_n d31_40 rfl).trans ((xGetR 2 13 d31_41 zo_31 zfl_3_15 rfl rfl rfl (Or.inl (Nat.le_of_ble_eq_true rfl))).trans ((xIload_n d31_44 rfl).trans ((xAload_n d31_45 rfl).trans ((xGetR 2 13 d31_46 zo_31 zfl_3_15 rfl rfl rfl (Or.inl (Nat.le_of_ble_eq_true rfl))).trans ((xIload d31_49 rfl).trans ((xIald (N := 16) (I 13 a4) rfl d31_51 rfl (Or.inl (Nat.le_of_ble_eq_true rfl)) rfl).trans (ziteC ((xIast (N := 16) d31_52 rfl (Nat.le_of_ble_eq_true rfl) rfl).trans (ziteC ((xAload_n d31_53 rfl).trans ((xGetR 3 14 d31_54 zo_31 zfl_3_18 rfl rfl rfl (Or.inl (Nat.le_of_ble_eq_true rfl))).trans ((xIload_n d31_57 rfl).trans ((xAload_n d31_58 rfl).trans ((xGetR 3 14 d31_59 zo_31 zfl_3_18 rfl rfl rfl (Or.inl (Nat.le_of_ble_eq_true rfl))).trans ((xIload d31_62 rfl).trans ((xIald (N := 16) (I 14 a4) (sI_p (by decide)) d31_64 rfl (Or.inl (Nat.le_of_ble_eq_true rfl)) rfl).trans (ziteC ((xIast (N := 16) d31_65 rfl (Nat.le_of_ble_eq_true rfl) rfl).trans (ziteC ((xIinc d31_66 rfl rfl rfl).trans ((xIinc d31_69 rfl rfl rfl).trans (xGoto (t := 5) d31_72 rfl))) rfl)) rfl)))))))) rfl)) rfl)))))))) ((xAload_n d31_25 rfl).trans ((xAload_n d31_26 rfl).trans ((xGetR 2 13 d31_27 zo_31 zfl_3_15 rfl rfl rfl (Or.inl (Nat.le_of_ble_eq_true rfl))).trans ((xIload d31_30 rfl).trans ((xIald (N := 16) (I 13 a4) rfl d31_32 rfl (Or.inl (Nat.le_of_ble_eq_true rfl)) rfl).trans (ziteC ((xIload_n d31_33 rfl).trans (xInvV [vR 11, vI (I 13 a4), vI a2] [] d31_34 zo_31 zml_3_38 rfl rfl rfl (Or.inl ⟨rfl, (Nat.le_of_ble_eq_true rfl)⟩))) rfl))))))))) rfl)))))))))
theorem e31_37 {I : Nat → Int → Int} {b : Bool} {S : Nat} {a1 a2 a3 a4 : Int} : zX 31 37 [vR 11, vI a1, vI a2, vI a3, vI a4] [] (I, zRs b, 103, S) = zX 31 5 [vR 11, vI a1, vI a2, vI a3, vI (wr (a4 + 1))] [] (I, zRs b, 103, S) := (xGoto (t := 69) d31_37 rfl).trans ((xIinc d31_69 rfl rfl rfl).trans (xGoto (t := 5) d31_72 rfl))
theorem zo_32 : zo 32 = 3 := by decide +kernel
theorem zret_32 : zret 32 = none := by decide +kernel
theorem d32_0 : decode (zb 32) 0 = .ok (.aload_n 0, 1) := by decide +kernel
theorem d32_1 : decode (zb 32) 1 = .ok (.iload_n 2, 1) := by decide +kernel
theorem d32_2 : decode (zb 32) 2 = .ok (.iconst 1, 1) := by decide +kernel
theorem d32_3 : decode (zb 32) 3 = .ok (.isub, 1) := by decide +kernel
theorem d32_4 : decode (zb 32) 4 = .ok (.invokevirtual 42, 3) := by decide +kernel
theorem d32_7 : decode (zb 32) 7 = .ok (.aload_n 0, 1) := by decide +kernel
theorem d32_8 : decode (zb 32) 8 = .ok (.getfield 21, 3) := by decide +kernel
theorem d32_11 : decode (zb 32) 11 = .ok (.bipush 6, 2) := by decide +kernel
theorem d32_13 : decode (zb 32) 13 = .ok (.if_icmp .ge 23, 3) := by decide +kernel
theorem d32_16 : decode (zb 32) 16 = .ok (.aload_n 0, 1) := by decide +kernel
theorem d32_17 : decode (zb 32) 17 = .ok (.getfield 9, 3) := by decide +kernel
theorem d32_20 : decode (zb 32) 20 = .ok (.aload_n 0, 1) := by decide +kernel
theorem d32_21 : decode (zb 32) 21 = .ok (.getfield 21, 3) := by decide +kernel
theorem d32_24 : decode (zb 32) 24 = .ok (.iload_n 1, 1) := by decide +kernel
theorem d32_25 : decode (zb 32) 25 = .ok (.iastore, 1) := by decide +kernel
theorem d32_26 : decode (zb 32) 26 = .ok (.aload_n 0, 1) := by decide +kernel
theorem d32_27 : decode (zb 32) 27 = .ok (.dup, 1) := by decide +kernel
theorem d32_28 : decode (zb 32) 28 = .ok (.getfield 21, 3) := by decide +kernel
theorem d32_31 : decode (zb 32) 31 = .ok (.iconst 1, 1) := by decide +kernel
theorem d32_32 : decode (zb 32) 32 = .ok (.iadd, 1) := by decide +kernel
theorem d32_33 : decode (zb 32) 33 = .ok (.putfield 21, 3) := by decide +kernel
theorem d32_36 : decode (zb 32) 36 = .ok (.return_, 1) := by decide +kernel
theorem run32 {h : zH} {x0 x1 : Int} : zrun 32 [vR 11, vI x0, vI x1] h = zX 32 0 [vR 11, vI x0, vI x1] [] h := rfl
theorem e32_0 {I : Nat → Int → Int} {b : Bool} {S : Nat} {x0 x1 : Int} : zX 32 0 [vR 11, vI x0, vI x1] [] (I, zRs b, 103, S) = (zrun 30 [vR 11, vI (wr (x1 - 1))] (I, zRs b, 103, S)).bind (fun q => zX 32 7 [vR 11, vI x0, vI x1] (zpush q.1 []) q.2) := (xAload_n d32_0 rfl).trans ((xIload_n d32_1 rfl).trans ((xIconst d32_2).trans ((xIsub d32_3).trans (xInvV [vR 11, vI (wr (x1 - 1))] [] d32_4 zo_32 zml_3_42 rfl rfl rfl (Or.inl ⟨rfl, (Nat.le_of_ble_eq_true rfl)⟩)))))
theorem e32_7 {I : Nat → Int → Int} {b : Bool} {S : Nat} {a1 a2 : Int} : zX 32 7 [vR 11, vI a1, vI a2] [] (I, zRs b, 103, S) = if 6 ≤ (I 11 1) then some (none, (I, zRs b, 103, S)) else if 0 ≤ (I 11 1) ∧ (I 11 1) < 6 then some (none, ((sI (sI I 12 (I 11 1) a1) 11 1 (wr ((I 11 1) + 1))), zRs b, 103, S)) else none := (xAload_n d32_7 rfl).trans ((xGetI 1 (I 11 1) rfl d32_8 zo_32 zfl_3_21 (by decide) rfl rfl (Or.inl (Nat.le_of_ble_eq_true rfl))).trans ((xBipush d32_11).trans ((xIcmpGe (t := 36) d32_13 rfl).trans (ziteC (xVret d32_36 zret_32) ((xAload_n d32_16 rfl).trans ((xGetR 0 12 d32_17 zo_32 zfl_3_9 rfl rfl rfl (Or.inl (Nat.le_of_ble_eq_true rfl))).trans ((xAload_n d32_20 rfl).trans ((xGetI 1 (I 11 1) rfl d32_21 zo_32 zfl_3_21 (by decide) rfl rfl (Or.inl (Nat.le_of_ble_eq_true rfl))).trans ((xIload_n d32_24 rfl).trans ((xIast (N := 6) d32_25 rfl (Nat.le_of_ble_eq_true rfl) rfl).trans (ziteC ((xAload_n d32_26 rfl).trans ((xDup d32_27 rfl).trans ((xGetI 1 (I 11 1) (sI_p (by decide)) d32_28 zo_32 zfl_3_21 (by decide) rfl rfl (Or.inl (Nat.le_of_ble_eq_true rfl))).trans ((xIconst d32_31).trans ((xIadd d32_32).trans ((xPutI 1 d32_33 zo_32 zfl_3_21 rfl rfl (Nat.le_of_ble_eq_true rfl) (Or.inl rfl)).trans (xVret d32_36 zret_32))))))) rfl)))))))))))
theorem zo_33 : zo 33 = 3 := by decide +kernel
theorem zret_33 : zret 33 = none := by decide +kernel
theorem d33_0 : decode (zb 33) 0 = .ok (.iload_n 1, 1) := by decide +kernel
theorem d33_1 : decode (zb 33) 1 = .ok (.aload_n 0, 1) := by decide +kernel
theorem d33_2 : decode (zb 33) 2 = .ok (.getfield 9, 3) := by decide +kernel
theorem d33_5 : decode (zb 33) 5 = .ok (.aload_n 0, 1) := by decide +kernel
theorem d33_6 : decode (zb 33) 6 = .ok (.getfield 21, 3) := by decide +kernel
theorem d33_9 : decode (zb 33) 9 = .ok (.invokestatic 34, 3) := by decide +kernel
theorem d33_12 : decode (zb 33) 12 = .ok (.ifCond .ge 18, 3) := by decide +kernel
theorem d33_15 : decode (zb 33) 15 = .ok (.iload_n 1, 1) := by decide +kernel
theorem d33_16 : decode (zb 33) 16 = .ok (.aload_n 0, 1) := by decide +kernel
theorem d33_17 : decode (zb 33) 17 = .ok (.getfield 15, 3) := by decide +kernel
theorem d33_20 : decode (zb 33) 20 = .ok (.aload_n 0, 1) := by decide +kernel
theorem d33_21 : decode (zb 33) 21 = .ok (.getfield 25, 3) := by decide +kernel
theorem d33_24 : decode (zb 33) 24 = .ok (.invokestatic 34, 3) := by decide +kernel
theorem d33_27 : decode (zb 33) 27 = .ok (.ifCond .lt 7, 3) := by decide +kernel
theorem d33_30 : decode (zb 33) 30 = .ok (.iconst 1, 1) := by decide +kernel
theorem d33_31 : decode (zb 33) 31 = .ok (.goto 4, 3) := by decide +kernel
theorem d33_34 : decode (zb 33) 34 = .ok (.iconst 0, 1) := by decide +kernel
theorem d33_35 : decode (zb 33) 35 = .ok (.istore_n 3, 1) := by decide +kernel
theorem d33_36 : decode (zb 33) 36 = .ok (.iload_n 3, 1) := by decide +kernel
theorem d33_37 : decode (zb 33) 37 = .ok (.ifCond .ne 42, 3) := by decide +kernel
theorem d33_40 : decode (zb 33) 40 = .ok (.aload_n 0, 1) := by decide +kernel
theorem d33_41 : decode (zb 33) 41 = .ok (.getfield 25, 3) := by decide +kernel
theorem d33_44 : decode (zb 33) 44 = .ok (.bipush 16, 2) := by decide +kernel
theorem d33_46 : decode (zb 33) 46 = .ok (.if_icmp .ge 33, 3) := by decide +kernel
theorem d33_49 : decode (zb 33) 49 = .ok (.aload_n 0, 1) := by decide +kernel
theorem d33_50 : decode (zb 33) 50 = .ok (.getfield 15, 3) := by decide +kernel
theorem d33_53 : decode (zb 33) 53 = .ok (.aload_n 0, 1) := by decide +kernel
theorem d33_54 : decode (zb 33) 54 = .ok (.getfield 25, 3) := by decide +kernel
theorem d33_57 : decode (zb 33) 57 = .ok (.iload_n 1, 1) := by decide +kernel
theorem d33_58 : decode (zb 33) 58 = .ok (.iastore, 1) := by decide +kernel
theorem d33_59 : decode (zb 33) 59 = .ok (.aload_n 0, 1) := by decide +kernel
theorem d33_60 : decode (zb 33) 60 = .ok (.getfield 18, 3) := by decide +kernel
theorem d33_63 : decode (zb 33) 63 = .ok (.aload_n 0, 1) := by decide +kernel
theorem d33_64 : decode (zb 33) 64 = .ok (.getfield 25, 3) := by decide +kernel
theorem d33_67 : decode (zb 33) 67 = .ok (.iload_n 2, 1) := by decide +kernel
theorem d33_68 : decode (zb 33) 68 = .ok (.iastore, 1) := by decide +kernel
theorem d33_69 : decode (zb 33) 69 = .ok (.aload_n 0, 1) := by decide +kernel
theorem d33_70 : decode (zb 33) 70 = .ok (.dup, 1) := by decide +kernel
theorem d33_71 : decode (zb 33) 71 = .ok (.getfield 25, 3) := by decide +kernel
theorem d33_74 : decode (zb 33) 74 = .ok (.iconst 1, 1) := by decide +kernel
theorem d33_75 : decode (zb 33) 75 = .ok (.iadd, 1) := by decide +kernel
theorem d33_76 : decode (zb 33) 76 = .ok (.putfield 25, 3) := by decide +kernel
theorem d33_79 : decode (zb 33) 79 = .ok (.return_, 1) := by decide +kernel
theorem run33 {h : zH} {x0 x1 : Int} : zrun 33 [vR 11, vI x0, vI x1] h = zX 33 0 [vR 11, vI x0, vI x1, none] [] h := rfl
theorem e33_0 {I : Nat → Int → Int} {b : Bool} {S : Nat} {x0 x1 : Int} : zX 33 0 [vR 11, vI x0, vI x1, none] [] (I, zRs b, 103, S) = (zrun 34 [vI x0, vR 12, vI (I 11 1)] (I, zRs b, 103, S)).bind (fun q => zX 33 12 [vR 11, vI x0, vI x1, none] (zpush q.1 []) q.2) := (xIload_n d33_0 rfl).trans ((xAload_n d33_1 rfl).trans ((xGetR 0 12 d33_2 zo_33 zfl_3_9 rfl rfl rfl (Or.inl (Nat.le_of_ble_eq_true rfl))).trans ((xAload_n d33_5 rfl).trans ((xGetI 1 (I 11 1) rfl d33_6 zo_33 zfl_3_21 (by decide) rfl rfl (Or.inl (Nat.le_of_ble_eq_true rfl))).trans (xInvS [vI x0, vR 12, vI (I 11 1)] [] d33_9 zo_33 zml_3_34 rfl rfl)))))
theorem e33_12 {I : Nat → Int → Int} {b : Bool} {S : Nat} {a1 a2 t0 : Int} : zX 33 12 [vR 11, vI a1, vI a2, none] [vI t0] (I, zRs b, 103, S) = if 0 ≤ t0 then some (none, (I, zRs b, 103, S)) else (zrun 34 [vI a1, vR 13, vI (I 11 4)] (I, zRs b, 103, S)).bind (fun q => zX 33 27 [vR 11, vI a1, vI a2, none] (zpush q.1 []) q.2) := (xIfGe (t := 30) d33_12 rfl).trans (ziteC ((xIconst d33_30).trans ((xGoto (t := 35) d33_31 rfl).trans ((xIstore_n d33_35 rfl rfl).trans ((xIload_n d33_36 rfl).trans ((xIfNe (t := 79) d33_37 rfl).trans ((if_neg (by decide)).trans (xVret d33_79 zret_33))))))) ((xIload_n d33_15 rfl).trans ((xAload_n d33_16 rfl).trans ((xGetR 2 13 d33_17 zo_33 zfl_3_15 rfl rfl rfl (Or.inl (Nat.le_of_ble_eq_true rfl))).trans ((xAload_n d33_20 rfl).trans ((xGetI 4 (I 11 4) rfl d33_21 zo_33 zfl_3_25 (by decide) rfl rfl (Or.inl (Nat.le_of_ble_eq_true rfl))).trans (xInvS [vI a1, vR 13, vI (I 11 4)] [] d33_24 zo_33 zml_3_34 rfl rfl)))))))
theorem e33_27 {I : Nat → Int → Int} {b : Bool} {S : Nat} {a1 a2 t0 : Int} : zX 33 27 [vR 11, vI a1, vI a2, none] [vI t0] (I, zRs b, 103, S) = if t0 < 0 then if 16 ≤ (I 11 4) then some (none, (I, zRs b, 103, S)) else if 0 ≤ (I 11 4) ∧ (I 11 4) < 16 then if 0 ≤ (I 11 4) ∧ (I 11 4) < 16 then some (none, ((sI (sI (sI I 13 (I 11 4) a1) 14 (I 11 4) a2) 11 4 (wr ((I 11 4) + 1))), zRs b, 103, S)) else none else none else some (none, (I, zRs b, 103, S)) := (xIfLt (t := 34) d33_27 rfl).trans (ziteC ((xIconst d33_34).trans ((xIstore_n d33_35 rfl rfl).trans ((xIload_n d33_36 rfl).trans ((xIfNe (t := 79) d33_37 rfl).trans ((if_pos (by decide)).trans ((xAload_n d33_40 rfl).trans ((xGetI 4 (I 11 4) rfl d33_41 zo_33 zfl_3_25 (by decide) rfl rfl (Or.inl (Nat.le_of_ble_eq_true rfl))).trans ((xBipush d33_44).trans ((xIcmpGe (t := 79) d33_46 rfl).trans (ziteC (xVret d33_79 zret_33) ((xAload_n d33_49 rfl).trans ((xGetR 2 13 d33_50 zo_33 zfl_3_15 rfl rfl rfl (Or.inl (Nat.le_of_ble_eq_true rfl))).trans ((xAload_n d33_53 rfl).trans ((xGetI 4 (I 11 4) rfl d33_54 zo_33 zfl_3_25 (by decide) rfl rfl (Or.inl (Nat.le_of_ble_eq_true rfl))).trans ((xIload_n d33_57 rfl).trans ((xIast (N := 16) d33_58 rfl (Nat.le_of_ble_eq_true rfl) rfl).trans (ziteC ((xAload_n d33_59 rfl).trans ((xGetR 3 14 d33_60 zo_33 zfl_3_18 rfl rfl rfl (Or.inl (Nat.le_of_ble_eq_true rfl))).trans ((xAload_n d33_63 rfl).trans ((xGetI 4 (I 11 4) (sI_p (by decide)) d33_64 zo_33 zfl_3_25 (by decide) rfl rfl (Or.inl (Nat.le_of_ble_eq_true rfl))).trans ((xIload_n d33_67 rfl).trans ((xIast (N := 16) d33_68 rfl (Nat.le_of_ble_eq_true rfl) rfl).trans (ziteC ((xAload_n d33_69 rfl).trans ((xDup d33_70 rfl).trans ((xGetI 4 (I 11 4) ((sI_p (by decide)).trans (sI_p (by decide))) d33_71 zo_33 zfl_3_25 (by decide) rfl rfl (Or.inl (Nat.le_of_ble_eq_true rfl))).trans ((xIconst d33_74).trans ((xIadd d33_75).trans ((xPutI 4 d33_76 zo_33 zfl_3_25 rfl rfl (Nat.le_of_ble_eq_true rfl) (Or.inl rfl)).trans (xVret d33_79 zret_33))))))) rfl))))))) rfl))))))))))))))))) ((xIconst d33_30).trans ((xGoto (t := 35) d33_31 rfl).trans ((xIstore_n d33_35 rfl rfl).trans ((xIload_n d33_36 rfl).trans ((xIfNe (t := 79) d33_37 rfl).trans ((if_neg (by decide)).trans (xVret d33_79 zret_33))))))))
theorem zo_34 : zo 34 = 3 := by decide +kernel
theorem zret_34 : zret 34 = some .int := by decide +kernel
theorem d34_0 : decode (zb 34) 0 = .ok (.iconst 0, 1) := by decide +kernel
theorem d34_1 : decode (zb 34) 1 = .ok (.istore_n 3, 1) := by decide +kernel
theorem d34_2 : decode (zb 34) 2 = .ok (.iload_n 3, 1) := by decide +kernel
theorem d34_3 : decode (zb 34) 3 = .ok (.iload_n 2, 1) := by decide +kernel
theorem d34_4 : decode (zb 34) 4 = .ok (.if_icmp .ge 18, 3) := by decide +kernel
theorem d34_7 : decode (zb 34) 7 = .ok (.aload_n 1, 1) := by decide +kernel
theorem d34_8 : decode (zb 34) 8 = .ok (.iload_n 3, 1) := by decide +kernel
theorem d34_9 : decode (zb 34) 9 = .ok (.iaload, 1) := by decide +kernel
theorem d34_10 : decode (zb 34) 10 = .ok (.iload_n 0, 1) := by decide +kernel
theorem d34_11 : decode (zb 34) 11 = .ok (.if_icmp .ne 5, 3) := by decide +kernel
theorem d34_14 : decode (zb 34) 14 = .ok (.iload_n 3, 1) := by decide +kernel
theorem d34_15 : decode (zb 34) 15 = .ok (.ireturn, 1) := by decide +kernel
theorem d34_16 : decode (zb 34) 16 = .ok (.iinc 3 1, 3) := by decide +kernel
theorem d34_19 : decode (zb 34) 19 = .ok (.goto (-17), 3) := by decide +kernel
theorem d34_22 : decode (zb 34) 22 = .ok (.bipush (-4), 2) := by decide +kernel
theorem d34_24 : decode (zb 34) 24 = .ok (.ireturn, 1) := by decide +kernel
theorem run34 {h : zH} {x0 x2 : Int} {r : Nat} : zrun 34 [vI x0, vR r, vI x2] h = zX 34 0 [vI x0, vR r, vI x2, none] [] h := rfl
theorem e34_0 {I : Nat → Int → Int} {b : Bool} {S : Nat} {x0 x2 : Int} {N : Nat} {r : Nat} (hr : zkd r = (1, N) ∧ r ≤ 103) : zX 34 0 [vI x0, vR r, vI x2, none] [] (I, zRs b, 103, S) = zX 34 2 [vI x0, vR r, vI x2, vI 0] [] (I, zRs b, 103, S) := (xIconst d34_0).trans (xIstore_n d34_1 rfl rfl)
theorem e34_2 {I : Nat → Int → Int} {b : Bool} {S : Nat} {a0 a2 a3 : Int} {N : Nat} {r : Nat} (hr : zkd r = (1, N) ∧ r ≤ 103) : zX 34 2 [vI a0, vR r, vI a2, vI a3] [] (I, zRs b, 103, S) = if a2 ≤ a3 then some (some (vI (-4)), (I, zRs b, 103, S)) else if 0 ≤ a3 ∧ a3 < (N : Int) then if (I r a3) = a0 then some (some (vI a3), (I, zRs b, 103, S)) else zX 34 2 [vI a0, vR r, vI a2, vI (wr (a3 + 1))] [] (I, zRs b, 103, S) else none := (xIload_n d34_2 rfl).trans ((xIload_n d34_3 rfl).trans ((xIcmpGe (t := 22) d34_4 rfl).trans (ziteC ((xBipush d34_22).trans (xIret d34_24 zret_34)) ((xAload_n d34_7 rfl).trans ((xIload_n d34_8 rfl).trans ((xIald (N := (N : Int)) (I r a3) rfl d34_9 (by rw [hr.1]) (Or.inl hr.2) (zal_of hr.1 hr.2)).trans (ziteC ((xIload_n d34_10 rfl).trans ((xIcmpNe (t := 16) d34_11 rfl).trans (ziteC ((xIload_n d34_14 rfl).trans (xIret d34_15 zret_34)) ((xIinc d34_16 rfl rfl rfl).trans (xGoto (t := 2) d34_19 rfl))))) rfl)))))))
