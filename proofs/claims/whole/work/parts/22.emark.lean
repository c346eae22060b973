theorem zo_21 : zo 21 = 2 := by decide +kernel
theorem zret_21 : zret 21 = none := by decide +kernel
theorem d21_0 : decode (zb 21) 0 = .ok (.aload_n 0, 1) := by decide +kernel
theorem d21_1 : decode (zb 21) 1 = .ok (.iconst 0, 1) := by decide +kernel
theorem d21_2 : decode (zb 21) 2 = .ok (.putfield 18, 3) := by decide +kernel
theorem d21_5 : decode (zb 21) 5 = .ok (.return_, 1) := by decide +kernel
theorem run21 {h : zH} : zrun 21 [vR 15] h = zX 21 0 [vR 15] [] h := rfl
theorem e21_0 {I : Nat → Int → Int} {b : Bool} {S : Nat} : zX 21 0 [vR 15] [] (I, zRs b, 103, S) = some (none, ((sI I 15 2 0), zRs b, 103, S)) := (xAload_n d21_0 rfl).trans ((xIconst d21_1).trans ((xPutI 2 d21_2 zo_21 zfl_2_18 rfl rfl (Nat.le_of_ble_eq_true rfl) (Or.inl rfl)).trans (xVret d21_5 zret_21)))
theorem zo_22 : zo 22 = 2 := by decide +kernel
theorem zret_22 : zret 22 = none := by decide +kernel
theorem d22_0 : decode (zb 22) 0 = .ok (.aload_n 0, 1) := by decide +kernel
theorem d22_1 : decode (zb 22) 1 = .ok (.aload_n 1, 1) := by decide +kernel
theorem d22_2 : decode (zb 22) 2 = .ok (.getfield 18, 3) := by decide +kernel
theorem d22_5 : decode (zb 22) 5 = .ok (.putfield 18, 3) := by decide +kernel
theorem d22_8 : decode (zb 22) 8 = .ok (.aload_n 1, 1) := by decide +kernel
theorem d22_9 : decode (zb 22) 9 = .ok (.getfield 9, 3) := by decide +kernel
theorem d22_12 : decode (zb 22) 12 = .ok (.iconst 0, 1) := by decide +kernel
theorem d22_13 : decode (zb 22) 13 = .ok (.aload_n 0, 1) := by decide +kernel
theorem d22_14 : decode (zb 22) 14 = .ok (.getfield 9, 3) := by decide +kernel
theorem d22_17 : decode (zb 22) 17 = .ok (.iconst 0, 1) := by decide +kernel
theorem d22_18 : decode (zb 22) 18 = .ok (.bipush 40, 2) := by decide +kernel
theorem d22_20 : decode (zb 22) 20 = .ok (.invokestatic 22, 3) := by decide +kernel
theorem d22_23 : decode (zb 22) 23 = .ok (.aload_n 1, 1) := by decide +kernel
theorem d22_24 : decode (zb 22) 24 = .ok (.getfield 15, 3) := by decide +kernel
theorem d22_27 : decode (zb 22) 27 = .ok (.iconst 0, 1) := by decide +kernel
theorem d22_28 : decode (zb 22) 28 = .ok (.aload_n 0, 1) := by decide +kernel
theorem d22_29 : decode (zb 22) 29 = .ok (.getfield 15, 3) := by decide +kernel
theorem d22_32 : decode (zb 22) 32 = .ok (.iconst 0, 1) := by decide +kernel
theorem d22_33 : decode (zb 22) 33 = .ok (.bipush 40, 2) := by decide +kernel
theorem d22_35 : decode (zb 22) 35 = .ok (.invokestatic 22, 3) := by decide +kernel
theorem d22_38 : decode (zb 22) 38 = .ok (.return_, 1) := by decide +kernel
theorem run22 {h : zH} {k k2 : Nat} : zrun 22 [vR k, vR k2] h = zX 22 0 [vR k, vR k2] [] h := rfl
theorem e22_0 {I : Nat → Int → Int} {b : Bool} {S : Nat} {k : Nat} (hk : isMk k) {k2 : Nat} (hk2 : isMk k2) : zX 22 0 [vR k, vR k2] [] (I, zRs b, 103, S) = some (none, ((zcpy (zcpy (sI I k 2 (I k2 2)) (k2 + 1) 0 (k + 1) 0 40) (k2 + 2) 0 (k + 2) 0 40), zRs b, 103, S)) := (xAload_n d22_0 rfl).trans ((xAload_n d22_1 rfl).trans ((xGetI 2 (I k2 2) rfl d22_2 zo_22 zfl_2_18 (by decide) rfl (isMk_k hk2) (Or.inl (isMk_n hk2))).trans ((xPutI 2 d22_5 zo_22 zfl_2_18 rfl (isMk_k hk) (isMk_n hk) (Or.inl rfl)).trans ((xAload_n d22_8 rfl).trans ((xGetR 0 (k2 + 1) d22_9 zo_22 zfl_2_9 rfl (isMk_r0 hk2) (isMk_k hk2) (Or.inl (isMk_n hk2))).trans ((xIconst d22_12).trans ((xAload_n d22_13 rfl).trans ((xGetR 0 (k + 1) d22_14 zo_22 zfl_2_9 rfl (isMk_r0 hk) (isMk_k hk) (Or.inl (isMk_n hk))).trans ((xIconst d22_17).trans ((xBipush d22_18).trans ((xCopy (N := 40) (M := 40) d22_20 zo_22 zml_2_22 (by rw [(isMk_k1 hk)]) (isMk_n1 hk) (by rw [(isMk_k1 hk2)]) (isMk_n1 hk2) (by rw [(isMk_k1 hk)]; rfl) (by rw [(isMk_k1 hk2)]; rfl) rfl (by decide)).trans ((xAload_n d22_23 rfl).trans ((xGetR 1 (k2 + 2) d22_24 zo_22 zfl_2_15 rfl (isMk_r1 hk2) (isMk_k hk2) (Or.inl (isMk_n hk2))).trans ((xIconst d22_27).trans ((xAload_n d22_28 rfl).trans ((xGetR 1 (k + 2) d22_29 zo_22 zfl_2_15 rfl (isMk_r1 hk) (isMk_k hk) (Or.inl (isMk_n hk))).trans ((xIconst d22_32).trans ((xBipush d22_33).trans ((xCopy (N := 40) (M := 40) d22_35 zo_22 zml_2_22 (by rw [(isMk_k2 hk)]) (isMk_n2 hk) (by rw [(isMk_k2 hk2)]) (isMk_n2 hk2) (by rw [(isMk_k2 hk)]; rfl) (by rw [(isMk_k2 hk2)]; rfl) rfl (by decide)).trans (xVret d22_38 zret_22))))))))))))))))))))
theorem zo_23 : zo 23 = 2 := by decide +kernel
theorem zret_23 : zret 23 = none := by decide +kernel
theorem d23_0 : decode (zb 23) 0 = .ok (.aload_n 0, 1) := by decide +kernel
theorem d23_1 : decode (zb 23) 1 = .ok (.getfield 18, 3) := by decide +kernel
theorem d23_4 : decode (zb 23) 4 = .ok (.bipush 40, 2) := by decide +kernel
theorem d23_6 : decode (zb 23) 6 = .ok (.invokestatic 28, 3) := by decide +kernel
theorem d23_9 : decode (zb 23) 9 = .ok (.istore_n 3, 1) := by decide +kernel
theorem d23_10 : decode (zb 23) 10 = .ok (.aload_n 0, 1) := by decide +kernel
theorem d23_11 : decode (zb 23) 11 = .ok (.getfield 9, 3) := by decide +kernel
theorem d23_14 : decode (zb 23) 14 = .ok (.iload_n 3, 1) := by decide +kernel
theorem d23_15 : decode (zb 23) 15 = .ok (.iload_n 1, 1) := by decide +kernel
theorem d23_16 : decode (zb 23) 16 = .ok (.iastore, 1) := by decide +kernel
theorem d23_17 : decode (zb 23) 17 = .ok (.aload_n 0, 1) := by decide +kernel
theorem d23_18 : decode (zb 23) 18 = .ok (.getfield 15, 3) := by decide +kernel
theorem d23_21 : decode (zb 23) 21 = .ok (.iload_n 3, 1) := by decide +kernel
theorem d23_22 : decode (zb 23) 22 = .ok (.iload_n 2, 1) := by decide +kernel
theorem d23_23 : decode (zb 23) 23 = .ok (.iastore, 1) := by decide +kernel
theorem d23_24 : decode (zb 23) 24 = .ok (.aload_n 0, 1) := by decide +kernel
theorem d23_25 : decode (zb 23) 25 = .ok (.dup, 1) := by decide +kernel
theorem d23_26 : decode (zb 23) 26 = .ok (.getfield 18, 3) := by decide +kernel
theorem d23_29 : decode (zb 23) 29 = .ok (.iconst 1, 1) := by decide +kernel
theorem d23_30 : decode (zb 23) 30 = .ok (.iadd, 1) := by decide +kernel
theorem d23_31 : decode (zb 23) 31 = .ok (.putfield 18, 3) := by decide +kernel
theorem d23_34 : decode (zb 23) 34 = .ok (.return_, 1) := by decide +kernel
theorem run23 {h : zH} {x0 x1 : Int} : zrun 23 [vR 15, vI x0, vI x1] h = zX 23 0 [vR 15, vI x0, vI x1, none] [] h := rfl
theorem e23_0 {I : Nat → Int → Int} {b : Bool} {S : Nat} {x0 x1 : Int} : zX 23 0 [vR 15, vI x0, vI x1, none] [] (I, zRs b, 103, S) = (zrun 208 [vI (I 15 2), vI 40] (I, zRs b, 103, S)).bind (fun q => zX 23 9 [vR 15, vI x0, vI x1, none] (zpush q.1 []) q.2) := (xAload_n d23_0 rfl).trans ((xGetI 2 (I 15 2) rfl d23_1 zo_23 zfl_2_18 (by decide) rfl rfl (Or.inl (Nat.le_of_ble_eq_true rfl))).trans ((xBipush d23_4).trans (xInvS [vI (I 15 2), vI 40] [] d23_6 zo_23 zml_2_28 rfl rfl)))
theorem e23_9 {I : Nat → Int → Int} {b : Bool} {S : Nat} {a1 a2 t0 : Int} : zX 23 9 [vR 15, vI a1, vI a2, none] [vI t0] (I, zRs b, 103, S) = if 0 ≤ t0 ∧ t0 < 40 then if 0 ≤ t0 ∧ t0 < 40 then some (none, ((sI (sI (sI I 16 t0 a1) 17 t0 a2) 15 2 (wr ((I 15 2) + 1))), zRs b, 103, S)) else none else none := (xIstore_n d23_9 rfl rfl).trans ((xAload_n d23_10 rfl).trans ((xGetR 0 16 d23_11 zo_23 zfl_2_9 rfl rfl rfl (Or.inl (Nat.le_of_ble_eq_true rfl))).trans ((xIload_n d23_14 rfl).trans ((xIload_n d23_15 rfl).trans ((xIast (N := 40) d23_16 rfl (Nat.le_of_ble_eq_true rfl) rfl).trans (ziteC ((xAload_n d23_17 rfl).trans ((xGetR 1 17 d23_18 zo_23 zfl_2_15 rfl rfl rfl (Or.inl (Nat.le_of_ble_eq_true rfl))).trans ((xIload_n d23_21 rfl).trans ((xIload_n d23_22 rfl).trans ((xIast (N := 40) d23_23 rfl (Nat.le_of_ble_eq_true rfl) rfl).trans (ziteC ((xAload_n d23_24 rfl).trans ((xDup d23_25 rfl).trans ((xGetI 2 (I 15 2) ((sI_p (by decide)).trans (sI_p (by decide))) d23_26 zo_23 zfl_2_18 (by decide) rfl rfl (Or.inl (Nat.le_of_ble_eq_true rfl))).trans ((xIconst d23_29).trans ((xIadd d23_30).trans ((xPutI 2 d23_31 zo_23 zfl_2_18 rfl rfl (Nat.le_of_ble_eq_true rfl) (Or.inl rfl)).trans (xVret d23_34 zret_23))))))) rfl)))))) rfl))))))
theorem zo_24 : zo 24 = 2 := by decide +kernel
theorem zret_24 : zret 24 = some .int := by decide +kernel
theorem d24_0 : decode (zb 24) 0 = .ok (.aload_n 0, 1) := by decide +kernel
theorem d24_1 : decode (zb 24) 1 = .ok (.getfield 18, 3) := by decide +kernel
theorem d24_4 : decode (zb 24) 4 = .ok (.bipush 40, 2) := by decide +kernel
theorem d24_6 : decode (zb 24) 6 = .ok (.invokestatic 34, 3) := by decide +kernel
theorem d24_9 : decode (zb 24) 9 = .ok (.ireturn, 1) := by decide +kernel
theorem run24 {h : zH} : zrun 24 [vR 15] h = zX 24 0 [vR 15] [] h := rfl
theorem e24_0 {I : Nat → Int → Int} {b : Bool} {S : Nat} : zX 24 0 [vR 15] [] (I, zRs b, 103, S) = (zrun 209 [vI (I 15 2), vI 40] (I, zRs b, 103, S)).bind (fun q => zX 24 9 [vR 15] (zpush q.1 []) q.2) := (xAload_n d24_0 rfl).trans ((xGetI 2 (I 15 2) rfl d24_1 zo_24 zfl_2_18 (by decide) rfl rfl (Or.inl (Nat.le_of_ble_eq_true rfl))).trans ((xBipush d24_4).trans (xInvS [vI (I 15 2), vI 40] [] d24_6 zo_24 zml_2_34 rfl rfl)))
theorem e24_9 {I : Nat → Int → Int} {b : Bool} {S : Nat} {t0 : Int} : zX 24 9 [vR 15] [vI t0] (I, zRs b, 103, S) = some (some (vI t0), (I, zRs b, 103, S)) := xIret d24_9 zret_24
theorem zo_25 : zo 25 = 2 := by decide +kernel
theorem zret_25 : zret 25 = some .int := by decide +kernel
theorem d25_0 : decode (zb 25) 0 = .ok (.aload_n 0, 1) := by decide +kernel
theorem d25_1 : decode (zb 25) 1 = .ok (.getfield 18, 3) := by decide +kernel
theorem d25_4 : decode (zb 25) 4 = .ok (.aload_n 0, 1) := by decide +kernel
theorem d25_5 : decode (zb 25) 5 = .ok (.invokevirtual 37, 3) := by decide +kernel
theorem d25_8 : decode (zb 25) 8 = .ok (.isub, 1) := by decide +kernel
theorem d25_9 : decode (zb 25) 9 = .ok (.iload_n 1, 1) := by decide +kernel
theorem d25_10 : decode (zb 25) 10 = .ok (.iadd, 1) := by decide +kernel
theorem d25_11 : decode (zb 25) 11 = .ok (.bipush 40, 2) := by decide +kernel
theorem d25_13 : decode (zb 25) 13 = .ok (.invokestatic 28, 3) := by decide +kernel
theorem d25_16 : decode (zb 25) 16 = .ok (.ireturn, 1) := by decide +kernel
theorem run25 {h : zH} {x0 : Int} : zrun 25 [vR 15, vI x0] h = zX 25 0 [vR 15, vI x0] [] h := rfl
theorem e25_0 {I : Nat → Int → Int} {b : Bool} {S : Nat} {x0 : Int} : zX 25 0 [vR 15, vI x0] [] (I, zRs b, 103, S) = (zrun 24 [vR 15] (I, zRs b, 103, S)).bind (fun q => zX 25 8 [vR 15, vI x0] (zpush q.1 [vI (I 15 2)]) q.2) := (xAload_n d25_0 rfl).trans ((xGetI 2 (I 15 2) rfl d25_1 zo_25 zfl_2_18 (by decide) rfl rfl (Or.inl (Nat.le_of_ble_eq_true rfl))).trans ((xAload_n d25_4 rfl).trans (xInvV [vR 15] [vI (I 15 2)] d25_5 zo_25 zml_2_37 rfl rfl rfl (Or.inl ⟨rfl, (Nat.le_of_ble_eq_true rfl)⟩))))
theorem e25_8 {I : Nat → Int → Int} {b : Bool} {S : Nat} {a1 t0 t1 : Int} : zX 25 8 [vR 15, vI a1] [vI t1, vI t0] (I, zRs b, 103, S) = (zrun 208 [vI (wr ((wr (t0 - t1)) + a1)), vI 40] (I, zRs b, 103, S)).bind (fun q => zX 25 16 [vR 15, vI a1] (zpush q.1 []) q.2) := (xIsub d25_8).trans ((xIload_n d25_9 rfl).trans ((xIadd d25_10).trans ((xBipush d25_11).trans (xInvS [vI (wr ((wr (t0 - t1)) + a1)), vI 40] [] d25_13 zo_25 zml_2_28 rfl rfl))))
theorem e25_16 {I : Nat → Int → Int} {b : Bool} {S : Nat} {a1 t0 : Int} : zX 25 16 [vR 15, vI a1] [vI t0] (I, zRs b, 103, S) = some (some (vI t0), (I, zRs b, 103, S)) := xIret d25_16 zret_25
