theorem zo_36 : zo 36 = 4 := by decide +kernel
theorem zret_36 : zret 36 = none := by decide +kernel
theorem d36_0 : decode (zb 36) 0 = .ok (.aload_n 0, 1) := by decide +kernel
theorem d36_1 : decode (zb 36) 1 = .ok (.getfield 12, 3) := by decide +kernel
theorem d36_4 : decode (zb 36) 4 = .ok (.invokevirtual 50, 3) := by decide +kernel
theorem d36_7 : decode (zb 36) 7 = .ok (.aload_n 0, 1) := by decide +kernel
theorem d36_8 : decode (zb 36) 8 = .ok (.getfield 21, 3) := by decide +kernel
theorem d36_11 : decode (zb 36) 11 = .ok (.invokevirtual 53, 3) := by decide +kernel
theorem d36_14 : decode (zb 36) 14 = .ok (.aload_n 0, 1) := by decide +kernel
theorem d36_15 : decode (zb 36) 15 = .ok (.getfield 28, 3) := by decide +kernel
theorem d36_18 : decode (zb 36) 18 = .ok (.invokevirtual 54, 3) := by decide +kernel
theorem d36_21 : decode (zb 36) 21 = .ok (.aload_n 0, 1) := by decide +kernel
theorem d36_22 : decode (zb 36) 22 = .ok (.iconst 0, 1) := by decide +kernel
theorem d36_23 : decode (zb 36) 23 = .ok (.putfield 55, 3) := by decide +kernel
theorem d36_26 : decode (zb 36) 26 = .ok (.aload_n 0, 1) := by decide +kernel
theorem d36_27 : decode (zb 36) 27 = .ok (.iconst 0, 1) := by decide +kernel
theorem d36_28 : decode (zb 36) 28 = .ok (.putfield 59, 3) := by decide +kernel
theorem d36_31 : decode (zb 36) 31 = .ok (.aload_n 0, 1) := by decide +kernel
theorem d36_32 : decode (zb 36) 32 = .ok (.iconst 0, 1) := by decide +kernel
theorem d36_33 : decode (zb 36) 33 = .ok (.putfield 62, 3) := by decide +kernel
theorem d36_36 : decode (zb 36) 36 = .ok (.aload_n 0, 1) := by decide +kernel
theorem d36_37 : decode (zb 36) 37 = .ok (.iconst 0, 1) := by decide +kernel
theorem d36_38 : decode (zb 36) 38 = .ok (.putfield 65, 3) := by decide +kernel
theorem d36_41 : decode (zb 36) 41 = .ok (.aload_n 0, 1) := by decide +kernel
theorem d36_42 : decode (zb 36) 42 = .ok (.getfield 12, 3) := by decide +kernel
theorem d36_45 : decode (zb 36) 45 = .ok (.aload_n 1, 1) := by decide +kernel
theorem d36_46 : decode (zb 36) 46 = .ok (.iconst 0, 1) := by decide +kernel
theorem d36_47 : decode (zb 36) 47 = .ok (.aload_n 0, 1) := by decide +kernel
theorem d36_48 : decode (zb 36) 48 = .ok (.getfield 28, 3) := by decide +kernel
theorem d36_51 : decode (zb 36) 51 = .ok (.aload_n 0, 1) := by decide +kernel
theorem d36_52 : decode (zb 36) 52 = .ok (.getfield 62, 3) := by decide +kernel
theorem d36_55 : decode (zb 36) 55 = .ok (.invokevirtual 68, 3) := by decide +kernel
theorem d36_58 : decode (zb 36) 58 = .ok (.return_, 1) := by decide +kernel
theorem run36 {h : zH} {g : Nat} : zrun 36 [vR 8, vR g] h = zX 36 0 [vR 8, vR g] [] h := rfl
theorem e36_0 {I : Nat → Int → Int} {b : Bool} {S : Nat} {g : Nat} (hg : isProg g) : zX 36 0 [vR 8, vR g] [] (I, zRs b, 103, S) = (zrun 1 [vR 9] (I, zRs b, 103, S)).bind (fun q => zX 36 7 [vR 8, vR g] (zpush q.1 []) q.2) := (xAload_n d36_0 rfl).trans ((xGetR 0 9 d36_1 zo_36 zfl_4_12 rfl rfl rfl (Or.inl (Nat.le_of_ble_eq_true rfl))).trans (xInvV [vR 9] [] d36_4 zo_36 zml_4_50 rfl rfl rfl (Or.inl ⟨rfl, (Nat.le_of_ble_eq_true rfl)⟩)))
theorem e36_7 {I : Nat → Int → Int} {b : Bool} {S : Nat} {g : Nat} (hg : isProg g) : zX 36 7 [vR 8, vR g] [] (I, zRs b, 103, S) = (zrun 27 [vR 11] (I, zRs b, 103, S)).bind (fun q => zX 36 14 [vR 8, vR g] (zpush q.1 []) q.2) := (xAload_n d36_7 rfl).trans ((xGetR 1 11 d36_8 zo_36 zfl_4_21 rfl rfl rfl (Or.inl (Nat.le_of_ble_eq_true rfl))).trans (xInvV [vR 11] [] d36_11 zo_36 zml_4_53 rfl rfl rfl (Or.inl ⟨rfl, (Nat.le_of_ble_eq_true rfl)⟩)))
theorem e36_14 {I : Nat → Int → Int} {b : Bool} {S : Nat} {g : Nat} (hg : isProg g) : zX 36 14 [vR 8, vR g] [] (I, zRs b, 103, S) = (zrun 21 [vR 15] (I, zRs b, 103, S)).bind (fun q => zX 36 21 [vR 8, vR g] (zpush q.1 []) q.2) := (xAload_n d36_14 rfl).trans ((xGetR 2 15 d36_15 zo_36 zfl_4_28 rfl rfl rfl (Or.inl (Nat.le_of_ble_eq_true rfl))).trans (xInvV [vR 15] [] d36_18 zo_36 zml_4_54 rfl rfl rfl (Or.inl ⟨rfl, (Nat.le_of_ble_eq_true rfl)⟩)))
theorem e36_21 {I : Nat → Int → Int} {b : Bool} {S : Nat} {g : Nat} (hg : isProg g) : zX 36 21 [vR 8, vR g] [] (I, zRs b, 103, S) = (zrun 9 [vR 9, vR g, vI 0, vR 15, vI 0] ((sI (sI (sI (sI I 8 5 0) 8 6 0) 8 7 0) 8 8 0), zRs b, 103, S)).bind (fun q => zX 36 58 [vR 8, vR g] (zpush q.1 []) q.2) := (xAload_n d36_21 rfl).trans ((xIconst d36_22).trans ((xPutI 5 d36_23 zo_36 zfl_4_55 rfl rfl (Nat.le_of_ble_eq_true rfl) (Or.inl rfl)).trans ((xAload_n d36_26 rfl).trans ((xIconst d36_27).trans ((xPutI 6 d36_28 zo_36 zfl_4_59 rfl rfl (Nat.le_of_ble_eq_true rfl) (Or.inl rfl)).trans ((xAload_n d36_31 rfl).trans ((xIconst d36_32).trans ((xPutI 7 d36_33 zo_36 zfl_4_62 rfl rfl (Nat.le_of_ble_eq_true rfl) (Or.inl rfl)).trans ((xAload_n d36_36 rfl).trans ((xIconst d36_37).trans ((xPutI 8 d36_38 zo_36 zfl_4_65 rfl rfl (Nat.le_of_ble_eq_true rfl) (Or.inl rfl)).trans ((xAload_n d36_41 rfl).trans ((xGetR 0 9 d36_42 zo_36 zfl_4_12 rfl rfl rfl (Or.inl (Nat.le_of_ble_eq_true rfl))).trans ((xAload_n d36_45 rfl).trans ((xIconst d36_46).trans ((xAload_n d36_47 rfl).trans ((xGetR 2 15 d36_48 zo_36 zfl_4_28 rfl rfl rfl (Or.inl (Nat.le_of_ble_eq_true rfl))).trans ((xAload_n d36_51 rfl).trans ((xGetI 7 0 ((sI_k (by decide)).trans sI_s) d36_52 zo_36 zfl_4_62 (by decide) rfl rfl (Or.inl (Nat.le_of_ble_eq_true rfl))).trans (xInvV [vR 9, vR g, vI 0, vR 15, vI 0] [] d36_55 zo_36 zml_4_68 rfl rfl rfl (Or.inl ⟨rfl, (Nat.le_of_ble_eq_true rfl)⟩)))))))))))))))))))))
theorem e36_58 {I : Nat → Int → Int} {b : Bool} {S : Nat} {g : Nat} (hg : isProg g) : zX 36 58 [vR 8, vR g] [] (I, zRs b, 103, S) = some (none, (I, zRs b, 103, S)) := xVret d36_58 zret_36
theorem zo_37 : zo 37 = 4 := by decide +kernel
theorem zret_37 : zret 37 = none := by decide +kernel
theorem d37_0 : decode (zb 37) 0 = .ok (.aload_n 0, 1) := by decide +kernel
theorem d37_1 : decode (zb 37) 1 = .ok (.getfield 12, 3) := by decide +kernel
theorem d37_4 : decode (zb 37) 4 = .ok (.aload_n 1, 1) := by decide +kernel
theorem d37_5 : decode (zb 37) 5 = .ok (.getfield 12, 3) := by decide +kernel
theorem d37_8 : decode (zb 37) 8 = .ok (.invokevirtual 72, 3) := by decide +kernel
theorem d37_11 : decode (zb 37) 11 = .ok (.aload_n 0, 1) := by decide +kernel
theorem d37_12 : decode (zb 37) 12 = .ok (.getfield 21, 3) := by decide +kernel
theorem d37_15 : decode (zb 37) 15 = .ok (.aload_n 1, 1) := by decide +kernel
theorem d37_16 : decode (zb 37) 16 = .ok (.getfield 21, 3) := by decide +kernel
theorem d37_19 : decode (zb 37) 19 = .ok (.invokevirtual 76, 3) := by decide +kernel
theorem d37_22 : decode (zb 37) 22 = .ok (.aload_n 0, 1) := by decide +kernel
theorem d37_23 : decode (zb 37) 23 = .ok (.getfield 28, 3) := by decide +kernel
theorem d37_26 : decode (zb 37) 26 = .ok (.aload_n 1, 1) := by decide +kernel
theorem d37_27 : decode (zb 37) 27 = .ok (.getfield 28, 3) := by decide +kernel
theorem d37_30 : decode (zb 37) 30 = .ok (.invokevirtual 79, 3) := by decide +kernel
theorem d37_33 : decode (zb 37) 33 = .ok (.aload_n 1, 1) := by decide +kernel
theorem d37_34 : decode (zb 37) 34 = .ok (.getfield 32, 3) := by decide +kernel
theorem d37_37 : decode (zb 37) 37 = .ok (.iconst 0, 1) := by decide +kernel
theorem d37_38 : decode (zb 37) 38 = .ok (.aload_n 0, 1) := by decide +kernel
theorem d37_39 : decode (zb 37) 39 = .ok (.getfield 32, 3) := by decide +kernel
theorem d37_42 : decode (zb 37) 42 = .ok (.iconst 0, 1) := by decide +kernel
theorem d37_43 : decode (zb 37) 43 = .ok (.sipush 200, 3) := by decide +kernel
theorem d37_46 : decode (zb 37) 46 = .ok (.invokestatic 82, 3) := by decide +kernel
theorem d37_49 : decode (zb 37) 49 = .ok (.aload_n 1, 1) := by decide +kernel
theorem d37_50 : decode (zb 37) 50 = .ok (.getfield 44, 3) := by decide +kernel
theorem d37_53 : decode (zb 37) 53 = .ok (.iconst 0, 1) := by decide +kernel
theorem d37_54 : decode (zb 37) 54 = .ok (.aload_n 0, 1) := by decide +kernel
theorem d37_55 : decode (zb 37) 55 = .ok (.getfield 44, 3) := by decide +kernel
theorem d37_58 : decode (zb 37) 58 = .ok (.iconst 0, 1) := by decide +kernel
theorem d37_59 : decode (zb 37) 59 = .ok (.iconst 5, 1) := by decide +kernel
theorem d37_60 : decode (zb 37) 60 = .ok (.invokestatic 82, 3) := by decide +kernel
theorem d37_63 : decode (zb 37) 63 = .ok (.aload_n 0, 1) := by decide +kernel
theorem d37_64 : decode (zb 37) 64 = .ok (.aload_n 1, 1) := by decide +kernel
theorem d37_65 : decode (zb 37) 65 = .ok (.getfield 55, 3) := by decide +kernel
theorem d37_68 : decode (zb 37) 68 = .ok (.putfield 55, 3) := by decide +kernel
theorem d37_71 : decode (zb 37) 71 = .ok (.aload_n 0, 1) := by decide +kernel
theorem d37_72 : decode (zb 37) 72 = .ok (.aload_n 1, 1) := by decide +kernel
theorem d37_73 : decode (zb 37) 73 = .ok (.getfield 59, 3) := by decide +kernel
theorem d37_76 : decode (zb 37) 76 = .ok (.putfield 59, 3) := by decide +kernel
theorem d37_79 : decode (zb 37) 79 = .ok (.aload_n 0, 1) := by decide +kernel
theorem d37_80 : decode (zb 37) 80 = .ok (.aload_n 1, 1) := by decide +kernel
theorem d37_81 : decode (zb 37) 81 = .ok (.getfield 62, 3) := by decide +kernel
theorem d37_84 : decode (zb 37) 84 = .ok (.putfield 62, 3) := by decide +kernel
theorem d37_87 : decode (zb 37) 87 = .ok (.aload_n 0, 1) := by decide +kernel
theorem d37_88 : decode (zb 37) 88 = .ok (.aload_n 1, 1) := by decide +kernel
theorem d37_89 : decode (zb 37) 89 = .ok (.getfield 65, 3) := by decide +kernel
theorem d37_92 : decode (zb 37) 92 = .ok (.putfield 65, 3) := by decide +kernel
theorem d37_95 : decode (zb 37) 95 = .ok (.return_, 1) := by decide +kernel
theorem run37 {h : zH} {p p2 : Nat} : zrun 37 [vR p, vR p2] h = zX 37 0 [vR p, vR p2] [] h := rfl
theorem e37_0 {I : Nat → Int → Int} {b : Bool} {S : Nat} {p : Nat} (hp : isPl p) {p2 : Nat} (hp2 : isPl p2) : zX 37 0 [vR p, vR p2] [] (I, zRs b, 103, S) = (zrun 2 [vR (p + 1), vR (p2 + 1)] (I, zRs b, 103, S)).bind (fun q => zX 37 11 [vR p, vR p2] (zpush q.1 []) q.2) := (xAload_n d37_0 rfl).trans ((xGetR 0 (p + 1) d37_1 zo_37 zfl_4_12 rfl (isPl_r0 hp) (isPl_k hp) (Or.inl (isPl_n hp))).trans ((xAload_n d37_4 rfl).trans ((xGetR 0 (p2 + 1) d37_5 zo_37 zfl_4_12 rfl (isPl_r0 hp2) (isPl_k hp2) (Or.inl (isPl_n hp2))).trans (xInvV [vR (p + 1), vR (p2 + 1)] [] d37_8 zo_37 zml_4_72 rfl rfl rfl (Or.inl ⟨(isPl_k1 hp), (isPl_n1 hp)⟩)))))
theorem e37_11 {I : Nat → Int → Int} {b : Bool} {S : Nat} {p : Nat} (hp : isPl p) {p2 : Nat} (hp2 : isPl p2) : zX 37 11 [vR p, vR p2] [] (I, zRs b, 103, S) = (zrun 28 [vR (p + 3), vR (p2 + 3)] (I, zRs b, 103, S)).bind (fun q => zX 37 22 [vR p, vR p2] (zpush q.1 []) q.2) := (xAload_n d37_11 rfl).trans ((xGetR 1 (p + 3) d37_12 zo_37 zfl_4_21 rfl (isPl_r1 hp) (isPl_k hp) (Or.inl (isPl_n hp))).trans ((xAload_n d37_15 rfl).trans ((xGetR 1 (p2 + 3) d37_16 zo_37 zfl_4_21 rfl (isPl_r1 hp2) (isPl_k hp2) (Or.inl (isPl_n hp2))).trans (xInvV [vR (p + 3), vR (p2 + 3)] [] d37_19 zo_37 zml_4_76 rfl rfl rfl (Or.inl ⟨(isPl_k3 hp), (isPl_n3 hp)⟩)))))
theorem e37_22 {I : Nat → Int → Int} {b : Bool} {S : Nat} {p : Nat} (hp : isPl p) {p2 : Nat} (hp2 : isPl p2) : zX 37 22 [vR p, vR p2] [] (I, zRs b, 103, S) = (zrun 22 [vR (p + 7), vR (p2 + 7)] (I, zRs b, 103, S)).bind (fun q => zX 37 33 [vR p, vR p2] (zpush q.1 []) q.2) := (xAload_n d37_22 rfl).trans ((xGetR 2 (p + 7) d37_23 zo_37 zfl_4_28 rfl (isPl_r2 hp) (isPl_k hp) (Or.inl (isPl_n hp))).trans ((xAload_n d37_26 rfl).trans ((xGetR 2 (p2 + 7) d37_27 zo_37 zfl_4_28 rfl (isPl_r2 hp2) (isPl_k hp2) (Or.inl (isPl_n hp2))).trans (xInvV [vR (p + 7), vR (p2 + 7)] [] d37_30 zo_37 zml_4_79 rfl rfl rfl (Or.inl ⟨(isPl_k7 hp), (isPl_n7 hp)⟩)))))
theorem e37_33 {I : Nat → Int → Int} {b : Bool} {S : Nat} {p : Nat} (hp : isPl p) {p2 : Nat} (hp2 : isPl p2) : zX 37 33 [vR p, vR p2] [] (I, zRs b, 103, S) = some (none, ((sI (sI (sI (sI (zcpy (zcpy I (p2 + 10) 0 (p + 10) 0 200) (p2 + 11) 0 (p + 11) 0 5) p 5 ((zcpy (zcpy I (p2 + 10) 0 (p + 10) 0 200) (p2 + 11) 0 (p + 11) 0 5) p2 5)) p 6 ((sI (zcpy (zcpy I (p2 + 10) 0 (p + 10) 0 200) (p2 + 11) 0 (p + 11) 0 5) p 5 ((zcpy (zcpy I (p2 + 10) 0 (p + 10) 0 200) (p2 + 11) 0 (p + 11) 0 5) p2 5)) p2 6)) p 7 ((sI (sI (zcpy (zcpy I (p2 + 10) 0 (p + 10) 0 200) (p2 + 11) 0 (p + 11) 0 5) p 5 ((zcpy (zcpy I (p2 + 10) 0 (p + 10) 0 200) (p2 + 11) 0 (p + 11) 0 5) p2 5)) p 6 ((sI (zcpy (zcpy I (p2 + 10) 0 (p + 10) 0 200) (p2 + 11) 0 (p + 11) 0 5) p 5 ((zcpy (zcpy I (p2 + 10) 0 (p + 10) 0 200) (p2 + 11) 0 (p + 11) 0 5) p2 5)) p2 6)) p2 7)) p 8 ((sI (sI (sI (zcpy (zcpy I (p2 + 10) 0 (p + 10) 0 200) (p2 + 11) 0 (p + 11) 0 5) p 5 ((zcpy (zcpy I (p2 + 10) 0 (p + 10) 0 200) (p2 + 11) 0 (p + 11) 0 5) p2 5)) p 6 ((sI (zcpy (zcpy I (p2 + 10) 0 (p + 10) 0 200) (p2 + 11) 0 (p + 11) 0 5) p 5 ((zcpy (zcpy I (p2 + 10) 0 (p + 10) 0 200) (p2 + 11) 0 (p + 11) 0 5) p2 5)) p2 6)) p 7 ((sI (sI (zcpy (zcpy I (p2 + 10) 0 (p + 10) 0 200) (p2 + 11) 0 (p + 11) 0 5) p 5 ((zcpy (zcpy I (p2 + 10) 0 (p + 10) 0 200) (p2 + 11) 0 (p + 11) 0 5) p2 5)) p 6 ((sI (zcpy (zcpy I (p2 + 10) 0 (p + 10) 0 200) (p2 + 11) 0 (p + 11) 0 5) p 5 ((zcpy (zcpy I (p2 + 10) 0 (p + 10) 0 200) (p2 + 11) 0 (p + 11) 0 5) p2 5)) p2 6)) p2 7)) p2 8)), zRs b, 103, S)) := (xAload_n d37_33 rfl).trans ((xGetR 3 (p2 + 10) d37_34 zo_37 zfl_4_32 rfl (isPl_r3 hp2) (isPl_k hp2) (Or.inl (isPl_n hp2))).trans ((xIconst d37_37).trans ((xAload_n d37_38 rfl).trans ((xGetR 3 (p + 10) d37_39 zo_37 zfl_4_32 rfl (isPl_r3 hp) (isPl_k hp) (Or.inl (isPl_n hp))).trans ((xIconst d37_42).trans ((xSipush d37_43).trans ((xCopy (N := 200) (M := 200) d37_46 zo_37 zml_4_82 (by rw [(isPl_k10 hp)]) (isPl_n10 hp) (by rw [(isPl_k10 hp2)]) (isPl_n10 hp2) (by rw [(isPl_k10 hp)]; rfl) (by rw [(isPl_k10 hp2)]; rfl) rfl (by decide)).trans ((xAload_n d37_49 rfl).trans ((xGetR 4 (p2 + 11) d37_50 zo_37 zfl_4_44 rfl (isPl_r4 hp2) (isPl_k hp2) (Or.inl (isPl_n hp2))).trans ((xIconst d37_53).trans ((xAload_n d37_54 rfl).trans ((xGetR 4 (p + 11) d37_55 zo_37 zfl_4_44 rfl (isPl_r4 hp) (isPl_k hp) (Or.inl (isPl_n hp))).trans ((xIconst d37_58).trans ((xIconst d37_59).trans ((xCopy (N := 5) (M := 5) d37_60 zo_37 zml_4_82 (by rw [(isPl_k11 hp)]) (isPl_n11 hp) (by rw [(isPl_k11 hp2)]) (isPl_n11 hp2) (by rw [(isPl_k11 hp)]; rfl) (by rw [(isPl_k11 hp2)]; rfl) rfl (by decide)).trans ((xAload_n d37_63 rfl).trans ((xAload_n d37_64 rfl).trans ((xGetI 5 ((zcpy (zcpy I (p2 + 10) 0 (p + 10) 0 200) (p2 + 11) 0 (p + 11) 0 5) p2 5) rfl d37_65 zo_37 zfl_4_55 (by decide) rfl (isPl_k hp2) (Or.inl (isPl_n hp2))).trans ((xPutI 5 d37_68 zo_37 zfl_4_55 rfl (isPl_k hp) (isPl_n hp) (Or.inl rfl)).trans ((xAload_n d37_71 rfl).trans ((xAload_n d37_72 rfl).trans ((xGetI 6 ((sI (zcpy (zcpy I (p2 + 10) 0 (p + 10) 0 200) (p2 + 11) 0 (p + 11) 0 5) p 5 ((zcpy (zcpy I (p2 + 10) 0 (p + 10) 0 200) (p2 + 11) 0 (p + 11) 0 5) p2 5)) p2 6) rfl d37_73 zo_37 zfl_4_59 (by decide) rfl (isPl_k hp2) (Or.inl (isPl_n hp2))).trans ((xPutI 6 d37_76 zo_37 zfl_4_59 rfl (isPl_k hp) (isPl_n hp) (Or.inl rfl)).trans ((xAload_n d37_79 rfl).trans ((xAload_n d37_80 rfl).trans ((xGetI 7 ((sI (sI (zcpy (zcpy I (p2 + 10) 0 (p + 10) 0 200) (p2 + 11) 0 (p + 11) 0 5) p 5 ((zcpy (zcpy I (p2 + 10) 0 (p + 10) 0 200) (p2 + 11) 0 (p + 11) 0 5) p2 5)) p 6 ((sI (zcpy (zcpy I (p2 + 10) 0 (p + 10) 0 200) (p2 + 11) 0 (p + 11) 0 5) p 5 ((zcpy (zcpy I (p2 + 10) 0 (p + 10) 0 200) (p2 + 11) 0 (p + 11) 0 5) p2 5)) p2 6)) p2 7) rfl d37_81 zo_37 zfl_4_62 (by decide) rfl (isPl_k hp2) (Or.inl (isPl_n hp2))).trans ((xPutI 7 d37_84 zo_37 zfl_4_62 rfl (isPl_k hp) (isPl_n hp) (Or.inl rfl)).trans ((xAload_n d37_87 rfl).trans ((xAload_n d37_88 rfl).trans ((xGetI 8 ((sI (sI (sI (zcpy (zcpy I (p2 + 10) 0 (p + 10) 0 200) (p2 + 11) 0 (p + 11) 0 5) p 5 ((zcpy (zcpy I (p2 + 10) 0 (p + 10) 0 200) (p2 + 11) 0 (p + 11) 0 5) p2 5)) p 6 ((sI (zcpy (zcpy I (p2 + 10) 0 (p + 10) 0 200) (p2 + 11) 0 (p + 11) 0 5) p 5 ((zcpy (zcpy I (p2 + 10) 0 (p + 10) 0 200) (p2 + 11) 0 (p + 11) 0 5) p2 5)) p2 6)) p 7 ((sI (sI (zcpy (zcpy I (p2 + 10) 0 (p + 10) 0 200) (p2 + 11) 0 (p + 11) 0 5) p 5 ((zcpy (zcpy I (p2 + 10) 0 (p + 10) 0 200) (p2 + 11) 0 (p + 11) 0 5) p2 5)) p 6 ((sI (zcpy (zcpy I (p2 + 10) 0 (p + 10) 0 200) (p2 + 11) 0 (p + 11) 0 5) p 5 ((zcpy (zcpy I (p2 + 10) 0 (p + 10) 0 200) (p2 + 11) 0 (p + 11) 0 5) p2 5)) p2 6)) p2 7)) p2 8) rfl d37_89 zo_37 zfl_4_65 (by decide) rfl (isPl_k hp2) (Or.inl (isPl_n hp2))).trans ((xPutI 8 d37_92 zo_37 zfl_4_65 rfl (isPl_k hp) (isPl_n hp) (Or.inl rfl)).trans (xVret d37_95 zret_37))))))))))))))))))))))))))))))))
theorem zo_38 : zo 38 = 4 := by decide +kernel
theorem zret_38 : zret 38 = some .int := by decide +kernel
theorem d38_0 : decode (zb 38) 0 = .ok (.iload_n 1, 1) := by decide +kernel
theorem d38_1 : decode (zb 38) 1 = .ok (.tableswitch 126 0 9 #[55, 63, 71, 76, 81, 86, 91, 99, 107, 115], 55) := by decide +kernel
theorem d38_56 : decode (zb 38) 56 = .ok (.aload_n 0, 1) := by decide +kernel
theorem d38_57 : decode (zb 38) 57 = .ok (.getfield 12, 3) := by decide +kernel
theorem d38_60 : decode (zb 38) 60 = .ok (.getfield 88, 3) := by decide +kernel
theorem d38_63 : decode (zb 38) 63 = .ok (.ireturn, 1) := by decide +kernel
theorem d38_64 : decode (zb 38) 64 = .ok (.aload_n 0, 1) := by decide +kernel
theorem d38_65 : decode (zb 38) 65 = .ok (.getfield 12, 3) := by decide +kernel
theorem d38_68 : decode (zb 38) 68 = .ok (.getfield 91, 3) := by decide +kernel
theorem d38_71 : decode (zb 38) 71 = .ok (.ireturn, 1) := by decide +kernel
theorem d38_72 : decode (zb 38) 72 = .ok (.aload_n 0, 1) := by decide +kernel
theorem d38_73 : decode (zb 38) 73 = .ok (.getfield 62, 3) := by decide +kernel
theorem d38_76 : decode (zb 38) 76 = .ok (.ireturn, 1) := by decide +kernel
theorem d38_77 : decode (zb 38) 77 = .ok (.aload_n 0, 1) := by decide +kernel
theorem d38_78 : decode (zb 38) 78 = .ok (.getfield 65, 3) := by decide +kernel
theorem d38_81 : decode (zb 38) 81 = .ok (.ireturn, 1) := by decide +kernel
theorem d38_82 : decode (zb 38) 82 = .ok (.aload_n 0, 1) := by decide +kernel
theorem d38_83 : decode (zb 38) 83 = .ok (.getfield 55, 3) := by decide +kernel
theorem d38_86 : decode (zb 38) 86 = .ok (.ireturn, 1) := by decide +kernel
theorem d38_87 : decode (zb 38) 87 = .ok (.aload_n 0, 1) := by decide +kernel
theorem d38_88 : decode (zb 38) 88 = .ok (.getfield 59, 3) := by decide +kernel
theorem d38_91 : decode (zb 38) 91 = .ok (.ireturn, 1) := by decide +kernel
theorem d38_92 : decode (zb 38) 92 = .ok (.aload_n 0, 1) := by decide +kernel
theorem d38_93 : decode (zb 38) 93 = .ok (.getfield 28, 3) := by decide +kernel
theorem d38_96 : decode (zb 38) 96 = .ok (.getfield 94, 3) := by decide +kernel
theorem d38_99 : decode (zb 38) 99 = .ok (.ireturn, 1) := by decide +kernel
theorem d38_100 : decode (zb 38) 100 = .ok (.aload_n 0, 1) := by decide +kernel
theorem d38_101 : decode (zb 38) 101 = .ok (.getfield 21, 3) := by decide +kernel
theorem d38_104 : decode (zb 38) 104 = .ok (.getfield 97, 3) := by decide +kernel
theorem d38_107 : decode (zb 38) 107 = .ok (.ireturn, 1) := by decide +kernel
theorem d38_108 : decode (zb 38) 108 = .ok (.aload_n 0, 1) := by decide +kernel
theorem d38_109 : decode (zb 38) 109 = .ok (.getfield 21, 3) := by decide +kernel
theorem d38_112 : decode (zb 38) 112 = .ok (.getfield 100, 3) := by decide +kernel
theorem d38_115 : decode (zb 38) 115 = .ok (.ireturn, 1) := by decide +kernel
theorem d38_116 : decode (zb 38) 116 = .ok (.aload_n 0, 1) := by decide +kernel
theorem d38_117 : decode (zb 38) 117 = .ok (.getfield 12, 3) := by decide +kernel
theorem d38_120 : decode (zb 38) 120 = .ok (.getfield 103, 3) := by decide +kernel
theorem d38_123 : decode (zb 38) 123 = .ok (.invokestatic 106, 3) := by decide +kernel
theorem d38_126 : decode (zb 38) 126 = .ok (.ireturn, 1) := by decide +kernel
theorem d38_127 : decode (zb 38) 127 = .ok (.iconst (-1), 1) := by decide +kernel
theorem d38_128 : decode (zb 38) 128 = .ok (.ireturn, 1) := by decide +kernel
theorem run38 {h : zH} {x0 : Int} : zrun 38 [vR 8, vI x0] h = zX 38 0 [vR 8, vI x0] [] h := rfl
theorem e38_0 {I : Nat → Int → Int} {b : Bool} {S : Nat} {x0 : Int} : zX 38 0 [vR 8, vI x0] [] (I, zRs b, 103, S) = if x0 = 0 then some (some (vI (I 9 0)), (I, zRs b, 103, S)) else if x0 = 1 then some (some (vI (I 9 1)), (I, zRs b, 103, S)) else if x0 = 2 then some (some (vI (I 8 7)), (I, zRs b, 103, S)) else if x0 = 3 then some (some (vI (I 8 8)), (I, zRs b, 103, S)) else if x0 = 4 then some (some (vI (I 8 5)), (I, zRs b, 103, S)) else if x0 = 5 then some (some (vI (I 8 6)), (I, zRs b, 103, S)) else if x0 = 6 then some (some (vI (I 15 2)), (I, zRs b, 103, S)) else if x0 = 7 then some (some (vI (I 11 1)), (I, zRs b, 103, S)) else if x0 = 8 then some (some (vI (I 11 4)), (I, zRs b, 103, S)) else if x0 = 9 then (zrun 207 [vI (I 9 3)] (I, zRs b, 103, S)).bind (fun q => zX 38 126 [vR 8, vI x0] (zpush q.1 []) q.2) else some (some (vI (-1)), (I, zRs b, 103, S)) := (xIload_n d38_0 rfl).trans ((xTab [(0, 56), (1, 64), (2, 72), (3, 77), (4, 82), (5, 87), (6, 92), (7, 100), (8, 108), (9, 116)] 127 d38_1 rfl).trans (ziteC ((xAload_n d38_56 rfl).trans ((xGetR 0 9 d38_57 zo_38 zfl_4_12 rfl rfl rfl (Or.inl (Nat.le_of_ble_eq_true rfl))).trans ((xGetI 0 (I 9 0) rfl d38_60 zo_38 zfl_4_88 (by decide) rfl rfl (Or.inl (Nat.le_of_ble_eq_true rfl))).trans (xIret d38_63 zret_38)))) (ziteC ((xAload_n d38_64 rfl).trans ((xGetR 0 9 d38_65 zo_38 zfl_4_12 rfl rfl rfl (Or.inl (Nat.le_of_ble_eq_true rfl))).trans ((xGetI 1 (I 9 1) rfl d38_68 zo_38 zfl_4_91 (by decide) rfl rfl (Or.inl (Nat.le_of_ble_eq_true rfl))).trans (xIret d38_71 zret_38)))) (ziteC ((xAload_n d38_72 rfl).trans ((xGetI 7 (I 8 7) rfl d38_73 zo_38 zfl_4_62 (by decide) rfl rfl (Or.inl (Nat.le_of_ble_eq_true rfl))).trans (xIret d38_76 zret_38))) (ziteC ((xAload_n d38_77 rfl).trans ((xGetI 8 (I 8 8) rfl d38_78 zo_38 zfl_4_65 (by decide) rfl rfl (Or.inl (Nat.le_of_ble_eq_true rfl))).trans (xIret d38_81 zret_38))) (ziteC ((xAload_n d38_82 rfl).trans ((xGetI 5 (I 8 5) rfl d38_83 zo_38 zfl_4_55 (by decide) rfl rfl (Or.inl (Nat.le_of_ble_eq_true rfl))).trans (xIret d38_86 zret_38))) (ziteC ((xAload_n d38_87 rfl).trans ((xGetI 6 (I 8 6) rfl d38_88 zo_38 zfl_4_59 (by decide) rfl rfl (Or.inl (Nat.le_of_ble_eq_true rfl))).trans (xIret d38_91 zret_38))) (ziteC ((xAload_n d38_92 rfl).trans ((xGetR 2 15 d38_93 zo_38 zfl_4_28 rfl rfl rfl (Or.inl (Nat.le_of_ble_eq_true rfl))).trans ((xGetI 2 (I 15 2) rfl d38_96 zo_38 zfl_4_94 (by decide) rfl rfl (Or.inl (Nat.le_of_ble_eq_true rfl))).trans (xIret d38_99 zret_38)))) (ziteC ((xAload_n d38_100 rfl).trans ((xGetR 1 11 d38_101 zo_38 zfl_4_21 rfl rfl rfl (Or.inl (Nat.le_of_ble_eq_true rfl))).trans ((xGetI 1 (I 11 1) rfl d38_104 zo_38 zfl_4_97 (by decide) rfl rfl (Or.inl (Nat.le_of_ble_eq_true rfl))).trans (xIret d38_107 zret_38)))) (ziteC ((xAload_n d38_108 rfl).trans ((xGetR 1 11 d38_109 zo_38 zfl_4_21 rfl rfl rfl (Or.inl (Nat.le_of_ble_eq_true rfl))).trans ((xGetI 4 (I 11 4) rfl d38_112 zo_38 zfl_4_100 (by decide) rfl rfl (Or.inl (Nat.le_of_ble_eq_true rfl))).trans (xIret d38_115 zret_38)))) (ziteC ((xAload_n d38_116 rfl).trans ((xGetR 0 9 d38_117 zo_38 zfl_4_12 rfl rfl rfl (Or.inl (Nat.le_of_ble_eq_true rfl))).trans ((xGetI 3 (I 9 3) rfl d38_120 zo_38 zfl_4_103 (by decide) rfl rfl (Or.inl (Nat.le_of_ble_eq_true rfl))).trans (xInvS [vI (I 9 3)] [] d38_123 zo_38 zml_4_106 rfl rfl)))) ((xIconst d38_127).trans (xIret d38_128 zret_38)))))))))))))
theorem e38_126 {I : Nat → Int → Int} {b : Bool} {S : Nat} {a1 t0 : Int} : zX 38 126 [vR 8, vI a1] [vI t0] (I, zRs b, 103, S) = some (some (vI t0), (I, zRs b, 103, S)) := xIret d38_126 zret_38
theorem zo_39 : zo 39 = 4 := by decide +kernel
theorem zret_39 : zret 39 = none := by decide +kernel
theorem d39_0 : decode (zb 39) 0 = .ok (.aload_n 0, 1) := by decide +kernel
theorem d39_1 : decode (zb 39) 1 = .ok (.dup, 1) := by decide +kernel
theorem d39_2 : decode (zb 39) 2 = .ok (.getfield 62, 3) := by decide +kernel
theorem d39_5 : decode (zb 39) 5 = .ok (.iconst 1, 1) := by decide +kernel
theorem d39_6 : decode (zb 39) 6 = .ok (.iadd, 1) := by decide +kernel
theorem d39_7 : decode (zb 39) 7 = .ok (.putfield 62, 3) := by decide +kernel
theorem d39_10 : decode (zb 39) 10 = .ok (.aload_n 0, 1) := by decide +kernel
theorem d39_11 : decode (zb 39) 11 = .ok (.getfield 21, 3) := by decide +kernel
theorem d39_14 : decode (zb 39) 14 = .ok (.aload_n 0, 1) := by decide +kernel
theorem d39_15 : decode (zb 39) 15 = .ok (.getfield 62, 3) := by decide +kernel
theorem d39_18 : decode (zb 39) 18 = .ok (.aload_n 0, 1) := by decide +kernel
theorem d39_19 : decode (zb 39) 19 = .ok (.getfield 44, 3) := by decide +kernel
theorem d39_22 : decode (zb 39) 22 = .ok (.iconst 2, 1) := by decide +kernel
theorem d39_23 : decode (zb 39) 23 = .ok (.iaload, 1) := by decide +kernel
theorem d39_24 : decode (zb 39) 24 = .ok (.invokevirtual 112, 3) := by decide +kernel
theorem d39_27 : decode (zb 39) 27 = .ok (.aload_n 0, 1) := by decide +kernel
theorem d39_28 : decode (zb 39) 28 = .ok (.getfield 12, 3) := by decide +kernel
theorem d39_31 : decode (zb 39) 31 = .ok (.invokevirtual 116, 3) := by decide +kernel
theorem d39_34 : decode (zb 39) 34 = .ok (.ifCond .ne 8, 3) := by decide +kernel
theorem d39_37 : decode (zb 39) 37 = .ok (.aload_n 0, 1) := by decide +kernel
theorem d39_38 : decode (zb 39) 38 = .ok (.aload_n 1, 1) := by decide +kernel
theorem d39_39 : decode (zb 39) 39 = .ok (.invokevirtual 120, 3) := by decide +kernel
theorem d39_42 : decode (zb 39) 42 = .ok (.aload_n 0, 1) := by decide +kernel
theorem d39_43 : decode (zb 39) 43 = .ok (.aload_n 1, 1) := by decide +kernel
theorem d39_44 : decode (zb 39) 44 = .ok (.invokevirtual 124, 3) := by decide +kernel
theorem d39_47 : decode (zb 39) 47 = .ok (.return_, 1) := by decide +kernel
theorem run39 {h : zH} {g : Nat} : zrun 39 [vR 8, vR g] h = zX 39 0 [vR 8, vR g] [] h := rfl
theorem e39_0 {I : Nat → Int → Int} {b : Bool} {S : Nat} {g : Nat} (hg : isProg g) : zX 39 0 [vR 8, vR g] [] (I, zRs b, 103, S) = (zrun 31 [vR 11, vI (wr ((I 8 7) + 1)), vI (I 19 2)] ((sI I 8 7 (wr ((I 8 7) + 1))), zRs b, 103, S)).bind (fun q => zX 39 27 [vR 8, vR g] (zpush q.1 []) q.2) := (xAload_n d39_0 rfl).trans ((xDup d39_1 rfl).trans ((xGetI 7 (I 8 7) rfl d39_2 zo_39 zfl_4_62 (by decide) rfl rfl (Or.inl (Nat.le_of_ble_eq_true rfl))).trans ((xIconst d39_5).trans ((xIadd d39_6).trans ((xPutI 7 d39_7 zo_39 zfl_4_62 rfl rfl (Nat.le_of_ble_eq_true rfl) (Or.inl rfl)).trans ((xAload_n d39_10 rfl).trans ((xGetR 1 11 d39_11 zo_39 zfl_4_21 rfl rfl rfl (Or.inl (Nat.le_of_ble_eq_true rfl))).trans ((xAload_n d39_14 rfl).trans ((xGetI 7 (wr ((I 8 7) + 1)) sI_s d39_15 zo_39 zfl_4_62 (by decide) rfl rfl (Or.inl (Nat.le_of_ble_eq_true rfl))).trans ((xAload_n d39_18 rfl).trans ((xGetR 4 19 d39_19 zo_39 zfl_4_44 rfl rfl rfl (Or.inl (Nat.le_of_ble_eq_true rfl))).trans ((xIconst d39_22).trans ((xIald (N := 5) (I 19 2) (sI_p (by decide)) d39_23 rfl (Or.inl (Nat.le_of_ble_eq_true rfl)) rfl).trans ((if_pos (by decide)).trans (xInvV [vR 11, vI (wr ((I 8 7) + 1)), vI (I 19 2)] [] d39_24 zo_39 zml_4_112 rfl rfl rfl (Or.inl ⟨rfl, (Nat.le_of_ble_eq_true rfl)⟩))))))))))))))))
theorem e39_27 {I : Nat → Int → Int} {b : Bool} {S : Nat} {g : Nat} (hg : isProg g) : zX 39 27 [vR 8, vR g] [] (I, zRs b, 103, S) = (zrun 3 [vR 9] (I, zRs b, 103, S)).bind (fun q => zX 39 34 [vR 8, vR g] (zpush q.1 []) q.2) := (xAload_n d39_27 rfl).trans ((xGetR 0 9 d39_28 zo_39 zfl_4_12 rfl rfl rfl (Or.inl (Nat.le_of_ble_eq_true rfl))).trans (xInvV [vR 9] [] d39_31 zo_39 zml_4_116 rfl rfl rfl (Or.inl ⟨rfl, (Nat.le_of_ble_eq_true rfl)⟩)))
theorem e39_34 {I : Nat → Int → Int} {b : Bool} {S : Nat} {t0 : Int} {g : Nat} (hg : isProg g) : zX 39 34 [vR 8, vR g] [vI t0] (I, zRs b, 103, S) = if t0 = 0 then (zrun 40 [vR 8, vR g] (I, zRs b, 103, S)).bind (fun q => zX 39 42 [vR 8, vR g] (zpush q.1 []) q.2) else zX 39 42 [vR 8, vR g] [] (I, zRs b, 103, S) := (xIfNe (t := 42) d39_34 rfl).trans (ziteC ((xAload_n d39_37 rfl).trans ((xAload_n d39_38 rfl).trans (xInvV [vR 8, vR g] [] d39_39 zo_39 zml_4_120 rfl rfl rfl (Or.inl ⟨rfl, (Nat.le_of_ble_eq_true rfl)⟩)))) rfl)
theorem e39_42 {I : Nat → Int → Int} {b : Bool} {S : Nat} {g : Nat} (hg : isProg g) : zX 39 42 [vR 8, vR g] [] (I, zRs b, 103, S) = (zrun 42 [vR 8, vR g] (I, zRs b, 103, S)).bind (fun q => zX 39 47 [vR 8, vR g] (zpush q.1 []) q.2) := (xAload_n d39_42 rfl).trans ((xAload_n d39_43 rfl).trans (xInvV [vR 8, vR g] [] d39_44 zo_39 zml_4_124 rfl rfl rfl (Or.inl ⟨rfl, (Nat.le_of_ble_eq_true rfl)⟩)))
theorem e39_47 {I : Nat → Int → Int} {b : Bool} {S : Nat} {g : Nat} (hg : isProg g) : zX 39 47 [vR 8, vR g] [] (I, zRs b, 103, S) = some (none, (I, zRs b, 103, S)) := xVret d39_47 zret_39
theorem zo_40 : zo 40 = 4 := by decide +kernel
theorem zret_40 : zret 40 = none := by decide +kernel
theorem d40_0 : decode (zb 40) 0 = .ok (.aload_n 0, 1) := by decide +kernel
theorem d40_1 : decode (zb 40) 1 = .ok (.getfield 21, 3) := by decide +kernel
theorem d40_4 : decode (zb 40) 4 = .ok (.aload_n 0, 1) := by decide +kernel
theorem d40_5 : decode (zb 40) 5 = .ok (.getfield 12, 3) := by decide +kernel
theorem d40_8 : decode (zb 40) 8 = .ok (.aload_n 1, 1) := by decide +kernel
theorem d40_9 : decode (zb 40) 9 = .ok (.invokevirtual 127, 3) := by decide +kernel
theorem d40_12 : decode (zb 40) 12 = .ok (.invokevirtual 131, 3) := by decide +kernel
theorem d40_15 : decode (zb 40) 15 = .ok (.ifCond .eq 50, 3) := by decide +kernel
theorem d40_18 : decode (zb 40) 18 = .ok (.aload_n 0, 1) := by decide +kernel
theorem d40_19 : decode (zb 40) 19 = .ok (.aload_n 0, 1) := by decide +kernel
theorem d40_20 : decode (zb 40) 20 = .ok (.getfield 12, 3) := by decide +kernel
theorem d40_23 : decode (zb 40) 23 = .ok (.aload_n 0, 1) := by decide +kernel
theorem d40_24 : decode (zb 40) 24 = .ok (.getfield 44, 3) := by decide +kernel
theorem d40_27 : decode (zb 40) 27 = .ok (.iconst 1, 1) := by decide +kernel
theorem d40_28 : decode (zb 40) 28 = .ok (.iaload, 1) := by decide +kernel
theorem d40_29 : decode (zb 40) 29 = .ok (.aload_n 1, 1) := by decide +kernel
theorem d40_30 : decode (zb 40) 30 = .ok (.invokevirtual 135, 3) := by decide +kernel
theorem d40_33 : decode (zb 40) 33 = .ok (.putfield 65, 3) := by decide +kernel
theorem d40_36 : decode (zb 40) 36 = .ok (.aload_n 0, 1) := by decide +kernel
theorem d40_37 : decode (zb 40) 37 = .ok (.invokevirtual 139, 3) := by decide +kernel
theorem d40_40 : decode (zb 40) 40 = .ok (.aload_n 0, 1) := by decide +kernel
theorem d40_41 : decode (zb 40) 41 = .ok (.getfield 12, 3) := by decide +kernel
theorem d40_44 : decode (zb 40) 44 = .ok (.aload_n 1, 1) := by decide +kernel
theorem d40_45 : decode (zb 40) 45 = .ok (.aload_n 0, 1) := by decide +kernel
theorem d40_46 : decode (zb 40) 46 = .ok (.getfield 44, 3) := by decide +kernel
theorem d40_49 : decode (zb 40) 49 = .ok (.iconst 0, 1) := by decide +kernel
theorem d40_50 : decode (zb 40) 50 = .ok (.iaload, 1) := by decide +kernel
theorem d40_51 : decode (zb 40) 51 = .ok (.aload_n 0, 1) := by decide +kernel
theorem d40_52 : decode (zb 40) 52 = .ok (.getfield 28, 3) := by decide +kernel
theorem d40_55 : decode (zb 40) 55 = .ok (.aload_n 0, 1) := by decide +kernel
theorem d40_56 : decode (zb 40) 56 = .ok (.getfield 62, 3) := by decide +kernel
theorem d40_59 : decode (zb 40) 59 = .ok (.invokevirtual 142, 3) := by decide +kernel
theorem d40_62 : decode (zb 40) 62 = .ok (.goto 17, 3) := by decide +kernel
theorem d40_65 : decode (zb 40) 65 = .ok (.aload_n 0, 1) := by decide +kernel
theorem d40_66 : decode (zb 40) 66 = .ok (.dup, 1) := by decide +kernel
theorem d40_67 : decode (zb 40) 67 = .ok (.getfield 59, 3) := by decide +kernel
theorem d40_70 : decode (zb 40) 70 = .ok (.iconst 1, 1) := by decide +kernel
theorem d40_71 : decode (zb 40) 71 = .ok (.iadd, 1) := by decide +kernel
theorem d40_72 : decode (zb 40) 72 = .ok (.putfield 59, 3) := by decide +kernel
theorem d40_75 : decode (zb 40) 75 = .ok (.aload_n 0, 1) := by decide +kernel
theorem d40_76 : decode (zb 40) 76 = .ok (.invokevirtual 139, 3) := by decide +kernel
theorem d40_79 : decode (zb 40) 79 = .ok (.return_, 1) := by decide +kernel
theorem run40 {h : zH} {g : Nat} : zrun 40 [vR 8, vR g] h = zX 40 0 [vR 8, vR g] [] h := rfl
theorem e40_0 {I : Nat → Int → Int} {b : Bool} {S : Nat} {g : Nat} (hg : isProg g) : zX 40 0 [vR 8, vR g] [] (I, zRs b, 103, S) = (zrun 5 [vR 9, vR g] (I, zRs b, 103, S)).bind (fun q => zX 40 12 [vR 8, vR g] (zpush q.1 [vR 11]) q.2) := (xAload_n d40_0 rfl).trans ((xGetR 1 11 d40_1 zo_40 zfl_4_21 rfl rfl rfl (Or.inl (Nat.le_of_ble_eq_true rfl))).trans ((xAload_n d40_4 rfl).trans ((xGetR 0 9 d40_5 zo_40 zfl_4_12 rfl rfl rfl (Or.inl (Nat.le_of_ble_eq_true rfl))).trans ((xAload_n d40_8 rfl).trans (xInvV [vR 9, vR g] [vR 11] d40_9 zo_40 zml_4_127 rfl rfl rfl (Or.inl ⟨rfl, (Nat.le_of_ble_eq_true rfl)⟩))))))
theorem e40_12 {I : Nat → Int → Int} {b : Bool} {S : Nat} {t1 : Int} {g : Nat} (hg : isProg g) : zX 40 12 [vR 8, vR g] [vI t1, vR 11] (I, zRs b, 103, S) = (zrun 29 [vR 11, vI t1] (I, zRs b, 103, S)).bind (fun q => zX 40 15 [vR 8, vR g] (zpush q.1 []) q.2) := xInvV [vR 11, vI t1] [] d40_12 zo_40 zml_4_131 rfl rfl rfl (Or.inl ⟨rfl, (Nat.le_of_ble_eq_true rfl)⟩)
theorem e40_15 {I : Nat → Int → Int} {b : Bool} {S : Nat} {t0 : Int} {g : Nat} (hg : isProg g) : zX 40 15 [vR 8, vR g] [vI t0] (I, zRs b, 103, S) = if t0 = 0 then (zrun 41 [vR 8] ((sI I 8 6 (wr ((I 8 6) + 1))), zRs b, 103, S)).bind (fun q => zX 40 79 [vR 8, vR g] (zpush q.1 []) q.2) else (zrun 7 [vR 9, vI (I 19 1), vR g] (I, zRs b, 103, S)).bind (fun q => zX 40 33 [vR 8, vR g] (zpush q.1 [vR 8]) q.2) := (xIfEq (t := 65) d40_15 rfl).trans (ziteC ((xAload_n d40_65 rfl).trans ((xDup d40_66 rfl).trans ((xGetI 6 (I 8 6) rfl d40_67 zo_40 zfl_4_59 (by decide) rfl rfl (Or.inl (Nat.le_of_ble_eq_true rfl))).trans ((xIconst d40_70).trans ((xIadd d40_71).trans ((xPutI 6 d40_72 zo_40 zfl_4_59 rfl rfl (Nat.le_of_ble_eq_true rfl) (Or.inl rfl)).trans ((xAload_n d40_75 rfl).trans (xInvV [vR 8] [] d40_76 zo_40 zml_4_139 rfl rfl rfl (Or.inl ⟨rfl, (Nat.le_of_ble_eq_true rfl)⟩))))))))) ((xAload_n d40_18 rfl).trans ((xAload_n d40_19 rfl).trans ((xGetR 0 9 d40_20 zo_40 zfl_4_12 rfl rfl rfl (Or.inl (Nat.le_of_ble_eq_true rfl))).trans ((xAload_n d40_23 rfl).trans ((xGetR 4 19 d40_24 zo_40 zfl_4_44 rfl rfl rfl (Or.inl (Nat.le_of_ble_eq_true rfl))).trans ((xIconst d40_27).trans ((xIald (N := 5) (I 19 1) rfl d40_28 rfl (Or.inl (Nat.le_of_ble_eq_true rfl)) rfl).trans ((if_pos (by decide)).trans ((xAload_n d40_29 rfl).trans (xInvV [vR 9, vI (I 19 1), vR g] [vR 8] d40_30 zo_40 zml_4_135 rfl rfl rfl (Or.inl ⟨rfl, (Nat.le_of_ble_eq_true rfl)⟩))))))))))))
theorem e40_33 {I : Nat → Int → Int} {b : Bool} {S : Nat} {t1 : Int} {g : Nat} (hg : isProg g) : zX 40 33 [vR 8, vR g] [vI t1, vR 8] (I, zRs b, 103, S) = (zrun 41 [vR 8] ((sI I 8 8 t1), zRs b, 103, S)).bind (fun q => zX 40 40 [vR 8, vR g] (zpush q.1 []) q.2) := (xPutI 8 d40_33 zo_40 zfl_4_65 rfl rfl (Nat.le_of_ble_eq_true rfl) (Or.inl rfl)).trans ((xAload_n d40_36 rfl).trans (xInvV [vR 8] [] d40_37 zo_40 zml_4_139 rfl rfl rfl (Or.inl ⟨rfl, (Nat.le_of_ble_eq_true rfl)⟩)))
theorem e40_40 {I : Nat → Int → Int} {b : Bool} {S : Nat} {g : Nat} (hg : isProg g) : zX 40 40 [vR 8, vR g] [] (I, zRs b, 103, S) = (zrun 8 [vR 9, vR g, vI (I 19 0), vR 15, vI (I 8 7)] (I, zRs b, 103, S)).bind (fun q => zX 40 62 [vR 8, vR g] (zpush q.1 []) q.2) := (xAload_n d40_40 rfl).trans ((xGetR 0 9 d40_41 zo_40 zfl_4_12 rfl rfl rfl (Or.inl (Nat.le_of_ble_eq_true rfl))).trans ((xAload_n d40_44 rfl).trans ((xAload_n d40_45 rfl).trans ((xGetR 4 19 d40_46 zo_40 zfl_4_44 rfl rfl rfl (Or.inl (Nat.le_of_ble_eq_true rfl))).trans ((xIconst d40_49).trans ((xIald (N := 5) (I 19 0) rfl d40_50 rfl (Or.inl (Nat.le_of_ble_eq_true rfl)) rfl).trans ((if_pos (by decide)).trans ((xAload_n d40_51 rfl).trans ((xGetR 2 15 d40_52 zo_40 zfl_4_28 rfl rfl rfl (Or.inl (Nat.le_of_ble_eq_true rfl))).trans ((xAload_n d40_55 rfl).trans ((xGetI 7 (I 8 7) rfl d40_56 zo_40 zfl_4_62 (by decide) rfl rfl (Or.inl (Nat.le_of_ble_eq_true rfl))).trans (xInvV [vR 9, vR g, vI (I 19 0), vR 15, vI (I 8 7)] [] d40_59 zo_40 zml_4_142 rfl rfl rfl (Or.inl ⟨rfl, (Nat.le_of_ble_eq_true rfl)⟩)))))))))))))
theorem e40_62 {I : Nat → Int → Int} {b : Bool} {S : Nat} {g : Nat} (hg : isProg g) : zX 40 62 [vR 8, vR g] [] (I, zRs b, 103, S) = zX 40 79 [vR 8, vR g] [] (I, zRs b, 103, S) := xGoto (t := 79) d40_62 rfl
theorem e40_79 {I : Nat → Int → Int} {b : Bool} {S : Nat} {g : Nat} (hg : isProg g) : zX 40 79 [vR 8, vR g] [] (I, zRs b, 103, S) = some (none, (I, zRs b, 103, S)) := xVret d40_79 zret_40
theorem zo_41 : zo 41 = 4 := by decide +kernel
theorem zret_41 : zret 41 = none := by decide +kernel
theorem d41_0 : decode (zb 41) 0 = .ok (.aload_n 0, 1) := by decide +kernel
theorem d41_1 : decode (zb 41) 1 = .ok (.getfield 55, 3) := by decide +kernel
theorem d41_4 : decode (zb 41) 4 = .ok (.sipush 200, 3) := by decide +kernel
theorem d41_7 : decode (zb 41) 7 = .ok (.if_icmp .ge 16, 3) := by decide +kernel
theorem d41_10 : decode (zb 41) 10 = .ok (.aload_n 0, 1) := by decide +kernel
theorem d41_11 : decode (zb 41) 11 = .ok (.getfield 32, 3) := by decide +kernel
theorem d41_14 : decode (zb 41) 14 = .ok (.aload_n 0, 1) := by decide +kernel
theorem d41_15 : decode (zb 41) 15 = .ok (.getfield 55, 3) := by decide +kernel
theorem d41_18 : decode (zb 41) 18 = .ok (.aload_n 0, 1) := by decide +kernel
theorem d41_19 : decode (zb 41) 19 = .ok (.getfield 65, 3) := by decide +kernel
theorem d41_22 : decode (zb 41) 22 = .ok (.iastore, 1) := by decide +kernel
theorem d41_23 : decode (zb 41) 23 = .ok (.aload_n 0, 1) := by decide +kernel
theorem d41_24 : decode (zb 41) 24 = .ok (.dup, 1) := by decide +kernel
theorem d41_25 : decode (zb 41) 25 = .ok (.getfield 55, 3) := by decide +kernel
theorem d41_28 : decode (zb 41) 28 = .ok (.iconst 1, 1) := by decide +kernel
theorem d41_29 : decode (zb 41) 29 = .ok (.iadd, 1) := by decide +kernel
theorem d41_30 : decode (zb 41) 30 = .ok (.putfield 55, 3) := by decide +kernel
theorem d41_33 : decode (zb 41) 33 = .ok (.return_, 1) := by decide +kernel
theorem run41 {h : zH} : zrun 41 [vR 8] h = zX 41 0 [vR 8] [] h := rfl
theorem e41_0 {I : Nat → Int → Int} {b : Bool} {S : Nat} : zX 41 0 [vR 8] [] (I, zRs b, 103, S) = if 200 ≤ (I 8 5) then some (none, ((sI I 8 5 (wr ((I 8 5) + 1))), zRs b, 103, S)) else if 0 ≤ (I 8 5) ∧ (I 8 5) < 200 then some (none, ((sI (sI I 18 (I 8 5) (I 8 8)) 8 5 (wr ((I 8 5) + 1))), zRs b, 103, S)) else none := (xAload_n d41_0 rfl).trans ((xGetI 5 (I 8 5) rfl d41_1 zo_41 zfl_4_55 (by decide) rfl rfl (Or.inl (Nat.le_of_ble_eq_true rfl))).trans ((xSipush d41_4).trans ((xIcmpGe (t := 23) d41_7 rfl).trans (ziteC ((xAload_n d41_23 rfl).trans ((xDup d41_24 rfl).trans ((xGetI 5 (I 8 5) rfl d41_25 zo_41 zfl_4_55 (by decide) rfl rfl (Or.inl (Nat.le_of_ble_eq_true rfl))).trans ((xIconst d41_28).trans ((xIadd d41_29).trans ((xPutI 5 d41_30 zo_41 zfl_4_55 rfl rfl (Nat.le_of_ble_eq_true rfl) (Or.inl rfl)).trans (xVret d41_33 zret_41))))))) ((xAload_n d41_10 rfl).trans ((xGetR 3 18 d41_11 zo_41 zfl_4_32 rfl rfl rfl (Or.inl (Nat.le_of_ble_eq_true rfl))).trans ((xAload_n d41_14 rfl).trans ((xGetI 5 (I 8 5) rfl d41_15 zo_41 zfl_4_55 (by decide) rfl rfl (Or.inl (Nat.le_of_ble_eq_true rfl))).trans ((xAload_n d41_18 rfl).trans ((xGetI 8 (I 8 8) rfl d41_19 zo_41 zfl_4_65 (by decide) rfl rfl (Or.inl (Nat.le_of_ble_eq_true rfl))).trans ((xIast (N := 200) d41_22 rfl (Nat.le_of_ble_eq_true rfl) rfl).trans (ziteC ((xAload_n d41_23 rfl).trans ((xDup d41_24 rfl).trans ((xGetI 5 (I 8 5) (sI_p (by decide)) d41_25 zo_41 zfl_4_55 (by decide) rfl rfl (Or.inl (Nat.le_of_ble_eq_true rfl))).trans ((xIconst d41_28).trans ((xIadd d41_29).trans ((xPutI 5 d41_30 zo_41 zfl_4_55 rfl rfl (Nat.le_of_ble_eq_true rfl) (Or.inl rfl)).trans (xVret d41_33 zret_41))))))) rfl))))))))))))
theorem zo_42 : zo 42 = 4 := by decide +kernel
theorem zret_42 : zret 42 = none := by decide +kernel
theorem d42_0 : decode (zb 42) 0 = .ok (.aload_n 0, 1) := by decide +kernel
theorem d42_1 : decode (zb 42) 1 = .ok (.getfield 21, 3) := by decide +kernel
theorem d42_4 : decode (zb 42) 4 = .ok (.getfield 97, 3) := by decide +kernel
theorem d42_7 : decode (zb 42) 7 = .ok (.aload_n 0, 1) := by decide +kernel
theorem d42_8 : decode (zb 42) 8 = .ok (.getfield 21, 3) := by decide +kernel
theorem d42_11 : decode (zb 42) 11 = .ok (.getfield 100, 3) := by decide +kernel
theorem d42_14 : decode (zb 42) 14 = .ok (.iadd, 1) := by decide +kernel
theorem d42_15 : decode (zb 42) 15 = .ok (.aload_n 1, 1) := by decide +kernel
theorem d42_16 : decode (zb 42) 16 = .ok (.getfield 145, 3) := by decide +kernel
theorem d42_19 : decode (zb 42) 19 = .ok (.invokevirtual 151, 3) := by decide +kernel
theorem d42_22 : decode (zb 42) 22 = .ok (.if_icmp .lt 4, 3) := by decide +kernel
theorem d42_25 : decode (zb 42) 25 = .ok (.return_, 1) := by decide +kernel
theorem d42_26 : decode (zb 42) 26 = .ok (.aload_n 0, 1) := by decide +kernel
theorem d42_27 : decode (zb 42) 27 = .ok (.getfield 62, 3) := by decide +kernel
theorem d42_30 : decode (zb 42) 30 = .ok (.iconst 1, 1) := by decide +kernel
theorem d42_31 : decode (zb 42) 31 = .ok (.iadd, 1) := by decide +kernel
theorem d42_32 : decode (zb 42) 32 = .ok (.aload_n 0, 1) := by decide +kernel
theorem d42_33 : decode (zb 42) 33 = .ok (.getfield 44, 3) := by decide +kernel
theorem d42_36 : decode (zb 42) 36 = .ok (.iconst 3, 1) := by decide +kernel
theorem d42_37 : decode (zb 42) 37 = .ok (.iaload, 1) := by decide +kernel
theorem d42_38 : decode (zb 42) 38 = .ok (.iadd, 1) := by decide +kernel
theorem d42_39 : decode (zb 42) 39 = .ok (.istore_n 2, 1) := by decide +kernel
theorem d42_40 : decode (zb 42) 40 = .ok (.aload_n 0, 1) := by decide +kernel
theorem d42_41 : decode (zb 42) 41 = .ok (.getfield 47, 3) := by decide +kernel
theorem d42_44 : decode (zb 42) 44 = .ok (.aload_n 0, 1) := by decide +kernel
theorem d42_45 : decode (zb 42) 45 = .ok (.getfield 12, 3) := by decide +kernel
theorem d42_48 : decode (zb 42) 48 = .ok (.invokevirtual 72, 3) := by decide +kernel
theorem d42_51 : decode (zb 42) 51 = .ok (.iconst 0, 1) := by decide +kernel
theorem d42_52 : decode (zb 42) 52 = .ok (.istore_n 3, 1) := by decide +kernel
theorem d42_53 : decode (zb 42) 53 = .ok (.iload_n 3, 1) := by decide +kernel
theorem d42_54 : decode (zb 42) 54 = .ok (.aload_n 0, 1) := by decide +kernel
theorem d42_55 : decode (zb 42) 55 = .ok (.getfield 44, 3) := by decide +kernel
theorem d42_58 : decode (zb 42) 58 = .ok (.iconst 4, 1) := by decide +kernel
theorem d42_59 : decode (zb 42) 59 = .ok (.iaload, 1) := by decide +kernel
theorem d42_60 : decode (zb 42) 60 = .ok (.if_icmp .gt 54, 3) := by decide +kernel
theorem d42_63 : decode (zb 42) 63 = .ok (.aload_n 0, 1) := by decide +kernel
theorem d42_64 : decode (zb 42) 64 = .ok (.getfield 47, 3) := by decide +kernel
theorem d42_67 : decode (zb 42) 67 = .ok (.invokevirtual 116, 3) := by decide +kernel
theorem d42_70 : decode (zb 42) 70 = .ok (.ifCond .ne 44, 3) := by decide +kernel
theorem d42_73 : decode (zb 42) 73 = .ok (.aload_n 0, 1) := by decide +kernel
theorem d42_74 : decode (zb 42) 74 = .ok (.getfield 21, 3) := by decide +kernel
theorem d42_77 : decode (zb 42) 77 = .ok (.aload_n 0, 1) := by decide +kernel
theorem d42_78 : decode (zb 42) 78 = .ok (.getfield 47, 3) := by decide +kernel
theorem d42_81 : decode (zb 42) 81 = .ok (.aload_n 1, 1) := by decide +kernel
theorem d42_82 : decode (zb 42) 82 = .ok (.invokevirtual 127, 3) := by decide +kernel
theorem d42_85 : decode (zb 42) 85 = .ok (.iload_n 2, 1) := by decide +kernel
theorem d42_86 : decode (zb 42) 86 = .ok (.invokevirtual 156, 3) := by decide +kernel
theorem d42_89 : decode (zb 42) 89 = .ok (.aload_n 0, 1) := by decide +kernel
theorem d42_90 : decode (zb 42) 90 = .ok (.getfield 47, 3) := by decide +kernel
theorem d42_93 : decode (zb 42) 93 = .ok (.aload_n 1, 1) := by decide +kernel
theorem d42_94 : decode (zb 42) 94 = .ok (.aload_n 0, 1) := by decide +kernel
theorem d42_95 : decode (zb 42) 95 = .ok (.getfield 44, 3) := by decide +kernel
theorem d42_98 : decode (zb 42) 98 = .ok (.iconst 0, 1) := by decide +kernel
theorem d42_99 : decode (zb 42) 99 = .ok (.iaload, 1) := by decide +kernel
theorem d42_100 : decode (zb 42) 100 = .ok (.aconst_null, 1) := by decide +kernel
theorem d42_101 : decode (zb 42) 101 = .ok (.aload_n 0, 1) := by decide +kernel
theorem d42_102 : decode (zb 42) 102 = .ok (.getfield 62, 3) := by decide +kernel
theorem d42_105 : decode (zb 42) 105 = .ok (.invokevirtual 142, 3) := by decide +kernel
theorem d42_108 : decode (zb 42) 108 = .ok (.iinc 3 1, 3) := by decide +kernel
theorem d42_111 : decode (zb 42) 111 = .ok (.goto (-58), 3) := by decide +kernel
theorem d42_114 : decode (zb 42) 114 = .ok (.return_, 1) := by decide +kernel
theorem run42 {h : zH} {g : Nat} : zrun 42 [vR 8, vR g] h = zX 42 0 [vR 8, vR g, none, none] [] h := rfl
theorem e42_0 {I : Nat → Int → Int} {b : Bool} {S : Nat} {g : Nat} (hg : isProg g) : zX 42 0 [vR 8, vR g, none, none] [] (I, zRs b, 103, S) = (zrun 51 [vR (g + 1)] (I, zRs b, 103, S)).bind (fun q => zX 42 22 [vR 8, vR g, none, none] (zpush q.1 [vI (wr ((I 11 1) + (I 11 4)))]) q.2) := (xAload_n d42_0 rfl).trans ((xGetR 1 11 d42_1 zo_42 zfl_4_21 rfl rfl rfl (Or.inl (Nat.le_of_ble_eq_true rfl))).trans ((xGetI 1 (I 11 1) rfl d42_4 zo_42 zfl_4_97 (by decide) rfl rfl (Or.inl (Nat.le_of_ble_eq_true rfl))).trans ((xAload_n d42_7 rfl).trans ((xGetR 1 11 d42_8 zo_42 zfl_4_21 rfl rfl rfl (Or.inl (Nat.le_of_ble_eq_true rfl))).trans ((xGetI 4 (I 11 4) rfl d42_11 zo_42 zfl_4_100 (by decide) rfl rfl (Or.inl (Nat.le_of_ble_eq_true rfl))).trans ((xIadd d42_14).trans ((xAload_n d42_15 rfl).trans ((xGetR 0 (g + 1) d42_16 zo_42 zfl_4_145 rfl (isProg_r0 hg) (isProg_k hg) (Or.inl (isProg_n hg))).trans (xInvV [vR (g + 1)] [vI (wr ((I 11 1) + (I 11 4)))] d42_19 zo_42 zml_4_151 rfl rfl rfl (Or.inl ⟨(isProg_k1 hg), (isProg_n1 hg)⟩))))))))))
theorem e42_22 {I : Nat → Int → Int} {b : Bool} {S : Nat} {t0 t1 : Int} {g : Nat} (hg : isProg g) : zX 42 22 [vR 8, vR g, none, none] [vI t1, vI t0] (I, zRs b, 103, S) = if t0 < t1 then (zrun 2 [vR 20, vR 9] (I, zRs b, 103, S)).bind (fun q => zX 42 51 [vR 8, vR g, vI (wr ((wr ((I 8 7) + 1)) + (I 19 3))), none] (zpush q.1 []) q.2) else some (none, (I, zRs b, 103, S)) := (xIcmpLt (t := 26) d42_22 rfl).trans (ziteC ((xAload_n d42_26 rfl).trans ((xGetI 7 (I 8 7) rfl d42_27 zo_42 zfl_4_62 (by decide) rfl rfl (Or.inl (Nat.le_of_ble_eq_true rfl))).trans ((xIconst d42_30).trans ((xIadd d42_31).trans ((xAload_n d42_32 rfl).trans ((xGetR 4 19 d42_33 zo_42 zfl_4_44 rfl rfl rfl (Or.inl (Nat.le_of_ble_eq_true rfl))).trans ((xIconst d42_36).trans ((xIald (N := 5) (I 19 3) rfl d42_37 rfl (Or.inl (Nat.le_of_ble_eq_true rfl)) rfl).trans ((if_pos (by decide)).trans ((xIadd d42_38).trans ((xIstore_n d42_39 rfl rfl).trans ((xAload_n d42_40 rfl).trans ((xGetR 9 20 d42_41 zo_42 zfl_4_47 rfl rfl rfl (Or.inl (Nat.le_of_ble_eq_true rfl))).trans ((xAload_n d42_44 rfl).trans ((xGetR 0 9 d42_45 zo_42 zfl_4_12 rfl rfl rfl (Or.inl (Nat.le_of_ble_eq_true rfl))).trans (xInvV [vR 20, vR 9] [] d42_48 zo_42 zml_4_72 rfl rfl rfl (Or.inl ⟨rfl, (Nat.le_of_ble_eq_true rfl)⟩))))))))))))))))) (xVret d42_25 zret_42))
theorem e42_51 {I : Nat → Int → Int} {b : Bool} {S : Nat} {a2 : Int} {g : Nat} (hg : isProg g) : zX 42 51 [vR 8, vR g, vI a2, none] [] (I, zRs b, 103, S) = zX 42 53 [vR 8, vR g, vI a2, vI 0] [] (I, zRs b, 103, S) := (xIconst d42_51).trans (xIstore_n d42_52 rfl rfl)
theorem e42_53 {I : Nat → Int → Int} {b : Bool} {S : Nat} {a2 a3 : Int} {g : Nat} (hg : isProg g) : zX 42 53 [vR 8, vR g, vI a2, vI a3] [] (I, zRs b, 103, S) = if (I 19 4) < a3 then some (none, (I, zRs b, 103, S)) else (zrun 3 [vR 20] (I, zRs b, 103, S)).bind (fun q => zX 42 70 [vR 8, vR g, vI a2, vI a3] (zpush q.1 []) q.2) := (xIload_n d42_53 rfl).trans ((xAload_n d42_54 rfl).trans ((xGetR 4 19 d42_55 zo_42 zfl_4_44 rfl rfl rfl (Or.inl (Nat.le_of_ble_eq_true rfl))).trans ((xIconst d42_58).trans ((xIald (N := 5) (I 19 4) rfl d42_59 rfl (Or.inl (Nat.le_of_ble_eq_true rfl)) rfl).trans ((if_pos (by decide)).trans ((xIcmpGt (t := 114) d42_60 rfl).trans (ziteC (xVret d42_114 zret_42) ((xAload_n d42_63 rfl).trans ((xGetR 9 20 d42_64 zo_42 zfl_4_47 rfl rfl rfl (Or.inl (Nat.le_of_ble_eq_true rfl))).trans (xInvV [vR 20] [] d42_67 zo_42 zml_4_116 rfl rfl rfl (Or.inl ⟨rfl, (Nat.le_of_ble_eq_true rfl)⟩)))))))))))
theorem e42_70 {I : Nat → Int → Int} {b : Bool} {S : Nat} {a2 a3 t0 : Int} {g : Nat} (hg : isProg g) : zX 42 70 [vR 8, vR g, vI a2, vI a3] [vI t0] (I, zRs b, 103, S) = if t0 = 0 then (zrun 5 [vR 20, vR g] (I, zRs b, 103, S)).bind (fun q => zX 42 85 [vR 8, vR g, vI a2, vI a3] (zpush q.1 [vR 11]) q.2) else some (none, (I, zRs b, 103, S)) := (xIfNe (t := 114) d42_70 rfl).trans (ziteC ((xAload_n d42_73 rfl).trans ((xGetR 1 11 d42_74 zo_42 zfl_4_21 rfl rfl rfl (Or.inl (Nat.le_of_ble_eq_true rfl))).trans ((xAload_n d42_77 rfl).trans ((xGetR 9 20 d42_78 zo_42 zfl_4_47 rfl rfl rfl (Or.inl (Nat.le_of_ble_eq_true rfl))).trans ((xAload_n d42_81 rfl).trans (xInvV [vR 20, vR g] [vR 11] d42_82 zo_42 zml_4_127 rfl rfl rfl (Or.inl ⟨rfl, (Nat.le_of_ble_eq_true rfl)⟩))))))) (xVret d42_114 zret_42))
theorem e42_85 {I : Nat → Int → Int} {b : Bool} {S : Nat} {a2 a3 t1 : Int} {g : Nat} (hg : isProg g) : zX 42 85 [vR 8, vR g, vI a2, vI a3] [vI t1, vR 11] (I, zRs b, 103, S) = (zrun 33 [vR 11, vI t1, vI a2] (I, zRs b, 103, S)).bind (fun q => zX 42 89 [vR 8, vR g, vI a2, vI a3] (zpush q.1 []) q.2) := (xIload_n d42_85 rfl).trans (xInvV [vR 11, vI t1, vI a2] [] d42_86 zo_42 zml_4_156 rfl rfl rfl (Or.inl ⟨rfl, (Nat.le_of_ble_eq_true rfl)⟩))
theorem e42_89 {I : Nat → Int → Int} {b : Bool} {S : Nat} {a2 a3 : Int} {g : Nat} (hg : isProg g) : zX 42 89 [vR 8, vR g, vI a2, vI a3] [] (I, zRs b, 103, S) = (zrun 8 [vR 20, vR g, vI (I 19 0), vR 0, vI (I 8 7)] (I, zRs b, 103, S)).bind (fun q => zX 42 108 [vR 8, vR g, vI a2, vI a3] (zpush q.1 []) q.2) := (xAload_n d42_89 rfl).trans ((xGetR 9 20 d42_90 zo_42 zfl_4_47 rfl rfl rfl (Or.inl (Nat.le_of_ble_eq_true rfl))).trans ((xAload_n d42_93 rfl).trans ((xAload_n d42_94 rfl).trans ((xGetR 4 19 d42_95 zo_42 zfl_4_44 rfl rfl rfl (Or.inl (Nat.le_of_ble_eq_true rfl))).trans ((xIconst d42_98).trans ((xIald (N := 5) (I 19 0) rfl d42_99 rfl (Or.inl (Nat.le_of_ble_eq_true rfl)) rfl).trans ((if_pos (by decide)).trans ((xNull d42_100).trans ((xAload_n d42_101 rfl).trans ((xGetI 7 (I 8 7) rfl d42_102 zo_42 zfl_4_62 (by decide) rfl rfl (Or.inl (Nat.le_of_ble_eq_true rfl))).trans (xInvV [vR 20, vR g, vI (I 19 0), vR 0, vI (I 8 7)] [] d42_105 zo_42 zml_4_142 rfl rfl rfl (Or.inl ⟨rfl, (Nat.le_of_ble_eq_true rfl)⟩))))))))))))
theorem e42_108 {I : Nat → Int → Int} {b : Bool} {S : Nat} {a2 a3 : Int} {g : Nat} (hg : isProg g) : zX 42 108 [vR 8, vR g, vI a2, vI a3] [] (I, zRs b, 103, S) = zX 42 53 [vR 8, vR g, vI a2, vI (wr (a3 + 1))] [] (I, zRs b, 103, S) := (xIinc d42_108 rfl rfl rfl).trans (xGoto (t := 53) d42_111 rfl)
