theorem zo_70 : zo 70 = 7 := by decide +kernel
theorem zret_70 : zret 70 = some .boolean := by decide +kernel
theorem d70_0 : decode (zb 70) 0 = .ok (.aload_n 1, 1) := by decide +kernel
theorem d70_1 : decode (zb 70) 1 = .ok (.invokevirtual 19, 3) := by decide +kernel
theorem d70_4 : decode (zb 70) 4 = .ok (.aload_n 0, 1) := by decide +kernel
theorem d70_5 : decode (zb 70) 5 = .ok (.getfield 15, 3) := by decide +kernel
theorem d70_8 : decode (zb 70) 8 = .ok (.invokevirtual 24, 3) := by decide +kernel
theorem d70_11 : decode (zb 70) 11 = .ok (.aload_n 0, 1) := by decide +kernel
theorem d70_12 : decode (zb 70) 12 = .ok (.iconst 0, 1) := by decide +kernel
theorem d70_13 : decode (zb 70) 13 = .ok (.putfield 29, 3) := by decide +kernel
theorem d70_16 : decode (zb 70) 16 = .ok (.iconst 0, 1) := by decide +kernel
theorem d70_17 : decode (zb 70) 17 = .ok (.istore_n 2, 1) := by decide +kernel
theorem d70_18 : decode (zb 70) 18 = .ok (.iload_n 2, 1) := by decide +kernel
theorem d70_19 : decode (zb 70) 19 = .ok (.sipush 301, 3) := by decide +kernel
theorem d70_22 : decode (zb 70) 22 = .ok (.if_icmp .ge 61, 3) := by decide +kernel
theorem d70_25 : decode (zb 70) 25 = .ok (.aload_n 0, 1) := by decide +kernel
theorem d70_26 : decode (zb 70) 26 = .ok (.getfield 15, 3) := by decide +kernel
theorem d70_29 : decode (zb 70) 29 = .ok (.invokevirtual 33, 3) := by decide +kernel
theorem d70_32 : decode (zb 70) 32 = .ok (.aload_n 0, 1) := by decide +kernel
theorem d70_33 : decode (zb 70) 33 = .ok (.aload_n 0, 1) := by decide +kernel
theorem d70_34 : decode (zb 70) 34 = .ok (.getfield 15, 3) := by decide +kernel
theorem d70_37 : decode (zb 70) 37 = .ok (.getfield 36, 3) := by decide +kernel
theorem d70_40 : decode (zb 70) 40 = .ok (.iconst 4, 1) := by decide +kernel
theorem d70_41 : decode (zb 70) 41 = .ok (.if_icmp .ne 7, 3) := by decide +kernel
theorem d70_44 : decode (zb 70) 44 = .ok (.iconst 1, 1) := by decide +kernel
theorem d70_45 : decode (zb 70) 45 = .ok (.goto 8, 3) := by decide +kernel
theorem d70_48 : decode (zb 70) 48 = .ok (.aload_n 0, 1) := by decide +kernel
theorem d70_49 : decode (zb 70) 49 = .ok (.aload_n 1, 1) := by decide +kernel
theorem d70_50 : decode (zb 70) 50 = .ok (.invokevirtual 39, 3) := by decide +kernel
theorem d70_53 : decode (zb 70) 53 = .ok (.putfield 43, 3) := by decide +kernel
theorem d70_56 : decode (zb 70) 56 = .ok (.aload_n 0, 1) := by decide +kernel
theorem d70_57 : decode (zb 70) 57 = .ok (.getfield 43, 3) := by decide +kernel
theorem d70_60 : decode (zb 70) 60 = .ok (.ifCond .ne 23, 3) := by decide +kernel
theorem d70_63 : decode (zb 70) 63 = .ok (.aload_n 0, 1) := by decide +kernel
theorem d70_64 : decode (zb 70) 64 = .ok (.getfield 15, 3) := by decide +kernel
theorem d70_67 : decode (zb 70) 67 = .ok (.getfield 36, 3) := by decide +kernel
theorem d70_70 : decode (zb 70) 70 = .ok (.iconst 3, 1) := by decide +kernel
theorem d70_71 : decode (zb 70) 71 = .ok (.if_icmp .ne 6, 3) := by decide +kernel
theorem d70_74 : decode (zb 70) 74 = .ok (.goto 9, 3) := by decide +kernel
theorem d70_77 : decode (zb 70) 77 = .ok (.iinc 2 1, 3) := by decide +kernel
theorem d70_80 : decode (zb 70) 80 = .ok (.goto (-62), 3) := by decide +kernel
theorem d70_83 : decode (zb 70) 83 = .ok (.aload_n 0, 1) := by decide +kernel
theorem d70_84 : decode (zb 70) 84 = .ok (.aload_n 0, 1) := by decide +kernel
theorem d70_85 : decode (zb 70) 85 = .ok (.getfield 15, 3) := by decide +kernel
theorem d70_88 : decode (zb 70) 88 = .ok (.getfield 46, 3) := by decide +kernel
theorem d70_91 : decode (zb 70) 91 = .ok (.putfield 49, 3) := by decide +kernel
theorem d70_94 : decode (zb 70) 94 = .ok (.aload_n 0, 1) := by decide +kernel
theorem d70_95 : decode (zb 70) 95 = .ok (.getfield 43, 3) := by decide +kernel
theorem d70_98 : decode (zb 70) 98 = .ok (.ifCond .ne 7, 3) := by decide +kernel
theorem d70_101 : decode (zb 70) 101 = .ok (.iconst 1, 1) := by decide +kernel
theorem d70_102 : decode (zb 70) 102 = .ok (.goto 4, 3) := by decide +kernel
theorem d70_105 : decode (zb 70) 105 = .ok (.iconst 0, 1) := by decide +kernel
theorem d70_106 : decode (zb 70) 106 = .ok (.ireturn, 1) := by decide +kernel
theorem run70 {h : zH} {g : Nat} : zrun 70 [vR 4, vR g] h = zX 70 0 [vR 4, vR g, none] [] h := rfl
theorem e70_0 {I : Nat → Int → Int} {b : Bool} {S : Nat} {g : Nat} (hg : isProg g) : zX 70 0 [vR 4, vR g, none] [] (I, zRs b, 103, S) = (zrun 53 [vR g] (I, zRs b, 103, S)).bind (fun q => zX 70 4 [vR 4, vR g, none] (zpush q.1 []) q.2) := (xAload_n d70_0 rfl).trans (xInvV [vR g] [] d70_1 zo_70 zml_7_19 rfl rfl rfl (Or.inl ⟨(isProg_k hg), (isProg_n hg)⟩))
theorem e70_4 {I : Nat → Int → Int} {b : Bool} {S : Nat} {g : Nat} (hg : isProg g) : zX 70 4 [vR 4, vR g, none] [] (I, zRs b, 103, S) = (zrun 85 [vR 2] (I, zRs b, 103, S)).bind (fun q => zX 70 11 [vR 4, vR g, none] (zpush q.1 []) q.2) := (xAload_n d70_4 rfl).trans ((xGetR 0 2 d70_5 zo_70 zfl_7_15 rfl rfl rfl (Or.inl (Nat.le_of_ble_eq_true rfl))).trans (xInvV [vR 2] [] d70_8 zo_70 zml_7_24 rfl rfl rfl (Or.inl ⟨rfl, (Nat.le_of_ble_eq_true rfl)⟩)))
theorem e70_11 {I : Nat → Int → Int} {b : Bool} {S : Nat} {g : Nat} (hg : isProg g) : zX 70 11 [vR 4, vR g, none] [] (I, zRs b, 103, S) = zX 70 18 [vR 4, vR g, vI 0] [] ((sI I 4 7 0), zRs b, 103, S) := (xAload_n d70_11 rfl).trans ((xIconst d70_12).trans ((xPutI 7 d70_13 zo_70 zfl_7_29 rfl rfl (Nat.le_of_ble_eq_true rfl) (Or.inl rfl)).trans ((xIconst d70_16).trans (xIstore_n d70_17 rfl rfl))))
theorem e70_18 {I : Nat → Int → Int} {b : Bool} {S : Nat} {a2 : Int} {g : Nat} (hg : isProg g) : zX 70 18 [vR 4, vR g, vI a2] [] (I, zRs b, 103, S) = if 301 ≤ a2 then if (I 4 1) = 0 then some (some (vI 1), ((sI I 4 2 (I 2 3)), zRs b, 103, S)) else some (some (vI 0), ((sI I 4 2 (I 2 3)), zRs b, 103, S)) else (zrun 86 [vR 2] (I, zRs b, 103, S)).bind (fun q => zX 70 32 [vR 4, vR g, vI a2] (zpush q.1 []) q.2) := (xIload_n d70_18 rfl).trans ((xSipush d70_19).trans ((xIcmpGe (t := 83) d70_22 rfl).trans (ziteC ((xAload_n d70_83 rfl).trans ((xAload_n d70_84 rfl).trans ((xGetR 0 2 d70_85 zo_70 zfl_7_15 rfl rfl rfl (Or.inl (Nat.le_of_ble_eq_true rfl))).trans ((xGetI 3 (I 2 3) rfl d70_88 zo_70 zfl_7_46 (by decide) rfl rfl (Or.inl (Nat.le_of_ble_eq_true rfl))).trans ((xPutI 2 d70_91 zo_70 zfl_7_49 rfl rfl (Nat.le_of_ble_eq_true rfl) (Or.inl rfl)).trans ((xAload_n d70_94 rfl).trans ((xGetI 1 (I 4 1) (sI_k (by decide)) d70_95 zo_70 zfl_7_43 (by decide) rfl rfl (Or.inl (Nat.le_of_ble_eq_true rfl))).trans ((xIfNe (t := 105) d70_98 rfl).trans (ziteC ((xIconst d70_101).trans ((xGoto (t := 106) d70_102 rfl).trans (xZret d70_106 zret_70 (by decide)))) ((xIconst d70_105).trans (xZret d70_106 zret_70 (by decide)))))))))))) ((xAload_n d70_25 rfl).trans ((xGetR 0 2 d70_26 zo_70 zfl_7_15 rfl rfl rfl (Or.inl (Nat.le_of_ble_eq_true rfl))).trans (xInvV [vR 2] [] d70_29 zo_70 zml_7_33 rfl rfl rfl (Or.inl ⟨rfl, (Nat.le_of_ble_eq_true rfl)⟩)))))))
theorem e70_32 {I : Nat → Int → Int} {b : Bool} {S : Nat} {a2 : Int} {g : Nat} (hg : isProg g) : zX 70 32 [vR 4, vR g, vI a2] [] (I, zRs b, 103, S) = if (I 2 2) = 4 then zX 70 53 [vR 4, vR g, vI a2] [vI 1, vR 4] (I, zRs b, 103, S) else (zrun 71 [vR 4, vR g] (I, zRs b, 103, S)).bind (fun q => zX 70 53 [vR 4, vR g, vI a2] (zpush q.1 [vR 4]) q.2) := (xAload_n d70_32 rfl).trans ((xAload_n d70_33 rfl).trans ((xGetR 0 2 d70_34 zo_70 zfl_7_15 rfl rfl rfl (Or.inl (Nat.le_of_ble_eq_true rfl))).trans ((xGetI 2 (I 2 2) rfl d70_37 zo_70 zfl_7_36 (by decide) rfl rfl (Or.inl (Nat.le_of_ble_eq_true rfl))).trans ((xIconst d70_40).trans ((xIcmpNe (t := 48) d70_41 rfl).trans (ziteC ((xIconst d70_44).trans (xGoto (t := 53) d70_45 rfl)) ((xAload_n d70_48 rfl).trans ((xAload_n d70_49 rfl).trans (xInvV [vR 4, vR g] [vR 4] d70_50 zo_70 zml_7_39 rfl rfl rfl (Or.inl ⟨rfl, (Nat.le_of_ble_eq_true rfl)⟩))))))))))
theorem e70_53 {I : Nat → Int → Int} {b : Bool} {S : Nat} {a2 t1 : Int} {g : Nat} (hg : isProg g) : zX 70 53 [vR 4, vR g, vI a2] [vI t1, vR 4] (I, zRs b, 103, S) = if t1 = 0 then if (I 2 2) = 3 then if t1 = 0 then some (some (vI 1), ((sI (sI I 4 1 t1) 4 2 (I 2 3)), zRs b, 103, S)) else some (some (vI 0), ((sI (sI I 4 1 t1) 4 2 (I 2 3)), zRs b, 103, S)) else zX 70 18 [vR 4, vR g, vI (wr (a2 + 1))] [] ((sI I 4 1 t1), zRs b, 103, S) else if t1 = 0 then some (some (vI 1), ((sI (sI I 4 1 t1) 4 2 (I 2 3)), zRs b, 103, S)) else some (some (vI 0), ((sI (sI I 4 1 t1) 4 2 (I 2 3)), zRs b, 103, S)) := (xPutI 1 d70_53 zo_70 zfl_7_43 rfl rfl (Nat.le_of_ble_eq_true rfl) (Or.inl rfl)).trans ((xAload_n d70_56 rfl).trans ((xGetI 1 t1 sI_s d70_57 zo_70 zfl_7_43 (by decide) rfl rfl (Or.inl (Nat.le_of_ble_eq_true rfl))).trans ((xIfNe (t := 83) d70_60 rfl).trans (ziteC ((xAload_n d70_63 rfl).trans ((xGetR 0 2 d70_64 zo_70 zfl_7_15 rfl rfl rfl (Or.inl (Nat.le_of_ble_eq_true rfl))).trans ((xGetI 2 (I 2 2) (sI_p (by decide)) d70_67 zo_70 zfl_7_36 (by decide) rfl rfl (Or.inl (Nat.le_of_ble_eq_true rfl))).trans ((xIconst d70_70).trans ((xIcmpNe (t := 77) d70_71 rfl).trans (ziteC ((xGoto (t := 83) d70_74 rfl).trans ((xAload_n d70_83 rfl).trans ((xAload_n d70_84 rfl).trans ((xGetR 0 2 d70_85 zo_70 zfl_7_15 rfl rfl rfl (Or.inl (Nat.le_of_ble_eq_true rfl))).trans ((xGetI 3 (I 2 3) (sI_p (by decide)) d70_88 zo_70 zfl_7_46 (by decide) rfl rfl (Or.inl (Nat.le_of_ble_eq_true rfl))).trans ((xPutI 2 d70_91 zo_70 zfl_7_49 rfl rfl (Nat.le_of_ble_eq_true rfl) (Or.inl rfl)).trans ((xAload_n d70_94 rfl).trans ((xGetI 1 t1 ((sI_k (by decide)).trans sI_s) d70_95 zo_70 zfl_7_43 (by decide) rfl rfl (Or.inl (Nat.le_of_ble_eq_true rfl))).trans ((xIfNe (t := 105) d70_98 rfl).trans (ziteC ((xIconst d70_101).trans ((xGoto (t := 106) d70_102 rfl).trans (xZret d70_106 zret_70 (by decide)))) ((xIconst d70_105).trans (xZret d70_106 zret_70 (by decide))))))))))))) ((xIinc d70_77 rfl rfl rfl).trans (xGoto (t := 18) d70_80 rfl)))))))) ((xAload_n d70_83 rfl).trans ((xAload_n d70_84 rfl).trans ((xGetR 0 2 d70_85 zo_70 zfl_7_15 rfl rfl rfl (Or.inl (Nat.le_of_ble_eq_true rfl))).trans ((xGetI 3 (I 2 3) (sI_p (by decide)) d70_88 zo_70 zfl_7_46 (by decide) rfl rfl (Or.inl (Nat.le_of_ble_eq_true rfl))).trans ((xPutI 2 d70_91 zo_70 zfl_7_49 rfl rfl (Nat.le_of_ble_eq_true rfl) (Or.inl rfl)).trans ((xAload_n d70_94 rfl).trans ((xGetI 1 t1 ((sI_k (by decide)).trans sI_s) d70_95 zo_70 zfl_7_43 (by decide) rfl rfl (Or.inl (Nat.le_of_ble_eq_true rfl))).trans ((xIfNe (t := 105) d70_98 rfl).trans (ziteC ((xIconst d70_101).trans ((xGoto (t := 106) d70_102 rfl).trans (xZret d70_106 zret_70 (by decide)))) ((xIconst d70_105).trans (xZret d70_106 zret_70 (by decide))))))))))))))))
theorem zo_71 : zo 71 = 7 := by decide +kernel
theorem zret_71 : zret 71 = some .int := by decide +kernel
theorem d71_0 : decode (zb 71) 0 = .ok (.aload_n 0, 1) := by decide +kernel
theorem d71_1 : decode (zb 71) 1 = .ok (.getfield 29, 3) := by decide +kernel
theorem d71_4 : decode (zb 71) 4 = .ok (.tableswitch 72 0 4 #[36, 45, 54, 60, 66], 36) := by decide +kernel
theorem d71_40 : decode (zb 71) 40 = .ok (.aload_n 0, 1) := by decide +kernel
theorem d71_41 : decode (zb 71) 41 = .ok (.aload_n 1, 1) := by decide +kernel
theorem d71_42 : decode (zb 71) 42 = .ok (.getfield 52, 3) := by decide +kernel
theorem d71_45 : decode (zb 71) 45 = .ok (.invokevirtual 56, 3) := by decide +kernel
theorem d71_48 : decode (zb 71) 48 = .ok (.ireturn, 1) := by decide +kernel
theorem d71_49 : decode (zb 71) 49 = .ok (.aload_n 0, 1) := by decide +kernel
theorem d71_50 : decode (zb 71) 50 = .ok (.aload_n 1, 1) := by decide +kernel
theorem d71_51 : decode (zb 71) 51 = .ok (.getfield 52, 3) := by decide +kernel
theorem d71_54 : decode (zb 71) 54 = .ok (.invokevirtual 60, 3) := by decide +kernel
theorem d71_57 : decode (zb 71) 57 = .ok (.ireturn, 1) := by decide +kernel
theorem d71_58 : decode (zb 71) 58 = .ok (.aload_n 0, 1) := by decide +kernel
theorem d71_59 : decode (zb 71) 59 = .ok (.aload_n 1, 1) := by decide +kernel
theorem d71_60 : decode (zb 71) 60 = .ok (.invokevirtual 63, 3) := by decide +kernel
theorem d71_63 : decode (zb 71) 63 = .ok (.ireturn, 1) := by decide +kernel
theorem d71_64 : decode (zb 71) 64 = .ok (.aload_n 0, 1) := by decide +kernel
theorem d71_65 : decode (zb 71) 65 = .ok (.aload_n 1, 1) := by decide +kernel
theorem d71_66 : decode (zb 71) 66 = .ok (.invokevirtual 66, 3) := by decide +kernel
theorem d71_69 : decode (zb 71) 69 = .ok (.ireturn, 1) := by decide +kernel
theorem d71_70 : decode (zb 71) 70 = .ok (.aload_n 0, 1) := by decide +kernel
theorem d71_71 : decode (zb 71) 71 = .ok (.aload_n 1, 1) := by decide +kernel
theorem d71_72 : decode (zb 71) 72 = .ok (.invokevirtual 69, 3) := by decide +kernel
theorem d71_75 : decode (zb 71) 75 = .ok (.ireturn, 1) := by decide +kernel
theorem d71_76 : decode (zb 71) 76 = .ok (.aload_n 0, 1) := by decide +kernel
theorem d71_77 : decode (zb 71) 77 = .ok (.getfield 15, 3) := by decide +kernel
theorem d71_80 : decode (zb 71) 80 = .ok (.getfield 36, 3) := by decide +kernel
theorem d71_83 : decode (zb 71) 83 = .ok (.iconst 3, 1) := by decide +kernel
theorem d71_84 : decode (zb 71) 84 = .ok (.if_icmp .ne 7, 3) := by decide +kernel
theorem d71_87 : decode (zb 71) 87 = .ok (.iconst 0, 1) := by decide +kernel
theorem d71_88 : decode (zb 71) 88 = .ok (.goto 4, 3) := by decide +kernel
theorem d71_91 : decode (zb 71) 91 = .ok (.iconst 2, 1) := by decide +kernel
theorem d71_92 : decode (zb 71) 92 = .ok (.ireturn, 1) := by decide +kernel
theorem run71 {h : zH} {g : Nat} : zrun 71 [vR 4, vR g] h = zX 71 0 [vR 4, vR g] [] h := rfl
theorem e71_0 {I : Nat → Int → Int} {b : Bool} {S : Nat} {g : Nat} (hg : isProg g) : zX 71 0 [vR 4, vR g] [] (I, zRs b, 103, S) = if (I 4 7) = 0 then (zrun 72 [vR 4, vR (g + 1)] (I, zRs b, 103, S)).bind (fun q => zX 71 48 [vR 4, vR g] (zpush q.1 []) q.2) else if (I 4 7) = 1 then (zrun 73 [vR 4, vR (g + 1)] (I, zRs b, 103, S)).bind (fun q => zX 71 57 [vR 4, vR g] (zpush q.1 []) q.2) else if (I 4 7) = 2 then (zrun 74 [vR 4, vR g] (I, zRs b, 103, S)).bind (fun q => zX 71 63 [vR 4, vR g] (zpush q.1 []) q.2) else if (I 4 7) = 3 then (zrun 77 [vR 4, vR g] (I, zRs b, 103, S)).bind (fun q => zX 71 69 [vR 4, vR g] (zpush q.1 []) q.2) else if (I 4 7) = 4 then (zrun 79 [vR 4, vR g] (I, zRs b, 103, S)).bind (fun q => zX 71 75 [vR 4, vR g] (zpush q.1 []) q.2) else if (I 2 2) = 3 then some (some (vI 0), (I, zRs b, 103, S)) else some (some (vI 2), (I, zRs b, 103, S)) := (xAload_n d71_0 rfl).trans ((xGetI 7 (I 4 7) rfl d71_1 zo_71 zfl_7_29 (by decide) rfl rfl (Or.inl (Nat.le_of_ble_eq_true rfl))).trans ((xTab [(0, 40), (1, 49), (2, 58), (3, 64), (4, 70)] 76 d71_4 rfl).trans (ziteC ((xAload_n d71_40 rfl).trans ((xAload_n d71_41 rfl).trans ((xGetR 0 (g + 1) d71_42 zo_71 zfl_7_52 rfl (isProg_r0 hg) (isProg_k hg) (Or.inl (isProg_n hg))).trans (xInvV [vR 4, vR (g + 1)] [] d71_45 zo_71 zml_7_56 rfl rfl rfl (Or.inl ⟨rfl, (Nat.le_of_ble_eq_true rfl)⟩))))) (ziteC ((xAload_n d71_49 rfl).trans ((xAload_n d71_50 rfl).trans ((xGetR 0 (g + 1) d71_51 zo_71 zfl_7_52 rfl (isProg_r0 hg) (isProg_k hg) (Or.inl (isProg_n hg))).trans (xInvV [vR 4, vR (g + 1)] [] d71_54 zo_71 zml_7_60 rfl rfl rfl (Or.inl ⟨rfl, (Nat.le_of_ble_eq_true rfl)⟩))))) (ziteC ((xAload_n d71_58 rfl).trans ((xAload_n d71_59 rfl).trans (xInvV [vR 4, vR g] [] d71_60 zo_71 zml_7_63 rfl rfl rfl (Or.inl ⟨rfl, (Nat.le_of_ble_eq_true rfl)⟩)))) (ziteC ((xAload_n d71_64 rfl).trans ((xAload_n d71_65 rfl).trans (xInvV [vR 4, vR g] [] d71_66 zo_71 zml_7_66 rfl rfl rfl (Or.inl ⟨rfl, (Nat.le_of_ble_eq_true rfl)⟩)))) (ziteC ((xAload_n d71_70 rfl).trans ((xAload_n d71_71 rfl).trans (xInvV [vR 4, vR g] [] d71_72 zo_71 zml_7_69 rfl rfl rfl (Or.inl ⟨rfl, (Nat.le_of_ble_eq_true rfl)⟩)))) ((xAload_n d71_76 rfl).trans ((xGetR 0 2 d71_77 zo_71 zfl_7_15 rfl rfl rfl (Or.inl (Nat.le_of_ble_eq_true rfl))).trans ((xGetI 2 (I 2 2) rfl d71_80 zo_71 zfl_7_36 (by decide) rfl rfl (Or.inl (Nat.le_of_ble_eq_true rfl))).trans ((xIconst d71_83).trans ((xIcmpNe (t := 91) d71_84 rfl).trans (ziteC ((xIconst d71_87).trans ((xGoto (t := 92) d71_88 rfl).trans (xIret d71_92 zret_71))) ((xIconst d71_91).trans (xIret d71_92 zret_71)))))))))))))))
theorem e71_48 {I : Nat → Int → Int} {b : Bool} {S : Nat} {t0 : Int} {g : Nat} (hg : isProg g) : zX 71 48 [vR 4, vR g] [vI t0] (I, zRs b, 103, S) = some (some (vI t0), (I, zRs b, 103, S)) := xIret d71_48 zret_71
theorem e71_57 {I : Nat → Int → Int} {b : Bool} {S : Nat} {t0 : Int} {g : Nat} (hg : isProg g) : zX 71 57 [vR 4, vR g] [vI t0] (I, zRs b, 103, S) = some (some (vI t0), (I, zRs b, 103, S)) := xIret d71_57 zret_71
theorem e71_63 {I : Nat → Int → Int} {b : Bool} {S : Nat} {t0 : Int} {g : Nat} (hg : isProg g) : zX 71 63 [vR 4, vR g] [vI t0] (I, zRs b, 103, S) = some (some (vI t0), (I, zRs b, 103, S)) := xIret d71_63 zret_71
theorem e71_69 {I : Nat → Int → Int} {b : Bool} {S : Nat} {t0 : Int} {g : Nat} (hg : isProg g) : zX 71 69 [vR 4, vR g] [vI t0] (I, zRs b, 103, S) = some (some (vI t0), (I, zRs b, 103, S)) := xIret d71_69 zret_71
theorem e71_75 {I : Nat → Int → Int} {b : Bool} {S : Nat} {t0 : Int} {g : Nat} (hg : isProg g) : zX 71 75 [vR 4, vR g] [vI t0] (I, zRs b, 103, S) = some (some (vI t0), (I, zRs b, 103, S)) := xIret d71_75 zret_71
theorem zo_72 : zo 72 = 7 := by decide +kernel
theorem zret_72 : zret 72 = some .int := by decide +kernel
theorem d72_0 : decode (zb 72) 0 = .ok (.aload_n 0, 1) := by decide +kernel
theorem d72_1 : decode (zb 72) 1 = .ok (.getfield 15, 3) := by decide +kernel
theorem d72_4 : decode (zb 72) 4 = .ok (.ldc 72, 2) := by decide +kernel
theorem d72_6 : decode (zb 72) 6 = .ok (.invokevirtual 74, 3) := by decide +kernel
theorem d72_9 : decode (zb 72) 9 = .ok (.ifCond .eq 10, 3) := by decide +kernel
theorem d72_12 : decode (zb 72) 12 = .ok (.aload_n 0, 1) := by decide +kernel
theorem d72_13 : decode (zb 72) 13 = .ok (.iconst 2, 1) := by decide +kernel
theorem d72_14 : decode (zb 72) 14 = .ok (.putfield 29, 3) := by decide +kernel
theorem d72_17 : decode (zb 72) 17 = .ok (.iconst 0, 1) := by decide +kernel
theorem d72_18 : decode (zb 72) 18 = .ok (.ireturn, 1) := by decide +kernel
theorem d72_19 : decode (zb 72) 19 = .ok (.aload_n 0, 1) := by decide +kernel
theorem d72_20 : decode (zb 72) 20 = .ok (.getfield 15, 3) := by decide +kernel
theorem d72_23 : decode (zb 72) 23 = .ok (.ldc 78, 2) := by decide +kernel
theorem d72_25 : decode (zb 72) 25 = .ok (.invokevirtual 74, 3) := by decide +kernel
theorem d72_28 : decode (zb 72) 28 = .ok (.ifCond .ne 5, 3) := by decide +kernel
theorem d72_31 : decode (zb 72) 31 = .ok (.iconst 2, 1) := by decide +kernel
theorem d72_32 : decode (zb 72) 32 = .ok (.ireturn, 1) := by decide +kernel
theorem d72_33 : decode (zb 72) 33 = .ok (.aload_n 1, 1) := by decide +kernel
theorem d72_34 : decode (zb 72) 34 = .ok (.getfield 80, 3) := by decide +kernel
theorem d72_37 : decode (zb 72) 37 = .ok (.bipush 8, 2) := by decide +kernel
theorem d72_39 : decode (zb 72) 39 = .ok (.if_icmp .lt 5, 3) := by decide +kernel
theorem d72_42 : decode (zb 72) 42 = .ok (.iconst 4, 1) := by decide +kernel
theorem d72_43 : decode (zb 72) 43 = .ok (.ireturn, 1) := by decide +kernel
theorem d72_44 : decode (zb 72) 44 = .ok (.aload_n 0, 1) := by decide +kernel
theorem d72_45 : decode (zb 72) 45 = .ok (.iconst 0, 1) := by decide +kernel
theorem d72_46 : decode (zb 72) 46 = .ok (.putfield 85, 3) := by decide +kernel
theorem d72_49 : decode (zb 72) 49 = .ok (.aload_n 0, 1) := by decide +kernel
theorem d72_50 : decode (zb 72) 50 = .ok (.iconst 1, 1) := by decide +kernel
theorem d72_51 : decode (zb 72) 51 = .ok (.putfield 29, 3) := by decide +kernel
theorem d72_54 : decode (zb 72) 54 = .ok (.iconst 0, 1) := by decide +kernel
theorem d72_55 : decode (zb 72) 55 = .ok (.ireturn, 1) := by decide +kernel
theorem run72 {h : zH} {pq : Nat} : zrun 72 [vR 4, vR pq] h = zX 72 0 [vR 4, vR pq] [] h := rfl
theorem e72_0 {I : Nat → Int → Int} {b : Bool} {S : Nat} {pq : Nat} (hpq : isPool pq) : zX 72 0 [vR 4, vR pq] [] (I, zRs b, 103, S) = (zrun 90 [vR 2, vR 1000] (I, zRs b, 103, S)).bind (fun q => zX 72 9 [vR 4, vR pq] (zpush q.1 []) q.2) := (xAload_n d72_0 rfl).trans ((xGetR 0 2 d72_1 zo_72 zfl_7_15 rfl rfl rfl (Or.inl (Nat.le_of_ble_eq_true rfl))).trans ((xLdcS d72_4 zo_72 (by decide +kernel) zst_7_72).trans (xInvV [vR 2, vR 1000] [] d72_6 zo_72 zml_7_74 rfl rfl rfl (Or.inl ⟨rfl, (Nat.le_of_ble_eq_true rfl)⟩))))
theorem e72_9 {I : Nat → Int → Int} {b : Bool} {S : Nat} {t0 : Int} {pq : Nat} (hpq : isPool pq) : zX 72 9 [vR 4, vR pq] [vI t0] (I, zRs b, 103, S) = if t0 = 0 then (zrun 90 [vR 2, vR 1001] (I, zRs b, 103, S)).bind (fun q => zX 72 28 [vR 4, vR pq] (zpush q.1 []) q.2) else some (some (vI 0), ((sI I 4 7 2), zRs b, 103, S)) := (xIfEq (t := 19) d72_9 rfl).trans (ziteC ((xAload_n d72_19 rfl).trans ((xGetR 0 2 d72_20 zo_72 zfl_7_15 rfl rfl rfl (Or.inl (Nat.le_of_ble_eq_true rfl))).trans ((xLdcS d72_23 zo_72 (by decide +kernel) zst_7_78).trans (xInvV [vR 2, vR 1001] [] d72_25 zo_72 zml_7_74 rfl rfl rfl (Or.inl ⟨rfl, (Nat.le_of_ble_eq_true rfl)⟩))))) ((xAload_n d72_12 rfl).trans ((xIconst d72_13).trans ((xPutI 7 d72_14 zo_72 zfl_7_29 rfl rfl (Nat.le_of_ble_eq_true rfl) (Or.inl rfl)).trans ((xIconst d72_17).trans (xIret d72_18 zret_72))))))
theorem e72_28 {I : Nat → Int → Int} {b : Bool} {S : Nat} {t0 : Int} {pq : Nat} (hpq : isPool pq) : zX 72 28 [vR 4, vR pq] [vI t0] (I, zRs b, 103, S) = if t0 = 0 then some (some (vI 2), (I, zRs b, 103, S)) else if (I pq 5) < 8 then some (some (vI 0), ((sI (sI I 4 4 0) 4 7 1), zRs b, 103, S)) else some (some (vI 4), (I, zRs b, 103, S)) := (xIfNe (t := 33) d72_28 rfl).trans (ziteC ((xIconst d72_31).trans (xIret d72_32 zret_72)) ((xAload_n d72_33 rfl).trans ((xGetI 5 (I pq 5) rfl d72_34 zo_72 zfl_7_80 (by decide) rfl (isPool_k hpq) (Or.inl (isPool_n hpq))).trans ((xBipush d72_37).trans ((xIcmpLt (t := 44) d72_39 rfl).trans (ziteC ((xAload_n d72_44 rfl).trans ((xIconst d72_45).trans ((xPutI 4 d72_46 zo_72 zfl_7_85 rfl rfl (Nat.le_of_ble_eq_true rfl) (Or.inl rfl)).trans ((xAload_n d72_49 rfl).trans ((xIconst d72_50).trans ((xPutI 7 d72_51 zo_72 zfl_7_29 rfl rfl (Nat.le_of_ble_eq_true rfl) (Or.inl rfl)).trans ((xIconst d72_54).trans (xIret d72_55 zret_72)))))))) ((xIconst d72_42).trans (xIret d72_43 zret_72))))))))
theorem zo_73 : zo 73 = 7 := by decide +kernel
theorem zret_73 : zret 73 = some .int := by decide +kernel
theorem d73_0 : decode (zb 73) 0 = .ok (.aload_n 0, 1) := by decide +kernel
theorem d73_1 : decode (zb 73) 1 = .ok (.getfield 85, 3) := by decide +kernel
theorem d73_4 : decode (zb 73) 4 = .ok (.ifCond .le 34, 3) := by decide +kernel
theorem d73_7 : decode (zb 73) 7 = .ok (.aload_n 0, 1) := by decide +kernel
theorem d73_8 : decode (zb 73) 8 = .ok (.getfield 15, 3) := by decide +kernel
theorem d73_11 : decode (zb 73) 11 = .ok (.bipush 59, 2) := by decide +kernel
theorem d73_13 : decode (zb 73) 13 = .ok (.invokevirtual 88, 3) := by decide +kernel
theorem d73_16 : decode (zb 73) 16 = .ok (.ifCond .eq 22, 3) := by decide +kernel
theorem d73_19 : decode (zb 73) 19 = .ok (.aload_n 1, 1) := by decide +kernel
theorem d73_20 : decode (zb 73) 20 = .ok (.aload_n 0, 1) := by decide +kernel
theorem d73_21 : decode (zb 73) 21 = .ok (.getfield 9, 3) := by decide +kernel
theorem d73_24 : decode (zb 73) 24 = .ok (.aload_n 0, 1) := by decide +kernel
theorem d73_25 : decode (zb 73) 25 = .ok (.getfield 85, 3) := by decide +kernel
theorem d73_28 : decode (zb 73) 28 = .ok (.invokevirtual 92, 3) := by decide +kernel
theorem d73_31 : decode (zb 73) 31 = .ok (.aload_n 0, 1) := by decide +kernel
theorem d73_32 : decode (zb 73) 32 = .ok (.iconst 0, 1) := by decide +kernel
theorem d73_33 : decode (zb 73) 33 = .ok (.putfield 29, 3) := by decide +kernel
theorem d73_36 : decode (zb 73) 36 = .ok (.iconst 0, 1) := by decide +kernel
theorem d73_37 : decode (zb 73) 37 = .ok (.ireturn, 1) := by decide +kernel
theorem d73_38 : decode (zb 73) 38 = .ok (.aload_n 0, 1) := by decide +kernel
theorem d73_39 : decode (zb 73) 39 = .ok (.getfield 15, 3) := by decide +kernel
theorem d73_42 : decode (zb 73) 42 = .ok (.getfield 36, 3) := by decide +kernel
theorem d73_45 : decode (zb 73) 45 = .ok (.iconst 1, 1) := by decide +kernel
theorem d73_46 : decode (zb 73) 46 = .ok (.if_icmp .eq 5, 3) := by decide +kernel
theorem d73_49 : decode (zb 73) 49 = .ok (.iconst 2, 1) := by decide +kernel
theorem d73_50 : decode (zb 73) 50 = .ok (.ireturn, 1) := by decide +kernel
theorem d73_51 : decode (zb 73) 51 = .ok (.aload_n 0, 1) := by decide +kernel
theorem d73_52 : decode (zb 73) 52 = .ok (.getfield 85, 3) := by decide +kernel
theorem d73_55 : decode (zb 73) 55 = .ok (.bipush 16, 2) := by decide +kernel
theorem d73_57 : decode (zb 73) 57 = .ok (.if_icmp .lt 5, 3) := by decide +kernel
theorem d73_60 : decode (zb 73) 60 = .ok (.iconst 4, 1) := by decide +kernel
theorem d73_61 : decode (zb 73) 61 = .ok (.ireturn, 1) := by decide +kernel
theorem d73_62 : decode (zb 73) 62 = .ok (.aload_n 0, 1) := by decide +kernel
theorem d73_63 : decode (zb 73) 63 = .ok (.getfield 9, 3) := by decide +kernel
theorem d73_66 : decode (zb 73) 66 = .ok (.aload_n 0, 1) := by decide +kernel
theorem d73_67 : decode (zb 73) 67 = .ok (.getfield 85, 3) := by decide +kernel
theorem d73_70 : decode (zb 73) 70 = .ok (.aload_n 0, 1) := by decide +kernel
theorem d73_71 : decode (zb 73) 71 = .ok (.getfield 15, 3) := by decide +kernel
theorem d73_74 : decode (zb 73) 74 = .ok (.getfield 96, 3) := by decide +kernel
theorem d73_77 : decode (zb 73) 77 = .ok (.iastore, 1) := by decide +kernel
theorem d73_78 : decode (zb 73) 78 = .ok (.aload_n 0, 1) := by decide +kernel
theorem d73_79 : decode (zb 73) 79 = .ok (.dup, 1) := by decide +kernel
theorem d73_80 : decode (zb 73) 80 = .ok (.getfield 85, 3) := by decide +kernel
theorem d73_83 : decode (zb 73) 83 = .ok (.iconst 1, 1) := by decide +kernel
theorem d73_84 : decode (zb 73) 84 = .ok (.iadd, 1) := by decide +kernel
theorem d73_85 : decode (zb 73) 85 = .ok (.putfield 85, 3) := by decide +kernel
theorem d73_88 : decode (zb 73) 88 = .ok (.iconst 0, 1) := by decide +kernel
theorem d73_89 : decode (zb 73) 89 = .ok (.ireturn, 1) := by decide +kernel
theorem run73 {h : zH} {pq : Nat} : zrun 73 [vR 4, vR pq] h = zX 73 0 [vR 4, vR pq] [] h := rfl
theorem e73_0 {I : Nat → Int → Int} {b : Bool} {S : Nat} {pq : Nat} (hpq : isPool pq) : zX 73 0 [vR 4, vR pq] [] (I, zRs b, 103, S) = if (I 4 4) ≤ 0 then if (I 2 2) = 1 then if (I 4 4) < 16 then if 0 ≤ (I 4 4) ∧ (I 4 4) < 16 then some (some (vI 0), ((sI (sI I 5 (I 4 4) (I 2 5)) 4 4 (wr ((I 4 4) + 1))), zRs b, 103, S)) else none else some (some (vI 4), (I, zRs b, 103, S)) else some (some (vI 2), (I, zRs b, 103, S)) else (zrun 89 [vR 2, vI 59] (I, zRs b, 103, S)).bind (fun q => zX 73 16 [vR 4, vR pq] (zpush q.1 []) q.2) := (xAload_n d73_0 rfl).trans ((xGetI 4 (I 4 4) rfl d73_1 zo_73 zfl_7_85 (by decide) rfl rfl (Or.inl (Nat.le_of_ble_eq_true rfl))).trans ((xIfLe (t := 38) d73_4 rfl).trans (ziteC ((xAload_n d73_38 rfl).trans ((xGetR 0 2 d73_39 zo_73 zfl_7_15 rfl rfl rfl (Or.inl (Nat.le_of_ble_eq_true rfl))).trans ((xGetI 2 (I 2 2) rfl d73_42 zo_73 zfl_7_36 (by decide) rfl rfl (Or.inl (Nat.le_of_ble_eq_true rfl))).trans ((xIconst d73_45).trans ((xIcmpEq (t := 51) d73_46 rfl).trans (ziteC ((xAload_n d73_51 rfl).trans ((xGetI 4 (I 4 4) rfl d73_52 zo_73 zfl_7_85 (by decide) rfl rfl (Or.inl (Nat.le_of_ble_eq_true rfl))).trans ((xBipush d73_55).trans ((xIcmpLt (t := 62) d73_57 rfl).trans (ziteC ((xAload_n d73_62 rfl).trans ((xGetR 3 5 d73_63 zo_73 zfl_7_9 rfl rfl rfl (Or.inl (Nat.le_of_ble_eq_true rfl))).trans ((xAload_n d73_66 rfl).trans ((xGetI 4 (I 4 4) rfl d73_67 zo_73 zfl_7_85 (by decide) rfl rfl (Or.inl (Nat.le_of_ble_eq_true rfl))).trans ((xAload_n d73_70 rfl).trans ((xGetR 0 2 d73_71 zo_73 zfl_7_15 rfl rfl rfl (Or.inl (Nat.le_of_ble_eq_true rfl))).trans ((xGetI 5 (I 2 5) rfl d73_74 zo_73 zfl_7_96 (by decide) rfl rfl (Or.inl (Nat.le_of_ble_eq_true rfl))).trans ((xIast (N := 16) d73_77 rfl (Nat.le_of_ble_eq_true rfl) rfl).trans (ziteC ((xAload_n d73_78 rfl).trans ((xDup d73_79 rfl).trans ((xGetI 4 (I 4 4) (sI_p (by decide)) d73_80 zo_73 zfl_7_85 (by decide) rfl rfl (Or.inl (Nat.le_of_ble_eq_true rfl))).trans ((xIconst d73_83).trans ((xIadd d73_84).trans ((xPutI 4 d73_85 zo_73 zfl_7_85 rfl rfl (Nat.le_of_ble_eq_true rfl) (Or.inl rfl)).trans ((xIconst d73_88).trans (xIret d73_89 zret_73)))))))) rfl))))))))) ((xIconst d73_60).trans (xIret d73_61 zret_73))))))) ((xIconst d73_49).trans (xIret d73_50 zret_73)))))))) ((xAload_n d73_7 rfl).trans ((xGetR 0 2 d73_8 zo_73 zfl_7_15 rfl rfl rfl (Or.inl (Nat.le_of_ble_eq_true rfl))).trans ((xBipush d73_11).trans (xInvV [vR 2, vI 59] [] d73_13 zo_73 zml_7_88 rfl rfl rfl (Or.inl ⟨rfl, (Nat.le_of_ble_eq_true rfl)⟩))))))))
theorem e73_16 {I : Nat → Int → Int} {b : Bool} {S : Nat} {t0 : Int} {pq : Nat} (hpq : isPool pq) : zX 73 16 [vR 4, vR pq] [vI t0] (I, zRs b, 103, S) = if t0 = 0 then if (I 2 2) = 1 then if (I 4 4) < 16 then if 0 ≤ (I 4 4) ∧ (I 4 4) < 16 then some (some (vI 0), ((sI (sI I 5 (I 4 4) (I 2 5)) 4 4 (wr ((I 4 4) + 1))), zRs b, 103, S)) else none else some (some (vI 4), (I, zRs b, 103, S)) else some (some (vI 2), (I, zRs b, 103, S)) else (zrun 45 [vR pq, vR 5, vI (I 4 4)] (I, zRs b, 103, S)).bind (fun q => zX 73 31 [vR 4, vR pq] (zpush q.1 []) q.2) := (xIfEq (t := 38) d73_16 rfl).trans (ziteC ((xAload_n d73_38 rfl).trans ((xGetR 0 2 d73_39 zo_73 zfl_7_15 rfl rfl rfl (Or.inl (Nat.le_of_ble_eq_true rfl))).trans ((xGetI 2 (I 2 2) rfl d73_42 zo_73 zfl_7_36 (by decide) rfl rfl (Or.inl (Nat.le_of_ble_eq_true rfl))).trans ((xIconst d73_45).trans ((xIcmpEq (t := 51) d73_46 rfl).trans (ziteC ((xAload_n d73_51 rfl).trans ((xGetI 4 (I 4 4) rfl d73_52 zo_73 zfl_7_85 (by decide) rfl rfl (Or.inl (Nat.le_of_ble_eq_true rfl))).trans ((xBipush d73_55).trans ((xIcmpLt (t := 62) d73_57 rfl).trans (ziteC ((xAload_n d73_62 rfl).trans ((xGetR 3 5 d73_63 zo_73 zfl_7_9 rfl rfl rfl (Or.inl (Nat.le_of_ble_eq_true rfl))).trans ((xAload_n d73_66 rfl).trans ((xGetI 4 (I 4 4) rfl d73_67 zo_73 zfl_7_85 (by decide) rfl rfl (Or.inl (Nat.le_of_ble_eq_true rfl))).trans ((xAload_n d73_70 rfl).trans ((xGetR 0 2 d73_71 zo_73 zfl_7_15 rfl rfl rfl (Or.inl (Nat.le_of_ble_eq_true rfl))).trans ((xGetI 5 (I 2 5) rfl d73_74 zo_73 zfl_7_96 (by decide) rfl rfl (Or.inl (Nat.le_of_ble_eq_true rfl))).trans ((xIast (N := 16) d73_77 rfl (Nat.le_of_ble_eq_true rfl) rfl).trans (ziteC ((xAload_n d73_78 rfl).trans ((xDup d73_79 rfl).trans ((xGetI 4 (I 4 4) (sI_p (by decide)) d73_80 zo_73 zfl_7_85 (by decide) rfl rfl (Or.inl (Nat.le_of_ble_eq_true rfl))).trans ((xIconst d73_83).trans ((xIadd d73_84).trans ((xPutI 4 d73_85 zo_73 zfl_7_85 rfl rfl (Nat.le_of_ble_eq_true rfl) (Or.inl rfl)).trans ((xIconst d73_88).trans (xIret d73_89 zret_73)))))))) rfl))))))))) ((xIconst d73_60).trans (xIret d73_61 zret_73))))))) ((xIconst d73_49).trans (xIret d73_50 zret_73)))))))) ((xAload_n d73_19 rfl).trans ((xAload_n d73_20 rfl).trans ((xGetR 3 5 d73_21 zo_73 zfl_7_9 rfl rfl rfl (Or.inl (Nat.le_of_ble_eq_true rfl))).trans ((xAload_n d73_24 rfl).trans ((xGetI 4 (I 4 4) rfl d73_25 zo_73 zfl_7_85 (by decide) rfl rfl (Or.inl (Nat.le_of_ble_eq_true rfl))).trans (xInvV [vR pq, vR 5, vI (I 4 4)] [] d73_28 zo_73 zml_7_92 rfl rfl rfl (Or.inl ⟨(isPool_k hpq), (isPool_n hpq)⟩))))))))
theorem e73_31 {I : Nat → Int → Int} {b : Bool} {S : Nat} {pq : Nat} (hpq : isPool pq) : zX 73 31 [vR 4, vR pq] [] (I, zRs b, 103, S) = some (some (vI 0), ((sI I 4 7 0), zRs b, 103, S)) := (xAload_n d73_31 rfl).trans ((xIconst d73_32).trans ((xPutI 7 d73_33 zo_73 zfl_7_29 rfl rfl (Nat.le_of_ble_eq_true rfl) (Or.inl rfl)).trans ((xIconst d73_36).trans (xIret d73_37 zret_73))))
theorem zo_74 : zo 74 = 7 := by decide +kernel
theorem zret_74 : zret 74 = some .int := by decide +kernel
theorem d74_0 : decode (zb 74) 0 = .ok (.aload_n 0, 1) := by decide +kernel
theorem d74_1 : decode (zb 74) 1 = .ok (.getfield 15, 3) := by decide +kernel
theorem d74_4 : decode (zb 74) 4 = .ok (.bipush 41, 2) := by decide +kernel
theorem d74_6 : decode (zb 74) 6 = .ok (.invokevirtual 88, 3) := by decide +kernel
theorem d74_9 : decode (zb 74) 9 = .ok (.ifCond .eq 9, 3) := by decide +kernel
theorem d74_12 : decode (zb 74) 12 = .ok (.aload_n 0, 1) := by decide +kernel
theorem d74_13 : decode (zb 74) 13 = .ok (.aload_n 1, 1) := by decide +kernel
theorem d74_14 : decode (zb 74) 14 = .ok (.invokevirtual 99, 3) := by decide +kernel
theorem d74_17 : decode (zb 74) 17 = .ok (.ireturn, 1) := by decide +kernel
theorem d74_18 : decode (zb 74) 18 = .ok (.aload_n 0, 1) := by decide +kernel
theorem d74_19 : decode (zb 74) 19 = .ok (.getfield 15, 3) := by decide +kernel
theorem d74_22 : decode (zb 74) 22 = .ok (.bipush 59, 2) := by decide +kernel
theorem d74_24 : decode (zb 74) 24 = .ok (.invokevirtual 88, 3) := by decide +kernel
theorem d74_27 : decode (zb 74) 27 = .ok (.ifCond .eq 17, 3) := by decide +kernel
theorem d74_30 : decode (zb 74) 30 = .ok (.aload_n 1, 1) := by decide +kernel
theorem d74_31 : decode (zb 74) 31 = .ok (.getfield 102, 3) := by decide +kernel
theorem d74_34 : decode (zb 74) 34 = .ok (.ifCond .ne 10, 3) := by decide +kernel
theorem d74_37 : decode (zb 74) 37 = .ok (.aload_n 0, 1) := by decide +kernel
theorem d74_38 : decode (zb 74) 38 = .ok (.iconst 5, 1) := by decide +kernel
theorem d74_39 : decode (zb 74) 39 = .ok (.putfield 29, 3) := by decide +kernel
theorem d74_42 : decode (zb 74) 42 = .ok (.iconst 0, 1) := by decide +kernel
theorem d74_43 : decode (zb 74) 43 = .ok (.ireturn, 1) := by decide +kernel
theorem d74_44 : decode (zb 74) 44 = .ok (.aload_n 0, 1) := by decide +kernel
theorem d74_45 : decode (zb 74) 45 = .ok (.aload_n 0, 1) := by decide +kernel
theorem d74_46 : decode (zb 74) 46 = .ok (.invokevirtual 105, 3) := by decide +kernel
theorem d74_49 : decode (zb 74) 49 = .ok (.putfield 109, 3) := by decide +kernel
theorem d74_52 : decode (zb 74) 52 = .ok (.aload_n 0, 1) := by decide +kernel
theorem d74_53 : decode (zb 74) 53 = .ok (.getfield 109, 3) := by decide +kernel
theorem d74_56 : decode (zb 74) 56 = .ok (.ifCond .ge 5, 3) := by decide +kernel
theorem d74_59 : decode (zb 74) 59 = .ok (.iconst 2, 1) := by decide +kernel
theorem d74_60 : decode (zb 74) 60 = .ok (.ireturn, 1) := by decide +kernel
theorem d74_61 : decode (zb 74) 61 = .ok (.aload_n 1, 1) := by decide +kernel
theorem d74_62 : decode (zb 74) 62 = .ok (.invokevirtual 112, 3) := by decide +kernel
theorem d74_65 : decode (zb 74) 65 = .ok (.ifCond .eq 5, 3) := by decide +kernel
theorem d74_68 : decode (zb 74) 68 = .ok (.iconst 4, 1) := by decide +kernel
theorem d74_69 : decode (zb 74) 69 = .ok (.ireturn, 1) := by decide +kernel
theorem d74_70 : decode (zb 74) 70 = .ok (.aload_n 0, 1) := by decide +kernel
theorem d74_71 : decode (zb 74) 71 = .ok (.iconst 3, 1) := by decide +kernel
theorem d74_72 : decode (zb 74) 72 = .ok (.putfield 29, 3) := by decide +kernel
theorem d74_75 : decode (zb 74) 75 = .ok (.iconst 0, 1) := by decide +kernel
theorem d74_76 : decode (zb 74) 76 = .ok (.ireturn, 1) := by decide +kernel
theorem run74 {h : zH} {g : Nat} : zrun 74 [vR 4, vR g] h = zX 74 0 [vR 4, vR g] [] h := rfl
theorem e74_0 {I : Nat → Int → Int} {b : Bool} {S : Nat} {g : Nat} (hg : isProg g) : zX 74 0 [vR 4, vR g] [] (I, zRs b, 103, S) = (zrun 89 [vR 2, vI 41] (I, zRs b, 103, S)).bind (fun q => zX 74 9 [vR 4, vR g] (zpush q.1 []) q.2) := (xAload_n d74_0 rfl).trans ((xGetR 0 2 d74_1 zo_74 zfl_7_15 rfl rfl rfl (Or.inl (Nat.le_of_ble_eq_true rfl))).trans ((xBipush d74_4).trans (xInvV [vR 2, vI 41] [] d74_6 zo_74 zml_7_88 rfl rfl rfl (Or.inl ⟨rfl, (Nat.le_of_ble_eq_true rfl)⟩))))
theorem e74_9 {I : Nat → Int → Int} {b : Bool} {S : Nat} {t0 : Int} {g : Nat} (hg : isProg g) : zX 74 9 [vR 4, vR g] [vI t0] (I, zRs b, 103, S) = if t0 = 0 then (zrun 89 [vR 2, vI 59] (I, zRs b, 103, S)).bind (fun q => zX 74 27 [vR 4, vR g] (zpush q.1 []) q.2) else (zrun 76 [vR 4, vR g] (I, zRs b, 103, S)).bind (fun q => zX 74 17 [vR 4, vR g] (zpush q.1 []) q.2) := (xIfEq (t := 18) d74_9 rfl).trans (ziteC ((xAload_n d74_18 rfl).trans ((xGetR 0 2 d74_19 zo_74 zfl_7_15 rfl rfl rfl (Or.inl (Nat.le_of_ble_eq_true rfl))).trans ((xBipush d74_22).trans (xInvV [vR 2, vI 59] [] d74_24 zo_74 zml_7_88 rfl rfl rfl (Or.inl ⟨rfl, (Nat.le_of_ble_eq_true rfl)⟩))))) ((xAload_n d74_12 rfl).trans ((xAload_n d74_13 rfl).trans (xInvV [vR 4, vR g] [] d74_14 zo_74 zml_7_99 rfl rfl rfl (Or.inl ⟨rfl, (Nat.le_of_ble_eq_true rfl)⟩)))))
theorem e74_17 {I : Nat → Int → Int} {b : Bool} {S : Nat} {t0 : Int} {g : Nat} (hg : isProg g) : zX 74 17 [vR 4, vR g] [vI t0] (I, zRs b, 103, S) = some (some (vI t0), (I, zRs b, 103, S)) := xIret d74_17 zret_74
theorem e74_27 {I : Nat → Int → Int} {b : Bool} {S : Nat} {t0 : Int} {g : Nat} (hg : isProg g) : zX 74 27 [vR 4, vR g] [vI t0] (I, zRs b, 103, S) = if t0 = 0 then (zrun 75 [vR 4] (I, zRs b, 103, S)).bind (fun q => zX 74 49 [vR 4, vR g] (zpush q.1 [vR 4]) q.2) else if (I g 8) = 0 then some (some (vI 0), ((sI I 4 7 5), zRs b, 103, S)) else (zrun 75 [vR 4] (I, zRs b, 103, S)).bind (fun q => zX 74 49 [vR 4, vR g] (zpush q.1 [vR 4]) q.2) := (xIfEq (t := 44) d74_27 rfl).trans (ziteC ((xAload_n d74_44 rfl).trans ((xAload_n d74_45 rfl).trans (xInvV [vR 4] [vR 4] d74_46 zo_74 zml_7_105 rfl rfl rfl (Or.inl ⟨rfl, (Nat.le_of_ble_eq_true rfl)⟩)))) ((xAload_n d74_30 rfl).trans ((xGetI 8 (I g 8) rfl d74_31 zo_74 zfl_7_102 (by decide) rfl (isProg_k hg) (Or.inl (isProg_n hg))).trans ((xIfNe (t := 44) d74_34 rfl).trans (ziteC ((xAload_n d74_37 rfl).trans ((xIconst d74_38).trans ((xPutI 7 d74_39 zo_74 zfl_7_29 rfl rfl (Nat.le_of_ble_eq_true rfl) (Or.inl rfl)).trans ((xIconst d74_42).trans (xIret d74_43 zret_74))))) ((xAload_n d74_44 rfl).trans ((xAload_n d74_45 rfl).trans (xInvV [vR 4] [vR 4] d74_46 zo_74 zml_7_105 rfl rfl rfl (Or.inl ⟨rfl, (Nat.le_of_ble_eq_true rfl)⟩)))))))))
theorem e74_49 {I : Nat → Int → Int} {b : Bool} {S : Nat} {t1 : Int} {g : Nat} (hg : isProg g) : zX 74 49 [vR 4, vR g] [vI t1, vR 4] (I, zRs b, 103, S) = if 0 ≤ t1 then (zrun 54 [vR g] ((sI I 4 5 t1), zRs b, 103, S)).bind (fun q => zX 74 65 [vR 4, vR g] (zpush q.1 []) q.2) else some (some (vI 2), ((sI I 4 5 t1), zRs b, 103, S)) := (xPutI 5 d74_49 zo_74 zfl_7_109 rfl rfl (Nat.le_of_ble_eq_true rfl) (Or.inl rfl)).trans ((xAload_n d74_52 rfl).trans ((xGetI 5 t1 sI_s d74_53 zo_74 zfl_7_109 (by decide) rfl rfl (Or.inl (Nat.le_of_ble_eq_true rfl))).trans ((xIfGe (t := 61) d74_56 rfl).trans (ziteC ((xAload_n d74_61 rfl).trans (xInvV [vR g] [] d74_62 zo_74 zml_7_112 rfl rfl rfl (Or.inl ⟨(isProg_k hg), (isProg_n hg)⟩))) ((xIconst d74_59).trans (xIret d74_60 zret_74))))))
theorem e74_65 {I : Nat → Int → Int} {b : Bool} {S : Nat} {t0 : Int} {g : Nat} (hg : isProg g) : zX 74 65 [vR 4, vR g] [vI t0] (I, zRs b, 103, S) = if t0 = 0 then some (some (vI 0), ((sI I 4 7 3), zRs b, 103, S)) else some (some (vI 4), (I, zRs b, 103, S)) := (xIfEq (t := 70) d74_65 rfl).trans (ziteC ((xAload_n d74_70 rfl).trans ((xIconst d74_71).trans ((xPutI 7 d74_72 zo_74 zfl_7_29 rfl rfl (Nat.le_of_ble_eq_true rfl) (Or.inl rfl)).trans ((xIconst d74_75).trans (xIret d74_76 zret_74))))) ((xIconst d74_68).trans (xIret d74_69 zret_74)))
theorem zo_75 : zo 75 = 7 := by decide +kernel
theorem zret_75 : zret 75 = some .int := by decide +kernel
theorem d75_0 : decode (zb 75) 0 = .ok (.aload_n 0, 1) := by decide +kernel
theorem d75_1 : decode (zb 75) 1 = .ok (.getfield 15, 3) := by decide +kernel
theorem d75_4 : decode (zb 75) 4 = .ok (.ldc 116, 2) := by decide +kernel
theorem d75_6 : decode (zb 75) 6 = .ok (.invokevirtual 74, 3) := by decide +kernel
theorem d75_9 : decode (zb 75) 9 = .ok (.ifCond .eq 5, 3) := by decide +kernel
theorem d75_12 : decode (zb 75) 12 = .ok (.iconst 0, 1) := by decide +kernel
theorem d75_13 : decode (zb 75) 13 = .ok (.ireturn, 1) := by decide +kernel
theorem d75_14 : decode (zb 75) 14 = .ok (.aload_n 0, 1) := by decide +kernel
theorem d75_15 : decode (zb 75) 15 = .ok (.getfield 15, 3) := by decide +kernel
theorem d75_18 : decode (zb 75) 18 = .ok (.ldc 118, 2) := by decide +kernel
theorem d75_20 : decode (zb 75) 20 = .ok (.invokevirtual 74, 3) := by decide +kernel
theorem d75_23 : decode (zb 75) 23 = .ok (.ifCond .eq 5, 3) := by decide +kernel
theorem d75_26 : decode (zb 75) 26 = .ok (.iconst 1, 1) := by decide +kernel
theorem d75_27 : decode (zb 75) 27 = .ok (.ireturn, 1) := by decide +kernel
theorem d75_28 : decode (zb 75) 28 = .ok (.aload_n 0, 1) := by decide +kernel
theorem d75_29 : decode (zb 75) 29 = .ok (.getfield 15, 3) := by decide +kernel
theorem d75_32 : decode (zb 75) 32 = .ok (.ldc 120, 2) := by decide +kernel
theorem d75_34 : decode (zb 75) 34 = .ok (.invokevirtual 74, 3) := by decide +kernel
theorem d75_37 : decode (zb 75) 37 = .ok (.ifCond .eq 5, 3) := by decide +kernel
theorem d75_40 : decode (zb 75) 40 = .ok (.iconst 2, 1) := by decide +kernel
theorem d75_41 : decode (zb 75) 41 = .ok (.ireturn, 1) := by decide +kernel
theorem d75_42 : decode (zb 75) 42 = .ok (.aload_n 0, 1) := by decide +kernel
theorem d75_43 : decode (zb 75) 43 = .ok (.getfield 15, 3) := by decide +kernel
theorem d75_46 : decode (zb 75) 46 = .ok (.ldc 122, 2) := by decide +kernel
theorem d75_48 : decode (zb 75) 48 = .ok (.invokevirtual 74, 3) := by decide +kernel
theorem d75_51 : decode (zb 75) 51 = .ok (.ifCond .eq 7, 3) := by decide +kernel
theorem d75_54 : decode (zb 75) 54 = .ok (.iconst 3, 1) := by decide +kernel
theorem d75_55 : decode (zb 75) 55 = .ok (.goto 5, 3) := by decide +kernel
theorem d75_58 : decode (zb 75) 58 = .ok (.bipush (-4), 2) := by decide +kernel
theorem d75_60 : decode (zb 75) 60 = .ok (.ireturn, 1) := by decide +kernel
theorem run75 {h : zH} : zrun 75 [vR 4] h = zX 75 0 [vR 4] [] h := rfl
theorem e75_0 {I : Nat → Int → Int} {b : Bool} {S : Nat} : zX 75 0 [vR 4] [] (I, zRs b, 103, S) = (zrun 90 [vR 2, vR 1002] (I, zRs b, 103, S)).bind (fun q => zX 75 9 [vR 4] (zpush q.1 []) q.2) := (xAload_n d75_0 rfl).trans ((xGetR 0 2 d75_1 zo_75 zfl_7_15 rfl rfl rfl (Or.inl (Nat.le_of_ble_eq_true rfl))).trans ((xLdcS d75_4 zo_75 (by decide +kernel) zst_7_116).trans (xInvV [vR 2, vR 1002] [] d75_6 zo_75 zml_7_74 rfl rfl rfl (Or.inl ⟨rfl, (Nat.le_of_ble_eq_true rfl)⟩))))
theorem e75_9 {I : Nat → Int → Int} {b : Bool} {S : Nat} {t0 : Int} : zX 75 9 [vR 4] [vI t0] (I, zRs b, 103, S) = if t0 = 0 then (zrun 90 [vR 2, vR 1003] (I, zRs b, 103, S)).bind (fun q => zX 75 23 [vR 4] (zpush q.1 []) q.2) else some (some (vI 0), (I, zRs b, 103, S)) := (xIfEq (t := 14) d75_9 rfl).trans (ziteC ((xAload_n d75_14 rfl).trans ((xGetR 0 2 d75_15 zo_75 zfl_7_15 rfl rfl rfl (Or.inl (Nat.le_of_ble_eq_true rfl))).trans ((xLdcS d75_18 zo_75 (by decide +kernel) zst_7_118).trans (xInvV [vR 2, vR 1003] [] d75_20 zo_75 zml_7_74 rfl rfl rfl (Or.inl ⟨rfl, (Nat.le_of_ble_eq_true rfl)⟩))))) ((xIconst d75_12).trans (xIret d75_13 zret_75)))
theorem e75_23 {I : Nat → Int → Int} {b : Bool} {S : Nat} {t0 : Int} : zX 75 23 [vR 4] [vI t0] (I, zRs b, 103, S) = if t0 = 0 then (zrun 90 [vR 2, vR 1004] (I, zRs b, 103, S)).bind (fun q => zX 75 37 [vR 4] (zpush q.1 []) q.2) else some (some (vI 1), (I, zRs b, 103, S)) := (xIfEq (t := 28) d75_23 rfl).trans (ziteC ((xAload_n d75_28 rfl).trans ((xGetR 0 2 d75_29 zo_75 zfl_7_15 rfl rfl rfl (Or.inl (Nat.le_of_ble_eq_true rfl))).trans ((xLdcS d75_32 zo_75 (by decide +kernel) zst_7_120).trans (xInvV [vR 2, vR 1004] [] d75_34 zo_75 zml_7_74 rfl rfl rfl (Or.inl ⟨rfl, (Nat.le_of_ble_eq_true rfl)⟩))))) ((xIconst d75_26).trans (xIret d75_27 zret_75)))
theorem e75_37 {I : Nat → Int → Int} {b : Bool} {S : Nat} {t0 : Int} : zX 75 37 [vR 4] [vI t0] (I, zRs b, 103, S) = if t0 = 0 then (zrun 90 [vR 2, vR 1005] (I, zRs b, 103, S)).bind (fun q => zX 75 51 [vR 4] (zpush q.1 []) q.2) else some (some (vI 2), (I, zRs b, 103, S)) := (xIfEq (t := 42) d75_37 rfl).trans (ziteC ((xAload_n d75_42 rfl).trans ((xGetR 0 2 d75_43 zo_75 zfl_7_15 rfl rfl rfl (Or.inl (Nat.le_of_ble_eq_true rfl))).trans ((xLdcS d75_46 zo_75 (by decide +kernel) zst_7_122).trans (xInvV [vR 2, vR 1005] [] d75_48 zo_75 zml_7_74 rfl rfl rfl (Or.inl ⟨rfl, (Nat.le_of_ble_eq_true rfl)⟩))))) ((xIconst d75_40).trans (xIret d75_41 zret_75)))
theorem e75_51 {I : Nat → Int → Int} {b : Bool} {S : Nat} {t0 : Int} : zX 75 51 [vR 4] [vI t0] (I, zRs b, 103, S) = if t0 = 0 then some (some (vI (-4)), (I, zRs b, 103, S)) else some (some (vI 3), (I, zRs b, 103, S)) := (xIfEq (t := 58) d75_51 rfl).trans (ziteC ((xBipush d75_58).trans (xIret d75_60 zret_75)) ((xIconst d75_54).trans ((xGoto (t := 60) d75_55 rfl).trans (xIret d75_60 zret_75))))
theorem zo_76 : zo 76 = 7 := by decide +kernel
theorem zret_76 : zret 76 = some .int := by decide +kernel
theorem d76_0 : decode (zb 76) 0 = .ok (.aload_n 1, 1) := by decide +kernel
theorem d76_1 : decode (zb 76) 1 = .ok (.getfield 102, 3) := by decide +kernel
theorem d76_4 : decode (zb 76) 4 = .ok (.ifCond .ne 5, 3) := by decide +kernel
theorem d76_7 : decode (zb 76) 7 = .ok (.iconst 2, 1) := by decide +kernel
theorem d76_8 : decode (zb 76) 8 = .ok (.ireturn, 1) := by decide +kernel
theorem d76_9 : decode (zb 76) 9 = .ok (.aload_n 1, 1) := by decide +kernel
theorem d76_10 : decode (zb 76) 10 = .ok (.invokevirtual 112, 3) := by decide +kernel
theorem d76_13 : decode (zb 76) 13 = .ok (.ifCond .eq 5, 3) := by decide +kernel
theorem d76_16 : decode (zb 76) 16 = .ok (.iconst 4, 1) := by decide +kernel
theorem d76_17 : decode (zb 76) 17 = .ok (.ireturn, 1) := by decide +kernel
theorem d76_18 : decode (zb 76) 18 = .ok (.aload_n 1, 1) := by decide +kernel
theorem d76_19 : decode (zb 76) 19 = .ok (.invokevirtual 124, 3) := by decide +kernel
theorem d76_22 : decode (zb 76) 22 = .ok (.ifCond .ne 6, 3) := by decide +kernel
theorem d76_25 : decode (zb 76) 25 = .ok (.bipush 6, 2) := by decide +kernel
theorem d76_27 : decode (zb 76) 27 = .ok (.ireturn, 1) := by decide +kernel
theorem d76_28 : decode (zb 76) 28 = .ok (.aload_n 1, 1) := by decide +kernel
theorem d76_29 : decode (zb 76) 29 = .ok (.invokevirtual 127, 3) := by decide +kernel
theorem d76_32 : decode (zb 76) 32 = .ok (.iconst 0, 1) := by decide +kernel
theorem d76_33 : decode (zb 76) 33 = .ok (.ireturn, 1) := by decide +kernel
theorem run76 {h : zH} {g : Nat} : zrun 76 [vR 4, vR g] h = zX 76 0 [vR 4, vR g] [] h := rfl
theorem e76_0 {I : Nat → Int → Int} {b : Bool} {S : Nat} {g : Nat} (hg : isProg g) : zX 76 0 [vR 4, vR g] [] (I, zRs b, 103, S) = if (I g 8) = 0 then some (some (vI 2), (I, zRs b, 103, S)) else (zrun 54 [vR g] (I, zRs b, 103, S)).bind (fun q => zX 76 13 [vR 4, vR g] (zpush q.1 []) q.2) := (xAload_n d76_0 rfl).trans ((xGetI 8 (I g 8) rfl d76_1 zo_76 zfl_7_102 (by decide) rfl (isProg_k hg) (Or.inl (isProg_n hg))).trans ((xIfNe (t := 9) d76_4 rfl).trans (ziteC ((xIconst d76_7).trans (xIret d76_8 zret_76)) ((xAload_n d76_9 rfl).trans (xInvV [vR g] [] d76_10 zo_76 zml_7_112 rfl rfl rfl (Or.inl ⟨(isProg_k hg), (isProg_n hg)⟩))))))
theorem e76_13 {I : Nat → Int → Int} {b : Bool} {S : Nat} {t0 : Int} {g : Nat} (hg : isProg g) : zX 76 13 [vR 4, vR g] [vI t0] (I, zRs b, 103, S) = if t0 = 0 then (zrun 60 [vR g] (I, zRs b, 103, S)).bind (fun q => zX 76 22 [vR 4, vR g] (zpush q.1 []) q.2) else some (some (vI 4), (I, zRs b, 103, S)) := (xIfEq (t := 18) d76_13 rfl).trans (ziteC ((xAload_n d76_18 rfl).trans (xInvV [vR g] [] d76_19 zo_76 zml_7_124 rfl rfl rfl (Or.inl ⟨(isProg_k hg), (isProg_n hg)⟩))) ((xIconst d76_16).trans (xIret d76_17 zret_76)))
theorem e76_22 {I : Nat → Int → Int} {b : Bool} {S : Nat} {t0 : Int} {g : Nat} (hg : isProg g) : zX 76 22 [vR 4, vR g] [vI t0] (I, zRs b, 103, S) = if t0 = 0 then some (some (vI 6), (I, zRs b, 103, S)) else (zrun 59 [vR g] (I, zRs b, 103, S)).bind (fun q => zX 76 32 [vR 4, vR g] (zpush q.1 []) q.2) := (xIfNe (t := 28) d76_22 rfl).trans (ziteC ((xBipush d76_25).trans (xIret d76_27 zret_76)) ((xAload_n d76_28 rfl).trans (xInvV [vR g] [] d76_29 zo_76 zml_7_127 rfl rfl rfl (Or.inl ⟨(isProg_k hg), (isProg_n hg)⟩))))
theorem e76_32 {I : Nat → Int → Int} {b : Bool} {S : Nat} {g : Nat} (hg : isProg g) : zX 76 32 [vR 4, vR g] [] (I, zRs b, 103, S) = some (some (vI 0), (I, zRs b, 103, S)) := (xIconst d76_32).trans (xIret d76_33 zret_76)
theorem zo_77 : zo 77 = 7 := by decide +kernel
theorem zret_77 : zret 77 = some .int := by decide +kernel
theorem d77_0 : decode (zb 77) 0 = .ok (.aload_n 0, 1) := by decide +kernel
theorem d77_1 : decode (zb 77) 1 = .ok (.getfield 15, 3) := by decide +kernel
theorem d77_4 : decode (zb 77) 4 = .ok (.getfield 36, 3) := by decide +kernel
theorem d77_7 : decode (zb 77) 7 = .ok (.iconst 1, 1) := by decide +kernel
theorem d77_8 : decode (zb 77) 8 = .ok (.if_icmp .eq 5, 3) := by decide +kernel
theorem d77_11 : decode (zb 77) 11 = .ok (.iconst 2, 1) := by decide +kernel
theorem d77_12 : decode (zb 77) 12 = .ok (.ireturn, 1) := by decide +kernel
theorem d77_13 : decode (zb 77) 13 = .ok (.aload_n 0, 1) := by decide +kernel
theorem d77_14 : decode (zb 77) 14 = .ok (.aload_n 0, 1) := by decide +kernel
theorem d77_15 : decode (zb 77) 15 = .ok (.getfield 15, 3) := by decide +kernel
theorem d77_18 : decode (zb 77) 18 = .ok (.getfield 96, 3) := by decide +kernel
theorem d77_21 : decode (zb 77) 21 = .ok (.putfield 130, 3) := by decide +kernel
theorem d77_24 : decode (zb 77) 24 = .ok (.aload_n 0, 1) := by decide +kernel
theorem d77_25 : decode (zb 77) 25 = .ok (.getfield 130, 3) := by decide +kernel
theorem d77_28 : decode (zb 77) 28 = .ok (.aload_n 0, 1) := by decide +kernel
theorem d77_29 : decode (zb 77) 29 = .ok (.getfield 109, 3) := by decide +kernel
theorem d77_32 : decode (zb 77) 32 = .ok (.iconst 2, 1) := by decide +kernel
theorem d77_33 : decode (zb 77) 33 = .ok (.if_icmp .ne 7, 3) := by decide +kernel
theorem d77_36 : decode (zb 77) 36 = .ok (.iconst 1, 1) := by decide +kernel
theorem d77_37 : decode (zb 77) 37 = .ok (.goto 4, 3) := by decide +kernel
theorem d77_40 : decode (zb 77) 40 = .ok (.iconst 0, 1) := by decide +kernel
theorem d77_41 : decode (zb 77) 41 = .ok (.if_icmp .lt 15, 3) := by decide +kernel
theorem d77_44 : decode (zb 77) 44 = .ok (.aload_n 0, 1) := by decide +kernel
theorem d77_45 : decode (zb 77) 45 = .ok (.getfield 130, 3) := by decide +kernel
theorem d77_48 : decode (zb 77) 48 = .ok (.aload_n 0, 1) := by decide +kernel
theorem d77_49 : decode (zb 77) 49 = .ok (.aload_n 1, 1) := by decide +kernel
theorem d77_50 : decode (zb 77) 50 = .ok (.invokevirtual 133, 3) := by decide +kernel
theorem d77_53 : decode (zb 77) 53 = .ok (.if_icmp .le 5, 3) := by decide +kernel
theorem d77_56 : decode (zb 77) 56 = .ok (.iconst 3, 1) := by decide +kernel
theorem d77_57 : decode (zb 77) 57 = .ok (.ireturn, 1) := by decide +kernel
theorem d77_58 : decode (zb 77) 58 = .ok (.aload_n 0, 1) := by decide +kernel
theorem d77_59 : decode (zb 77) 59 = .ok (.iconst 2, 1) := by decide +kernel
theorem d77_60 : decode (zb 77) 60 = .ok (.putfield 29, 3) := by decide +kernel
theorem d77_63 : decode (zb 77) 63 = .ok (.aload_n 0, 1) := by decide +kernel
theorem d77_64 : decode (zb 77) 64 = .ok (.getfield 109, 3) := by decide +kernel
theorem d77_67 : decode (zb 77) 67 = .ok (.ifCond .ne 14, 3) := by decide +kernel
theorem d77_70 : decode (zb 77) 70 = .ok (.aload_n 1, 1) := by decide +kernel
theorem d77_71 : decode (zb 77) 71 = .ok (.aload_n 0, 1) := by decide +kernel
theorem d77_72 : decode (zb 77) 72 = .ok (.getfield 130, 3) := by decide +kernel
theorem d77_75 : decode (zb 77) 75 = .ok (.invokevirtual 136, 3) := by decide +kernel
theorem d77_78 : decode (zb 77) 78 = .ok (.goto 27, 3) := by decide +kernel
theorem d77_81 : decode (zb 77) 81 = .ok (.aload_n 0, 1) := by decide +kernel
theorem d77_82 : decode (zb 77) 82 = .ok (.getfield 109, 3) := by decide +kernel
theorem d77_85 : decode (zb 77) 85 = .ok (.iconst 1, 1) := by decide +kernel
theorem d77_86 : decode (zb 77) 86 = .ok (.if_icmp .ne 14, 3) := by decide +kernel
theorem d77_89 : decode (zb 77) 89 = .ok (.aload_n 1, 1) := by decide +kernel
theorem d77_90 : decode (zb 77) 90 = .ok (.aload_n 0, 1) := by decide +kernel
theorem d77_91 : decode (zb 77) 91 = .ok (.getfield 130, 3) := by decide +kernel
theorem d77_94 : decode (zb 77) 94 = .ok (.invokevirtual 140, 3) := by decide +kernel
theorem d77_97 : decode (zb 77) 97 = .ok (.goto 8, 3) := by decide +kernel
theorem d77_100 : decode (zb 77) 100 = .ok (.aload_n 0, 1) := by decide +kernel
theorem d77_101 : decode (zb 77) 101 = .ok (.iconst 4, 1) := by decide +kernel
theorem d77_102 : decode (zb 77) 102 = .ok (.putfield 29, 3) := by decide +kernel
theorem d77_105 : decode (zb 77) 105 = .ok (.iconst 0, 1) := by decide +kernel
theorem d77_106 : decode (zb 77) 106 = .ok (.ireturn, 1) := by decide +kernel
theorem run77 {h : zH} {g : Nat} : zrun 77 [vR 4, vR g] h = zX 77 0 [vR 4, vR g] [] h := rfl
theorem e77_0 {I : Nat → Int → Int} {b : Bool} {S : Nat} {g : Nat} (hg : isProg g) : zX 77 0 [vR 4, vR g] [] (I, zRs b, 103, S) = if (I 2 2) = 1 then if (I 4 5) = 2 then if (I 2 5) < 1 then some (some (vI 3), ((sI I 4 6 (I 2 5)), zRs b, 103, S)) else (zrun 78 [vR 4, vR g] ((sI I 4 6 (I 2 5)), zRs b, 103, S)).bind (fun q => zX 77 53 [vR 4, vR g] (zpush q.1 [vI (I 2 5)]) q.2) else if (I 2 5) < 0 then some (some (vI 3), ((sI I 4 6 (I 2 5)), zRs b, 103, S)) else (zrun 78 [vR 4, vR g] ((sI I 4 6 (I 2 5)), zRs b, 103, S)).bind (fun q => zX 77 53 [vR 4, vR g] (zpush q.1 [vI (I 2 5)]) q.2) else some (some (vI 2), (I, zRs b, 103, S)) := (xAload_n d77_0 rfl).trans ((xGetR 0 2 d77_1 zo_77 zfl_7_15 rfl rfl rfl (Or.inl (Nat.le_of_ble_eq_true rfl))).trans ((xGetI 2 (I 2 2) rfl d77_4 zo_77 zfl_7_36 (by decide) rfl rfl (Or.inl (Nat.le_of_ble_eq_true rfl))).trans ((xIconst d77_7).trans ((xIcmpEq (t := 13) d77_8 rfl).trans (ziteC ((xAload_n d77_13 rfl).trans ((xAload_n d77_14 rfl).trans ((xGetR 0 2 d77_15 zo_77 zfl_7_15 rfl rfl rfl (Or.inl (Nat.le_of_ble_eq_true rfl))).trans ((xGetI 5 (I 2 5) rfl d77_18 zo_77 zfl_7_96 (by decide) rfl rfl (Or.inl (Nat.le_of_ble_eq_true rfl))).trans ((xPutI 6 d77_21 zo_77 zfl_7_130 rfl rfl (Nat.le_of_ble_eq_true rfl) (Or.inl rfl)).trans ((xAload_n d77_24 rfl).trans ((xGetI 6 (I 2 5) sI_s d77_25 zo_77 zfl_7_130 (by decide) rfl rfl (Or.inl (Nat.le_of_ble_eq_true rfl))).trans ((xAload_n d77_28 rfl).trans ((xGetI 5 (I 4 5) (sI_k (by decide)) d77_29 zo_77 zfl_7_109 (by decide) rfl rfl (Or.inl (Nat.le_of_ble_eq_true rfl))).trans ((xIconst d77_32).trans ((xIcmpNe (t := 40) d77_33 rfl).trans (ziteC ((xIconst d77_36).trans ((xGoto (t := 41) d77_37 rfl).trans ((xIcmpLt (t := 56) d77_41 rfl).trans (ziteC ((xIconst d77_56).trans (xIret d77_57 zret_77)) ((xAload_n d77_44 rfl).trans ((xGetI 6 (I 2 5) sI_s d77_45 zo_77 zfl_7_130 (by decide) rfl rfl (Or.inl (Nat.le_of_ble_eq_true rfl))).trans ((xAload_n d77_48 rfl).trans ((xAload_n d77_49 rfl).trans (xInvV [vR 4, vR g] [vI (I 2 5)] d77_50 zo_77 zml_7_133 rfl rfl rfl (Or.inl ⟨rfl, (Nat.le_of_ble_eq_true rfl)⟩)))))))))) ((xIconst d77_40).trans ((xIcmpLt (t := 56) d77_41 rfl).trans (ziteC ((xIconst d77_56).trans (xIret d77_57 zret_77)) ((xAload_n d77_44 rfl).trans ((xGetI 6 (I 2 5) sI_s d77_45 zo_77 zfl_7_130 (by decide) rfl rfl (Or.inl (Nat.le_of_ble_eq_true rfl))).trans ((xAload_n d77_48 rfl).trans ((xAload_n d77_49 rfl).trans (xInvV [vR 4, vR g] [vI (I 2 5)] d77_50 zo_77 zml_7_133 rfl rfl rfl (Or.inl ⟨rfl, (Nat.le_of_ble_eq_true rfl)⟩))))))))))))))))))))) ((xIconst d77_11).trans (xIret d77_12 zret_77)))))))
theorem e77_53 {I : Nat → Int → Int} {b : Bool} {S : Nat} {t0 t1 : Int} {g : Nat} (hg : isProg g) : zX 77 53 [vR 4, vR g] [vI t1, vI t0] (I, zRs b, 103, S) = if t0 ≤ t1 then if (I 4 5) = 0 then (zrun 56 [vR g, vI (I 4 6)] ((sI I 4 7 2), zRs b, 103, S)).bind (fun q => zX 77 78 [vR 4, vR g] (zpush q.1 []) q.2) else if (I 4 5) = 1 then (zrun 57 [vR g, vI (I 4 6)] ((sI I 4 7 2), zRs b, 103, S)).bind (fun q => zX 77 97 [vR 4, vR g] (zpush q.1 []) q.2) else some (some (vI 0), ((sI (sI I 4 7 2) 4 7 4), zRs b, 103, S)) else some (some (vI 3), (I, zRs b, 103, S)) := (xIcmpLe (t := 58) d77_53 rfl).trans (ziteC ((xAload_n d77_58 rfl).trans ((xIconst d77_59).trans ((xPutI 7 d77_60 zo_77 zfl_7_29 rfl rfl (Nat.le_of_ble_eq_true rfl) (Or.inl rfl)).trans ((xAload_n d77_63 rfl).trans ((xGetI 5 (I 4 5) (sI_k (by decide)) d77_64 zo_77 zfl_7_109 (by decide) rfl rfl (Or.inl (Nat.le_of_ble_eq_true rfl))).trans ((xIfNe (t := 81) d77_67 rfl).trans (ziteC ((xAload_n d77_70 rfl).trans ((xAload_n d77_71 rfl).trans ((xGetI 6 (I 4 6) (sI_k (by decide)) d77_72 zo_77 zfl_7_130 (by decide) rfl rfl (Or.inl (Nat.le_of_ble_eq_true rfl))).trans (xInvV [vR g, vI (I 4 6)] [] d77_75 zo_77 zml_7_136 rfl rfl rfl (Or.inl ⟨(isProg_k hg), (isProg_n hg)⟩))))) ((xAload_n d77_81 rfl).trans ((xGetI 5 (I 4 5) (sI_k (by decide)) d77_82 zo_77 zfl_7_109 (by decide) rfl rfl (Or.inl (Nat.le_of_ble_eq_true rfl))).trans ((xIconst d77_85).trans ((xIcmpNe (t := 100) d77_86 rfl).trans (ziteC ((xAload_n d77_89 rfl).trans ((xAload_n d77_90 rfl).trans ((xGetI 6 (I 4 6) (sI_k (by decide)) d77_91 zo_77 zfl_7_130 (by decide) rfl rfl (Or.inl (Nat.le_of_ble_eq_true rfl))).trans (xInvV [vR g, vI (I 4 6)] [] d77_94 zo_77 zml_7_140 rfl rfl rfl (Or.inl ⟨(isProg_k hg), (isProg_n hg)⟩))))) ((xAload_n d77_100 rfl).trans ((xIconst d77_101).trans ((xPutI 7 d77_102 zo_77 zfl_7_29 rfl rfl (Nat.le_of_ble_eq_true rfl) (Or.inl rfl)).trans ((xIconst d77_105).trans (xIret d77_106 zret_77))))))))))))))))) ((xIconst d77_56).trans (xIret d77_57 zret_77)))
theorem e77_78 {I : Nat → Int → Int} {b : Bool} {S : Nat} {g : Nat} (hg : isProg g) : zX 77 78 [vR 4, vR g] [] (I, zRs b, 103, S) = some (some (vI 0), (I, zRs b, 103, S)) := (xGoto (t := 105) d77_78 rfl).trans ((xIconst d77_105).trans (xIret d77_106 zret_77))
theorem e77_97 {I : Nat → Int → Int} {b : Bool} {S : Nat} {g : Nat} (hg : isProg g) : zX 77 97 [vR 4, vR g] [] (I, zRs b, 103, S) = some (some (vI 0), (I, zRs b, 103, S)) := (xGoto (t := 105) d77_97 rfl).trans ((xIconst d77_105).trans (xIret d77_106 zret_77))
theorem zo_78 : zo 78 = 7 := by decide +kernel
theorem zret_78 : zret 78 = some .int := by decide +kernel
theorem d78_0 : decode (zb 78) 0 = .ok (.aload_n 0, 1) := by decide +kernel
theorem d78_1 : decode (zb 78) 1 = .ok (.getfield 109, 3) := by decide +kernel
theorem d78_4 : decode (zb 78) 4 = .ok (.lookupswitch 40 #[(0, 28), (3, 38)], 28) := by decide +kernel
theorem d78_32 : decode (zb 78) 32 = .ok (.aload_n 1, 1) := by decide +kernel
theorem d78_33 : decode (zb 78) 33 = .ok (.getfield 52, 3) := by decide +kernel
theorem d78_36 : decode (zb 78) 36 = .ok (.getfield 80, 3) := by decide +kernel
theorem d78_39 : decode (zb 78) 39 = .ok (.iconst 1, 1) := by decide +kernel
theorem d78_40 : decode (zb 78) 40 = .ok (.isub, 1) := by decide +kernel
theorem d78_41 : decode (zb 78) 41 = .ok (.ireturn, 1) := by decide +kernel
theorem d78_42 : decode (zb 78) 42 = .ok (.iconst 3, 1) := by decide +kernel
theorem d78_43 : decode (zb 78) 43 = .ok (.ireturn, 1) := by decide +kernel
theorem d78_44 : decode (zb 78) 44 = .ok (.bipush 9, 2) := by decide +kernel
theorem d78_46 : decode (zb 78) 46 = .ok (.ireturn, 1) := by decide +kernel
theorem run78 {h : zH} {g : Nat} : zrun 78 [vR 4, vR g] h = zX 78 0 [vR 4, vR g] [] h := rfl
theorem e78_0 {I : Nat → Int → Int} {b : Bool} {S : Nat} {g : Nat} (hg : isProg g) : zX 78 0 [vR 4, vR g] [] (I, zRs b, 103, S) = if (I 4 5) = 0 then some (some (vI (wr ((I (g + 1) 5) - 1))), (I, zRs b, 103, S)) else if (I 4 5) = 3 then some (some (vI 3), (I, zRs b, 103, S)) else some (some (vI 9), (I, zRs b, 103, S)) := (xAload_n d78_0 rfl).trans ((xGetI 5 (I 4 5) rfl d78_1 zo_78 zfl_7_109 (by decide) rfl rfl (Or.inl (Nat.le_of_ble_eq_true rfl))).trans ((xLook [(0, 32), (3, 42)] 44 d78_4 rfl rfl rfl).trans (ziteC ((xAload_n d78_32 rfl).trans ((xGetR 0 (g + 1) d78_33 zo_78 zfl_7_52 rfl (isProg_r0 hg) (isProg_k hg) (Or.inl (isProg_n hg))).trans ((xGetI 5 (I (g + 1) 5) rfl d78_36 zo_78 zfl_7_80 (by decide) rfl (isProg_k1 hg) (Or.inl (isProg_n1 hg))).trans ((xIconst d78_39).trans ((xIsub d78_40).trans (xIret d78_41 zret_78)))))) (ziteC ((xIconst d78_42).trans (xIret d78_43 zret_78)) ((xBipush d78_44).trans (xIret d78_46 zret_78))))))
theorem zo_79 : zo 79 = 7 := by decide +kernel
theorem zret_79 : zret 79 = some .int := by decide +kernel
theorem d79_0 : decode (zb 79) 0 = .ok (.aload_n 0, 1) := by decide +kernel
theorem d79_1 : decode (zb 79) 1 = .ok (.getfield 15, 3) := by decide +kernel
theorem d79_4 : decode (zb 79) 4 = .ok (.bipush 40, 2) := by decide +kernel
theorem d79_6 : decode (zb 79) 6 = .ok (.invokevirtual 88, 3) := by decide +kernel
theorem d79_9 : decode (zb 79) 9 = .ok (.ifCond .ne 5, 3) := by decide +kernel
theorem d79_12 : decode (zb 79) 12 = .ok (.iconst 2, 1) := by decide +kernel
theorem d79_13 : decode (zb 79) 13 = .ok (.ireturn, 1) := by decide +kernel
theorem d79_14 : decode (zb 79) 14 = .ok (.aload_n 1, 1) := by decide +kernel
theorem d79_15 : decode (zb 79) 15 = .ok (.invokevirtual 143, 3) := by decide +kernel
theorem d79_18 : decode (zb 79) 18 = .ok (.ifCond .eq 5, 3) := by decide +kernel
theorem d79_21 : decode (zb 79) 21 = .ok (.iconst 5, 1) := by decide +kernel
theorem d79_22 : decode (zb 79) 22 = .ok (.ireturn, 1) := by decide +kernel
theorem d79_23 : decode (zb 79) 23 = .ok (.aload_n 1, 1) := by decide +kernel
theorem d79_24 : decode (zb 79) 24 = .ok (.aload_n 0, 1) := by decide +kernel
theorem d79_25 : decode (zb 79) 25 = .ok (.getfield 109, 3) := by decide +kernel
theorem d79_28 : decode (zb 79) 28 = .ok (.aload_n 0, 1) := by decide +kernel
theorem d79_29 : decode (zb 79) 29 = .ok (.getfield 130, 3) := by decide +kernel
theorem d79_32 : decode (zb 79) 32 = .ok (.invokevirtual 146, 3) := by decide +kernel
theorem d79_35 : decode (zb 79) 35 = .ok (.aload_n 0, 1) := by decide +kernel
theorem d79_36 : decode (zb 79) 36 = .ok (.iconst 2, 1) := by decide +kernel
theorem d79_37 : decode (zb 79) 37 = .ok (.putfield 29, 3) := by decide +kernel
theorem d79_40 : decode (zb 79) 40 = .ok (.iconst 0, 1) := by decide +kernel
theorem d79_41 : decode (zb 79) 41 = .ok (.ireturn, 1) := by decide +kernel
theorem run79 {h : zH} {g : Nat} : zrun 79 [vR 4, vR g] h = zX 79 0 [vR 4, vR g] [] h := rfl
theorem e79_0 {I : Nat → Int → Int} {b : Bool} {S : Nat} {g : Nat} (hg : isProg g) : zX 79 0 [vR 4, vR g] [] (I, zRs b, 103, S) = (zrun 89 [vR 2, vI 40] (I, zRs b, 103, S)).bind (fun q => zX 79 9 [vR 4, vR g] (zpush q.1 []) q.2) := (xAload_n d79_0 rfl).trans ((xGetR 0 2 d79_1 zo_79 zfl_7_15 rfl rfl rfl (Or.inl (Nat.le_of_ble_eq_true rfl))).trans ((xBipush d79_4).trans (xInvV [vR 2, vI 40] [] d79_6 zo_79 zml_7_88 rfl rfl rfl (Or.inl ⟨rfl, (Nat.le_of_ble_eq_true rfl)⟩))))
theorem e79_9 {I : Nat → Int → Int} {b : Bool} {S : Nat} {t0 : Int} {g : Nat} (hg : isProg g) : zX 79 9 [vR 4, vR g] [vI t0] (I, zRs b, 103, S) = if t0 = 0 then some (some (vI 2), (I, zRs b, 103, S)) else (zrun 55 [vR g] (I, zRs b, 103, S)).bind (fun q => zX 79 18 [vR 4, vR g] (zpush q.1 []) q.2) := (xIfNe (t := 14) d79_9 rfl).trans (ziteC ((xIconst d79_12).trans (xIret d79_13 zret_79)) ((xAload_n d79_14 rfl).trans (xInvV [vR g] [] d79_15 zo_79 zml_7_143 rfl rfl rfl (Or.inl ⟨(isProg_k hg), (isProg_n hg)⟩))))
theorem e79_18 {I : Nat → Int → Int} {b : Bool} {S : Nat} {t0 : Int} {g : Nat} (hg : isProg g) : zX 79 18 [vR 4, vR g] [vI t0] (I, zRs b, 103, S) = if t0 = 0 then (zrun 58 [vR g, vI (I 4 5), vI (I 4 6)] (I, zRs b, 103, S)).bind (fun q => zX 79 35 [vR 4, vR g] (zpush q.1 []) q.2) else some (some (vI 5), (I, zRs b, 103, S)) := (xIfEq (t := 23) d79_18 rfl).trans (ziteC ((xAload_n d79_23 rfl).trans ((xAload_n d79_24 rfl).trans ((xGetI 5 (I 4 5) rfl d79_25 zo_79 zfl_7_109 (by decide) rfl rfl (Or.inl (Nat.le_of_ble_eq_true rfl))).trans ((xAload_n d79_28 rfl).trans ((xGetI 6 (I 4 6) rfl d79_29 zo_79 zfl_7_130 (by decide) rfl rfl (Or.inl (Nat.le_of_ble_eq_true rfl))).trans (xInvV [vR g, vI (I 4 5), vI (I 4 6)] [] d79_32 zo_79 zml_7_146 rfl rfl rfl (Or.inl ⟨(isProg_k hg), (isProg_n hg)⟩))))))) ((xIconst d79_21).trans (xIret d79_22 zret_79)))
theorem e79_35 {I : Nat → Int → Int} {b : Bool} {S : Nat} {g : Nat} (hg : isProg g) : zX 79 35 [vR 4, vR g] [] (I, zRs b, 103, S) = some (some (vI 0), ((sI I 4 7 2), zRs b, 103, S)) := (xAload_n d79_35 rfl).trans ((xIconst d79_36).trans ((xPutI 7 d79_37 zo_79 zfl_7_29 rfl rfl (Nat.le_of_ble_eq_true rfl) (Or.inl rfl)).trans ((xIconst d79_40).trans (xIret d79_41 zret_79))))
