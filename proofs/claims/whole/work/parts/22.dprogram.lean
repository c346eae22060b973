theorem zo_53 : zo 53 = 6 := by decide +kernel
theorem zret_53 : zret 53 = none := by decide +kernel
theorem d53_0 : decode (zb 53) 0 = .ok (.aload_n 0, 1) := by decide +kernel
theorem d53_1 : decode (zb 53) 1 = .ok (.getfield 12, 3) := by decide +kernel
theorem d53_4 : decode (zb 53) 4 = .ok (.invokevirtual 40, 3) := by decide +kernel
theorem d53_7 : decode (zb 53) 7 = .ok (.aload_n 0, 1) := by decide +kernel
theorem d53_8 : decode (zb 53) 8 = .ok (.iconst 0, 1) := by decide +kernel
theorem d53_9 : decode (zb 53) 9 = .ok (.putfield 43, 3) := by decide +kernel
theorem d53_12 : decode (zb 53) 12 = .ok (.aload_n 0, 1) := by decide +kernel
theorem d53_13 : decode (zb 53) 13 = .ok (.iconst 0, 1) := by decide +kernel
theorem d53_14 : decode (zb 53) 14 = .ok (.putfield 47, 3) := by decide +kernel
theorem d53_17 : decode (zb 53) 17 = .ok (.aload_n 0, 1) := by decide +kernel
theorem d53_18 : decode (zb 53) 18 = .ok (.getfield 37, 3) := by decide +kernel
theorem d53_21 : decode (zb 53) 21 = .ok (.iconst 0, 1) := by decide +kernel
theorem d53_22 : decode (zb 53) 22 = .ok (.iconst 0, 1) := by decide +kernel
theorem d53_23 : decode (zb 53) 23 = .ok (.iastore, 1) := by decide +kernel
theorem d53_24 : decode (zb 53) 24 = .ok (.return_, 1) := by decide +kernel
theorem run53 {h : zH} {g : Nat} : zrun 53 [vR g] h = zX 53 0 [vR g] [] h := rfl
theorem e53_0 {I : Nat → Int → Int} {b : Bool} {S : Nat} {g : Nat} (hg : isProg g) : zX 53 0 [vR g] [] (I, zRs b, 103, S) = (zrun 44 [vR (g + 1)] (I, zRs b, 103, S)).bind (fun q => zX 53 7 [vR g] (zpush q.1 []) q.2) := (xAload_n d53_0 rfl).trans ((xGetR 0 (g + 1) d53_1 zo_53 zfl_6_12 rfl (isProg_r0 hg) (isProg_k hg) (Or.inl (isProg_n hg))).trans (xInvV [vR (g + 1)] [] d53_4 zo_53 zml_6_40 rfl rfl rfl (Or.inl ⟨(isProg_k1 hg), (isProg_n1 hg)⟩)))
theorem e53_7 {I : Nat → Int → Int} {b : Bool} {S : Nat} {g : Nat} (hg : isProg g) : zX 53 7 [vR g] [] (I, zRs b, 103, S) = some (none, ((sI (sI (sI I g 6 0) g 8 0) (g + 12) 0 0), zRs b, 103, S)) := (xAload_n d53_7 rfl).trans ((xIconst d53_8).trans ((xPutI 6 d53_9 zo_53 zfl_6_43 rfl (isProg_k hg) (isProg_n hg) (Or.inl rfl)).trans ((xAload_n d53_12 rfl).trans ((xIconst d53_13).trans ((xPutI 8 d53_14 zo_53 zfl_6_47 rfl (isProg_k hg) (isProg_n hg) (Or.inl rfl)).trans ((xAload_n d53_17 rfl).trans ((xGetR 9 (g + 12) d53_18 zo_53 zfl_6_37 rfl (isProg_r9 hg) (isProg_k hg) (Or.inl (isProg_n hg))).trans ((xIconst d53_21).trans ((xIconst d53_22).trans ((xIast (N := 5) d53_23 (by rw [(isProg_k12 hg)]) (isProg_n12 hg) (by rw [(isProg_k12 hg)]; rfl)).trans ((if_pos (by decide)).trans (xVret d53_24 zret_53))))))))))))
theorem zo_54 : zo 54 = 6 := by decide +kernel
theorem zret_54 : zret 54 = some .boolean := by decide +kernel
theorem d54_0 : decode (zb 54) 0 = .ok (.aload_n 0, 1) := by decide +kernel
theorem d54_1 : decode (zb 54) 1 = .ok (.getfield 43, 3) := by decide +kernel
theorem d54_4 : decode (zb 54) 4 = .ok (.bipush 24, 2) := by decide +kernel
theorem d54_6 : decode (zb 54) 6 = .ok (.if_icmp .lt 7, 3) := by decide +kernel
theorem d54_9 : decode (zb 54) 9 = .ok (.iconst 1, 1) := by decide +kernel
theorem d54_10 : decode (zb 54) 10 = .ok (.goto 4, 3) := by decide +kernel
theorem d54_13 : decode (zb 54) 13 = .ok (.iconst 0, 1) := by decide +kernel
theorem d54_14 : decode (zb 54) 14 = .ok (.ireturn, 1) := by decide +kernel
theorem run54 {h : zH} {g : Nat} : zrun 54 [vR g] h = zX 54 0 [vR g] [] h := rfl
theorem e54_0 {I : Nat → Int → Int} {b : Bool} {S : Nat} {g : Nat} (hg : isProg g) : zX 54 0 [vR g] [] (I, zRs b, 103, S) = if (I g 6) < 24 then some (some (vI 0), (I, zRs b, 103, S)) else some (some (vI 1), (I, zRs b, 103, S)) := (xAload_n d54_0 rfl).trans ((xGetI 6 (I g 6) rfl d54_1 zo_54 zfl_6_43 (by decide) rfl (isProg_k hg) (Or.inl (isProg_n hg))).trans ((xBipush d54_4).trans ((xIcmpLt (t := 13) d54_6 rfl).trans (ziteC ((xIconst d54_13).trans (xZret d54_14 zret_54 (by decide))) ((xIconst d54_9).trans ((xGoto (t := 14) d54_10 rfl).trans (xZret d54_14 zret_54 (by decide))))))))
theorem zo_55 : zo 55 = 6 := by decide +kernel
theorem zret_55 : zret 55 = some .boolean := by decide +kernel
theorem d55_0 : decode (zb 55) 0 = .ok (.aload_n 0, 1) := by decide +kernel
theorem d55_1 : decode (zb 55) 1 = .ok (.getfield 47, 3) := by decide +kernel
theorem d55_4 : decode (zb 55) 4 = .ok (.iconst 4, 1) := by decide +kernel
theorem d55_5 : decode (zb 55) 5 = .ok (.if_icmp .lt 7, 3) := by decide +kernel
theorem d55_8 : decode (zb 55) 8 = .ok (.iconst 1, 1) := by decide +kernel
theorem d55_9 : decode (zb 55) 9 = .ok (.goto 4, 3) := by decide +kernel
theorem d55_12 : decode (zb 55) 12 = .ok (.iconst 0, 1) := by decide +kernel
theorem d55_13 : decode (zb 55) 13 = .ok (.ireturn, 1) := by decide +kernel
theorem run55 {h : zH} {g : Nat} : zrun 55 [vR g] h = zX 55 0 [vR g] [] h := rfl
theorem e55_0 {I : Nat → Int → Int} {b : Bool} {S : Nat} {g : Nat} (hg : isProg g) : zX 55 0 [vR g] [] (I, zRs b, 103, S) = if (I g 8) < 4 then some (some (vI 0), (I, zRs b, 103, S)) else some (some (vI 1), (I, zRs b, 103, S)) := (xAload_n d55_0 rfl).trans ((xGetI 8 (I g 8) rfl d55_1 zo_55 zfl_6_47 (by decide) rfl (isProg_k hg) (Or.inl (isProg_n hg))).trans ((xIconst d55_4).trans ((xIcmpLt (t := 12) d55_5 rfl).trans (ziteC ((xIconst d55_12).trans (xZret d55_13 zret_55 (by decide))) ((xIconst d55_8).trans ((xGoto (t := 13) d55_9 rfl).trans (xZret d55_13 zret_55 (by decide))))))))
theorem zo_56 : zo 56 = 6 := by decide +kernel
theorem zret_56 : zret 56 = none := by decide +kernel
theorem d56_0 : decode (zb 56) 0 = .ok (.iload_n 1, 1) := by decide +kernel
theorem d56_1 : decode (zb 56) 1 = .ok (.ifCond .lt 40, 3) := by decide +kernel
theorem d56_4 : decode (zb 56) 4 = .ok (.iload_n 1, 1) := by decide +kernel
theorem d56_5 : decode (zb 56) 5 = .ok (.aload_n 0, 1) := by decide +kernel
theorem d56_6 : decode (zb 56) 6 = .ok (.getfield 12, 3) := by decide +kernel
theorem d56_9 : decode (zb 56) 9 = .ok (.getfield 50, 3) := by decide +kernel
theorem d56_12 : decode (zb 56) 12 = .ok (.if_icmp .ge 29, 3) := by decide +kernel
theorem d56_15 : decode (zb 56) 15 = .ok (.aload_n 0, 1) := by decide +kernel
theorem d56_16 : decode (zb 56) 16 = .ok (.invokevirtual 53, 3) := by decide +kernel
theorem d56_19 : decode (zb 56) 19 = .ok (.ifCond .ne 22, 3) := by decide +kernel
theorem d56_22 : decode (zb 56) 22 = .ok (.aload_n 0, 1) := by decide +kernel
theorem d56_23 : decode (zb 56) 23 = .ok (.iconst 0, 1) := by decide +kernel
theorem d56_24 : decode (zb 56) 24 = .ok (.iload_n 1, 1) := by decide +kernel
theorem d56_25 : decode (zb 56) 25 = .ok (.invokevirtual 57, 3) := by decide +kernel
theorem d56_28 : decode (zb 56) 28 = .ok (.aload_n 0, 1) := by decide +kernel
theorem d56_29 : decode (zb 56) 29 = .ok (.aload_n 0, 1) := by decide +kernel
theorem d56_30 : decode (zb 56) 30 = .ok (.getfield 12, 3) := by decide +kernel
theorem d56_33 : decode (zb 56) 33 = .ok (.getfield 61, 3) := by decide +kernel
theorem d56_36 : decode (zb 56) 36 = .ok (.iload_n 1, 1) := by decide +kernel
theorem d56_37 : decode (zb 56) 37 = .ok (.iaload, 1) := by decide +kernel
theorem d56_38 : decode (zb 56) 38 = .ok (.invokevirtual 64, 3) := by decide +kernel
theorem d56_41 : decode (zb 56) 41 = .ok (.return_, 1) := by decide +kernel
theorem run56 {h : zH} {x0 : Int} {g : Nat} : zrun 56 [vR g, vI x0] h = zX 56 0 [vR g, vI x0] [] h := rfl
theorem e56_0 {I : Nat → Int → Int} {b : Bool} {S : Nat} {x0 : Int} {g : Nat} (hg : isProg g) : zX 56 0 [vR g, vI x0] [] (I, zRs b, 103, S) = if x0 < 0 then zX 56 41 [vR g, vI x0] [] (I, zRs b, 103, S) else if (I (g + 1) 5) ≤ x0 then zX 56 41 [vR g, vI x0] [] (I, zRs b, 103, S) else (zrun 54 [vR g] (I, zRs b, 103, S)).bind (fun q => zX 56 19 [vR g, vI x0] (zpush q.1 []) q.2) := (xIload_n d56_0 rfl).trans ((xIfLt (t := 41) d56_1 rfl).trans (ziteC rfl ((xIload_n d56_4 rfl).trans ((xAload_n d56_5 rfl).trans ((xGetR 0 (g + 1) d56_6 zo_56 zfl_6_12 rfl (isProg_r0 hg) (isProg_k hg) (Or.inl (isProg_n hg))).trans ((xGetI 5 (I (g + 1) 5) rfl d56_9 zo_56 zfl_6_50 (by decide) rfl (isProg_k1 hg) (Or.inl (isProg_n1 hg))).trans ((xIcmpGe (t := 41) d56_12 rfl).trans (ziteC rfl ((xAload_n d56_15 rfl).trans (xInvV [vR g] [] d56_16 zo_56 zml_6_53 rfl rfl rfl (Or.inl ⟨(isProg_k hg), (isProg_n hg)⟩)))))))))))
theorem e56_19 {I : Nat → Int → Int} {b : Bool} {S : Nat} {a1 t0 : Int} {g : Nat} (hg : isProg g) : zX 56 19 [vR g, vI a1] [vI t0] (I, zRs b, 103, S) = if t0 = 0 then (zrun 61 [vR g, vI 0, vI a1] (I, zRs b, 103, S)).bind (fun q => zX 56 28 [vR g, vI a1] (zpush q.1 []) q.2) else zX 56 41 [vR g, vI a1] [] (I, zRs b, 103, S) := (xIfNe (t := 41) d56_19 rfl).trans (ziteC ((xAload_n d56_22 rfl).trans ((xIconst d56_23).trans ((xIload_n d56_24 rfl).trans (xInvV [vR g, vI 0, vI a1] [] d56_25 zo_56 zml_6_57 rfl rfl rfl (Or.inl ⟨(isProg_k hg), (isProg_n hg)⟩))))) rfl)
theorem e56_28 {I : Nat → Int → Int} {b : Bool} {S : Nat} {a1 : Int} {g : Nat} (hg : isProg g) : zX 56 28 [vR g, vI a1] [] (I, zRs b, 103, S) = if 0 ≤ a1 ∧ a1 < 8 then (zrun 62 [vR g, vI (I (g + 4) a1)] (I, zRs b, 103, S)).bind (fun q => zX 56 41 [vR g, vI a1] (zpush q.1 []) q.2) else none := (xAload_n d56_28 rfl).trans ((xAload_n d56_29 rfl).trans ((xGetR 0 (g + 1) d56_30 zo_56 zfl_6_12 rfl (isProg_r0 hg) (isProg_k hg) (Or.inl (isProg_n hg))).trans ((xGetR 2 (g + 4) d56_33 zo_56 zfl_6_61 rfl (isPool_r2 (isProg_pool hg)) (isProg_k1 hg) (Or.inl (isProg_n1 hg))).trans ((xIload_n d56_36 rfl).trans ((xIald (N := 8) (I (g + 4) a1) rfl d56_37 (by rw [(isProg_k4 hg)]) (Or.inl (isProg_n4 hg)) (zal_of (isProg_k4 hg) (isProg_n4 hg))).trans (ziteC (xInvV [vR g, vI (I (g + 4) a1)] [] d56_38 zo_56 zml_6_64 rfl rfl rfl (Or.inl ⟨(isProg_k hg), (isProg_n hg)⟩)) rfl))))))
theorem e56_41 {I : Nat → Int → Int} {b : Bool} {S : Nat} {a1 : Int} {g : Nat} (hg : isProg g) : zX 56 41 [vR g, vI a1] [] (I, zRs b, 103, S) = some (none, (I, zRs b, 103, S)) := xVret d56_41 zret_56
theorem zo_57 : zo 57 = 6 := by decide +kernel
theorem zret_57 : zret 57 = none := by decide +kernel
theorem d57_0 : decode (zb 57) 0 = .ok (.aload_n 0, 1) := by decide +kernel
theorem d57_1 : decode (zb 57) 1 = .ok (.iconst 1, 1) := by decide +kernel
theorem d57_2 : decode (zb 57) 2 = .ok (.iload_n 1, 1) := by decide +kernel
theorem d57_3 : decode (zb 57) 3 = .ok (.invokevirtual 57, 3) := by decide +kernel
theorem d57_6 : decode (zb 57) 6 = .ok (.return_, 1) := by decide +kernel
theorem run57 {h : zH} {x0 : Int} {g : Nat} : zrun 57 [vR g, vI x0] h = zX 57 0 [vR g, vI x0] [] h := rfl
theorem e57_0 {I : Nat → Int → Int} {b : Bool} {S : Nat} {x0 : Int} {g : Nat} (hg : isProg g) : zX 57 0 [vR g, vI x0] [] (I, zRs b, 103, S) = (zrun 61 [vR g, vI 1, vI x0] (I, zRs b, 103, S)).bind (fun q => zX 57 6 [vR g, vI x0] (zpush q.1 []) q.2) := (xAload_n d57_0 rfl).trans ((xIconst d57_1).trans ((xIload_n d57_2 rfl).trans (xInvV [vR g, vI 1, vI x0] [] d57_3 zo_57 zml_6_57 rfl rfl rfl (Or.inl ⟨(isProg_k hg), (isProg_n hg)⟩))))
theorem e57_6 {I : Nat → Int → Int} {b : Bool} {S : Nat} {a1 : Int} {g : Nat} (hg : isProg g) : zX 57 6 [vR g, vI a1] [] (I, zRs b, 103, S) = some (none, (I, zRs b, 103, S)) := xVret d57_6 zret_57
theorem zo_58 : zo 58 = 6 := by decide +kernel
theorem zret_58 : zret 58 = none := by decide +kernel
theorem d58_0 : decode (zb 58) 0 = .ok (.aload_n 0, 1) := by decide +kernel
theorem d58_1 : decode (zb 58) 1 = .ok (.invokevirtual 53, 3) := by decide +kernel
theorem d58_4 : decode (zb 58) 4 = .ok (.ifCond .ne 10, 3) := by decide +kernel
theorem d58_7 : decode (zb 58) 7 = .ok (.aload_n 0, 1) := by decide +kernel
theorem d58_8 : decode (zb 58) 8 = .ok (.invokevirtual 68, 3) := by decide +kernel
theorem d58_11 : decode (zb 58) 11 = .ok (.ifCond .eq 4, 3) := by decide +kernel
theorem d58_14 : decode (zb 58) 14 = .ok (.return_, 1) := by decide +kernel
theorem d58_15 : decode (zb 58) 15 = .ok (.aload_n 0, 1) := by decide +kernel
theorem d58_16 : decode (zb 58) 16 = .ok (.getfield 34, 3) := by decide +kernel
theorem d58_19 : decode (zb 58) 19 = .ok (.aload_n 0, 1) := by decide +kernel
theorem d58_20 : decode (zb 58) 20 = .ok (.getfield 47, 3) := by decide +kernel
theorem d58_23 : decode (zb 58) 23 = .ok (.aload_n 0, 1) := by decide +kernel
theorem d58_24 : decode (zb 58) 24 = .ok (.getfield 43, 3) := by decide +kernel
theorem d58_27 : decode (zb 58) 27 = .ok (.iastore, 1) := by decide +kernel
theorem d58_28 : decode (zb 58) 28 = .ok (.aload_n 0, 1) := by decide +kernel
theorem d58_29 : decode (zb 58) 29 = .ok (.iload_n 1, 1) := by decide +kernel
theorem d58_30 : decode (zb 58) 30 = .ok (.iload_n 2, 1) := by decide +kernel
theorem d58_31 : decode (zb 58) 31 = .ok (.invokevirtual 57, 3) := by decide +kernel
theorem d58_34 : decode (zb 58) 34 = .ok (.aload_n 0, 1) := by decide +kernel
theorem d58_35 : decode (zb 58) 35 = .ok (.dup, 1) := by decide +kernel
theorem d58_36 : decode (zb 58) 36 = .ok (.getfield 47, 3) := by decide +kernel
theorem d58_39 : decode (zb 58) 39 = .ok (.iconst 1, 1) := by decide +kernel
theorem d58_40 : decode (zb 58) 40 = .ok (.iadd, 1) := by decide +kernel
theorem d58_41 : decode (zb 58) 41 = .ok (.putfield 47, 3) := by decide +kernel
theorem d58_44 : decode (zb 58) 44 = .ok (.aload_n 0, 1) := by decide +kernel
theorem d58_45 : decode (zb 58) 45 = .ok (.getfield 37, 3) := by decide +kernel
theorem d58_48 : decode (zb 58) 48 = .ok (.aload_n 0, 1) := by decide +kernel
theorem d58_49 : decode (zb 58) 49 = .ok (.getfield 47, 3) := by decide +kernel
theorem d58_52 : decode (zb 58) 52 = .ok (.iconst 0, 1) := by decide +kernel
theorem d58_53 : decode (zb 58) 53 = .ok (.iastore, 1) := by decide +kernel
theorem d58_54 : decode (zb 58) 54 = .ok (.return_, 1) := by decide +kernel
theorem run58 {h : zH} {x0 x1 : Int} {g : Nat} : zrun 58 [vR g, vI x0, vI x1] h = zX 58 0 [vR g, vI x0, vI x1] [] h := rfl
theorem e58_0 {I : Nat → Int → Int} {b : Bool} {S : Nat} {x0 x1 : Int} {g : Nat} (hg : isProg g) : zX 58 0 [vR g, vI x0, vI x1] [] (I, zRs b, 103, S) = (zrun 54 [vR g] (I, zRs b, 103, S)).bind (fun q => zX 58 4 [vR g, vI x0, vI x1] (zpush q.1 []) q.2) := (xAload_n d58_0 rfl).trans (xInvV [vR g] [] d58_1 zo_58 zml_6_53 rfl rfl rfl (Or.inl ⟨(isProg_k hg), (isProg_n hg)⟩))
theorem e58_4 {I : Nat → Int → Int} {b : Bool} {S : Nat} {a1 a2 t0 : Int} {g : Nat} (hg : isProg g) : zX 58 4 [vR g, vI a1, vI a2] [vI t0] (I, zRs b, 103, S) = if t0 = 0 then (zrun 55 [vR g] (I, zRs b, 103, S)).bind (fun q => zX 58 11 [vR g, vI a1, vI a2] (zpush q.1 []) q.2) else some (none, (I, zRs b, 103, S)) := (xIfNe (t := 14) d58_4 rfl).trans (ziteC ((xAload_n d58_7 rfl).trans (xInvV [vR g] [] d58_8 zo_58 zml_6_68 rfl rfl rfl (Or.inl ⟨(isProg_k hg), (isProg_n hg)⟩))) (xVret d58_14 zret_58))
theorem e58_11 {I : Nat → Int → Int} {b : Bool} {S : Nat} {a1 a2 t0 : Int} {g : Nat} (hg : isProg g) : zX 58 11 [vR g, vI a1, vI a2] [vI t0] (I, zRs b, 103, S) = if t0 = 0 then if 0 ≤ (I g 8) ∧ (I g 8) < 4 then (zrun 61 [vR g, vI a1, vI a2] ((sI I (g + 11) (I g 8) (I g 6)), zRs b, 103, S)).bind (fun q => zX 58 34 [vR g, vI a1, vI a2] (zpush q.1 []) q.2) else none else some (none, (I, zRs b, 103, S)) := (xIfEq (t := 15) d58_11 rfl).trans (ziteC ((xAload_n d58_15 rfl).trans ((xGetR 7 (g + 11) d58_16 zo_58 zfl_6_34 rfl (isProg_r7 hg) (isProg_k hg) (Or.inl (isProg_n hg))).trans ((xAload_n d58_19 rfl).trans ((xGetI 8 (I g 8) rfl d58_20 zo_58 zfl_6_47 (by decide) rfl (isProg_k hg) (Or.inl (isProg_n hg))).trans ((xAload_n d58_23 rfl).trans ((xGetI 6 (I g 6) rfl d58_24 zo_58 zfl_6_43 (by decide) rfl (isProg_k hg) (Or.inl (isProg_n hg))).trans ((xIast (N := 4) d58_27 (by rw [(isProg_k11 hg)]) (isProg_n11 hg) (by rw [(isProg_k11 hg)]; rfl)).trans (ziteC ((xAload_n d58_28 rfl).trans ((xIload_n d58_29 rfl).trans ((xIload_n d58_30 rfl).trans (xInvV [vR g, vI a1, vI a2] [] d58_31 zo_58 zml_6_57 rfl rfl rfl (Or.inl ⟨(isProg_k hg), (isProg_n hg)⟩))))) rfl)))))))) (xVret d58_14 zret_58))
theorem e58_34 {I : Nat → Int → Int} {b : Bool} {S : Nat} {a1 a2 : Int} {g : Nat} (hg : isProg g) : zX 58 34 [vR g, vI a1, vI a2] [] (I, zRs b, 103, S) = if 0 ≤ (wr ((I g 8) + 1)) ∧ (wr ((I g 8) + 1)) < 5 then some (none, ((sI (sI I g 8 (wr ((I g 8) + 1))) (g + 12) (wr ((I g 8) + 1)) 0), zRs b, 103, S)) else none := (xAload_n d58_34 rfl).trans ((xDup d58_35 rfl).trans ((xGetI 8 (I g 8) rfl d58_36 zo_58 zfl_6_47 (by decide) rfl (isProg_k hg) (Or.inl (isProg_n hg))).trans ((xIconst d58_39).trans ((xIadd d58_40).trans ((xPutI 8 d58_41 zo_58 zfl_6_47 rfl (isProg_k hg) (isProg_n hg) (Or.inl rfl)).trans ((xAload_n d58_44 rfl).trans ((xGetR 9 (g + 12) d58_45 zo_58 zfl_6_37 rfl (isProg_r9 hg) (isProg_k hg) (Or.inl (isProg_n hg))).trans ((xAload_n d58_48 rfl).trans ((xGetI 8 (wr ((I g 8) + 1)) sI_s d58_49 zo_58 zfl_6_47 (by decide) rfl (isProg_k hg) (Or.inl (isProg_n hg))).trans ((xIconst d58_52).trans ((xIast (N := 5) d58_53 (by rw [(isProg_k12 hg)]) (isProg_n12 hg) (by rw [(isProg_k12 hg)]; rfl)).trans (ziteC (xVret d58_54 zret_58) rfl))))))))))))
theorem zo_59 : zo 59 = 6 := by decide +kernel
theorem zret_59 : zret 59 = none := by decide +kernel
theorem d59_0 : decode (zb 59) 0 = .ok (.aload_n 0, 1) := by decide +kernel
theorem d59_1 : decode (zb 59) 1 = .ok (.invokevirtual 53, 3) := by decide +kernel
theorem d59_4 : decode (zb 59) 4 = .ok (.ifCond .ne 11, 3) := by decide +kernel
theorem d59_7 : decode (zb 59) 7 = .ok (.aload_n 0, 1) := by decide +kernel
theorem d59_8 : decode (zb 59) 8 = .ok (.getfield 47, 3) := by decide +kernel
theorem d59_11 : decode (zb 59) 11 = .ok (.iconst 1, 1) := by decide +kernel
theorem d59_12 : decode (zb 59) 12 = .ok (.if_icmp .ge 4, 3) := by decide +kernel
theorem d59_15 : decode (zb 59) 15 = .ok (.return_, 1) := by decide +kernel
theorem d59_16 : decode (zb 59) 16 = .ok (.aload_n 0, 1) := by decide +kernel
theorem d59_17 : decode (zb 59) 17 = .ok (.getfield 34, 3) := by decide +kernel
theorem d59_20 : decode (zb 59) 20 = .ok (.aload_n 0, 1) := by decide +kernel
theorem d59_21 : decode (zb 59) 21 = .ok (.getfield 47, 3) := by decide +kernel
theorem d59_24 : decode (zb 59) 24 = .ok (.iconst 1, 1) := by decide +kernel
theorem d59_25 : decode (zb 59) 25 = .ok (.isub, 1) := by decide +kernel
theorem d59_26 : decode (zb 59) 26 = .ok (.iaload, 1) := by decide +kernel
theorem d59_27 : decode (zb 59) 27 = .ok (.istore_n 1, 1) := by decide +kernel
theorem d59_28 : decode (zb 59) 28 = .ok (.aload_n 0, 1) := by decide +kernel
theorem d59_29 : decode (zb 59) 29 = .ok (.getfield 31, 3) := by decide +kernel
theorem d59_32 : decode (zb 59) 32 = .ok (.iload_n 1, 1) := by decide +kernel
theorem d59_33 : decode (zb 59) 33 = .ok (.aload_n 0, 1) := by decide +kernel
theorem d59_34 : decode (zb 59) 34 = .ok (.getfield 37, 3) := by decide +kernel
theorem d59_37 : decode (zb 59) 37 = .ok (.aload_n 0, 1) := by decide +kernel
theorem d59_38 : decode (zb 59) 38 = .ok (.getfield 47, 3) := by decide +kernel
theorem d59_41 : decode (zb 59) 41 = .ok (.iaload, 1) := by decide +kernel
theorem d59_42 : decode (zb 59) 42 = .ok (.iastore, 1) := by decide +kernel
theorem d59_43 : decode (zb 59) 43 = .ok (.aload_n 0, 1) := by decide +kernel
theorem d59_44 : decode (zb 59) 44 = .ok (.dup, 1) := by decide +kernel
theorem d59_45 : decode (zb 59) 45 = .ok (.getfield 47, 3) := by decide +kernel
theorem d59_48 : decode (zb 59) 48 = .ok (.iconst 1, 1) := by decide +kernel
theorem d59_49 : decode (zb 59) 49 = .ok (.isub, 1) := by decide +kernel
theorem d59_50 : decode (zb 59) 50 = .ok (.putfield 47, 3) := by decide +kernel
theorem d59_53 : decode (zb 59) 53 = .ok (.aload_n 0, 1) := by decide +kernel
theorem d59_54 : decode (zb 59) 54 = .ok (.getfield 25, 3) := by decide +kernel
theorem d59_57 : decode (zb 59) 57 = .ok (.iload_n 1, 1) := by decide +kernel
theorem d59_58 : decode (zb 59) 58 = .ok (.aload_n 0, 1) := by decide +kernel
theorem d59_59 : decode (zb 59) 59 = .ok (.getfield 43, 3) := by decide +kernel
theorem d59_62 : decode (zb 59) 62 = .ok (.iastore, 1) := by decide +kernel
theorem d59_63 : decode (zb 59) 63 = .ok (.aload_n 0, 1) := by decide +kernel
theorem d59_64 : decode (zb 59) 64 = .ok (.iconst 4, 1) := by decide +kernel
theorem d59_65 : decode (zb 59) 65 = .ok (.aload_n 0, 1) := by decide +kernel
theorem d59_66 : decode (zb 59) 66 = .ok (.getfield 22, 3) := by decide +kernel
theorem d59_69 : decode (zb 59) 69 = .ok (.iload_n 1, 1) := by decide +kernel
theorem d59_70 : decode (zb 59) 70 = .ok (.iaload, 1) := by decide +kernel
theorem d59_71 : decode (zb 59) 71 = .ok (.invokevirtual 57, 3) := by decide +kernel
theorem d59_74 : decode (zb 59) 74 = .ok (.aload_n 0, 1) := by decide +kernel
theorem d59_75 : decode (zb 59) 75 = .ok (.getfield 25, 3) := by decide +kernel
theorem d59_78 : decode (zb 59) 78 = .ok (.aload_n 0, 1) := by decide +kernel
theorem d59_79 : decode (zb 59) 79 = .ok (.getfield 43, 3) := by decide +kernel
theorem d59_82 : decode (zb 59) 82 = .ok (.iconst 1, 1) := by decide +kernel
theorem d59_83 : decode (zb 59) 83 = .ok (.isub, 1) := by decide +kernel
theorem d59_84 : decode (zb 59) 84 = .ok (.iload_n 1, 1) := by decide +kernel
theorem d59_85 : decode (zb 59) 85 = .ok (.iastore, 1) := by decide +kernel
theorem d59_86 : decode (zb 59) 86 = .ok (.aload_n 0, 1) := by decide +kernel
theorem d59_87 : decode (zb 59) 87 = .ok (.aload_n 0, 1) := by decide +kernel
theorem d59_88 : decode (zb 59) 88 = .ok (.iload_n 1, 1) := by decide +kernel
theorem d59_89 : decode (zb 59) 89 = .ok (.invokevirtual 71, 3) := by decide +kernel
theorem d59_92 : decode (zb 59) 92 = .ok (.invokevirtual 64, 3) := by decide +kernel
theorem d59_95 : decode (zb 59) 95 = .ok (.return_, 1) := by decide +kernel
theorem run59 {h : zH} {g : Nat} : zrun 59 [vR g] h = zX 59 0 [vR g, none] [] h := rfl
theorem e59_0 {I : Nat → Int → Int} {b : Bool} {S : Nat} {g : Nat} (hg : isProg g) : zX 59 0 [vR g, none] [] (I, zRs b, 103, S) = (zrun 54 [vR g] (I, zRs b, 103, S)).bind (fun q => zX 59 4 [vR g, none] (zpush q.1 []) q.2) := (xAload_n d59_0 rfl).trans (xInvV [vR g] [] d59_1 zo_59 zml_6_53 rfl rfl rfl (Or.inl ⟨(isProg_k hg), (isProg_n hg)⟩))
theorem e59_4 {I : Nat → Int → Int} {b : Bool} {S : Nat} {t0 : Int} {g : Nat} (hg : isProg g) : zX 59 4 [vR g, none] [vI t0] (I, zRs b, 103, S) = if t0 = 0 then if 1 ≤ (I g 8) then if 0 ≤ (wr ((I g 8) - 1)) ∧ (wr ((I g 8) - 1)) < 4 then if 0 ≤ (I g 8) ∧ (I g 8) < 5 then if 0 ≤ (I (g + 11) (wr ((I g 8) - 1))) ∧ (I (g + 11) (wr ((I g 8) - 1))) < 24 then if 0 ≤ (I (g + 11) (wr ((I g 8) - 1))) ∧ (I (g + 11) (wr ((I g 8) - 1))) < 24 then if 0 ≤ (I (g + 11) (wr ((I g 8) - 1))) ∧ (I (g + 11) (wr ((I g 8) - 1))) < 24 then (zrun 61 [vR g, vI 4, vI (I (g + 7) (I (g + 11) (wr ((I g 8) - 1))))] ((sI (sI (sI I (g + 10) (I (g + 11) (wr ((I g 8) - 1))) (I (g + 12) (I g 8))) g 8 (wr ((I g 8) - 1))) (g + 8) (I (g + 11) (wr ((I g 8) - 1))) (I g 6)), zRs b, 103, S)).bind (fun q => zX 59 74 [vR g, vI (I (g + 11) (wr ((I g 8) - 1)))] (zpush q.1 []) q.2) else none else none else none else none else none else some (none, (I, zRs b, 103, S)) else some (none, (I, zRs b, 103, S)) := (xIfNe (t := 15) d59_4 rfl).trans (ziteC ((xAload_n d59_7 rfl).trans ((xGetI 8 (I g 8) rfl d59_8 zo_59 zfl_6_47 (by decide) rfl (isProg_k hg) (Or.inl (isProg_n hg))).trans ((xIconst d59_11).trans ((xIcmpGe (t := 16) d59_12 rfl).trans (ziteC ((xAload_n d59_16 rfl).trans ((xGetR 7 (g + 11) d59_17 zo_59 zfl_6_34 rfl (isProg_r7 hg) (isProg_k hg) (Or.inl (isProg_n hg))).trans ((xAload_n d59_20 rfl).trans ((xGetI 8 (I g 8) rfl d59_21 zo_59 zfl_6_47 (by decide) rfl (isProg_k hg) (Or.inl (isProg_n hg))).trans ((xIconst d59_24).trans ((xIsub d59_25).trans ((xIald (N := 4) (I (g + 11) (wr ((I g 8) - 1))) rfl d59_26 (by rw [(isProg_k11 hg)]) (Or.inl (isProg_n11 hg)) (zal_of (isProg_k11 hg) (isProg_n11 hg))).trans (ziteC ((xIstore_n d59_27 rfl rfl).trans ((xAload_n d59_28 rfl).trans ((xGetR 5 (g + 10) d59_29 zo_59 zfl_6_31 rfl (isProg_r5 hg) (isProg_k hg) (Or.inl (isProg_n hg))).trans ((xIload_n d59_32 rfl).trans ((xAload_n d59_33 rfl).trans ((xGetR 9 (g + 12) d59_34 zo_59 zfl_6_37 rfl (isProg_r9 hg) (isProg_k hg) (Or.inl (isProg_n hg))).trans ((xAload_n d59_37 rfl).trans ((xGetI 8 (I g 8) rfl d59_38 zo_59 zfl_6_47 (by decide) rfl (isProg_k hg) (Or.inl (isProg_n hg))).trans ((xIald (N := 5) (I (g + 12) (I g 8)) rfl d59_41 (by rw [(isProg_k12 hg)]) (Or.inl (isProg_n12 hg)) (zal_of (isProg_k12 hg) (isProg_n12 hg))).trans (ziteC ((xIast (N := 24) d59_42 (by rw [(isProg_k10 hg)]) (isProg_n10 hg) (by rw [(isProg_k10 hg)]; rfl)).trans (ziteC ((xAload_n d59_43 rfl).trans ((xDup d59_44 rfl).trans ((xGetI 8 (I g 8) (sI_p (by omega)) d59_45 zo_59 zfl_6_47 (by decide) rfl (isProg_k hg) (Or.inl (isProg_n hg))).trans ((xIconst d59_48).trans ((xIsub d59_49).trans ((xPutI 8 d59_50 zo_59 zfl_6_47 rfl (isProg_k hg) (isProg_n hg) (Or.inl rfl)).trans ((xAload_n d59_53 rfl).trans ((xGetR 3 (g + 8) d59_54 zo_59 zfl_6_25 rfl (isProg_r3 hg) (isProg_k hg) (Or.inl (isProg_n hg))).trans ((xIload_n d59_57 rfl).trans ((xAload_n d59_58 rfl).trans ((xGetI 6 (I g 6) ((sI_k (by decide)).trans (sI_p (by omega))) d59_59 zo_59 zfl_6_43 (by decide) rfl (isProg_k hg) (Or.inl (isProg_n hg))).trans ((xIast (N := 24) d59_62 (by rw [(isProg_k8 hg)]) (isProg_n8 hg) (by rw [(isProg_k8 hg)]; rfl)).trans (ziteC ((xAload_n d59_63 rfl).trans ((xIconst d59_64).trans ((xAload_n d59_65 rfl).trans ((xGetR 2 (g + 7) d59_66 zo_59 zfl_6_22 rfl (isProg_r2 hg) (isProg_k hg) (Or.inl (isProg_n hg))).trans ((xIload_n d59_69 rfl).trans ((xIald (N := 24) (I (g + 7) (I (g + 11) (wr ((I g 8) - 1)))) ((sI_p (by omega)).trans ((sI_p (by omega)).trans (sI_p (by omega)))) d59_70 (by rw [(isProg_k7 hg)]) (Or.inl (isProg_n7 hg)) (zal_of (isProg_k7 hg) (isProg_n7 hg))).trans (ziteC (xInvV [vR g, vI 4, vI (I (g + 7) (I (g + 11) (wr ((I g 8) - 1))))] [] d59_71 zo_59 zml_6_57 rfl rfl rfl (Or.inl ⟨(isProg_k hg), (isProg_n hg)⟩)) rfl))))))) rfl))))))))))))) rfl)) rfl)))))))))) rfl)))))))) (xVret d59_15 zret_59)))))) (xVret d59_15 zret_59))
theorem e59_74 {I : Nat → Int → Int} {b : Bool} {S : Nat} {a1 : Int} {g : Nat} (hg : isProg g) : zX 59 74 [vR g, vI a1] [] (I, zRs b, 103, S) = if 0 ≤ (wr ((I g 6) - 1)) ∧ (wr ((I g 6) - 1)) < 24 then (zrun 63 [vR g, vI a1] ((sI I (g + 8) (wr ((I g 6) - 1)) a1), zRs b, 103, S)).bind (fun q => zX 59 92 [vR g, vI a1] (zpush q.1 [vR g]) q.2) else none := (xAload_n d59_74 rfl).trans ((xGetR 3 (g + 8) d59_75 zo_59 zfl_6_25 rfl (isProg_r3 hg) (isProg_k hg) (Or.inl (isProg_n hg))).trans ((xAload_n d59_78 rfl).trans ((xGetI 6 (I g 6) rfl d59_79 zo_59 zfl_6_43 (by decide) rfl (isProg_k hg) (Or.inl (isProg_n hg))).trans ((xIconst d59_82).trans ((xIsub d59_83).trans ((xIload_n d59_84 rfl).trans ((xIast (N := 24) d59_85 (by rw [(isProg_k8 hg)]) (isProg_n8 hg) (by rw [(isProg_k8 hg)]; rfl)).trans (ziteC ((xAload_n d59_86 rfl).trans ((xAload_n d59_87 rfl).trans ((xIload_n d59_88 rfl).trans (xInvV [vR g, vI a1] [vR g] d59_89 zo_59 zml_6_71 rfl rfl rfl (Or.inl ⟨(isProg_k hg), (isProg_n hg)⟩))))) rfl))))))))
theorem e59_92 {I : Nat → Int → Int} {b : Bool} {S : Nat} {a1 t1 : Int} {g : Nat} (hg : isProg g) : zX 59 92 [vR g, vI a1] [vI t1, vR g] (I, zRs b, 103, S) = (zrun 62 [vR g, vI t1] (I, zRs b, 103, S)).bind (fun q => zX 59 95 [vR g, vI a1] (zpush q.1 []) q.2) := xInvV [vR g, vI t1] [] d59_92 zo_59 zml_6_64 rfl rfl rfl (Or.inl ⟨(isProg_k hg), (isProg_n hg)⟩)
theorem e59_95 {I : Nat → Int → Int} {b : Bool} {S : Nat} {a1 : Int} {g : Nat} (hg : isProg g) : zX 59 95 [vR g, vI a1] [] (I, zRs b, 103, S) = some (none, (I, zRs b, 103, S)) := xVret d59_95 zret_59
theorem zo_60 : zo 60 = 6 := by decide +kernel
theorem zret_60 : zret 60 = some .boolean := by decide +kernel
theorem d60_0 : decode (zb 60) 0 = .ok (.aload_n 0, 1) := by decide +kernel
theorem d60_1 : decode (zb 60) 1 = .ok (.getfield 37, 3) := by decide +kernel
theorem d60_4 : decode (zb 60) 4 = .ok (.aload_n 0, 1) := by decide +kernel
theorem d60_5 : decode (zb 60) 5 = .ok (.getfield 47, 3) := by decide +kernel
theorem d60_8 : decode (zb 60) 8 = .ok (.iaload, 1) := by decide +kernel
theorem d60_9 : decode (zb 60) 9 = .ok (.ifCond .le 7, 3) := by decide +kernel
theorem d60_12 : decode (zb 60) 12 = .ok (.iconst 1, 1) := by decide +kernel
theorem d60_13 : decode (zb 60) 13 = .ok (.goto 4, 3) := by decide +kernel
theorem d60_16 : decode (zb 60) 16 = .ok (.iconst 0, 1) := by decide +kernel
theorem d60_17 : decode (zb 60) 17 = .ok (.ireturn, 1) := by decide +kernel
theorem run60 {h : zH} {g : Nat} : zrun 60 [vR g] h = zX 60 0 [vR g] [] h := rfl
theorem e60_0 {I : Nat → Int → Int} {b : Bool} {S : Nat} {g : Nat} (hg : isProg g) : zX 60 0 [vR g] [] (I, zRs b, 103, S) = if 0 ≤ (I g 8) ∧ (I g 8) < 5 then if (I (g + 12) (I g 8)) ≤ 0 then some (some (vI 0), (I, zRs b, 103, S)) else some (some (vI 1), (I, zRs b, 103, S)) else none := (xAload_n d60_0 rfl).trans ((xGetR 9 (g + 12) d60_1 zo_60 zfl_6_37 rfl (isProg_r9 hg) (isProg_k hg) (Or.inl (isProg_n hg))).trans ((xAload_n d60_4 rfl).trans ((xGetI 8 (I g 8) rfl d60_5 zo_60 zfl_6_47 (by decide) rfl (isProg_k hg) (Or.inl (isProg_n hg))).trans ((xIald (N := 5) (I (g + 12) (I g 8)) rfl d60_8 (by rw [(isProg_k12 hg)]) (Or.inl (isProg_n12 hg)) (zal_of (isProg_k12 hg) (isProg_n12 hg))).trans (ziteC ((xIfLe (t := 16) d60_9 rfl).trans (ziteC ((xIconst d60_16).trans (xZret d60_17 zret_60 (by decide))) ((xIconst d60_12).trans ((xGoto (t := 17) d60_13 rfl).trans (xZret d60_17 zret_60 (by decide)))))) rfl)))))
theorem zo_61 : zo 61 = 6 := by decide +kernel
theorem zret_61 : zret 61 = none := by decide +kernel
theorem d61_0 : decode (zb 61) 0 = .ok (.aload_n 0, 1) := by decide +kernel
theorem d61_1 : decode (zb 61) 1 = .ok (.getfield 43, 3) := by decide +kernel
theorem d61_4 : decode (zb 61) 4 = .ok (.bipush 24, 2) := by decide +kernel
theorem d61_6 : decode (zb 61) 6 = .ok (.if_icmp .lt 4, 3) := by decide +kernel
theorem d61_9 : decode (zb 61) 9 = .ok (.return_, 1) := by decide +kernel
theorem d61_10 : decode (zb 61) 10 = .ok (.aload_n 0, 1) := by decide +kernel
theorem d61_11 : decode (zb 61) 11 = .ok (.getfield 18, 3) := by decide +kernel
theorem d61_14 : decode (zb 61) 14 = .ok (.aload_n 0, 1) := by decide +kernel
theorem d61_15 : decode (zb 61) 15 = .ok (.getfield 43, 3) := by decide +kernel
theorem d61_18 : decode (zb 61) 18 = .ok (.iload_n 1, 1) := by decide +kernel
theorem d61_19 : decode (zb 61) 19 = .ok (.iastore, 1) := by decide +kernel
theorem d61_20 : decode (zb 61) 20 = .ok (.aload_n 0, 1) := by decide +kernel
theorem d61_21 : decode (zb 61) 21 = .ok (.getfield 22, 3) := by decide +kernel
theorem d61_24 : decode (zb 61) 24 = .ok (.aload_n 0, 1) := by decide +kernel
theorem d61_25 : decode (zb 61) 25 = .ok (.getfield 43, 3) := by decide +kernel
theorem d61_28 : decode (zb 61) 28 = .ok (.iload_n 2, 1) := by decide +kernel
theorem d61_29 : decode (zb 61) 29 = .ok (.iastore, 1) := by decide +kernel
theorem d61_30 : decode (zb 61) 30 = .ok (.aload_n 0, 1) := by decide +kernel
theorem d61_31 : decode (zb 61) 31 = .ok (.getfield 25, 3) := by decide +kernel
theorem d61_34 : decode (zb 61) 34 = .ok (.aload_n 0, 1) := by decide +kernel
theorem d61_35 : decode (zb 61) 35 = .ok (.getfield 43, 3) := by decide +kernel
theorem d61_38 : decode (zb 61) 38 = .ok (.bipush (-4), 2) := by decide +kernel
theorem d61_40 : decode (zb 61) 40 = .ok (.iastore, 1) := by decide +kernel
theorem d61_41 : decode (zb 61) 41 = .ok (.aload_n 0, 1) := by decide +kernel
theorem d61_42 : decode (zb 61) 42 = .ok (.getfield 28, 3) := by decide +kernel
theorem d61_45 : decode (zb 61) 45 = .ok (.aload_n 0, 1) := by decide +kernel
theorem d61_46 : decode (zb 61) 46 = .ok (.getfield 43, 3) := by decide +kernel
theorem d61_49 : decode (zb 61) 49 = .ok (.aload_n 0, 1) := by decide +kernel
theorem d61_50 : decode (zb 61) 50 = .ok (.getfield 47, 3) := by decide +kernel
theorem d61_53 : decode (zb 61) 53 = .ok (.iastore, 1) := by decide +kernel
theorem d61_54 : decode (zb 61) 54 = .ok (.aload_n 0, 1) := by decide +kernel
theorem d61_55 : decode (zb 61) 55 = .ok (.dup, 1) := by decide +kernel
theorem d61_56 : decode (zb 61) 56 = .ok (.getfield 43, 3) := by decide +kernel
theorem d61_59 : decode (zb 61) 59 = .ok (.iconst 1, 1) := by decide +kernel
theorem d61_60 : decode (zb 61) 60 = .ok (.iadd, 1) := by decide +kernel
theorem d61_61 : decode (zb 61) 61 = .ok (.putfield 43, 3) := by decide +kernel
theorem d61_64 : decode (zb 61) 64 = .ok (.return_, 1) := by decide +kernel
theorem run61 {h : zH} {x0 x1 : Int} {g : Nat} : zrun 61 [vR g, vI x0, vI x1] h = zX 61 0 [vR g, vI x0, vI x1] [] h := rfl
theorem e61_0 {I : Nat → Int → Int} {b : Bool} {S : Nat} {x0 x1 : Int} {g : Nat} (hg : isProg g) : zX 61 0 [vR g, vI x0, vI x1] [] (I, zRs b, 103, S) = if (I g 6) < 24 then if 0 ≤ (I g 6) ∧ (I g 6) < 24 then if 0 ≤ (I g 6) ∧ (I g 6) < 24 then if 0 ≤ (I g 6) ∧ (I g 6) < 24 then if 0 ≤ (I g 6) ∧ (I g 6) < 24 then some (none, ((sI (sI (sI (sI (sI I (g + 6) (I g 6) x0) (g + 7) (I g 6) x1) (g + 8) (I g 6) (-4)) (g + 9) (I g 6) (I g 8)) g 6 (wr ((I g 6) + 1))), zRs b, 103, S)) else none else none else none else none else some (none, (I, zRs b, 103, S)) := (xAload_n d61_0 rfl).trans ((xGetI 6 (I g 6) rfl d61_1 zo_61 zfl_6_43 (by decide) rfl (isProg_k hg) (Or.inl (isProg_n hg))).trans ((xBipush d61_4).trans ((xIcmpLt (t := 10) d61_6 rfl).trans (ziteC ((xAload_n d61_10 rfl).trans ((xGetR 1 (g + 6) d61_11 zo_61 zfl_6_18 rfl (isProg_r1 hg) (isProg_k hg) (Or.inl (isProg_n hg))).trans ((xAload_n d61_14 rfl).trans ((xGetI 6 (I g 6) rfl d61_15 zo_61 zfl_6_43 (by decide) rfl (isProg_k hg) (Or.inl (isProg_n hg))).trans ((xIload_n d61_18 rfl).trans ((xIast (N := 24) d61_19 (by rw [(isProg_k6 hg)]) (isProg_n6 hg) (by rw [(isProg_k6 hg)]; rfl)).trans (ziteC ((xAload_n d61_20 rfl).trans ((xGetR 2 (g + 7) d61_21 zo_61 zfl_6_22 rfl (isProg_r2 hg) (isProg_k hg) (Or.inl (isProg_n hg))).trans ((xAload_n d61_24 rfl).trans ((xGetI 6 (I g 6) (sI_p (by omega)) d61_25 zo_61 zfl_6_43 (by decide) rfl (isProg_k hg) (Or.inl (isProg_n hg))).trans ((xIload_n d61_28 rfl).trans ((xIast (N := 24) d61_29 (by rw [(isProg_k7 hg)]) (isProg_n7 hg) (by rw [(isProg_k7 hg)]; rfl)).trans (ziteC ((xAload_n d61_30 rfl).trans ((xGetR 3 (g + 8) d61_31 zo_61 zfl_6_25 rfl (isProg_r3 hg) (isProg_k hg) (Or.inl (isProg_n hg))).trans ((xAload_n d61_34 rfl).trans ((xGetI 6 (I g 6) ((sI_p (by omega)).trans (sI_p (by omega))) d61_35 zo_61 zfl_6_43 (by decide) rfl (isProg_k hg) (Or.inl (isProg_n hg))).trans ((xBipush d61_38).trans ((xIast (N := 24) d61_40 (by rw [(isProg_k8 hg)]) (isProg_n8 hg) (by rw [(isProg_k8 hg)]; rfl)).trans (ziteC ((xAload_n d61_41 rfl).trans ((xGetR 4 (g + 9) d61_42 zo_61 zfl_6_28 rfl (isProg_r4 hg) (isProg_k hg) (Or.inl (isProg_n hg))).trans ((xAload_n d61_45 rfl).trans ((xGetI 6 (I g 6) ((sI_p (by omega)).trans ((sI_p (by omega)).trans (sI_p (by omega)))) d61_46 zo_61 zfl_6_43 (by decide) rfl (isProg_k hg) (Or.inl (isProg_n hg))).trans ((xAload_n d61_49 rfl).trans ((xGetI 8 (I g 8) ((sI_p (by omega)).trans ((sI_p (by omega)).trans (sI_p (by omega)))) d61_50 zo_61 zfl_6_47 (by decide) rfl (isProg_k hg) (Or.inl (isProg_n hg))).trans ((xIast (N := 24) d61_53 (by rw [(isProg_k9 hg)]) (isProg_n9 hg) (by rw [(isProg_k9 hg)]; rfl)).trans (ziteC ((xAload_n d61_54 rfl).trans ((xDup d61_55 rfl).trans ((xGetI 6 (I g 6) ((sI_p (by omega)).trans ((sI_p (by omega)).trans ((sI_p (by omega)).trans (sI_p (by omega))))) d61_56 zo_61 zfl_6_43 (by decide) rfl (isProg_k hg) (Or.inl (isProg_n hg))).trans ((xIconst d61_59).trans ((xIadd d61_60).trans ((xPutI 6 d61_61 zo_61 zfl_6_43 rfl (isProg_k hg) (isProg_n hg) (Or.inl rfl)).trans (xVret d61_64 zret_61))))))) rfl)))))))) rfl))))))) rfl))))))) rfl))))))) (xVret d61_9 zret_61)))))
theorem zo_62 : zo 62 = 6 := by decide +kernel
theorem zret_62 : zret 62 = none := by decide +kernel
theorem d62_0 : decode (zb 62) 0 = .ok (.aload_n 0, 1) := by decide +kernel
theorem d62_1 : decode (zb 62) 1 = .ok (.getfield 37, 3) := by decide +kernel
theorem d62_4 : decode (zb 62) 4 = .ok (.aload_n 0, 1) := by decide +kernel
theorem d62_5 : decode (zb 62) 5 = .ok (.getfield 47, 3) := by decide +kernel
theorem d62_8 : decode (zb 62) 8 = .ok (.iaload, 1) := by decide +kernel
theorem d62_9 : decode (zb 62) 9 = .ok (.ldc 75, 2) := by decide +kernel
theorem d62_11 : decode (zb 62) 11 = .ok (.if_icmp .eq 9, 3) := by decide +kernel
theorem d62_14 : decode (zb 62) 14 = .ok (.iload_n 1, 1) := by decide +kernel
theorem d62_15 : decode (zb 62) 15 = .ok (.ldc 75, 2) := by decide +kernel
theorem d62_17 : decode (zb 62) 17 = .ok (.if_icmp .ne 7, 3) := by decide +kernel
theorem d62_20 : decode (zb 62) 20 = .ok (.iconst 1, 1) := by decide +kernel
theorem d62_21 : decode (zb 62) 21 = .ok (.goto 4, 3) := by decide +kernel
theorem d62_24 : decode (zb 62) 24 = .ok (.iconst 0, 1) := by decide +kernel
theorem d62_25 : decode (zb 62) 25 = .ok (.istore_n 2, 1) := by decide +kernel
theorem d62_26 : decode (zb 62) 26 = .ok (.aload_n 0, 1) := by decide +kernel
theorem d62_27 : decode (zb 62) 27 = .ok (.getfield 37, 3) := by decide +kernel
theorem d62_30 : decode (zb 62) 30 = .ok (.aload_n 0, 1) := by decide +kernel
theorem d62_31 : decode (zb 62) 31 = .ok (.getfield 47, 3) := by decide +kernel
theorem d62_34 : decode (zb 62) 34 = .ok (.iload_n 2, 1) := by decide +kernel
theorem d62_35 : decode (zb 62) 35 = .ok (.ifCond .eq 8, 3) := by decide +kernel
theorem d62_38 : decode (zb 62) 38 = .ok (.ldc 75, 2) := by decide +kernel
theorem d62_40 : decode (zb 62) 40 = .ok (.goto 14, 3) := by decide +kernel
theorem d62_43 : decode (zb 62) 43 = .ok (.aload_n 0, 1) := by decide +kernel
theorem d62_44 : decode (zb 62) 44 = .ok (.getfield 37, 3) := by decide +kernel
theorem d62_47 : decode (zb 62) 47 = .ok (.aload_n 0, 1) := by decide +kernel
theorem d62_48 : decode (zb 62) 48 = .ok (.getfield 47, 3) := by decide +kernel
theorem d62_51 : decode (zb 62) 51 = .ok (.iaload, 1) := by decide +kernel
theorem d62_52 : decode (zb 62) 52 = .ok (.iload_n 1, 1) := by decide +kernel
theorem d62_53 : decode (zb 62) 53 = .ok (.iadd, 1) := by decide +kernel
theorem d62_54 : decode (zb 62) 54 = .ok (.iastore, 1) := by decide +kernel
theorem d62_55 : decode (zb 62) 55 = .ok (.return_, 1) := by decide +kernel
theorem run62 {h : zH} {x0 : Int} {g : Nat} : zrun 62 [vR g, vI x0] h = zX 62 0 [vR g, vI x0, none] [] h := rfl
theorem e62_0 {I : Nat → Int → Int} {b : Bool} {S : Nat} {x0 : Int} {g : Nat} (hg : isProg g) : zX 62 0 [vR g, vI x0, none] [] (I, zRs b, 103, S) = if 0 ≤ (I g 8) ∧ (I g 8) < 5 then if (I (g + 12) (I g 8)) = 2147483647 then if 0 ≤ (I g 8) ∧ (I g 8) < 5 then some (none, ((sI I (g + 12) (I g 8) 2147483647), zRs b, 103, S)) else none else if x0 = 2147483647 then if 0 ≤ (I g 8) ∧ (I g 8) < 5 then some (none, ((sI I (g + 12) (I g 8) 2147483647), zRs b, 103, S)) else none else if 0 ≤ (I g 8) ∧ (I g 8) < 5 then if 0 ≤ (I g 8) ∧ (I g 8) < 5 then some (none, ((sI I (g + 12) (I g 8) (wr ((I (g + 12) (I g 8)) + x0))), zRs b, 103, S)) else none else none else none := (xAload_n d62_0 rfl).trans ((xGetR 9 (g + 12) d62_1 zo_62 zfl_6_37 rfl (isProg_r9 hg) (isProg_k hg) (Or.inl (isProg_n hg))).trans ((xAload_n d62_4 rfl).trans ((xGetI 8 (I g 8) rfl d62_5 zo_62 zfl_6_47 (by decide) rfl (isProg_k hg) (Or.inl (isProg_n hg))).trans ((xIald (N := 5) (I (g + 12) (I g 8)) rfl d62_8 (by rw [(isProg_k12 hg)]) (Or.inl (isProg_n12 hg)) (zal_of (isProg_k12 hg) (isProg_n12 hg))).trans (ziteC ((xLdc d62_9 zo_62 zct_6_75 (by decide)).trans ((xIcmpEq (t := 20) d62_11 rfl).trans (ziteC ((xIconst d62_20).trans ((xGoto (t := 25) d62_21 rfl).trans ((xIstore_n d62_25 rfl rfl).trans ((xAload_n d62_26 rfl).trans ((xGetR 9 (g + 12) d62_27 zo_62 zfl_6_37 rfl (isProg_r9 hg) (isProg_k hg) (Or.inl (isProg_n hg))).trans ((xAload_n d62_30 rfl).trans ((xGetI 8 (I g 8) rfl d62_31 zo_62 zfl_6_47 (by decide) rfl (isProg_k hg) (Or.inl (isProg_n hg))).trans ((xIload_n d62_34 rfl).trans ((xIfEq (t := 43) d62_35 rfl).trans ((if_neg (by decide)).trans ((xLdc d62_38 zo_62 zct_6_75 (by decide)).trans ((xGoto (t := 54) d62_40 rfl).trans ((xIast (N := 5) d62_54 (by rw [(isProg_k12 hg)]) (isProg_n12 hg) (by rw [(isProg_k12 hg)]; rfl)).trans (ziteC (xVret d62_55 zret_62) rfl)))))))))))))) ((xIload_n d62_14 rfl).trans ((xLdc d62_15 zo_62 zct_6_75 (by decide)).trans ((xIcmpNe (t := 24) d62_17 rfl).trans (ziteC ((xIconst d62_20).trans ((xGoto (t := 25) d62_21 rfl).trans ((xIstore_n d62_25 rfl rfl).trans ((xAload_n d62_26 rfl).trans ((xGetR 9 (g + 12) d62_27 zo_62 zfl_6_37 rfl (isProg_r9 hg) (isProg_k hg) (Or.inl (isProg_n hg))).trans ((xAload_n d62_30 rfl).trans ((xGetI 8 (I g 8) rfl d62_31 zo_62 zfl_6_47 (by decide) rfl (isProg_k hg) (Or.inl (isProg_n hg))).trans ((xIload_n d62_34 rfl).trans ((xIfEq (t := 43) d62_35 rfl).trans ((if_neg (by decide)).trans ((xLdc d62_38 zo_62 zct_6_75 (by decide)).trans ((xGoto (t := 54) d62_40 rfl).trans ((xIast (N := 5) d62_54 (by rw [(isProg_k12 hg)]) (isProg_n12 hg) (by rw [(isProg_k12 hg)]; rfl)).trans (ziteC (xVret d62_55 zret_62) rfl)))))))))))))) ((xIconst d62_24).trans ((xIstore_n d62_25 rfl rfl).trans ((xAload_n d62_26 rfl).trans ((xGetR 9 (g + 12) d62_27 zo_62 zfl_6_37 rfl (isProg_r9 hg) (isProg_k hg) (Or.inl (isProg_n hg))).trans ((xAload_n d62_30 rfl).trans ((xGetI 8 (I g 8) rfl d62_31 zo_62 zfl_6_47 (by decide) rfl (isProg_k hg) (Or.inl (isProg_n hg))).trans ((xIload_n d62_34 rfl).trans ((xIfEq (t := 43) d62_35 rfl).trans ((if_pos (by decide)).trans ((xAload_n d62_43 rfl).trans ((xGetR 9 (g + 12) d62_44 zo_62 zfl_6_37 rfl (isProg_r9 hg) (isProg_k hg) (Or.inl (isProg_n hg))).trans ((xAload_n d62_47 rfl).trans ((xGetI 8 (I g 8) rfl d62_48 zo_62 zfl_6_47 (by decide) rfl (isProg_k hg) (Or.inl (isProg_n hg))).trans ((xIald (N := 5) (I (g + 12) (I g 8)) rfl d62_51 (by rw [(isProg_k12 hg)]) (Or.inl (isProg_n12 hg)) (zal_of (isProg_k12 hg) (isProg_n12 hg))).trans (ziteC ((xIload_n d62_52 rfl).trans ((xIadd d62_53).trans ((xIast (N := 5) d62_54 (by rw [(isProg_k12 hg)]) (isProg_n12 hg) (by rw [(isProg_k12 hg)]; rfl)).trans (ziteC (xVret d62_55 zret_62) rfl)))) rfl)))))))))))))))))))))) rfl)))))
theorem zo_63 : zo 63 = 6 := by decide +kernel
theorem zret_63 : zret 63 = some .int := by decide +kernel
theorem d63_0 : decode (zb 63) 0 = .ok (.aload_n 0, 1) := by decide +kernel
theorem d63_1 : decode (zb 63) 1 = .ok (.getfield 18, 3) := by decide +kernel
theorem d63_4 : decode (zb 63) 4 = .ok (.iload_n 1, 1) := by decide +kernel
theorem d63_5 : decode (zb 63) 5 = .ok (.iaload, 1) := by decide +kernel
theorem d63_6 : decode (zb 63) 6 = .ok (.iconst 3, 1) := by decide +kernel
theorem d63_7 : decode (zb 63) 7 = .ok (.if_icmp .eq 14, 3) := by decide +kernel
theorem d63_10 : decode (zb 63) 10 = .ok (.aload_n 0, 1) := by decide +kernel
theorem d63_11 : decode (zb 63) 11 = .ok (.getfield 31, 3) := by decide +kernel
theorem d63_14 : decode (zb 63) 14 = .ok (.iload_n 1, 1) := by decide +kernel
theorem d63_15 : decode (zb 63) 15 = .ok (.iaload, 1) := by decide +kernel
theorem d63_16 : decode (zb 63) 16 = .ok (.ldc 75, 2) := by decide +kernel
theorem d63_18 : decode (zb 63) 18 = .ok (.if_icmp .ne 7, 3) := by decide +kernel
theorem d63_21 : decode (zb 63) 21 = .ok (.iconst 1, 1) := by decide +kernel
theorem d63_22 : decode (zb 63) 22 = .ok (.goto 4, 3) := by decide +kernel
theorem d63_25 : decode (zb 63) 25 = .ok (.iconst 0, 1) := by decide +kernel
theorem d63_26 : decode (zb 63) 26 = .ok (.istore_n 2, 1) := by decide +kernel
theorem d63_27 : decode (zb 63) 27 = .ok (.iload_n 2, 1) := by decide +kernel
theorem d63_28 : decode (zb 63) 28 = .ok (.ifCond .eq 8, 3) := by decide +kernel
theorem d63_31 : decode (zb 63) 31 = .ok (.ldc 75, 2) := by decide +kernel
theorem d63_33 : decode (zb 63) 33 = .ok (.goto 16, 3) := by decide +kernel
theorem d63_36 : decode (zb 63) 36 = .ok (.aload_n 0, 1) := by decide +kernel
theorem d63_37 : decode (zb 63) 37 = .ok (.getfield 22, 3) := by decide +kernel
theorem d63_40 : decode (zb 63) 40 = .ok (.iload_n 1, 1) := by decide +kernel
theorem d63_41 : decode (zb 63) 41 = .ok (.iaload, 1) := by decide +kernel
theorem d63_42 : decode (zb 63) 42 = .ok (.aload_n 0, 1) := by decide +kernel
theorem d63_43 : decode (zb 63) 43 = .ok (.getfield 31, 3) := by decide +kernel
theorem d63_46 : decode (zb 63) 46 = .ok (.iload_n 1, 1) := by decide +kernel
theorem d63_47 : decode (zb 63) 47 = .ok (.iaload, 1) := by decide +kernel
theorem d63_48 : decode (zb 63) 48 = .ok (.imul, 1) := by decide +kernel
theorem d63_49 : decode (zb 63) 49 = .ok (.ireturn, 1) := by decide +kernel
theorem run63 {h : zH} {x0 : Int} {g : Nat} : zrun 63 [vR g, vI x0] h = zX 63 0 [vR g, vI x0, none] [] h := rfl
theorem e63_0 {I : Nat → Int → Int} {b : Bool} {S : Nat} {x0 : Int} {g : Nat} (hg : isProg g) : zX 63 0 [vR g, vI x0, none] [] (I, zRs b, 103, S) = if 0 ≤ x0 ∧ x0 < 24 then if (I (g + 6) x0) = 3 then some (some (vI 2147483647), (I, zRs b, 103, S)) else if 0 ≤ x0 ∧ x0 < 24 then if (I (g + 10) x0) = 2147483647 then some (some (vI 2147483647), (I, zRs b, 103, S)) else if 0 ≤ x0 ∧ x0 < 24 then if 0 ≤ x0 ∧ x0 < 24 then some (some (vI (wr ((I (g + 7) x0) * (I (g + 10) x0)))), (I, zRs b, 103, S)) else none else none else none else none := (xAload_n d63_0 rfl).trans ((xGetR 1 (g + 6) d63_1 zo_63 zfl_6_18 rfl (isProg_r1 hg) (isProg_k hg) (Or.inl (isProg_n hg))).trans ((xIload_n d63_4 rfl).trans ((xIald (N := 24) (I (g + 6) x0) rfl d63_5 (by rw [(isProg_k6 hg)]) (Or.inl (isProg_n6 hg)) (zal_of (isProg_k6 hg) (isProg_n6 hg))).trans (ziteC ((xIconst d63_6).trans ((xIcmpEq (t := 21) d63_7 rfl).trans (ziteC ((xIconst d63_21).trans ((xGoto (t := 26) d63_22 rfl).trans ((xIstore_n d63_26 rfl rfl).trans ((xIload_n d63_27 rfl).trans ((xIfEq (t := 36) d63_28 rfl).trans ((if_neg (by decide)).trans ((xLdc d63_31 zo_63 zct_6_75 (by decide)).trans ((xGoto (t := 49) d63_33 rfl).trans (xIret d63_49 zret_63))))))))) ((xAload_n d63_10 rfl).trans ((xGetR 5 (g + 10) d63_11 zo_63 zfl_6_31 rfl (isProg_r5 hg) (isProg_k hg) (Or.inl (isProg_n hg))).trans ((xIload_n d63_14 rfl).trans ((xIald (N := 24) (I (g + 10) x0) rfl d63_15 (by rw [(isProg_k10 hg)]) (Or.inl (isProg_n10 hg)) (zal_of (isProg_k10 hg) (isProg_n10 hg))).trans (ziteC ((xLdc d63_16 zo_63 zct_6_75 (by decide)).trans ((xIcmpNe (t := 25) d63_18 rfl).trans (ziteC ((xIconst d63_21).trans ((xGoto (t := 26) d63_22 rfl).trans ((xIstore_n d63_26 rfl rfl).trans ((xIload_n d63_27 rfl).trans ((xIfEq (t := 36) d63_28 rfl).trans ((if_neg (by decide)).trans ((xLdc d63_31 zo_63 zct_6_75 (by decide)).trans ((xGoto (t := 49) d63_33 rfl).trans (xIret d63_49 zret_63))))))))) ((xIconst d63_25).trans ((xIstore_n d63_26 rfl rfl).trans ((xIload_n d63_27 rfl).trans ((xIfEq (t := 36) d63_28 rfl).trans ((if_pos (by decide)).trans ((xAload_n d63_36 rfl).trans ((xGetR 2 (g + 7) d63_37 zo_63 zfl_6_22 rfl (isProg_r2 hg) (isProg_k hg) (Or.inl (isProg_n hg))).trans ((xIload_n d63_40 rfl).trans ((xIald (N := 24) (I (g + 7) x0) rfl d63_41 (by rw [(isProg_k7 hg)]) (Or.inl (isProg_n7 hg)) (zal_of (isProg_k7 hg) (isProg_n7 hg))).trans (ziteC ((xAload_n d63_42 rfl).trans ((xGetR 5 (g + 10) d63_43 zo_63 zfl_6_31 rfl (isProg_r5 hg) (isProg_k hg) (Or.inl (isProg_n hg))).trans ((xIload_n d63_46 rfl).trans ((xIald (N := 24) (I (g + 10) x0) rfl d63_47 (by rw [(isProg_k10 hg)]) (Or.inl (isProg_n10 hg)) (zal_of (isProg_k10 hg) (isProg_n10 hg))).trans (ziteC ((xImul d63_48).trans (xIret d63_49 zret_63)) rfl))))) rfl))))))))))))) rfl)))))))) rfl))))
theorem zo_64 : zo 64 = 6 := by decide +kernel
theorem zret_64 : zret 64 = some .int := by decide +kernel
theorem d64_0 : decode (zb 64) 0 = .ok (.iload_n 1, 1) := by decide +kernel
theorem d64_1 : decode (zb 64) 1 = .ok (.istore_n 2, 1) := by decide +kernel
theorem d64_2 : decode (zb 64) 2 = .ok (.iconst 0, 1) := by decide +kernel
theorem d64_3 : decode (zb 64) 3 = .ok (.istore_n 3, 1) := by decide +kernel
theorem d64_4 : decode (zb 64) 4 = .ok (.iconst 0, 1) := by decide +kernel
theorem d64_5 : decode (zb 64) 5 = .ok (.istore 4, 2) := by decide +kernel
theorem d64_7 : decode (zb 64) 7 = .ok (.iload 4, 2) := by decide +kernel
theorem d64_9 : decode (zb 64) 9 = .ok (.bipush 24, 2) := by decide +kernel
theorem d64_11 : decode (zb 64) 11 = .ok (.if_icmp .ge 78, 3) := by decide +kernel
theorem d64_14 : decode (zb 64) 14 = .ok (.iload_n 3, 1) := by decide +kernel
theorem d64_15 : decode (zb 64) 15 = .ok (.aload_n 0, 1) := by decide +kernel
theorem d64_16 : decode (zb 64) 16 = .ok (.getfield 43, 3) := by decide +kernel
theorem d64_19 : decode (zb 64) 19 = .ok (.if_icmp .ge 70, 3) := by decide +kernel
theorem d64_22 : decode (zb 64) 22 = .ok (.aload_n 0, 1) := by decide +kernel
theorem d64_23 : decode (zb 64) 23 = .ok (.iload_n 3, 1) := by decide +kernel
theorem d64_24 : decode (zb 64) 24 = .ok (.invokevirtual 76, 3) := by decide +kernel
theorem d64_27 : decode (zb 64) 27 = .ok (.istore 5, 2) := by decide +kernel
theorem d64_29 : decode (zb 64) 29 = .ok (.iload_n 2, 1) := by decide +kernel
theorem d64_30 : decode (zb 64) 30 = .ok (.iload 5, 2) := by decide +kernel
theorem d64_32 : decode (zb 64) 32 = .ok (.if_icmp .lt 17, 3) := by decide +kernel
theorem d64_35 : decode (zb 64) 35 = .ok (.iload_n 2, 1) := by decide +kernel
theorem d64_36 : decode (zb 64) 36 = .ok (.iload 5, 2) := by decide +kernel
theorem d64_38 : decode (zb 64) 38 = .ok (.isub, 1) := by decide +kernel
theorem d64_39 : decode (zb 64) 39 = .ok (.istore_n 2, 1) := by decide +kernel
theorem d64_40 : decode (zb 64) 40 = .ok (.aload_n 0, 1) := by decide +kernel
theorem d64_41 : decode (zb 64) 41 = .ok (.iload_n 3, 1) := by decide +kernel
theorem d64_42 : decode (zb 64) 42 = .ok (.invokevirtual 79, 3) := by decide +kernel
theorem d64_45 : decode (zb 64) 45 = .ok (.istore_n 3, 1) := by decide +kernel
theorem d64_46 : decode (zb 64) 46 = .ok (.goto 37, 3) := by decide +kernel
theorem d64_49 : decode (zb 64) 49 = .ok (.aload_n 0, 1) := by decide +kernel
theorem d64_50 : decode (zb 64) 50 = .ok (.getfield 18, 3) := by decide +kernel
theorem d64_53 : decode (zb 64) 53 = .ok (.iload_n 3, 1) := by decide +kernel
theorem d64_54 : decode (zb 64) 54 = .ok (.iaload, 1) := by decide +kernel
theorem d64_55 : decode (zb 64) 55 = .ok (.ifCond .ne 18, 3) := by decide +kernel
theorem d64_58 : decode (zb 64) 58 = .ok (.aload_n 0, 1) := by decide +kernel
theorem d64_59 : decode (zb 64) 59 = .ok (.getfield 12, 3) := by decide +kernel
theorem d64_62 : decode (zb 64) 62 = .ok (.aload_n 0, 1) := by decide +kernel
theorem d64_63 : decode (zb 64) 63 = .ok (.getfield 22, 3) := by decide +kernel
theorem d64_66 : decode (zb 64) 66 = .ok (.iload_n 3, 1) := by decide +kernel
theorem d64_67 : decode (zb 64) 67 = .ok (.iaload, 1) := by decide +kernel
theorem d64_68 : decode (zb 64) 68 = .ok (.iload_n 2, 1) := by decide +kernel
theorem d64_69 : decode (zb 64) 69 = .ok (.invokevirtual 82, 3) := by decide +kernel
theorem d64_72 : decode (zb 64) 72 = .ok (.ireturn, 1) := by decide +kernel
theorem d64_73 : decode (zb 64) 73 = .ok (.aload_n 0, 1) := by decide +kernel
theorem d64_74 : decode (zb 64) 74 = .ok (.iload_n 3, 1) := by decide +kernel
theorem d64_75 : decode (zb 64) 75 = .ok (.iload_n 2, 1) := by decide +kernel
theorem d64_76 : decode (zb 64) 76 = .ok (.invokevirtual 86, 3) := by decide +kernel
theorem d64_79 : decode (zb 64) 79 = .ok (.istore_n 2, 1) := by decide +kernel
theorem d64_80 : decode (zb 64) 80 = .ok (.iinc 3 1, 3) := by decide +kernel
theorem d64_83 : decode (zb 64) 83 = .ok (.iinc 4 1, 3) := by decide +kernel
theorem d64_86 : decode (zb 64) 86 = .ok (.goto (-79), 3) := by decide +kernel
theorem d64_89 : decode (zb 64) 89 = .ok (.bipush (-4), 2) := by decide +kernel
theorem d64_91 : decode (zb 64) 91 = .ok (.ireturn, 1) := by decide +kernel
theorem run64 {h : zH} {x0 : Int} {g : Nat} : zrun 64 [vR g, vI x0] h = zX 64 0 [vR g, vI x0, none, none, none, none] [] h := rfl
theorem e64_0 {I : Nat → Int → Int} {b : Bool} {S : Nat} {x0 : Int} {g : Nat} (hg : isProg g) : zX 64 0 [vR g, vI x0, none, none, none, none] [] (I, zRs b, 103, S) = zX 64 7 [vR g, vI x0, vI x0, vI 0, vI 0, none] [] (I, zRs b, 103, S) := (xIload_n d64_0 rfl).trans ((xIstore_n d64_1 rfl rfl).trans ((xIconst d64_2).trans ((xIstore_n d64_3 rfl rfl).trans ((xIconst d64_4).trans (xIstore d64_5 rfl rfl)))))
theorem e64_7 {I : Nat → Int → Int} {b : Bool} {S : Nat} {a1 a2 a3 a4 : Int} {w5 : zV} {g : Nat} (hg : isProg g) : zX 64 7 [vR g, vI a1, vI a2, vI a3, vI a4, w5] [] (I, zRs b, 103, S) = if 24 ≤ a4 then some (some (vI (-4)), (I, zRs b, 103, S)) else if (I g 6) ≤ a3 then some (some (vI (-4)), (I, zRs b, 103, S)) else (zrun 65 [vR g, vI a3] (I, zRs b, 103, S)).bind (fun q => zX 64 27 [vR g, vI a1, vI a2, vI a3, vI a4, w5] (zpush q.1 []) q.2) := (xIload d64_7 rfl).trans ((xBipush d64_9).trans ((xIcmpGe (t := 89) d64_11 rfl).trans (ziteC ((xBipush d64_89).trans (xIret d64_91 zret_64)) ((xIload_n d64_14 rfl).trans ((xAload_n d64_15 rfl).trans ((xGetI 6 (I g 6) rfl d64_16 zo_64 zfl_6_43 (by decide) rfl (isProg_k hg) (Or.inl (isProg_n hg))).trans ((xIcmpGe (t := 89) d64_19 rfl).trans (ziteC ((xBipush d64_89).trans (xIret d64_91 zret_64)) ((xAload_n d64_22 rfl).trans ((xIload_n d64_23 rfl).trans (xInvV [vR g, vI a3] [] d64_24 zo_64 zml_6_76 rfl rfl rfl (Or.inl ⟨(isProg_k hg), (isProg_n hg)⟩))))))))))))
theorem e64_27 {I : Nat → Int → Int} {b : Bool} {S : Nat} {a1 a2 a3 a4 t0 : Int} {w5 : zV} {g : Nat} (hg : isProg g) : zX 64 27 [vR g, vI a1, vI a2, vI a3, vI a4, w5] [vI t0] (I, zRs b, 103, S) = if a2 < t0 then if 0 ≤ a3 ∧ a3 < 24 then if (I (g + 6) a3) = 0 then if 0 ≤ a3 ∧ a3 < 24 then (zrun 48 [vR (g + 1), vI (I (g + 7) a3), vI a2] (I, zRs b, 103, S)).bind (fun q => zX 64 72 [vR g, vI a1, vI a2, vI a3, vI a4, vI t0] (zpush q.1 []) q.2) else none else (zrun 67 [vR g, vI a3, vI a2] (I, zRs b, 103, S)).bind (fun q => zX 64 79 [vR g, vI a1, vI a2, vI a3, vI a4, vI t0] (zpush q.1 []) q.2) else none else (zrun 66 [vR g, vI a3] (I, zRs b, 103, S)).bind (fun q => zX 64 45 [vR g, vI a1, vI (wr (a2 - t0)), vI a3, vI a4, vI t0] (zpush q.1 []) q.2) := (xIstore d64_27 rfl rfl).trans ((xIload_n d64_29 rfl).trans ((xIload d64_30 rfl).trans ((xIcmpLt (t := 49) d64_32 rfl).trans (ziteC ((xAload_n d64_49 rfl).trans ((xGetR 1 (g + 6) d64_50 zo_64 zfl_6_18 rfl (isProg_r1 hg) (isProg_k hg) (Or.inl (isProg_n hg))).trans ((xIload_n d64_53 rfl).trans ((xIald (N := 24) (I (g + 6) a3) rfl d64_54 (by rw [(isProg_k6 hg)]) (Or.inl (isProg_n6 hg)) (zal_of (isProg_k6 hg) (isProg_n6 hg))).trans (ziteC ((xIfNe (t := 73) d64_55 rfl).trans (ziteC ((xAload_n d64_58 rfl).trans ((xGetR 0 (g + 1) d64_59 zo_64 zfl_6_12 rfl (isProg_r0 hg) (isProg_k hg) (Or.inl (isProg_n hg))).trans ((xAload_n d64_62 rfl).trans ((xGetR 2 (g + 7) d64_63 zo_64 zfl_6_22 rfl (isProg_r2 hg) (isProg_k hg) (Or.inl (isProg_n hg))).trans ((xIload_n d64_66 rfl).trans ((xIald (N := 24) (I (g + 7) a3) rfl d64_67 (by rw [(isProg_k7 hg)]) (Or.inl (isProg_n7 hg)) (zal_of (isProg_k7 hg) (isProg_n7 hg))).trans (ziteC ((xIload_n d64_68 rfl).trans (xInvV [vR (g + 1), vI (I (g + 7) a3), vI a2] [] d64_69 zo_64 zml_6_82 rfl rfl rfl (Or.inl ⟨(isProg_k1 hg), (isProg_n1 hg)⟩))) rfl))))))) ((xAload_n d64_73 rfl).trans ((xIload_n d64_74 rfl).trans ((xIload_n d64_75 rfl).trans (xInvV [vR g, vI a3, vI a2] [] d64_76 zo_64 zml_6_86 rfl rfl rfl (Or.inl ⟨(isProg_k hg), (isProg_n hg)⟩))))))) rfl))))) ((xIload_n d64_35 rfl).trans ((xIload d64_36 rfl).trans ((xIsub d64_38).trans ((xIstore_n d64_39 rfl rfl).trans ((xAload_n d64_40 rfl).trans ((xIload_n d64_41 rfl).trans (xInvV [vR g, vI a3] [] d64_42 zo_64 zml_6_79 rfl rfl rfl (Or.inl ⟨(isProg_k hg), (isProg_n hg)⟩))))))))))))
theorem e64_45 {I : Nat → Int → Int} {b : Bool} {S : Nat} {a1 a2 a3 a4 a5 t0 : Int} {g : Nat} (hg : isProg g) : zX 64 45 [vR g, vI a1, vI a2, vI a3, vI a4, vI a5] [vI t0] (I, zRs b, 103, S) = zX 64 7 [vR g, vI a1, vI a2, vI t0, vI (wr (a4 + 1)), vI a5] [] (I, zRs b, 103, S) := (xIstore_n d64_45 rfl rfl).trans ((xGoto (t := 83) d64_46 rfl).trans ((xIinc d64_83 rfl rfl rfl).trans (xGoto (t := 7) d64_86 rfl)))
theorem e64_72 {I : Nat → Int → Int} {b : Bool} {S : Nat} {a1 a2 a3 a4 a5 t0 : Int} {g : Nat} (hg : isProg g) : zX 64 72 [vR g, vI a1, vI a2, vI a3, vI a4, vI a5] [vI t0] (I, zRs b, 103, S) = some (some (vI t0), (I, zRs b, 103, S)) := xIret d64_72 zret_64
theorem e64_79 {I : Nat → Int → Int} {b : Bool} {S : Nat} {a1 a2 a3 a4 a5 t0 : Int} {g : Nat} (hg : isProg g) : zX 64 79 [vR g, vI a1, vI a2, vI a3, vI a4, vI a5] [vI t0] (I, zRs b, 103, S) = zX 64 7 [vR g, vI a1, vI t0, vI (wr (a3 + 1)), vI (wr (a4 + 1)), vI a5] [] (I, zRs b, 103, S) := (xIstore_n d64_79 rfl rfl).trans ((xIinc d64_80 rfl rfl rfl).trans ((xIinc d64_83 rfl rfl rfl).trans (xGoto (t := 7) d64_86 rfl)))
theorem zo_65 : zo 65 = 6 := by decide +kernel
theorem zret_65 : zret 65 = some .int := by decide +kernel
theorem d65_0 : decode (zb 65) 0 = .ok (.aload_n 0, 1) := by decide +kernel
theorem d65_1 : decode (zb 65) 1 = .ok (.getfield 18, 3) := by decide +kernel
theorem d65_4 : decode (zb 65) 4 = .ok (.iload_n 1, 1) := by decide +kernel
theorem d65_5 : decode (zb 65) 5 = .ok (.iaload, 1) := by decide +kernel
theorem d65_6 : decode (zb 65) 6 = .ok (.tableswitch 42 0 3 #[30, 42, 36, 36], 30) := by decide +kernel
theorem d65_36 : decode (zb 65) 36 = .ok (.aload_n 0, 1) := by decide +kernel
theorem d65_37 : decode (zb 65) 37 = .ok (.iload_n 1, 1) := by decide +kernel
theorem d65_38 : decode (zb 65) 38 = .ok (.invokevirtual 89, 3) := by decide +kernel
theorem d65_41 : decode (zb 65) 41 = .ok (.ireturn, 1) := by decide +kernel
theorem d65_42 : decode (zb 65) 42 = .ok (.aload_n 0, 1) := by decide +kernel
theorem d65_43 : decode (zb 65) 43 = .ok (.iload_n 1, 1) := by decide +kernel
theorem d65_44 : decode (zb 65) 44 = .ok (.invokevirtual 71, 3) := by decide +kernel
theorem d65_47 : decode (zb 65) 47 = .ok (.ireturn, 1) := by decide +kernel
theorem d65_48 : decode (zb 65) 48 = .ok (.iconst 0, 1) := by decide +kernel
theorem d65_49 : decode (zb 65) 49 = .ok (.ireturn, 1) := by decide +kernel
theorem run65 {h : zH} {x0 : Int} {g : Nat} : zrun 65 [vR g, vI x0] h = zX 65 0 [vR g, vI x0] [] h := rfl
theorem e65_0 {I : Nat → Int → Int} {b : Bool} {S : Nat} {x0 : Int} {g : Nat} (hg : isProg g) : zX 65 0 [vR g, vI x0] [] (I, zRs b, 103, S) = if 0 ≤ x0 ∧ x0 < 24 then if (I (g + 6) x0) = 0 then (zrun 68 [vR g, vI x0] (I, zRs b, 103, S)).bind (fun q => zX 65 41 [vR g, vI x0] (zpush q.1 []) q.2) else if (I (g + 6) x0) = 1 then some (some (vI 0), (I, zRs b, 103, S)) else if (I (g + 6) x0) = 2 then (zrun 63 [vR g, vI x0] (I, zRs b, 103, S)).bind (fun q => zX 65 47 [vR g, vI x0] (zpush q.1 []) q.2) else if (I (g + 6) x0) = 3 then (zrun 63 [vR g, vI x0] (I, zRs b, 103, S)).bind (fun q => zX 65 47 [vR g, vI x0] (zpush q.1 []) q.2) else some (some (vI 0), (I, zRs b, 103, S)) else none := (xAload_n d65_0 rfl).trans ((xGetR 1 (g + 6) d65_1 zo_65 zfl_6_18 rfl (isProg_r1 hg) (isProg_k hg) (Or.inl (isProg_n hg))).trans ((xIload_n d65_4 rfl).trans ((xIald (N := 24) (I (g + 6) x0) rfl d65_5 (by rw [(isProg_k6 hg)]) (Or.inl (isProg_n6 hg)) (zal_of (isProg_k6 hg) (isProg_n6 hg))).trans (ziteC ((xTab [(0, 36), (1, 48), (2, 42), (3, 42)] 48 d65_6 rfl).trans (ziteC ((xAload_n d65_36 rfl).trans ((xIload_n d65_37 rfl).trans (xInvV [vR g, vI x0] [] d65_38 zo_65 zml_6_89 rfl rfl rfl (Or.inl ⟨(isProg_k hg), (isProg_n hg)⟩)))) (ziteC ((xIconst d65_48).trans (xIret d65_49 zret_65)) (ziteC ((xAload_n d65_42 rfl).trans ((xIload_n d65_43 rfl).trans (xInvV [vR g, vI x0] [] d65_44 zo_65 zml_6_71 rfl rfl rfl (Or.inl ⟨(isProg_k hg), (isProg_n hg)⟩)))) (ziteC ((xAload_n d65_42 rfl).trans ((xIload_n d65_43 rfl).trans (xInvV [vR g, vI x0] [] d65_44 zo_65 zml_6_71 rfl rfl rfl (Or.inl ⟨(isProg_k hg), (isProg_n hg)⟩)))) ((xIconst d65_48).trans (xIret d65_49 zret_65))))))) rfl))))
theorem e65_41 {I : Nat → Int → Int} {b : Bool} {S : Nat} {a1 t0 : Int} {g : Nat} (hg : isProg g) : zX 65 41 [vR g, vI a1] [vI t0] (I, zRs b, 103, S) = some (some (vI t0), (I, zRs b, 103, S)) := xIret d65_41 zret_65
theorem e65_47 {I : Nat → Int → Int} {b : Bool} {S : Nat} {a1 t0 : Int} {g : Nat} (hg : isProg g) : zX 65 47 [vR g, vI a1] [vI t0] (I, zRs b, 103, S) = some (some (vI t0), (I, zRs b, 103, S)) := xIret d65_47 zret_65
theorem zo_66 : zo 66 = 6 := by decide +kernel
theorem zret_66 : zret 66 = some .int := by decide +kernel
theorem d66_0 : decode (zb 66) 0 = .ok (.aload_n 0, 1) := by decide +kernel
theorem d66_1 : decode (zb 66) 1 = .ok (.getfield 18, 3) := by decide +kernel
theorem d66_4 : decode (zb 66) 4 = .ok (.iload_n 1, 1) := by decide +kernel
theorem d66_5 : decode (zb 66) 5 = .ok (.iaload, 1) := by decide +kernel
theorem d66_6 : decode (zb 66) 6 = .ok (.iconst 2, 1) := by decide +kernel
theorem d66_7 : decode (zb 66) 7 = .ok (.if_icmp .eq 13, 3) := by decide +kernel
theorem d66_10 : decode (zb 66) 10 = .ok (.aload_n 0, 1) := by decide +kernel
theorem d66_11 : decode (zb 66) 11 = .ok (.getfield 18, 3) := by decide +kernel
theorem d66_14 : decode (zb 66) 14 = .ok (.iload_n 1, 1) := by decide +kernel
theorem d66_15 : decode (zb 66) 15 = .ok (.iaload, 1) := by decide +kernel
theorem d66_16 : decode (zb 66) 16 = .ok (.iconst 3, 1) := by decide +kernel
theorem d66_17 : decode (zb 66) 17 = .ok (.if_icmp .ne 7, 3) := by decide +kernel
theorem d66_20 : decode (zb 66) 20 = .ok (.iconst 1, 1) := by decide +kernel
theorem d66_21 : decode (zb 66) 21 = .ok (.goto 4, 3) := by decide +kernel
theorem d66_24 : decode (zb 66) 24 = .ok (.iconst 0, 1) := by decide +kernel
theorem d66_25 : decode (zb 66) 25 = .ok (.istore_n 2, 1) := by decide +kernel
theorem d66_26 : decode (zb 66) 26 = .ok (.iload_n 2, 1) := by decide +kernel
theorem d66_27 : decode (zb 66) 27 = .ok (.ifCond .eq 14, 3) := by decide +kernel
theorem d66_30 : decode (zb 66) 30 = .ok (.aload_n 0, 1) := by decide +kernel
theorem d66_31 : decode (zb 66) 31 = .ok (.getfield 25, 3) := by decide +kernel
theorem d66_34 : decode (zb 66) 34 = .ok (.iload_n 1, 1) := by decide +kernel
theorem d66_35 : decode (zb 66) 35 = .ok (.iaload, 1) := by decide +kernel
theorem d66_36 : decode (zb 66) 36 = .ok (.iconst 1, 1) := by decide +kernel
theorem d66_37 : decode (zb 66) 37 = .ok (.iadd, 1) := by decide +kernel
theorem d66_38 : decode (zb 66) 38 = .ok (.goto 6, 3) := by decide +kernel
theorem d66_41 : decode (zb 66) 41 = .ok (.iload_n 1, 1) := by decide +kernel
theorem d66_42 : decode (zb 66) 42 = .ok (.iconst 1, 1) := by decide +kernel
theorem d66_43 : decode (zb 66) 43 = .ok (.iadd, 1) := by decide +kernel
theorem d66_44 : decode (zb 66) 44 = .ok (.ireturn, 1) := by decide +kernel
theorem run66 {h : zH} {x0 : Int} {g : Nat} : zrun 66 [vR g, vI x0] h = zX 66 0 [vR g, vI x0, none] [] h := rfl
theorem e66_0 {I : Nat → Int → Int} {b : Bool} {S : Nat} {x0 : Int} {g : Nat} (hg : isProg g) : zX 66 0 [vR g, vI x0, none] [] (I, zRs b, 103, S) = if 0 ≤ x0 ∧ x0 < 24 then if (I (g + 6) x0) = 2 then if 0 ≤ x0 ∧ x0 < 24 then some (some (vI (wr ((I (g + 8) x0) + 1))), (I, zRs b, 103, S)) else none else if 0 ≤ x0 ∧ x0 < 24 then if (I (g + 6) x0) = 3 then if 0 ≤ x0 ∧ x0 < 24 then some (some (vI (wr ((I (g + 8) x0) + 1))), (I, zRs b, 103, S)) else none else some (some (vI (wr (x0 + 1))), (I, zRs b, 103, S)) else none else none := (xAload_n d66_0 rfl).trans ((xGetR 1 (g + 6) d66_1 zo_66 zfl_6_18 rfl (isProg_r1 hg) (isProg_k hg) (Or.inl (isProg_n hg))).trans ((xIload_n d66_4 rfl).trans ((xIald (N := 24) (I (g + 6) x0) rfl d66_5 (by rw [(isProg_k6 hg)]) (Or.inl (isProg_n6 hg)) (zal_of (isProg_k6 hg) (isProg_n6 hg))).trans (ziteC ((xIconst d66_6).trans ((xIcmpEq (t := 20) d66_7 rfl).trans (ziteC ((xIconst d66_20).trans ((xGoto (t := 25) d66_21 rfl).trans ((xIstore_n d66_25 rfl rfl).trans ((xIload_n d66_26 rfl).trans ((xIfEq (t := 41) d66_27 rfl).trans ((if_neg (by decide)).trans ((xAload_n d66_30 rfl).trans ((xGetR 3 (g + 8) d66_31 zo_66 zfl_6_25 rfl (isProg_r3 hg) (isProg_k hg) (Or.inl (isProg_n hg))).trans ((xIload_n d66_34 rfl).trans ((xIald (N := 24) (I (g + 8) x0) rfl d66_35 (by rw [(isProg_k8 hg)]) (Or.inl (isProg_n8 hg)) (zal_of (isProg_k8 hg) (isProg_n8 hg))).trans (ziteC ((xIconst d66_36).trans ((xIadd d66_37).trans ((xGoto (t := 44) d66_38 rfl).trans (xIret d66_44 zret_66)))) rfl))))))))))) ((xAload_n d66_10 rfl).trans ((xGetR 1 (g + 6) d66_11 zo_66 zfl_6_18 rfl (isProg_r1 hg) (isProg_k hg) (Or.inl (isProg_n hg))).trans ((xIload_n d66_14 rfl).trans ((xIald (N := 24) (I (g + 6) x0) rfl d66_15 (by rw [(isProg_k6 hg)]) (Or.inl (isProg_n6 hg)) (zal_of (isProg_k6 hg) (isProg_n6 hg))).trans (ziteC ((xIconst d66_16).trans ((xIcmpNe (t := 24) d66_17 rfl).trans (ziteC ((xIconst d66_20).trans ((xGoto (t := 25) d66_21 rfl).trans ((xIstore_n d66_25 rfl rfl).trans ((xIload_n d66_26 rfl).trans ((xIfEq (t := 41) d66_27 rfl).trans ((if_neg (by decide)).trans ((xAload_n d66_30 rfl).trans ((xGetR 3 (g + 8) d66_31 zo_66 zfl_6_25 rfl (isProg_r3 hg) (isProg_k hg) (Or.inl (isProg_n hg))).trans ((xIload_n d66_34 rfl).trans ((xIald (N := 24) (I (g + 8) x0) rfl d66_35 (by rw [(isProg_k8 hg)]) (Or.inl (isProg_n8 hg)) (zal_of (isProg_k8 hg) (isProg_n8 hg))).trans (ziteC ((xIconst d66_36).trans ((xIadd d66_37).trans ((xGoto (t := 44) d66_38 rfl).trans (xIret d66_44 zret_66)))) rfl))))))))))) ((xIconst d66_24).trans ((xIstore_n d66_25 rfl rfl).trans ((xIload_n d66_26 rfl).trans ((xIfEq (t := 41) d66_27 rfl).trans ((if_pos (by decide)).trans ((xIload_n d66_41 rfl).trans ((xIconst d66_42).trans ((xIadd d66_43).trans (xIret d66_44 zret_66)))))))))))) rfl)))))))) rfl))))
theorem zo_67 : zo 67 = 6 := by decide +kernel
theorem zret_67 : zret 67 = some .int := by decide +kernel
theorem d67_0 : decode (zb 67) 0 = .ok (.aload_n 0, 1) := by decide +kernel
theorem d67_1 : decode (zb 67) 1 = .ok (.getfield 31, 3) := by decide +kernel
theorem d67_4 : decode (zb 67) 4 = .ok (.iload_n 1, 1) := by decide +kernel
theorem d67_5 : decode (zb 67) 5 = .ok (.iaload, 1) := by decide +kernel
theorem d67_6 : decode (zb 67) 6 = .ok (.istore_n 3, 1) := by decide +kernel
theorem d67_7 : decode (zb 67) 7 = .ok (.iload_n 3, 1) := by decide +kernel
theorem d67_8 : decode (zb 67) 8 = .ok (.ifCond .le 15, 3) := by decide +kernel
theorem d67_11 : decode (zb 67) 11 = .ok (.iload_n 3, 1) := by decide +kernel
theorem d67_12 : decode (zb 67) 12 = .ok (.ldc 75, 2) := by decide +kernel
theorem d67_14 : decode (zb 67) 14 = .ok (.if_icmp .eq 9, 3) := by decide +kernel
theorem d67_17 : decode (zb 67) 17 = .ok (.iload_n 2, 1) := by decide +kernel
theorem d67_18 : decode (zb 67) 18 = .ok (.iload_n 3, 1) := by decide +kernel
theorem d67_19 : decode (zb 67) 19 = .ok (.irem, 1) := by decide +kernel
theorem d67_20 : decode (zb 67) 20 = .ok (.goto 4, 3) := by decide +kernel
theorem d67_23 : decode (zb 67) 23 = .ok (.iload_n 2, 1) := by decide +kernel
theorem d67_24 : decode (zb 67) 24 = .ok (.ireturn, 1) := by decide +kernel
theorem run67 {h : zH} {x0 x1 : Int} {g : Nat} : zrun 67 [vR g, vI x0, vI x1] h = zX 67 0 [vR g, vI x0, vI x1, none] [] h := rfl
theorem e67_0 {I : Nat → Int → Int} {b : Bool} {S : Nat} {x0 x1 : Int} {g : Nat} (hg : isProg g) : zX 67 0 [vR g, vI x0, vI x1, none] [] (I, zRs b, 103, S) = if 0 ≤ x0 ∧ x0 < 24 then if (I (g + 10) x0) ≤ 0 then some (some (vI x1), (I, zRs b, 103, S)) else if (I (g + 10) x0) = 2147483647 then some (some (vI x1), (I, zRs b, 103, S)) else if (I (g + 10) x0) = 0 then none else some (some (vI (x1.tmod (I (g + 10) x0))), (I, zRs b, 103, S)) else none := (xAload_n d67_0 rfl).trans ((xGetR 5 (g + 10) d67_1 zo_67 zfl_6_31 rfl (isProg_r5 hg) (isProg_k hg) (Or.inl (isProg_n hg))).trans ((xIload_n d67_4 rfl).trans ((xIald (N := 24) (I (g + 10) x0) rfl d67_5 (by rw [(isProg_k10 hg)]) (Or.inl (isProg_n10 hg)) (zal_of (isProg_k10 hg) (isProg_n10 hg))).trans (ziteC ((xIstore_n d67_6 rfl rfl).trans ((xIload_n d67_7 rfl).trans ((xIfLe (t := 23) d67_8 rfl).trans (ziteC ((xIload_n d67_23 rfl).trans (xIret d67_24 zret_67)) ((xIload_n d67_11 rfl).trans ((xLdc d67_12 zo_67 zct_6_75 (by decide)).trans ((xIcmpEq (t := 23) d67_14 rfl).trans (ziteC ((xIload_n d67_23 rfl).trans (xIret d67_24 zret_67)) ((xIload_n d67_17 rfl).trans ((xIload_n d67_18 rfl).trans ((xIremG d67_19).trans (ziteC rfl ((xGoto (t := 24) d67_20 rfl).trans (xIret d67_24 zret_67)))))))))))))) rfl))))
theorem zo_68 : zo 68 = 6 := by decide +kernel
theorem zret_68 : zret 68 = some .int := by decide +kernel
theorem d68_0 : decode (zb 68) 0 = .ok (.iload_n 1, 1) := by decide +kernel
theorem d68_1 : decode (zb 68) 1 = .ok (.ifCond .lt 20, 3) := by decide +kernel
theorem d68_4 : decode (zb 68) 4 = .ok (.iload_n 1, 1) := by decide +kernel
theorem d68_5 : decode (zb 68) 5 = .ok (.aload_n 0, 1) := by decide +kernel
theorem d68_6 : decode (zb 68) 6 = .ok (.getfield 43, 3) := by decide +kernel
theorem d68_9 : decode (zb 68) 9 = .ok (.if_icmp .ge 12, 3) := by decide +kernel
theorem d68_12 : decode (zb 68) 12 = .ok (.aload_n 0, 1) := by decide +kernel
theorem d68_13 : decode (zb 68) 13 = .ok (.getfield 18, 3) := by decide +kernel
theorem d68_16 : decode (zb 68) 16 = .ok (.iload_n 1, 1) := by decide +kernel
theorem d68_17 : decode (zb 68) 17 = .ok (.iaload, 1) := by decide +kernel
theorem d68_18 : decode (zb 68) 18 = .ok (.ifCond .eq 5, 3) := by decide +kernel
theorem d68_21 : decode (zb 68) 21 = .ok (.iconst 0, 1) := by decide +kernel
theorem d68_22 : decode (zb 68) 22 = .ok (.ireturn, 1) := by decide +kernel
theorem d68_23 : decode (zb 68) 23 = .ok (.aload_n 0, 1) := by decide +kernel
theorem d68_24 : decode (zb 68) 24 = .ok (.getfield 12, 3) := by decide +kernel
theorem d68_27 : decode (zb 68) 27 = .ok (.getfield 61, 3) := by decide +kernel
theorem d68_30 : decode (zb 68) 30 = .ok (.aload_n 0, 1) := by decide +kernel
theorem d68_31 : decode (zb 68) 31 = .ok (.getfield 22, 3) := by decide +kernel
theorem d68_34 : decode (zb 68) 34 = .ok (.iload_n 1, 1) := by decide +kernel
theorem d68_35 : decode (zb 68) 35 = .ok (.iaload, 1) := by decide +kernel
theorem d68_36 : decode (zb 68) 36 = .ok (.iaload, 1) := by decide +kernel
theorem d68_37 : decode (zb 68) 37 = .ok (.ireturn, 1) := by decide +kernel
theorem run68 {h : zH} {x0 : Int} {g : Nat} : zrun 68 [vR g, vI x0] h = zX 68 0 [vR g, vI x0] [] h := rfl
theorem e68_0 {I : Nat → Int → Int} {b : Bool} {S : Nat} {x0 : Int} {g : Nat} (hg : isProg g) : zX 68 0 [vR g, vI x0] [] (I, zRs b, 103, S) = if x0 < 0 then some (some (vI 0), (I, zRs b, 103, S)) else if (I g 6) ≤ x0 then some (some (vI 0), (I, zRs b, 103, S)) else if 0 ≤ x0 ∧ x0 < 24 then if (I (g + 6) x0) = 0 then if 0 ≤ x0 ∧ x0 < 24 then if 0 ≤ (I (g + 7) x0) ∧ (I (g + 7) x0) < 8 then some (some (vI (I (g + 4) (I (g + 7) x0))), (I, zRs b, 103, S)) else none else none else some (some (vI 0), (I, zRs b, 103, S)) else none := (xIload_n d68_0 rfl).trans ((xIfLt (t := 21) d68_1 rfl).trans (ziteC ((xIconst d68_21).trans (xIret d68_22 zret_68)) ((xIload_n d68_4 rfl).trans ((xAload_n d68_5 rfl).trans ((xGetI 6 (I g 6) rfl d68_6 zo_68 zfl_6_43 (by decide) rfl (isProg_k hg) (Or.inl (isProg_n hg))).trans ((xIcmpGe (t := 21) d68_9 rfl).trans (ziteC ((xIconst d68_21).trans (xIret d68_22 zret_68)) ((xAload_n d68_12 rfl).trans ((xGetR 1 (g + 6) d68_13 zo_68 zfl_6_18 rfl (isProg_r1 hg) (isProg_k hg) (Or.inl (isProg_n hg))).trans ((xIload_n d68_16 rfl).trans ((xIald (N := 24) (I (g + 6) x0) rfl d68_17 (by rw [(isProg_k6 hg)]) (Or.inl (isProg_n6 hg)) (zal_of (isProg_k6 hg) (isProg_n6 hg))).trans (ziteC ((xIfEq (t := 23) d68_18 rfl).trans (ziteC ((xAload_n d68_23 rfl).trans ((xGetR 0 (g + 1) d68_24 zo_68 zfl_6_12 rfl (isProg_r0 hg) (isProg_k hg) (Or.inl (isProg_n hg))).trans ((xGetR 2 (g + 4) d68_27 zo_68 zfl_6_61 rfl (isPool_r2 (isProg_pool hg)) (isProg_k1 hg) (Or.inl (isProg_n1 hg))).trans ((xAload_n d68_30 rfl).trans ((xGetR 2 (g + 7) d68_31 zo_68 zfl_6_22 rfl (isProg_r2 hg) (isProg_k hg) (Or.inl (isProg_n hg))).trans ((xIload_n d68_34 rfl).trans ((xIald (N := 24) (I (g + 7) x0) rfl d68_35 (by rw [(isProg_k7 hg)]) (Or.inl (isProg_n7 hg)) (zal_of (isProg_k7 hg) (isProg_n7 hg))).trans (ziteC ((xIald (N := 8) (I (g + 4) (I (g + 7) x0)) rfl d68_36 (by rw [(isProg_k4 hg)]) (Or.inl (isProg_n4 hg)) (zal_of (isProg_k4 hg) (isProg_n4 hg))).trans (ziteC (xIret d68_37 zret_68) rfl)) rfl)))))))) ((xIconst d68_21).trans (xIret d68_22 zret_68)))) rfl))))))))))))
