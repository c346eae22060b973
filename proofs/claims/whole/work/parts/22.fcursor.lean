theorem zo_1 : zo 1 = 0 := by decide +kernel
theorem zret_1 : zret 1 = none := by decide +kernel
theorem d1_0 : decode (zb 1) 0 = .ok (.aload_n 0, 1) := by decide +kernel
theorem d1_1 : decode (zb 1) 1 = .ok (.bipush (-4), 2) := by decide +kernel
theorem d1_3 : decode (zb 1) 3 = .ok (.putfield 9, 3) := by decide +kernel
theorem d1_6 : decode (zb 1) 6 = .ok (.aload_n 0, 1) := by decide +kernel
theorem d1_7 : decode (zb 1) 7 = .ok (.iconst 0, 1) := by decide +kernel
theorem d1_8 : decode (zb 1) 8 = .ok (.putfield 19, 3) := by decide +kernel
theorem d1_11 : decode (zb 1) 11 = .ok (.aload_n 0, 1) := by decide +kernel
theorem d1_12 : decode (zb 1) 12 = .ok (.iconst 0, 1) := by decide +kernel
theorem d1_13 : decode (zb 1) 13 = .ok (.putfield 22, 3) := by decide +kernel
theorem d1_16 : decode (zb 1) 16 = .ok (.iconst 0, 1) := by decide +kernel
theorem d1_17 : decode (zb 1) 17 = .ok (.istore_n 1, 1) := by decide +kernel
theorem d1_18 : decode (zb 1) 18 = .ok (.iload_n 1, 1) := by decide +kernel
theorem d1_19 : decode (zb 1) 19 = .ok (.bipush 24, 2) := by decide +kernel
theorem d1_21 : decode (zb 1) 21 = .ok (.if_icmp .ge 16, 3) := by decide +kernel
theorem d1_24 : decode (zb 1) 24 = .ok (.aload_n 0, 1) := by decide +kernel
theorem d1_25 : decode (zb 1) 25 = .ok (.getfield 15, 3) := by decide +kernel
theorem d1_28 : decode (zb 1) 28 = .ok (.iload_n 1, 1) := by decide +kernel
theorem d1_29 : decode (zb 1) 29 = .ok (.iconst 0, 1) := by decide +kernel
theorem d1_30 : decode (zb 1) 30 = .ok (.iastore, 1) := by decide +kernel
theorem d1_31 : decode (zb 1) 31 = .ok (.iinc 1 1, 3) := by decide +kernel
theorem d1_34 : decode (zb 1) 34 = .ok (.goto (-16), 3) := by decide +kernel
theorem d1_37 : decode (zb 1) 37 = .ok (.return_, 1) := by decide +kernel
theorem run1 {h : zH} {c : Nat} : zrun 1 [vR c] h = zX 1 0 [vR c, none] [] h := rfl
theorem e1_0 {I : Nat → Int → Int} {b : Bool} {S : Nat} {c : Nat} (hc : isCur c) : zX 1 0 [vR c, none] [] (I, zRs b, 103, S) = zX 1 18 [vR c, vI 0] [] ((sI (sI (sI I c 0 (-4)) c 1 0) c 3 0), zRs b, 103, S) := (xAload_n d1_0 rfl).trans ((xBipush d1_1).trans ((xPutI 0 d1_3 zo_1 zfl_0_9 rfl (isCur_k hc) (isCur_n hc) (Or.inl rfl)).trans ((xAload_n d1_6 rfl).trans ((xIconst d1_7).trans ((xPutI 1 d1_8 zo_1 zfl_0_19 rfl (isCur_k hc) (isCur_n hc) (Or.inl rfl)).trans ((xAload_n d1_11 rfl).trans ((xIconst d1_12).trans ((xPutI 3 d1_13 zo_1 zfl_0_22 rfl (isCur_k hc) (isCur_n hc) (Or.inl rfl)).trans ((xIconst d1_16).trans (xIstore_n d1_17 rfl rfl))))))))))
theorem e1_18 {I : Nat → Int → Int} {b : Bool} {S : Nat} {a1 : Int} {c : Nat} (hc : isCur c) : zX 1 18 [vR c, vI a1] [] (I, zRs b, 103, S) = if 24 ≤ a1 then some (none, (I, zRs b, 103, S)) else if 0 ≤ a1 ∧ a1 < 24 then zX 1 18 [vR c, vI (wr (a1 + 1))] [] ((sI I (c + 1) a1 0), zRs b, 103, S) else none := (xIload_n d1_18 rfl).trans ((xBipush d1_19).trans ((xIcmpGe (t := 37) d1_21 rfl).trans (ziteC (xVret d1_37 zret_1) ((xAload_n d1_24 rfl).trans ((xGetR 2 (c + 1) d1_25 zo_1 zfl_0_15 rfl (isCur_r2 hc) (isCur_k hc) (Or.inl (isCur_n hc))).trans ((xIload_n d1_28 rfl).trans ((xIconst d1_29).trans ((xIast (N := 24) d1_30 (by rw [(isCur_k1 hc)]) (isCur_n1 hc) (by rw [(isCur_k1 hc)]; rfl)).trans (ziteC ((xIinc d1_31 rfl rfl rfl).trans (xGoto (t := 18) d1_34 rfl)) rfl)))))))))
theorem zo_2 : zo 2 = 0 := by decide +kernel
theorem zret_2 : zret 2 = none := by decide +kernel
theorem d2_0 : decode (zb 2) 0 = .ok (.aload_n 0, 1) := by decide +kernel
theorem d2_1 : decode (zb 2) 1 = .ok (.aload_n 1, 1) := by decide +kernel
theorem d2_2 : decode (zb 2) 2 = .ok (.getfield 9, 3) := by decide +kernel
theorem d2_5 : decode (zb 2) 5 = .ok (.putfield 9, 3) := by decide +kernel
theorem d2_8 : decode (zb 2) 8 = .ok (.aload_n 0, 1) := by decide +kernel
theorem d2_9 : decode (zb 2) 9 = .ok (.aload_n 1, 1) := by decide +kernel
theorem d2_10 : decode (zb 2) 10 = .ok (.getfield 19, 3) := by decide +kernel
theorem d2_13 : decode (zb 2) 13 = .ok (.putfield 19, 3) := by decide +kernel
theorem d2_16 : decode (zb 2) 16 = .ok (.aload_n 0, 1) := by decide +kernel
theorem d2_17 : decode (zb 2) 17 = .ok (.aload_n 1, 1) := by decide +kernel
theorem d2_18 : decode (zb 2) 18 = .ok (.getfield 22, 3) := by decide +kernel
theorem d2_21 : decode (zb 2) 21 = .ok (.putfield 22, 3) := by decide +kernel
theorem d2_24 : decode (zb 2) 24 = .ok (.aload_n 1, 1) := by decide +kernel
theorem d2_25 : decode (zb 2) 25 = .ok (.getfield 15, 3) := by decide +kernel
theorem d2_28 : decode (zb 2) 28 = .ok (.iconst 0, 1) := by decide +kernel
theorem d2_29 : decode (zb 2) 29 = .ok (.aload_n 0, 1) := by decide +kernel
theorem d2_30 : decode (zb 2) 30 = .ok (.getfield 15, 3) := by decide +kernel
theorem d2_33 : decode (zb 2) 33 = .ok (.iconst 0, 1) := by decide +kernel
theorem d2_34 : decode (zb 2) 34 = .ok (.bipush 24, 2) := by decide +kernel
theorem d2_36 : decode (zb 2) 36 = .ok (.invokestatic 25, 3) := by decide +kernel
theorem d2_39 : decode (zb 2) 39 = .ok (.return_, 1) := by decide +kernel
theorem run2 {h : zH} {c c2 : Nat} : zrun 2 [vR c, vR c2] h = zX 2 0 [vR c, vR c2] [] h := rfl
theorem e2_0 {I : Nat → Int → Int} {b : Bool} {S : Nat} {c : Nat} (hc : isCur c) {c2 : Nat} (hc2 : isCur c2) : zX 2 0 [vR c, vR c2] [] (I, zRs b, 103, S) = some (none, ((zcpy (sI (sI (sI I c 0 (I c2 0)) c 1 ((sI I c 0 (I c2 0)) c2 1)) c 3 ((sI (sI I c 0 (I c2 0)) c 1 ((sI I c 0 (I c2 0)) c2 1)) c2 3)) (c2 + 1) 0 (c + 1) 0 24), zRs b, 103, S)) := (xAload_n d2_0 rfl).trans ((xAload_n d2_1 rfl).trans ((xGetI 0 (I c2 0) rfl d2_2 zo_2 zfl_0_9 (by decide) rfl (isCur_k hc2) (Or.inl (isCur_n hc2))).trans ((xPutI 0 d2_5 zo_2 zfl_0_9 rfl (isCur_k hc) (isCur_n hc) (Or.inl rfl)).trans ((xAload_n d2_8 rfl).trans ((xAload_n d2_9 rfl).trans ((xGetI 1 ((sI I c 0 (I c2 0)) c2 1) rfl d2_10 zo_2 zfl_0_19 (by decide) rfl (isCur_k hc2) (Or.inl (isCur_n hc2))).trans ((xPutI 1 d2_13 zo_2 zfl_0_19 rfl (isCur_k hc) (isCur_n hc) (Or.inl rfl)).trans ((xAload_n d2_16 rfl).trans ((xAload_n d2_17 rfl).trans ((xGetI 3 ((sI (sI I c 0 (I c2 0)) c 1 ((sI I c 0 (I c2 0)) c2 1)) c2 3) rfl d2_18 zo_2 zfl_0_22 (by decide) rfl (isCur_k hc2) (Or.inl (isCur_n hc2))).trans ((xPutI 3 d2_21 zo_2 zfl_0_22 rfl (isCur_k hc) (isCur_n hc) (Or.inl rfl)).trans ((xAload_n d2_24 rfl).trans ((xGetR 2 (c2 + 1) d2_25 zo_2 zfl_0_15 rfl (isCur_r2 hc2) (isCur_k hc2) (Or.inl (isCur_n hc2))).trans ((xIconst d2_28).trans ((xAload_n d2_29 rfl).trans ((xGetR 2 (c + 1) d2_30 zo_2 zfl_0_15 rfl (isCur_r2 hc) (isCur_k hc) (Or.inl (isCur_n hc))).trans ((xIconst d2_33).trans ((xBipush d2_34).trans ((xCopy (N := 24) (M := 24) d2_36 zo_2 zml_0_25 (by rw [(isCur_k1 hc)]) (isCur_n1 hc) (by rw [(isCur_k1 hc2)]) (isCur_n1 hc2) (by rw [(isCur_k1 hc)]; rfl) (by rw [(isCur_k1 hc2)]; rfl) rfl (by decide)).trans (xVret d2_39 zret_2))))))))))))))))))))
theorem zo_3 : zo 3 = 0 := by decide +kernel
theorem zret_3 : zret 3 = some .boolean := by decide +kernel
theorem d3_0 : decode (zb 3) 0 = .ok (.aload_n 0, 1) := by decide +kernel
theorem d3_1 : decode (zb 3) 1 = .ok (.getfield 9, 3) := by decide +kernel
theorem d3_4 : decode (zb 3) 4 = .ok (.ifCond .ge 7, 3) := by decide +kernel
theorem d3_7 : decode (zb 3) 7 = .ok (.iconst 1, 1) := by decide +kernel
theorem d3_8 : decode (zb 3) 8 = .ok (.goto 4, 3) := by decide +kernel
theorem d3_11 : decode (zb 3) 11 = .ok (.iconst 0, 1) := by decide +kernel
theorem d3_12 : decode (zb 3) 12 = .ok (.ireturn, 1) := by decide +kernel
theorem run3 {h : zH} {c : Nat} : zrun 3 [vR c] h = zX 3 0 [vR c] [] h := rfl
theorem e3_0 {I : Nat → Int → Int} {b : Bool} {S : Nat} {c : Nat} (hc : isCur c) : zX 3 0 [vR c] [] (I, zRs b, 103, S) = if 0 ≤ (I c 0) then some (some (vI 0), (I, zRs b, 103, S)) else some (some (vI 1), (I, zRs b, 103, S)) := (xAload_n d3_0 rfl).trans ((xGetI 0 (I c 0) rfl d3_1 zo_3 zfl_0_9 (by decide) rfl (isCur_k hc) (Or.inl (isCur_n hc))).trans ((xIfGe (t := 11) d3_4 rfl).trans (ziteC ((xIconst d3_11).trans (xZret d3_12 zret_3 (by decide))) ((xIconst d3_7).trans ((xGoto (t := 12) d3_8 rfl).trans (xZret d3_12 zret_3 (by decide)))))))
theorem zo_4 : zo 4 = 0 := by decide +kernel
theorem zret_4 : zret 4 = some .boolean := by decide +kernel
theorem d4_0 : decode (zb 4) 0 = .ok (.iconst 1, 1) := by decide +kernel
theorem d4_1 : decode (zb 4) 1 = .ok (.iload_n 1, 1) := by decide +kernel
theorem d4_2 : decode (zb 4) 2 = .ok (.ishl, 1) := by decide +kernel
theorem d4_3 : decode (zb 4) 3 = .ok (.istore_n 2, 1) := by decide +kernel
theorem d4_4 : decode (zb 4) 4 = .ok (.aload_n 0, 1) := by decide +kernel
theorem d4_5 : decode (zb 4) 5 = .ok (.getfield 22, 3) := by decide +kernel
theorem d4_8 : decode (zb 4) 8 = .ok (.iload_n 2, 1) := by decide +kernel
theorem d4_9 : decode (zb 4) 9 = .ok (.iand, 1) := by decide +kernel
theorem d4_10 : decode (zb 4) 10 = .ok (.ifCond .eq 7, 3) := by decide +kernel
theorem d4_13 : decode (zb 4) 13 = .ok (.iconst 1, 1) := by decide +kernel
theorem d4_14 : decode (zb 4) 14 = .ok (.goto 4, 3) := by decide +kernel
theorem d4_17 : decode (zb 4) 17 = .ok (.iconst 0, 1) := by decide +kernel
theorem d4_18 : decode (zb 4) 18 = .ok (.istore_n 3, 1) := by decide +kernel
theorem d4_19 : decode (zb 4) 19 = .ok (.aload_n 0, 1) := by decide +kernel
theorem d4_20 : decode (zb 4) 20 = .ok (.dup, 1) := by decide +kernel
theorem d4_21 : decode (zb 4) 21 = .ok (.getfield 22, 3) := by decide +kernel
theorem d4_24 : decode (zb 4) 24 = .ok (.iload_n 2, 1) := by decide +kernel
theorem d4_25 : decode (zb 4) 25 = .ok (.ior, 1) := by decide +kernel
theorem d4_26 : decode (zb 4) 26 = .ok (.putfield 22, 3) := by decide +kernel
theorem d4_29 : decode (zb 4) 29 = .ok (.iload_n 3, 1) := by decide +kernel
theorem d4_30 : decode (zb 4) 30 = .ok (.ireturn, 1) := by decide +kernel
theorem run4 {h : zH} {x0 : Int} {c : Nat} : zrun 4 [vR c, vI x0] h = zX 4 0 [vR c, vI x0, none, none] [] h := rfl
theorem e4_0 {I : Nat → Int → Int} {b : Bool} {S : Nat} {x0 : Int} {c : Nat} (hc : isCur c) : zX 4 0 [vR c, vI x0, none, none] [] (I, zRs b, 103, S) = if (w2 (· &&& ·) (I c 3) (w2 (fun a b => a <<< (b &&& 31)) 1 x0)) = 0 then some (some (vI 0), ((sI I c 3 (w2 (· ||| ·) (I c 3) (w2 (fun a b => a <<< (b &&& 31)) 1 x0))), zRs b, 103, S)) else some (some (vI 1), ((sI I c 3 (w2 (· ||| ·) (I c 3) (w2 (fun a b => a <<< (b &&& 31)) 1 x0))), zRs b, 103, S)) := (xIconst d4_0).trans ((xIload_n d4_1 rfl).trans ((xIshl d4_2).trans ((xIstore_n d4_3 rfl rfl).trans ((xAload_n d4_4 rfl).trans ((xGetI 3 (I c 3) rfl d4_5 zo_4 zfl_0_22 (by decide) rfl (isCur_k hc) (Or.inl (isCur_n hc))).trans ((xIload_n d4_8 rfl).trans ((xIand d4_9).trans ((xIfEq (t := 17) d4_10 rfl).trans (ziteC ((xIconst d4_17).trans ((xIstore_n d4_18 rfl rfl).trans ((xAload_n d4_19 rfl).trans ((xDup d4_20 rfl).trans ((xGetI 3 (I c 3) rfl d4_21 zo_4 zfl_0_22 (by decide) rfl (isCur_k hc) (Or.inl (isCur_n hc))).trans ((xIload_n d4_24 rfl).trans ((xIor d4_25).trans ((xPutI 3 d4_26 zo_4 zfl_0_22 rfl (isCur_k hc) (isCur_n hc) (Or.inl rfl)).trans ((xIload_n d4_29 rfl).trans (xZret d4_30 zret_4 (by decide))))))))))) ((xIconst d4_13).trans ((xGoto (t := 18) d4_14 rfl).trans ((xIstore_n d4_18 rfl rfl).trans ((xAload_n d4_19 rfl).trans ((xDup d4_20 rfl).trans ((xGetI 3 (I c 3) rfl d4_21 zo_4 zfl_0_22 (by decide) rfl (isCur_k hc) (Or.inl (isCur_n hc))).trans ((xIload_n d4_24 rfl).trans ((xIor d4_25).trans ((xPutI 3 d4_26 zo_4 zfl_0_22 rfl (isCur_k hc) (isCur_n hc) (Or.inl rfl)).trans ((xIload_n d4_29 rfl).trans (xZret d4_30 zret_4 (by decide)))))))))))))))))))))
theorem zo_5 : zo 5 = 0 := by decide +kernel
theorem zret_5 : zret 5 = some .int := by decide +kernel
theorem d5_0 : decode (zb 5) 0 = .ok (.aload_n 0, 1) := by decide +kernel
theorem d5_1 : decode (zb 5) 1 = .ok (.aload_n 1, 1) := by decide +kernel
theorem d5_2 : decode (zb 5) 2 = .ok (.invokevirtual 31, 3) := by decide +kernel
theorem d5_5 : decode (zb 5) 5 = .ok (.istore_n 2, 1) := by decide +kernel
theorem d5_6 : decode (zb 5) 6 = .ok (.iload_n 2, 1) := by decide +kernel
theorem d5_7 : decode (zb 5) 7 = .ok (.ifCond .ge 8, 3) := by decide +kernel
theorem d5_10 : decode (zb 5) 10 = .ok (.bipush (-4), 2) := by decide +kernel
theorem d5_12 : decode (zb 5) 12 = .ok (.goto 23, 3) := by decide +kernel
theorem d5_15 : decode (zb 5) 15 = .ok (.aload_n 1, 1) := by decide +kernel
theorem d5_16 : decode (zb 5) 16 = .ok (.getfield 35, 3) := by decide +kernel
theorem d5_19 : decode (zb 5) 19 = .ok (.getfield 41, 3) := by decide +kernel
theorem d5_22 : decode (zb 5) 22 = .ok (.iload_n 2, 1) := by decide +kernel
theorem d5_23 : decode (zb 5) 23 = .ok (.iaload, 1) := by decide +kernel
theorem d5_24 : decode (zb 5) 24 = .ok (.aload_n 0, 1) := by decide +kernel
theorem d5_25 : decode (zb 5) 25 = .ok (.getfield 19, 3) := by decide +kernel
theorem d5_28 : decode (zb 5) 28 = .ok (.bipush 16, 2) := by decide +kernel
theorem d5_30 : decode (zb 5) 30 = .ok (.idiv, 1) := by decide +kernel
theorem d5_31 : decode (zb 5) 31 = .ok (.iadd, 1) := by decide +kernel
theorem d5_32 : decode (zb 5) 32 = .ok (.bipush 8, 2) := by decide +kernel
theorem d5_34 : decode (zb 5) 34 = .ok (.idiv, 1) := by decide +kernel
theorem d5_35 : decode (zb 5) 35 = .ok (.ireturn, 1) := by decide +kernel
theorem run5 {h : zH} {c g : Nat} : zrun 5 [vR c, vR g] h = zX 5 0 [vR c, vR g, none] [] h := rfl
theorem e5_0 {I : Nat → Int → Int} {b : Bool} {S : Nat} {c : Nat} (hc : isCur c) {g : Nat} (hg : isProg g) : zX 5 0 [vR c, vR g, none] [] (I, zRs b, 103, S) = (zrun 6 [vR c, vR g] (I, zRs b, 103, S)).bind (fun q => zX 5 5 [vR c, vR g, none] (zpush q.1 []) q.2) := (xAload_n d5_0 rfl).trans ((xAload_n d5_1 rfl).trans (xInvV [vR c, vR g] [] d5_2 zo_5 zml_0_31 rfl rfl rfl (Or.inl ⟨(isCur_k hc), (isCur_n hc)⟩)))
theorem e5_5 {I : Nat → Int → Int} {b : Bool} {S : Nat} {t0 : Int} {c : Nat} (hc : isCur c) {g : Nat} (hg : isProg g) : zX 5 5 [vR c, vR g, none] [vI t0] (I, zRs b, 103, S) = if 0 ≤ t0 then if 0 ≤ t0 ∧ t0 < 8 then some (some (vI (wr ((wr ((I (g + 3) t0) + (wr ((I c 1).tdiv 16)))).tdiv 8))), (I, zRs b, 103, S)) else none else some (some (vI (-4)), (I, zRs b, 103, S)) := (xIstore_n d5_5 rfl rfl).trans ((xIload_n d5_6 rfl).trans ((xIfGe (t := 15) d5_7 rfl).trans (ziteC ((xAload_n d5_15 rfl).trans ((xGetR 0 (g + 1) d5_16 zo_5 zfl_0_35 rfl (isProg_r0 hg) (isProg_k hg) (Or.inl (isProg_n hg))).trans ((xGetR 1 (g + 3) d5_19 zo_5 zfl_0_41 rfl (isPool_r1 (isProg_pool hg)) (isProg_k1 hg) (Or.inl (isProg_n1 hg))).trans ((xIload_n d5_22 rfl).trans ((xIald (N := 8) (I (g + 3) t0) rfl d5_23 (by rw [(isProg_k3 hg)]) (Or.inl (isProg_n3 hg)) (zal_of (isProg_k3 hg) (isProg_n3 hg))).trans (ziteC ((xAload_n d5_24 rfl).trans ((xGetI 1 (I c 1) rfl d5_25 zo_5 zfl_0_19 (by decide) rfl (isCur_k hc) (Or.inl (isCur_n hc))).trans ((xBipush d5_28).trans ((xIdiv d5_30 (by decide)).trans ((xIadd d5_31).trans ((xBipush d5_32).trans ((xIdiv d5_34 (by decide)).trans (xIret d5_35 zret_5)))))))) rfl)))))) ((xBipush d5_10).trans ((xGoto (t := 35) d5_12 rfl).trans (xIret d5_35 zret_5))))))
theorem zo_6 : zo 6 = 0 := by decide +kernel
theorem zret_6 : zret 6 = some .int := by decide +kernel
theorem d6_0 : decode (zb 6) 0 = .ok (.aload_n 0, 1) := by decide +kernel
theorem d6_1 : decode (zb 6) 1 = .ok (.getfield 9, 3) := by decide +kernel
theorem d6_4 : decode (zb 6) 4 = .ok (.ifCond .lt 26, 3) := by decide +kernel
theorem d6_7 : decode (zb 6) 7 = .ok (.aload_n 0, 1) := by decide +kernel
theorem d6_8 : decode (zb 6) 8 = .ok (.getfield 9, 3) := by decide +kernel
theorem d6_11 : decode (zb 6) 11 = .ok (.aload_n 1, 1) := by decide +kernel
theorem d6_12 : decode (zb 6) 12 = .ok (.getfield 46, 3) := by decide +kernel
theorem d6_15 : decode (zb 6) 15 = .ok (.if_icmp .ge 15, 3) := by decide +kernel
theorem d6_18 : decode (zb 6) 18 = .ok (.aload_n 1, 1) := by decide +kernel
theorem d6_19 : decode (zb 6) 19 = .ok (.getfield 49, 3) := by decide +kernel
theorem d6_22 : decode (zb 6) 22 = .ok (.aload_n 0, 1) := by decide +kernel
theorem d6_23 : decode (zb 6) 23 = .ok (.getfield 9, 3) := by decide +kernel
theorem d6_26 : decode (zb 6) 26 = .ok (.iaload, 1) := by decide +kernel
theorem d6_27 : decode (zb 6) 27 = .ok (.goto 5, 3) := by decide +kernel
theorem d6_30 : decode (zb 6) 30 = .ok (.bipush (-4), 2) := by decide +kernel
theorem d6_32 : decode (zb 6) 32 = .ok (.ireturn, 1) := by decide +kernel
theorem run6 {h : zH} {c g : Nat} : zrun 6 [vR c, vR g] h = zX 6 0 [vR c, vR g] [] h := rfl
theorem e6_0 {I : Nat → Int → Int} {b : Bool} {S : Nat} {c : Nat} (hc : isCur c) {g : Nat} (hg : isProg g) : zX 6 0 [vR c, vR g] [] (I, zRs b, 103, S) = if (I c 0) < 0 then some (some (vI (-4)), (I, zRs b, 103, S)) else if (I g 6) ≤ (I c 0) then some (some (vI (-4)), (I, zRs b, 103, S)) else if 0 ≤ (I c 0) ∧ (I c 0) < 24 then some (some (vI (I (g + 7) (I c 0))), (I, zRs b, 103, S)) else none := (xAload_n d6_0 rfl).trans ((xGetI 0 (I c 0) rfl d6_1 zo_6 zfl_0_9 (by decide) rfl (isCur_k hc) (Or.inl (isCur_n hc))).trans ((xIfLt (t := 30) d6_4 rfl).trans (ziteC ((xBipush d6_30).trans (xIret d6_32 zret_6)) ((xAload_n d6_7 rfl).trans ((xGetI 0 (I c 0) rfl d6_8 zo_6 zfl_0_9 (by decide) rfl (isCur_k hc) (Or.inl (isCur_n hc))).trans ((xAload_n d6_11 rfl).trans ((xGetI 6 (I g 6) rfl d6_12 zo_6 zfl_0_46 (by decide) rfl (isProg_k hg) (Or.inl (isProg_n hg))).trans ((xIcmpGe (t := 30) d6_15 rfl).trans (ziteC ((xBipush d6_30).trans (xIret d6_32 zret_6)) ((xAload_n d6_18 rfl).trans ((xGetR 2 (g + 7) d6_19 zo_6 zfl_0_49 rfl (isProg_r2 hg) (isProg_k hg) (Or.inl (isProg_n hg))).trans ((xAload_n d6_22 rfl).trans ((xGetI 0 (I c 0) rfl d6_23 zo_6 zfl_0_9 (by decide) rfl (isCur_k hc) (Or.inl (isCur_n hc))).trans ((xIald (N := 24) (I (g + 7) (I c 0)) rfl d6_26 (by rw [(isProg_k7 hg)]) (Or.inl (isProg_n7 hg)) (zal_of (isProg_k7 hg) (isProg_n7 hg))).trans (ziteC ((xGoto (t := 32) d6_27 rfl).trans (xIret d6_32 zret_6)) rfl)))))))))))))))
theorem zo_7 : zo 7 = 0 := by decide +kernel
theorem zret_7 : zret 7 = some .int := by decide +kernel
theorem d7_0 : decode (zb 7) 0 = .ok (.aload_n 0, 1) := by decide +kernel
theorem d7_1 : decode (zb 7) 1 = .ok (.aload_n 2, 1) := by decide +kernel
theorem d7_2 : decode (zb 7) 2 = .ok (.invokevirtual 31, 3) := by decide +kernel
theorem d7_5 : decode (zb 7) 5 = .ok (.istore_n 3, 1) := by decide +kernel
theorem d7_6 : decode (zb 7) 6 = .ok (.aload_n 0, 1) := by decide +kernel
theorem d7_7 : decode (zb 7) 7 = .ok (.getfield 19, 3) := by decide +kernel
theorem d7_10 : decode (zb 7) 10 = .ok (.bipush 16, 2) := by decide +kernel
theorem d7_12 : decode (zb 7) 12 = .ok (.idiv, 1) := by decide +kernel
theorem d7_13 : decode (zb 7) 13 = .ok (.istore 4, 2) := by decide +kernel
theorem d7_15 : decode (zb 7) 15 = .ok (.aload_n 0, 1) := by decide +kernel
theorem d7_16 : decode (zb 7) 16 = .ok (.getfield 19, 3) := by decide +kernel
theorem d7_19 : decode (zb 7) 19 = .ok (.bipush 16, 2) := by decide +kernel
theorem d7_21 : decode (zb 7) 21 = .ok (.irem, 1) := by decide +kernel
theorem d7_22 : decode (zb 7) 22 = .ok (.istore 5, 2) := by decide +kernel
theorem d7_24 : decode (zb 7) 24 = .ok (.aload_n 2, 1) := by decide +kernel
theorem d7_25 : decode (zb 7) 25 = .ok (.getfield 35, 3) := by decide +kernel
theorem d7_28 : decode (zb 7) 28 = .ok (.iload_n 3, 1) := by decide +kernel
theorem d7_29 : decode (zb 7) 29 = .ok (.iload 4, 2) := by decide +kernel
theorem d7_31 : decode (zb 7) 31 = .ok (.invokevirtual 52, 3) := by decide +kernel
theorem d7_34 : decode (zb 7) 34 = .ok (.istore 6, 2) := by decide +kernel
theorem d7_36 : decode (zb 7) 36 = .ok (.iload 4, 2) := by decide +kernel
theorem d7_38 : decode (zb 7) 38 = .ok (.iconst 1, 1) := by decide +kernel
theorem d7_39 : decode (zb 7) 39 = .ok (.iadd, 1) := by decide +kernel
theorem d7_40 : decode (zb 7) 40 = .ok (.aload_n 2, 1) := by decide +kernel
theorem d7_41 : decode (zb 7) 41 = .ok (.aload_n 0, 1) := by decide +kernel
theorem d7_42 : decode (zb 7) 42 = .ok (.getfield 9, 3) := by decide +kernel
theorem d7_45 : decode (zb 7) 45 = .ok (.invokevirtual 56, 3) := by decide +kernel
theorem d7_48 : decode (zb 7) 48 = .ok (.if_icmp .ge 18, 3) := by decide +kernel
theorem d7_51 : decode (zb 7) 51 = .ok (.aload_n 2, 1) := by decide +kernel
theorem d7_52 : decode (zb 7) 52 = .ok (.getfield 35, 3) := by decide +kernel
theorem d7_55 : decode (zb 7) 55 = .ok (.iload_n 3, 1) := by decide +kernel
theorem d7_56 : decode (zb 7) 56 = .ok (.iload 4, 2) := by decide +kernel
theorem d7_58 : decode (zb 7) 58 = .ok (.iconst 1, 1) := by decide +kernel
theorem d7_59 : decode (zb 7) 59 = .ok (.iadd, 1) := by decide +kernel
theorem d7_60 : decode (zb 7) 60 = .ok (.invokevirtual 52, 3) := by decide +kernel
theorem d7_63 : decode (zb 7) 63 = .ok (.goto 5, 3) := by decide +kernel
theorem d7_66 : decode (zb 7) 66 = .ok (.iload 6, 2) := by decide +kernel
theorem d7_68 : decode (zb 7) 68 = .ok (.istore 7, 2) := by decide +kernel
theorem d7_70 : decode (zb 7) 70 = .ok (.iload_n 1, 1) := by decide +kernel
theorem d7_71 : decode (zb 7) 71 = .ok (.lookupswitch 46 #[(0, 25), (1, 28)], 25) := by decide +kernel
theorem d7_96 : decode (zb 7) 96 = .ok (.iload 6, 2) := by decide +kernel
theorem d7_98 : decode (zb 7) 98 = .ok (.ireturn, 1) := by decide +kernel
theorem d7_99 : decode (zb 7) 99 = .ok (.iload 6, 2) := by decide +kernel
theorem d7_101 : decode (zb 7) 101 = .ok (.bipush 16, 2) := by decide +kernel
theorem d7_103 : decode (zb 7) 103 = .ok (.iload 5, 2) := by decide +kernel
theorem d7_105 : decode (zb 7) 105 = .ok (.isub, 1) := by decide +kernel
theorem d7_106 : decode (zb 7) 106 = .ok (.imul, 1) := by decide +kernel
theorem d7_107 : decode (zb 7) 107 = .ok (.iload 7, 2) := by decide +kernel
theorem d7_109 : decode (zb 7) 109 = .ok (.iload 5, 2) := by decide +kernel
theorem d7_111 : decode (zb 7) 111 = .ok (.imul, 1) := by decide +kernel
theorem d7_112 : decode (zb 7) 112 = .ok (.iadd, 1) := by decide +kernel
theorem d7_113 : decode (zb 7) 113 = .ok (.bipush 16, 2) := by decide +kernel
theorem d7_115 : decode (zb 7) 115 = .ok (.idiv, 1) := by decide +kernel
theorem d7_116 : decode (zb 7) 116 = .ok (.ireturn, 1) := by decide +kernel
theorem d7_117 : decode (zb 7) 117 = .ok (.iload 5, 2) := by decide +kernel
theorem d7_119 : decode (zb 7) 119 = .ok (.bipush 8, 2) := by decide +kernel
theorem d7_121 : decode (zb 7) 121 = .ok (.if_icmp .ge 8, 3) := by decide +kernel
theorem d7_124 : decode (zb 7) 124 = .ok (.iload 6, 2) := by decide +kernel
theorem d7_126 : decode (zb 7) 126 = .ok (.goto 5, 3) := by decide +kernel
theorem d7_129 : decode (zb 7) 129 = .ok (.iload 7, 2) := by decide +kernel
theorem d7_131 : decode (zb 7) 131 = .ok (.ireturn, 1) := by decide +kernel
theorem run7 {h : zH} {x0 : Int} {c g : Nat} : zrun 7 [vR c, vI x0, vR g] h = zX 7 0 [vR c, vI x0, vR g, none, none, none, none, none] [] h := rfl
theorem e7_0 {I : Nat → Int → Int} {b : Bool} {S : Nat} {x0 : Int} {c : Nat} (hc : isCur c) {g : Nat} (hg : isProg g) : zX 7 0 [vR c, vI x0, vR g, none, none, none, none, none] [] (I, zRs b, 103, S) = (zrun 6 [vR c, vR g] (I, zRs b, 103, S)).bind (fun q => zX 7 5 [vR c, vI x0, vR g, none, none, none, none, none] (zpush q.1 []) q.2) := (xAload_n d7_0 rfl).trans ((xAload_n d7_1 rfl).trans (xInvV [vR c, vR g] [] d7_2 zo_7 zml_0_31 rfl rfl rfl (Or.inl ⟨(isCur_k hc), (isCur_n hc)⟩)))
theorem e7_5 {I : Nat → Int → Int} {b : Bool} {S : Nat} {a1 t0 : Int} {c : Nat} (hc : isCur c) {g : Nat} (hg : isProg g) : zX 7 5 [vR c, vI a1, vR g, none, none, none, none, none] [vI t0] (I, zRs b, 103, S) = (zrun 48 [vR (g + 1), vI t0, vI (wr ((I c 1).tdiv 16))] (I, zRs b, 103, S)).bind (fun q => zX 7 34 [vR c, vI a1, vR g, vI t0, vI (wr ((I c 1).tdiv 16)), vI ((I c 1).tmod 16), none, none] (zpush q.1 []) q.2) := (xIstore_n d7_5 rfl rfl).trans ((xAload_n d7_6 rfl).trans ((xGetI 1 (I c 1) rfl d7_7 zo_7 zfl_0_19 (by decide) rfl (isCur_k hc) (Or.inl (isCur_n hc))).trans ((xBipush d7_10).trans ((xIdiv d7_12 (by decide)).trans ((xIstore d7_13 rfl rfl).trans ((xAload_n d7_15 rfl).trans ((xGetI 1 (I c 1) rfl d7_16 zo_7 zfl_0_19 (by decide) rfl (isCur_k hc) (Or.inl (isCur_n hc))).trans ((xBipush d7_19).trans ((xIrem d7_21 (by decide)).trans ((xIstore d7_22 rfl rfl).trans ((xAload_n d7_24 rfl).trans ((xGetR 0 (g + 1) d7_25 zo_7 zfl_0_35 rfl (isProg_r0 hg) (isProg_k hg) (Or.inl (isProg_n hg))).trans ((xIload_n d7_28 rfl).trans ((xIload d7_29 rfl).trans (xInvV [vR (g + 1), vI t0, vI (wr ((I c 1).tdiv 16))] [] d7_31 zo_7 zml_0_52 rfl rfl rfl (Or.inl ⟨(isProg_k1 hg), (isProg_n1 hg)⟩))))))))))))))))
theorem e7_34 {I : Nat → Int → Int} {b : Bool} {S : Nat} {a1 a3 a4 a5 t0 : Int} {c : Nat} (hc : isCur c) {g : Nat} (hg : isProg g) : zX 7 34 [vR c, vI a1, vR g, vI a3, vI a4, vI a5, none, none] [vI t0] (I, zRs b, 103, S) = (zrun 68 [vR g, vI (I c 0)] (I, zRs b, 103, S)).bind (fun q => zX 7 48 [vR c, vI a1, vR g, vI a3, vI a4, vI a5, vI t0, none] (zpush q.1 [vI (wr (a4 + 1))]) q.2) := (xIstore d7_34 rfl rfl).trans ((xIload d7_36 rfl).trans ((xIconst d7_38).trans ((xIadd d7_39).trans ((xAload_n d7_40 rfl).trans ((xAload_n d7_41 rfl).trans ((xGetI 0 (I c 0) rfl d7_42 zo_7 zfl_0_9 (by decide) rfl (isCur_k hc) (Or.inl (isCur_n hc))).trans (xInvV [vR g, vI (I c 0)] [vI (wr (a4 + 1))] d7_45 zo_7 zml_0_56 rfl rfl rfl (Or.inl ⟨(isProg_k hg), (isProg_n hg)⟩))))))))
theorem e7_48 {I : Nat → Int → Int} {b : Bool} {S : Nat} {a1 a3 a4 a5 a6 t0 t1 : Int} {c : Nat} (hc : isCur c) {g : Nat} (hg : isProg g) : zX 7 48 [vR c, vI a1, vR g, vI a3, vI a4, vI a5, vI a6, none] [vI t1, vI t0] (I, zRs b, 103, S) = if t1 ≤ t0 then if a1 = 0 then some (some (vI a6), (I, zRs b, 103, S)) else if a1 = 1 then some (some (vI (wr ((wr ((wr (a6 * (wr (16 - a5)))) + (wr (a6 * a5)))).tdiv 16))), (I, zRs b, 103, S)) else if 8 ≤ a5 then some (some (vI a6), (I, zRs b, 103, S)) else some (some (vI a6), (I, zRs b, 103, S)) else (zrun 48 [vR (g + 1), vI a3, vI (wr (a4 + 1))] (I, zRs b, 103, S)).bind (fun q => zX 7 63 [vR c, vI a1, vR g, vI a3, vI a4, vI a5, vI a6, none] (zpush q.1 []) q.2) := (xIcmpGe (t := 66) d7_48 rfl).trans (ziteC ((xIload d7_66 rfl).trans ((xIstore d7_68 rfl rfl).trans ((xIload_n d7_70 rfl).trans ((xLook [(0, 96), (1, 99)] 117 d7_71 rfl rfl rfl).trans (ziteC ((xIload d7_96 rfl).trans (xIret d7_98 zret_7)) (ziteC ((xIload d7_99 rfl).trans ((xBipush d7_101).trans ((xIload d7_103 rfl).trans ((xIsub d7_105).trans ((xImul d7_106).trans ((xIload d7_107 rfl).trans ((xIload d7_109 rfl).trans ((xImul d7_111).trans ((xIadd d7_112).trans ((xBipush d7_113).trans ((xIdiv d7_115 (by decide)).trans (xIret d7_116 zret_7)))))))))))) ((xIload d7_117 rfl).trans ((xBipush d7_119).trans ((xIcmpGe (t := 129) d7_121 rfl).trans (ziteC ((xIload d7_129 rfl).trans (xIret d7_131 zret_7)) ((xIload d7_124 rfl).trans ((xGoto (t := 131) d7_126 rfl).trans (xIret d7_131 zret_7))))))))))))) ((xAload_n d7_51 rfl).trans ((xGetR 0 (g + 1) d7_52 zo_7 zfl_0_35 rfl (isProg_r0 hg) (isProg_k hg) (Or.inl (isProg_n hg))).trans ((xIload_n d7_55 rfl).trans ((xIload d7_56 rfl).trans ((xIconst d7_58).trans ((xIadd d7_59).trans (xInvV [vR (g + 1), vI a3, vI (wr (a4 + 1))] [] d7_60 zo_7 zml_0_52 rfl rfl rfl (Or.inl ⟨(isProg_k1 hg), (isProg_n1 hg)⟩)))))))))
theorem e7_63 {I : Nat → Int → Int} {b : Bool} {S : Nat} {a1 a3 a4 a5 a6 t0 : Int} {c : Nat} (hc : isCur c) {g : Nat} (hg : isProg g) : zX 7 63 [vR c, vI a1, vR g, vI a3, vI a4, vI a5, vI a6, none] [vI t0] (I, zRs b, 103, S) = if a1 = 0 then some (some (vI a6), (I, zRs b, 103, S)) else if a1 = 1 then some (some (vI (wr ((wr ((wr (a6 * (wr (16 - a5)))) + (wr (t0 * a5)))).tdiv 16))), (I, zRs b, 103, S)) else if 8 ≤ a5 then some (some (vI t0), (I, zRs b, 103, S)) else some (some (vI a6), (I, zRs b, 103, S)) := (xGoto (t := 68) d7_63 rfl).trans ((xIstore d7_68 rfl rfl).trans ((xIload_n d7_70 rfl).trans ((xLook [(0, 96), (1, 99)] 117 d7_71 rfl rfl rfl).trans (ziteC ((xIload d7_96 rfl).trans (xIret d7_98 zret_7)) (ziteC ((xIload d7_99 rfl).trans ((xBipush d7_101).trans ((xIload d7_103 rfl).trans ((xIsub d7_105).trans ((xImul d7_106).trans ((xIload d7_107 rfl).trans ((xIload d7_109 rfl).trans ((xImul d7_111).trans ((xIadd d7_112).trans ((xBipush d7_113).trans ((xIdiv d7_115 (by decide)).trans (xIret d7_116 zret_7)))))))))))) ((xIload d7_117 rfl).trans ((xBipush d7_119).trans ((xIcmpGe (t := 129) d7_121 rfl).trans (ziteC ((xIload d7_129 rfl).trans (xIret d7_131 zret_7)) ((xIload d7_124 rfl).trans ((xGoto (t := 131) d7_126 rfl).trans (xIret d7_131 zret_7))))))))))))
theorem zo_8 : zo 8 = 0 := by decide +kernel
theorem zret_8 : zret 8 = none := by decide +kernel
theorem d8_0 : decode (zb 8) 0 = .ok (.aload_n 0, 1) := by decide +kernel
theorem d8_1 : decode (zb 8) 1 = .ok (.dup, 1) := by decide +kernel
theorem d8_2 : decode (zb 8) 2 = .ok (.getfield 19, 3) := by decide +kernel
theorem d8_5 : decode (zb 8) 5 = .ok (.iload_n 2, 1) := by decide +kernel
theorem d8_6 : decode (zb 8) 6 = .ok (.iadd, 1) := by decide +kernel
theorem d8_7 : decode (zb 8) 7 = .ok (.putfield 19, 3) := by decide +kernel
theorem d8_10 : decode (zb 8) 10 = .ok (.iconst 0, 1) := by decide +kernel
theorem d8_11 : decode (zb 8) 11 = .ok (.istore 5, 2) := by decide +kernel
theorem d8_13 : decode (zb 8) 13 = .ok (.iload 5, 2) := by decide +kernel
theorem d8_15 : decode (zb 8) 15 = .ok (.bipush 32, 2) := by decide +kernel
theorem d8_17 : decode (zb 8) 17 = .ok (.if_icmp .ge 64, 3) := by decide +kernel
theorem d8_20 : decode (zb 8) 20 = .ok (.aload_n 0, 1) := by decide +kernel
theorem d8_21 : decode (zb 8) 21 = .ok (.invokevirtual 60, 3) := by decide +kernel
theorem d8_24 : decode (zb 8) 24 = .ok (.ifCond .ne 57, 3) := by decide +kernel
theorem d8_27 : decode (zb 8) 27 = .ok (.aload_n 1, 1) := by decide +kernel
theorem d8_28 : decode (zb 8) 28 = .ok (.aload_n 0, 1) := by decide +kernel
theorem d8_29 : decode (zb 8) 29 = .ok (.getfield 9, 3) := by decide +kernel
theorem d8_32 : decode (zb 8) 32 = .ok (.invokevirtual 56, 3) := by decide +kernel
theorem d8_35 : decode (zb 8) 35 = .ok (.bipush 16, 2) := by decide +kernel
theorem d8_37 : decode (zb 8) 37 = .ok (.imul, 1) := by decide +kernel
theorem d8_38 : decode (zb 8) 38 = .ok (.istore 6, 2) := by decide +kernel
theorem d8_40 : decode (zb 8) 40 = .ok (.aload_n 0, 1) := by decide +kernel
theorem d8_41 : decode (zb 8) 41 = .ok (.getfield 19, 3) := by decide +kernel
theorem d8_44 : decode (zb 8) 44 = .ok (.iload 6, 2) := by decide +kernel
theorem d8_46 : decode (zb 8) 46 = .ok (.if_icmp .ge 4, 3) := by decide +kernel
theorem d8_49 : decode (zb 8) 49 = .ok (.return_, 1) := by decide +kernel
theorem d8_50 : decode (zb 8) 50 = .ok (.aload_n 0, 1) := by decide +kernel
theorem d8_51 : decode (zb 8) 51 = .ok (.dup, 1) := by decide +kernel
theorem d8_52 : decode (zb 8) 52 = .ok (.getfield 19, 3) := by decide +kernel
theorem d8_55 : decode (zb 8) 55 = .ok (.iload 6, 2) := by decide +kernel
theorem d8_57 : decode (zb 8) 57 = .ok (.isub, 1) := by decide +kernel
theorem d8_58 : decode (zb 8) 58 = .ok (.putfield 19, 3) := by decide +kernel
theorem d8_61 : decode (zb 8) 61 = .ok (.aload_n 0, 1) := by decide +kernel
theorem d8_62 : decode (zb 8) 62 = .ok (.aload_n 1, 1) := by decide +kernel
theorem d8_63 : decode (zb 8) 63 = .ok (.aload_n 0, 1) := by decide +kernel
theorem d8_64 : decode (zb 8) 64 = .ok (.getfield 9, 3) := by decide +kernel
theorem d8_67 : decode (zb 8) 67 = .ok (.iconst 1, 1) := by decide +kernel
theorem d8_68 : decode (zb 8) 68 = .ok (.iadd, 1) := by decide +kernel
theorem d8_69 : decode (zb 8) 69 = .ok (.aload_n 3, 1) := by decide +kernel
theorem d8_70 : decode (zb 8) 70 = .ok (.iload 4, 2) := by decide +kernel
theorem d8_72 : decode (zb 8) 72 = .ok (.invokevirtual 64, 3) := by decide +kernel
theorem d8_75 : decode (zb 8) 75 = .ok (.iinc 5 1, 3) := by decide +kernel
theorem d8_78 : decode (zb 8) 78 = .ok (.goto (-65), 3) := by decide +kernel
theorem d8_81 : decode (zb 8) 81 = .ok (.return_, 1) := by decide +kernel
theorem run8 {h : zH} {x1 x3 : Int} {c g lg : Nat} : zrun 8 [vR c, vR g, vI x1, vR lg, vI x3] h = zX 8 0 [vR c, vR g, vI x1, vR lg, vI x3, none, none] [] h := rfl
theorem e8_0 {I : Nat → Int → Int} {b : Bool} {S : Nat} {x1 x3 : Int} {c : Nat} (hc : isCur c) {g : Nat} (hg : isProg g) {lg : Nat} (hlg : lg = 0 ∨ lg = 15) : zX 8 0 [vR c, vR g, vI x1, vR lg, vI x3, none, none] [] (I, zRs b, 103, S) = zX 8 13 [vR c, vR g, vI x1, vR lg, vI x3, vI 0, none] [] ((sI I c 1 (wr ((I c 1) + x1))), zRs b, 103, S) := (xAload_n d8_0 rfl).trans ((xDup d8_1 rfl).trans ((xGetI 1 (I c 1) rfl d8_2 zo_8 zfl_0_19 (by decide) rfl (isCur_k hc) (Or.inl (isCur_n hc))).trans ((xIload_n d8_5 rfl).trans ((xIadd d8_6).trans ((xPutI 1 d8_7 zo_8 zfl_0_19 rfl (isCur_k hc) (isCur_n hc) (Or.inl rfl)).trans ((xIconst d8_10).trans (xIstore d8_11 rfl rfl)))))))
theorem e8_13 {I : Nat → Int → Int} {b : Bool} {S : Nat} {a2 a4 a5 : Int} {w6 : zV} {c : Nat} (hc : isCur c) {g : Nat} (hg : isProg g) {lg : Nat} (hlg : lg = 0 ∨ lg = 15) : zX 8 13 [vR c, vR g, vI a2, vR lg, vI a4, vI a5, w6] [] (I, zRs b, 103, S) = if 32 ≤ a5 then some (none, (I, zRs b, 103, S)) else (zrun 3 [vR c] (I, zRs b, 103, S)).bind (fun q => zX 8 24 [vR c, vR g, vI a2, vR lg, vI a4, vI a5, w6] (zpush q.1 []) q.2) := (xIload d8_13 rfl).trans ((xBipush d8_15).trans ((xIcmpGe (t := 81) d8_17 rfl).trans (ziteC (xVret d8_81 zret_8) ((xAload_n d8_20 rfl).trans (xInvV [vR c] [] d8_21 zo_8 zml_0_60 rfl rfl rfl (Or.inl ⟨(isCur_k hc), (isCur_n hc)⟩))))))
theorem e8_24 {I : Nat → Int → Int} {b : Bool} {S : Nat} {a2 a4 a5 t0 : Int} {w6 : zV} {c : Nat} (hc : isCur c) {g : Nat} (hg : isProg g) {lg : Nat} (hlg : lg = 0 ∨ lg = 15) : zX 8 24 [vR c, vR g, vI a2, vR lg, vI a4, vI a5, w6] [vI t0] (I, zRs b, 103, S) = if t0 = 0 then (zrun 68 [vR g, vI (I c 0)] (I, zRs b, 103, S)).bind (fun q => zX 8 35 [vR c, vR g, vI a2, vR lg, vI a4, vI a5, w6] (zpush q.1 []) q.2) else some (none, (I, zRs b, 103, S)) := (xIfNe (t := 81) d8_24 rfl).trans (ziteC ((xAload_n d8_27 rfl).trans ((xAload_n d8_28 rfl).trans ((xGetI 0 (I c 0) rfl d8_29 zo_8 zfl_0_9 (by decide) rfl (isCur_k hc) (Or.inl (isCur_n hc))).trans (xInvV [vR g, vI (I c 0)] [] d8_32 zo_8 zml_0_56 rfl rfl rfl (Or.inl ⟨(isProg_k hg), (isProg_n hg)⟩))))) (xVret d8_81 zret_8))
theorem e8_35 {I : Nat → Int → Int} {b : Bool} {S : Nat} {a2 a4 a5 t0 : Int} {w6 : zV} {c : Nat} (hc : isCur c) {g : Nat} (hg : isProg g) {lg : Nat} (hlg : lg = 0 ∨ lg = 15) : zX 8 35 [vR c, vR g, vI a2, vR lg, vI a4, vI a5, w6] [vI t0] (I, zRs b, 103, S) = if (wr (t0 * 16)) ≤ (I c 1) then (zrun 9 [vR c, vR g, vI (wr ((I c 0) + 1)), vR lg, vI a4] ((sI I c 1 (wr ((I c 1) - (wr (t0 * 16))))), zRs b, 103, S)).bind (fun q => zX 8 75 [vR c, vR g, vI a2, vR lg, vI a4, vI a5, vI (wr (t0 * 16))] (zpush q.1 []) q.2) else some (none, (I, zRs b, 103, S)) := (xBipush d8_35).trans ((xImul d8_37).trans ((xIstore d8_38 rfl rfl).trans ((xAload_n d8_40 rfl).trans ((xGetI 1 (I c 1) rfl d8_41 zo_8 zfl_0_19 (by decide) rfl (isCur_k hc) (Or.inl (isCur_n hc))).trans ((xIload d8_44 rfl).trans ((xIcmpGe (t := 50) d8_46 rfl).trans (ziteC ((xAload_n d8_50 rfl).trans ((xDup d8_51 rfl).trans ((xGetI 1 (I c 1) rfl d8_52 zo_8 zfl_0_19 (by decide) rfl (isCur_k hc) (Or.inl (isCur_n hc))).trans ((xIload d8_55 rfl).trans ((xIsub d8_57).trans ((xPutI 1 d8_58 zo_8 zfl_0_19 rfl (isCur_k hc) (isCur_n hc) (Or.inl rfl)).trans ((xAload_n d8_61 rfl).trans ((xAload_n d8_62 rfl).trans ((xAload_n d8_63 rfl).trans ((xGetI 0 (I c 0) (sI_k (by decide)) d8_64 zo_8 zfl_0_9 (by decide) rfl (isCur_k hc) (Or.inl (isCur_n hc))).trans ((xIconst d8_67).trans ((xIadd d8_68).trans ((xAload_n d8_69 rfl).trans ((xIload d8_70 rfl).trans (xInvV [vR c, vR g, vI (wr ((I c 0) + 1)), vR lg, vI a4] [] d8_72 zo_8 zml_0_64 rfl rfl rfl (Or.inl ⟨(isCur_k hc), (isCur_n hc)⟩)))))))))))))))) (xVret d8_49 zret_8))))))))
theorem e8_75 {I : Nat → Int → Int} {b : Bool} {S : Nat} {a2 a4 a5 a6 : Int} {c : Nat} (hc : isCur c) {g : Nat} (hg : isProg g) {lg : Nat} (hlg : lg = 0 ∨ lg = 15) : zX 8 75 [vR c, vR g, vI a2, vR lg, vI a4, vI a5, vI a6] [] (I, zRs b, 103, S) = zX 8 13 [vR c, vR g, vI a2, vR lg, vI a4, vI (wr (a5 + 1)), vI a6] [] (I, zRs b, 103, S) := (xIinc d8_75 rfl rfl rfl).trans (xGoto (t := 13) d8_78 rfl)
theorem zo_9 : zo 9 = 0 := by decide +kernel
theorem zret_9 : zret 9 = none := by decide +kernel
theorem d9_0 : decode (zb 9) 0 = .ok (.iload_n 2, 1) := by decide +kernel
theorem d9_1 : decode (zb 9) 1 = .ok (.istore 5, 2) := by decide +kernel
theorem d9_3 : decode (zb 9) 3 = .ok (.iconst 0, 1) := by decide +kernel
theorem d9_4 : decode (zb 9) 4 = .ok (.istore 6, 2) := by decide +kernel
theorem d9_6 : decode (zb 9) 6 = .ok (.iload 6, 2) := by decide +kernel
theorem d9_8 : decode (zb 9) 8 = .ok (.bipush 48, 2) := by decide +kernel
theorem d9_10 : decode (zb 9) 10 = .ok (.if_icmp .ge 119, 3) := by decide +kernel
theorem d9_13 : decode (zb 9) 13 = .ok (.iload 5, 2) := by decide +kernel
theorem d9_15 : decode (zb 9) 15 = .ok (.ifCond .lt 114, 3) := by decide +kernel
theorem d9_18 : decode (zb 9) 18 = .ok (.iload 5, 2) := by decide +kernel
theorem d9_20 : decode (zb 9) 20 = .ok (.aload_n 1, 1) := by decide +kernel
theorem d9_21 : decode (zb 9) 21 = .ok (.getfield 46, 3) := by decide +kernel
theorem d9_24 : decode (zb 9) 24 = .ok (.if_icmp .ge 105, 3) := by decide +kernel
theorem d9_27 : decode (zb 9) 27 = .ok (.aload_n 1, 1) := by decide +kernel
theorem d9_28 : decode (zb 9) 28 = .ok (.getfield 68, 3) := by decide +kernel
theorem d9_31 : decode (zb 9) 31 = .ok (.iload 5, 2) := by decide +kernel
theorem d9_33 : decode (zb 9) 33 = .ok (.iaload, 1) := by decide +kernel
theorem d9_34 : decode (zb 9) 34 = .ok (.tableswitch 80 0 3 #[30, 37, 60, 74], 30) := by decide +kernel
theorem d9_64 : decode (zb 9) 64 = .ok (.aload_n 0, 1) := by decide +kernel
theorem d9_65 : decode (zb 9) 65 = .ok (.iload 5, 2) := by decide +kernel
theorem d9_67 : decode (zb 9) 67 = .ok (.putfield 9, 3) := by decide +kernel
theorem d9_70 : decode (zb 9) 70 = .ok (.return_, 1) := by decide +kernel
theorem d9_71 : decode (zb 9) 71 = .ok (.aload_n 3, 1) := by decide +kernel
theorem d9_72 : decode (zb 9) 72 = .ok (.ifnull 16, 3) := by decide +kernel
theorem d9_75 : decode (zb 9) 75 = .ok (.aload_n 3, 1) := by decide +kernel
theorem d9_76 : decode (zb 9) 76 = .ok (.aload_n 1, 1) := by decide +kernel
theorem d9_77 : decode (zb 9) 77 = .ok (.getfield 49, 3) := by decide +kernel
theorem d9_80 : decode (zb 9) 80 = .ok (.iload 5, 2) := by decide +kernel
theorem d9_82 : decode (zb 9) 82 = .ok (.iaload, 1) := by decide +kernel
theorem d9_83 : decode (zb 9) 83 = .ok (.iload 4, 2) := by decide +kernel
theorem d9_85 : decode (zb 9) 85 = .ok (.invokevirtual 71, 3) := by decide +kernel
theorem d9_88 : decode (zb 9) 88 = .ok (.iinc 5 1, 3) := by decide +kernel
theorem d9_91 : decode (zb 9) 91 = .ok (.goto 32, 3) := by decide +kernel
theorem d9_94 : decode (zb 9) 94 = .ok (.aload_n 0, 1) := by decide +kernel
theorem d9_95 : decode (zb 9) 95 = .ok (.getfield 15, 3) := by decide +kernel
theorem d9_98 : decode (zb 9) 98 = .ok (.iload 5, 2) := by decide +kernel
theorem d9_100 : decode (zb 9) 100 = .ok (.iconst 0, 1) := by decide +kernel
theorem d9_101 : decode (zb 9) 101 = .ok (.iastore, 1) := by decide +kernel
theorem d9_102 : decode (zb 9) 102 = .ok (.iinc 5 1, 3) := by decide +kernel
theorem d9_105 : decode (zb 9) 105 = .ok (.goto 18, 3) := by decide +kernel
theorem d9_108 : decode (zb 9) 108 = .ok (.iinc 5 1, 3) := by decide +kernel
theorem d9_111 : decode (zb 9) 111 = .ok (.goto 12, 3) := by decide +kernel
theorem d9_114 : decode (zb 9) 114 = .ok (.aload_n 0, 1) := by decide +kernel
theorem d9_115 : decode (zb 9) 115 = .ok (.aload_n 1, 1) := by decide +kernel
theorem d9_116 : decode (zb 9) 116 = .ok (.iload 5, 2) := by decide +kernel
theorem d9_118 : decode (zb 9) 118 = .ok (.invokevirtual 77, 3) := by decide +kernel
theorem d9_121 : decode (zb 9) 121 = .ok (.istore 5, 2) := by decide +kernel
theorem d9_123 : decode (zb 9) 123 = .ok (.iinc 6 1, 3) := by decide +kernel
theorem d9_126 : decode (zb 9) 126 = .ok (.goto (-120), 3) := by decide +kernel
theorem d9_129 : decode (zb 9) 129 = .ok (.aload_n 0, 1) := by decide +kernel
theorem d9_130 : decode (zb 9) 130 = .ok (.bipush (-4), 2) := by decide +kernel
theorem d9_132 : decode (zb 9) 132 = .ok (.putfield 9, 3) := by decide +kernel
theorem d9_135 : decode (zb 9) 135 = .ok (.aload_n 0, 1) := by decide +kernel
theorem d9_136 : decode (zb 9) 136 = .ok (.iconst 0, 1) := by decide +kernel
theorem d9_137 : decode (zb 9) 137 = .ok (.putfield 19, 3) := by decide +kernel
theorem d9_140 : decode (zb 9) 140 = .ok (.return_, 1) := by decide +kernel
theorem run9 {h : zH} {x1 x3 : Int} {c g lg : Nat} : zrun 9 [vR c, vR g, vI x1, vR lg, vI x3] h = zX 9 0 [vR c, vR g, vI x1, vR lg, vI x3, none, none] [] h := rfl
theorem e9_0 {I : Nat → Int → Int} {b : Bool} {S : Nat} {x1 x3 : Int} {c : Nat} (hc : isCur c) {g : Nat} (hg : isProg g) {lg : Nat} (hlg : lg = 0 ∨ lg = 15) : zX 9 0 [vR c, vR g, vI x1, vR lg, vI x3, none, none] [] (I, zRs b, 103, S) = zX 9 6 [vR c, vR g, vI x1, vR lg, vI x3, vI x1, vI 0] [] (I, zRs b, 103, S) := (xIload_n d9_0 rfl).trans ((xIstore d9_1 rfl rfl).trans ((xIconst d9_3).trans (xIstore d9_4 rfl rfl)))
theorem e9_6 {I : Nat → Int → Int} {b : Bool} {S : Nat} {a2 a4 a5 a6 : Int} {c : Nat} (hc : isCur c) {g : Nat} (hg : isProg g) {lg : Nat} (hlg : lg = 0 ∨ lg = 15) : zX 9 6 [vR c, vR g, vI a2, vR lg, vI a4, vI a5, vI a6] [] (I, zRs b, 103, S) = if 48 ≤ a6 then some (none, ((sI (sI I c 0 (-4)) c 1 0), zRs b, 103, S)) else if a5 < 0 then some (none, ((sI (sI I c 0 (-4)) c 1 0), zRs b, 103, S)) else if (I g 6) ≤ a5 then some (none, ((sI (sI I c 0 (-4)) c 1 0), zRs b, 103, S)) else if 0 ≤ a5 ∧ a5 < 24 then if (I (g + 6) a5) = 0 then some (none, ((sI I c 0 a5), zRs b, 103, S)) else if (I (g + 6) a5) = 1 then if lg = 0 then zX 9 88 [vR c, vR g, vI a2, vR lg, vI a4, vI a5, vI a6] [] (I, zRs b, 103, S) else if 0 ≤ a5 ∧ a5 < 24 then (zrun 23 [vR lg, vI (I (g + 7) a5), vI a4] (I, zRs b, 103, S)).bind (fun q => zX 9 88 [vR c, vR g, vI a2, vR lg, vI a4, vI a5, vI a6] (zpush q.1 []) q.2) else none else if (I (g + 6) a5) = 2 then if 0 ≤ a5 ∧ a5 < 24 then zX 9 6 [vR c, vR g, vI a2, vR lg, vI a4, vI (wr (a5 + 1)), vI (wr (a6 + 1))] [] ((sI I (c + 1) a5 0), zRs b, 103, S) else none else if (I (g + 6) a5) = 3 then zX 9 6 [vR c, vR g, vI a2, vR lg, vI a4, vI (wr (a5 + 1)), vI (wr (a6 + 1))] [] (I, zRs b, 103, S) else (zrun 10 [vR c, vR g, vI a5] (I, zRs b, 103, S)).bind (fun q => zX 9 121 [vR c, vR g, vI a2, vR lg, vI a4, vI a5, vI a6] (zpush q.1 []) q.2) else none := (xIload d9_6 rfl).trans ((xBipush d9_8).trans ((xIcmpGe (t := 129) d9_10 rfl).trans (ziteC ((xAload_n d9_129 rfl).trans ((xBipush d9_130).trans ((xPutI 0 d9_132 zo_9 zfl_0_9 rfl (isCur_k hc) (isCur_n hc) (Or.inl rfl)).trans ((xAload_n d9_135 rfl).trans ((xIconst d9_136).trans ((xPutI 1 d9_137 zo_9 zfl_0_19 rfl (isCur_k hc) (isCur_n hc) (Or.inl rfl)).trans (xVret d9_140 zret_9))))))) ((xIload d9_13 rfl).trans ((xIfLt (t := 129) d9_15 rfl).trans (ziteC ((xAload_n d9_129 rfl).trans ((xBipush d9_130).trans ((xPutI 0 d9_132 zo_9 zfl_0_9 rfl (isCur_k hc) (isCur_n hc) (Or.inl rfl)).trans ((xAload_n d9_135 rfl).trans ((xIconst d9_136).trans ((xPutI 1 d9_137 zo_9 zfl_0_19 rfl (isCur_k hc) (isCur_n hc) (Or.inl rfl)).trans (xVret d9_140 zret_9))))))) ((xIload d9_18 rfl).trans ((xAload_n d9_20 rfl).trans ((xGetI 6 (I g 6) rfl d9_21 zo_9 zfl_0_46 (by decide) rfl (isProg_k hg) (Or.inl (isProg_n hg))).trans ((xIcmpGe (t := 129) d9_24 rfl).trans (ziteC ((xAload_n d9_129 rfl).trans ((xBipush d9_130).trans ((xPutI 0 d9_132 zo_9 zfl_0_9 rfl (isCur_k hc) (isCur_n hc) (Or.inl rfl)).trans ((xAload_n d9_135 rfl).trans ((xIconst d9_136).trans ((xPutI 1 d9_137 zo_9 zfl_0_19 rfl (isCur_k hc) (isCur_n hc) (Or.inl rfl)).trans (xVret d9_140 zret_9))))))) ((xAload_n d9_27 rfl).trans ((xGetR 1 (g + 6) d9_28 zo_9 zfl_0_68 rfl (isProg_r1 hg) (isProg_k hg) (Or.inl (isProg_n hg))).trans ((xIload d9_31 rfl).trans ((xIald (N := 24) (I (g + 6) a5) rfl d9_33 (by rw [(isProg_k6 hg)]) (Or.inl (isProg_n6 hg)) (zal_of (isProg_k6 hg) (isProg_n6 hg))).trans (ziteC ((xTab [(0, 64), (1, 71), (2, 94), (3, 108)] 114 d9_34 rfl).trans (ziteC ((xAload_n d9_64 rfl).trans ((xIload d9_65 rfl).trans ((xPutI 0 d9_67 zo_9 zfl_0_9 rfl (isCur_k hc) (isCur_n hc) (Or.inl rfl)).trans (xVret d9_70 zret_9)))) (ziteC ((xAload_n d9_71 rfl).trans ((xIfnullD (t := 88) d9_72 rfl hlg).trans (ziteCn rfl (fun hne => (xAload_n d9_75 rfl).trans ((xAload_n d9_76 rfl).trans ((xGetR 2 (g + 7) d9_77 zo_9 zfl_0_49 rfl (isProg_r2 hg) (isProg_k hg) (Or.inl (isProg_n hg))).trans ((xIload d9_80 rfl).trans ((xIald (N := 24) (I (g + 7) a5) rfl d9_82 (by rw [(isProg_k7 hg)]) (Or.inl (isProg_n7 hg)) (zal_of (isProg_k7 hg) (isProg_n7 hg))).trans (ziteC ((xIload d9_83 rfl).trans (xInvV [vR lg, vI (I (g + 7) a5), vI a4] [] d9_85 zo_9 zml_0_71 rfl rfl rfl (Or.inl ⟨(log_k hlg hne), (log_n hlg hne)⟩))) rfl))))))))) (ziteC ((xAload_n d9_94 rfl).trans ((xGetR 2 (c + 1) d9_95 zo_9 zfl_0_15 rfl (isCur_r2 hc) (isCur_k hc) (Or.inl (isCur_n hc))).trans ((xIload d9_98 rfl).trans ((xIconst d9_100).trans ((xIast (N := 24) d9_101 (by rw [(isCur_k1 hc)]) (isCur_n1 hc) (by rw [(isCur_k1 hc)]; rfl)).trans (ziteC ((xIinc d9_102 rfl rfl rfl).trans ((xGoto (t := 123) d9_105 rfl).trans ((xIinc d9_123 rfl rfl rfl).trans (xGoto (t := 6) d9_126 rfl)))) rfl)))))) (ziteC ((xIinc d9_108 rfl rfl rfl).trans ((xGoto (t := 123) d9_111 rfl).trans ((xIinc d9_123 rfl rfl rfl).trans (xGoto (t := 6) d9_126 rfl)))) ((xAload_n d9_114 rfl).trans ((xAload_n d9_115 rfl).trans ((xIload d9_116 rfl).trans (xInvV [vR c, vR g, vI a5] [] d9_118 zo_9 zml_0_77 rfl rfl rfl (Or.inl ⟨(isCur_k hc), (isCur_n hc)⟩)))))))))) rfl))))))))))))))))
theorem e9_88 {I : Nat → Int → Int} {b : Bool} {S : Nat} {a2 a4 a5 a6 : Int} {c : Nat} (hc : isCur c) {g : Nat} (hg : isProg g) {lg : Nat} (hlg : lg = 0 ∨ lg = 15) : zX 9 88 [vR c, vR g, vI a2, vR lg, vI a4, vI a5, vI a6] [] (I, zRs b, 103, S) = zX 9 6 [vR c, vR g, vI a2, vR lg, vI a4, vI (wr (a5 + 1)), vI (wr (a6 + 1))] [] (I, zRs b, 103, S) := (xIinc d9_88 rfl rfl rfl).trans ((xGoto (t := 123) d9_91 rfl).trans ((xIinc d9_123 rfl rfl rfl).trans (xGoto (t := 6) d9_126 rfl)))
theorem e9_121 {I : Nat → Int → Int} {b : Bool} {S : Nat} {a2 a4 a5 a6 t0 : Int} {c : Nat} (hc : isCur c) {g : Nat} (hg : isProg g) {lg : Nat} (hlg : lg = 0 ∨ lg = 15) : zX 9 121 [vR c, vR g, vI a2, vR lg, vI a4, vI a5, vI a6] [vI t0] (I, zRs b, 103, S) = zX 9 6 [vR c, vR g, vI a2, vR lg, vI a4, vI t0, vI (wr (a6 + 1))] [] (I, zRs b, 103, S) := (xIstore d9_121 rfl rfl).trans ((xIinc d9_123 rfl rfl rfl).trans (xGoto (t := 6) d9_126 rfl))
theorem zo_10 : zo 10 = 0 := by decide +kernel
theorem zret_10 : zret 10 = some .int := by decide +kernel
theorem d10_0 : decode (zb 10) 0 = .ok (.aload_n 1, 1) := by decide +kernel
theorem d10_1 : decode (zb 10) 1 = .ok (.getfield 81, 3) := by decide +kernel
theorem d10_4 : decode (zb 10) 4 = .ok (.iload_n 2, 1) := by decide +kernel
theorem d10_5 : decode (zb 10) 5 = .ok (.iaload, 1) := by decide +kernel
theorem d10_6 : decode (zb 10) 6 = .ok (.istore_n 3, 1) := by decide +kernel
theorem d10_7 : decode (zb 10) 7 = .ok (.iload_n 3, 1) := by decide +kernel
theorem d10_8 : decode (zb 10) 8 = .ok (.ifCond .ge 7, 3) := by decide +kernel
theorem d10_11 : decode (zb 10) 11 = .ok (.iload_n 2, 1) := by decide +kernel
theorem d10_12 : decode (zb 10) 12 = .ok (.iconst 1, 1) := by decide +kernel
theorem d10_13 : decode (zb 10) 13 = .ok (.iadd, 1) := by decide +kernel
theorem d10_14 : decode (zb 10) 14 = .ok (.ireturn, 1) := by decide +kernel
theorem d10_15 : decode (zb 10) 15 = .ok (.aload_n 1, 1) := by decide +kernel
theorem d10_16 : decode (zb 10) 16 = .ok (.getfield 68, 3) := by decide +kernel
theorem d10_19 : decode (zb 10) 19 = .ok (.iload_n 3, 1) := by decide +kernel
theorem d10_20 : decode (zb 10) 20 = .ok (.iaload, 1) := by decide +kernel
theorem d10_21 : decode (zb 10) 21 = .ok (.iconst 2, 1) := by decide +kernel
theorem d10_22 : decode (zb 10) 22 = .ok (.if_icmp .ne 17, 3) := by decide +kernel
theorem d10_25 : decode (zb 10) 25 = .ok (.aload_n 0, 1) := by decide +kernel
theorem d10_26 : decode (zb 10) 26 = .ok (.iload_n 3, 1) := by decide +kernel
theorem d10_27 : decode (zb 10) 27 = .ok (.aload_n 1, 1) := by decide +kernel
theorem d10_28 : decode (zb 10) 28 = .ok (.getfield 49, 3) := by decide +kernel
theorem d10_31 : decode (zb 10) 31 = .ok (.iload_n 3, 1) := by decide +kernel
theorem d10_32 : decode (zb 10) 32 = .ok (.iaload, 1) := by decide +kernel
theorem d10_33 : decode (zb 10) 33 = .ok (.invokevirtual 84, 3) := by decide +kernel
theorem d10_36 : decode (zb 10) 36 = .ok (.goto 13, 3) := by decide +kernel
theorem d10_39 : decode (zb 10) 39 = .ok (.aload_n 0, 1) := by decide +kernel
theorem d10_40 : decode (zb 10) 40 = .ok (.aload_n 1, 1) := by decide +kernel
theorem d10_41 : decode (zb 10) 41 = .ok (.getfield 49, 3) := by decide +kernel
theorem d10_44 : decode (zb 10) 44 = .ok (.iload_n 3, 1) := by decide +kernel
theorem d10_45 : decode (zb 10) 45 = .ok (.iaload, 1) := by decide +kernel
theorem d10_46 : decode (zb 10) 46 = .ok (.invokevirtual 88, 3) := by decide +kernel
theorem d10_49 : decode (zb 10) 49 = .ok (.istore 4, 2) := by decide +kernel
theorem d10_51 : decode (zb 10) 51 = .ok (.iload 4, 2) := by decide +kernel
theorem d10_53 : decode (zb 10) 53 = .ok (.ifCond .eq 9, 3) := by decide +kernel
theorem d10_56 : decode (zb 10) 56 = .ok (.iload_n 2, 1) := by decide +kernel
theorem d10_57 : decode (zb 10) 57 = .ok (.iconst 1, 1) := by decide +kernel
theorem d10_58 : decode (zb 10) 58 = .ok (.iadd, 1) := by decide +kernel
theorem d10_59 : decode (zb 10) 59 = .ok (.goto 6, 3) := by decide +kernel
theorem d10_62 : decode (zb 10) 62 = .ok (.iload_n 3, 1) := by decide +kernel
theorem d10_63 : decode (zb 10) 63 = .ok (.iconst 1, 1) := by decide +kernel
theorem d10_64 : decode (zb 10) 64 = .ok (.iadd, 1) := by decide +kernel
theorem d10_65 : decode (zb 10) 65 = .ok (.ireturn, 1) := by decide +kernel
theorem run10 {h : zH} {x1 : Int} {c g : Nat} : zrun 10 [vR c, vR g, vI x1] h = zX 10 0 [vR c, vR g, vI x1, none, none] [] h := rfl
theorem e10_0 {I : Nat → Int → Int} {b : Bool} {S : Nat} {x1 : Int} {c : Nat} (hc : isCur c) {g : Nat} (hg : isProg g) : zX 10 0 [vR c, vR g, vI x1, none, none] [] (I, zRs b, 103, S) = if 0 ≤ x1 ∧ x1 < 24 then if 0 ≤ (I (g + 8) x1) then if 0 ≤ (I (g + 8) x1) ∧ (I (g + 8) x1) < 24 then if (I (g + 6) (I (g + 8) x1)) = 2 then if 0 ≤ (I (g + 8) x1) ∧ (I (g + 8) x1) < 24 then (zrun 11 [vR c, vI (I (g + 8) x1), vI (I (g + 7) (I (g + 8) x1))] (I, zRs b, 103, S)).bind (fun q => zX 10 36 [vR c, vR g, vI x1, vI (I (g + 8) x1), none] (zpush q.1 []) q.2) else none else if 0 ≤ (I (g + 8) x1) ∧ (I (g + 8) x1) < 24 then (zrun 12 [vR c, vI (I (g + 7) (I (g + 8) x1))] (I, zRs b, 103, S)).bind (fun q => zX 10 49 [vR c, vR g, vI x1, vI (I (g + 8) x1), none] (zpush q.1 []) q.2) else none else none else some (some (vI (wr (x1 + 1))), (I, zRs b, 103, S)) else none := (xAload_n d10_0 rfl).trans ((xGetR 3 (g + 8) d10_1 zo_10 zfl_0_81 rfl (isProg_r3 hg) (isProg_k hg) (Or.inl (isProg_n hg))).trans ((xIload_n d10_4 rfl).trans ((xIald (N := 24) (I (g + 8) x1) rfl d10_5 (by rw [(isProg_k8 hg)]) (Or.inl (isProg_n8 hg)) (zal_of (isProg_k8 hg) (isProg_n8 hg))).trans (ziteC ((xIstore_n d10_6 rfl rfl).trans ((xIload_n d10_7 rfl).trans ((xIfGe (t := 15) d10_8 rfl).trans (ziteC ((xAload_n d10_15 rfl).trans ((xGetR 1 (g + 6) d10_16 zo_10 zfl_0_68 rfl (isProg_r1 hg) (isProg_k hg) (Or.inl (isProg_n hg))).trans ((xIload_n d10_19 rfl).trans ((xIald (N := 24) (I (g + 6) (I (g + 8) x1)) rfl d10_20 (by rw [(isProg_k6 hg)]) (Or.inl (isProg_n6 hg)) (zal_of (isProg_k6 hg) (isProg_n6 hg))).trans (ziteC ((xIconst d10_21).trans ((xIcmpNe (t := 39) d10_22 rfl).trans (ziteC ((xAload_n d10_25 rfl).trans ((xIload_n d10_26 rfl).trans ((xAload_n d10_27 rfl).trans ((xGetR 2 (g + 7) d10_28 zo_10 zfl_0_49 rfl (isProg_r2 hg) (isProg_k hg) (Or.inl (isProg_n hg))).trans ((xIload_n d10_31 rfl).trans ((xIald (N := 24) (I (g + 7) (I (g + 8) x1)) rfl d10_32 (by rw [(isProg_k7 hg)]) (Or.inl (isProg_n7 hg)) (zal_of (isProg_k7 hg) (isProg_n7 hg))).trans (ziteC (xInvV [vR c, vI (I (g + 8) x1), vI (I (g + 7) (I (g + 8) x1))] [] d10_33 zo_10 zml_0_84 rfl rfl rfl (Or.inl ⟨(isCur_k hc), (isCur_n hc)⟩)) rfl))))))) ((xAload_n d10_39 rfl).trans ((xAload_n d10_40 rfl).trans ((xGetR 2 (g + 7) d10_41 zo_10 zfl_0_49 rfl (isProg_r2 hg) (isProg_k hg) (Or.inl (isProg_n hg))).trans ((xIload_n d10_44 rfl).trans ((xIald (N := 24) (I (g + 7) (I (g + 8) x1)) rfl d10_45 (by rw [(isProg_k7 hg)]) (Or.inl (isProg_n7 hg)) (zal_of (isProg_k7 hg) (isProg_n7 hg))).trans (ziteC (xInvV [vR c, vI (I (g + 7) (I (g + 8) x1))] [] d10_46 zo_10 zml_0_88 rfl rfl rfl (Or.inl ⟨(isCur_k hc), (isCur_n hc)⟩)) rfl))))))))) rfl))))) ((xIload_n d10_11 rfl).trans ((xIconst d10_12).trans ((xIadd d10_13).trans (xIret d10_14 zret_10)))))))) rfl))))
theorem e10_36 {I : Nat → Int → Int} {b : Bool} {S : Nat} {a2 a3 t0 : Int} {c : Nat} (hc : isCur c) {g : Nat} (hg : isProg g) : zX 10 36 [vR c, vR g, vI a2, vI a3, none] [vI t0] (I, zRs b, 103, S) = zX 10 49 [vR c, vR g, vI a2, vI a3, none] [vI t0] (I, zRs b, 103, S) := xGoto (t := 49) d10_36 rfl
theorem e10_49 {I : Nat → Int → Int} {b : Bool} {S : Nat} {a2 a3 t0 : Int} {c : Nat} (hc : isCur c) {g : Nat} (hg : isProg g) : zX 10 49 [vR c, vR g, vI a2, vI a3, none] [vI t0] (I, zRs b, 103, S) = if t0 = 0 then some (some (vI (wr (a3 + 1))), (I, zRs b, 103, S)) else some (some (vI (wr (a2 + 1))), (I, zRs b, 103, S)) := (xIstore d10_49 rfl rfl).trans ((xIload d10_51 rfl).trans ((xIfEq (t := 62) d10_53 rfl).trans (ziteC ((xIload_n d10_62 rfl).trans ((xIconst d10_63).trans ((xIadd d10_64).trans (xIret d10_65 zret_10)))) ((xIload_n d10_56 rfl).trans ((xIconst d10_57).trans ((xIadd d10_58).trans ((xGoto (t := 65) d10_59 rfl).trans (xIret d10_65 zret_10))))))))
theorem zo_11 : zo 11 = 0 := by decide +kernel
theorem zret_11 : zret 11 = some .boolean := by decide +kernel
theorem d11_0 : decode (zb 11) 0 = .ok (.aload_n 0, 1) := by decide +kernel
theorem d11_1 : decode (zb 11) 1 = .ok (.getfield 15, 3) := by decide +kernel
theorem d11_4 : decode (zb 11) 4 = .ok (.iload_n 1, 1) := by decide +kernel
theorem d11_5 : decode (zb 11) 5 = .ok (.dup2, 1) := by decide +kernel
theorem d11_6 : decode (zb 11) 6 = .ok (.iaload, 1) := by decide +kernel
theorem d11_7 : decode (zb 11) 7 = .ok (.iconst 1, 1) := by decide +kernel
theorem d11_8 : decode (zb 11) 8 = .ok (.iadd, 1) := by decide +kernel
theorem d11_9 : decode (zb 11) 9 = .ok (.iastore, 1) := by decide +kernel
theorem d11_10 : decode (zb 11) 10 = .ok (.aload_n 0, 1) := by decide +kernel
theorem d11_11 : decode (zb 11) 11 = .ok (.getfield 15, 3) := by decide +kernel
theorem d11_14 : decode (zb 11) 14 = .ok (.iload_n 1, 1) := by decide +kernel
theorem d11_15 : decode (zb 11) 15 = .ok (.iaload, 1) := by decide +kernel
theorem d11_16 : decode (zb 11) 16 = .ok (.iload_n 2, 1) := by decide +kernel
theorem d11_17 : decode (zb 11) 17 = .ok (.if_icmp .lt 7, 3) := by decide +kernel
theorem d11_20 : decode (zb 11) 20 = .ok (.iconst 1, 1) := by decide +kernel
theorem d11_21 : decode (zb 11) 21 = .ok (.goto 4, 3) := by decide +kernel
theorem d11_24 : decode (zb 11) 24 = .ok (.iconst 0, 1) := by decide +kernel
theorem d11_25 : decode (zb 11) 25 = .ok (.ireturn, 1) := by decide +kernel
theorem run11 {h : zH} {x0 x1 : Int} {c : Nat} : zrun 11 [vR c, vI x0, vI x1] h = zX 11 0 [vR c, vI x0, vI x1] [] h := rfl
theorem e11_0 {I : Nat → Int → Int} {b : Bool} {S : Nat} {x0 x1 : Int} {c : Nat} (hc : isCur c) : zX 11 0 [vR c, vI x0, vI x1] [] (I, zRs b, 103, S) = if 0 ≤ x0 ∧ x0 < 24 then if 0 ≤ x0 ∧ x0 < 24 then if 0 ≤ x0 ∧ x0 < 24 then if ((sI I (c + 1) x0 (wr ((I (c + 1) x0) + 1))) (c + 1) x0) < x1 then some (some (vI 0), ((sI I (c + 1) x0 (wr ((I (c + 1) x0) + 1))), zRs b, 103, S)) else some (some (vI 1), ((sI I (c + 1) x0 (wr ((I (c + 1) x0) + 1))), zRs b, 103, S)) else none else none else none := (xAload_n d11_0 rfl).trans ((xGetR 2 (c + 1) d11_1 zo_11 zfl_0_15 rfl (isCur_r2 hc) (isCur_k hc) (Or.inl (isCur_n hc))).trans ((xIload_n d11_4 rfl).trans ((xDup2 d11_5 rfl rfl).trans ((xIald (N := 24) (I (c + 1) x0) rfl d11_6 (by rw [(isCur_k1 hc)]) (Or.inl (isCur_n1 hc)) (zal_of (isCur_k1 hc) (isCur_n1 hc))).trans (ziteC ((xIconst d11_7).trans ((xIadd d11_8).trans ((xIast (N := 24) d11_9 (by rw [(isCur_k1 hc)]) (isCur_n1 hc) (by rw [(isCur_k1 hc)]; rfl)).trans (ziteC ((xAload_n d11_10 rfl).trans ((xGetR 2 (c + 1) d11_11 zo_11 zfl_0_15 rfl (isCur_r2 hc) (isCur_k hc) (Or.inl (isCur_n hc))).trans ((xIload_n d11_14 rfl).trans ((xIald (N := 24) ((sI I (c + 1) x0 (wr ((I (c + 1) x0) + 1))) (c + 1) x0) rfl d11_15 (by rw [(isCur_k1 hc)]) (Or.inl (isCur_n1 hc)) (zal_of (isCur_k1 hc) (isCur_n1 hc))).trans (ziteC ((xIload_n d11_16 rfl).trans ((xIcmpLt (t := 24) d11_17 rfl).trans (ziteC ((xIconst d11_24).trans (xZret d11_25 zret_11 (by decide))) ((xIconst d11_20).trans ((xGoto (t := 25) d11_21 rfl).trans (xZret d11_25 zret_11 (by decide))))))) rfl))))) rfl)))) rfl)))))
theorem zo_12 : zo 12 = 0 := by decide +kernel
theorem zret_12 : zret 12 = some .boolean := by decide +kernel
theorem d12_0 : decode (zb 12) 0 = .ok (.iconst 1, 1) := by decide +kernel
theorem d12_1 : decode (zb 12) 1 = .ok (.iload_n 1, 1) := by decide +kernel
theorem d12_2 : decode (zb 12) 2 = .ok (.ishl, 1) := by decide +kernel
theorem d12_3 : decode (zb 12) 3 = .ok (.istore_n 2, 1) := by decide +kernel
theorem d12_4 : decode (zb 12) 4 = .ok (.aload_n 0, 1) := by decide +kernel
theorem d12_5 : decode (zb 12) 5 = .ok (.getfield 22, 3) := by decide +kernel
theorem d12_8 : decode (zb 12) 8 = .ok (.iload_n 2, 1) := by decide +kernel
theorem d12_9 : decode (zb 12) 9 = .ok (.iand, 1) := by decide +kernel
theorem d12_10 : decode (zb 12) 10 = .ok (.ifCond .eq 7, 3) := by decide +kernel
theorem d12_13 : decode (zb 12) 13 = .ok (.iconst 1, 1) := by decide +kernel
theorem d12_14 : decode (zb 12) 14 = .ok (.goto 4, 3) := by decide +kernel
theorem d12_17 : decode (zb 12) 17 = .ok (.iconst 0, 1) := by decide +kernel
theorem d12_18 : decode (zb 12) 18 = .ok (.istore_n 3, 1) := by decide +kernel
theorem d12_19 : decode (zb 12) 19 = .ok (.aload_n 0, 1) := by decide +kernel
theorem d12_20 : decode (zb 12) 20 = .ok (.dup, 1) := by decide +kernel
theorem d12_21 : decode (zb 12) 21 = .ok (.getfield 22, 3) := by decide +kernel
theorem d12_24 : decode (zb 12) 24 = .ok (.iload_n 2, 1) := by decide +kernel
theorem d12_25 : decode (zb 12) 25 = .ok (.iconst (-1), 1) := by decide +kernel
theorem d12_26 : decode (zb 12) 26 = .ok (.ixor, 1) := by decide +kernel
theorem d12_27 : decode (zb 12) 27 = .ok (.iand, 1) := by decide +kernel
theorem d12_28 : decode (zb 12) 28 = .ok (.putfield 22, 3) := by decide +kernel
theorem d12_31 : decode (zb 12) 31 = .ok (.iload_n 3, 1) := by decide +kernel
theorem d12_32 : decode (zb 12) 32 = .ok (.ireturn, 1) := by decide +kernel
theorem run12 {h : zH} {x0 : Int} {c : Nat} : zrun 12 [vR c, vI x0] h = zX 12 0 [vR c, vI x0, none, none] [] h := rfl
theorem e12_0 {I : Nat → Int → Int} {b : Bool} {S : Nat} {x0 : Int} {c : Nat} (hc : isCur c) : zX 12 0 [vR c, vI x0, none, none] [] (I, zRs b, 103, S) = if (w2 (· &&& ·) (I c 3) (w2 (fun a b => a <<< (b &&& 31)) 1 x0)) = 0 then some (some (vI 0), ((sI I c 3 (w2 (· &&& ·) (I c 3) (w2 (· ^^^ ·) (w2 (fun a b => a <<< (b &&& 31)) 1 x0) (-1)))), zRs b, 103, S)) else some (some (vI 1), ((sI I c 3 (w2 (· &&& ·) (I c 3) (w2 (· ^^^ ·) (w2 (fun a b => a <<< (b &&& 31)) 1 x0) (-1)))), zRs b, 103, S)) := (xIconst d12_0).trans ((xIload_n d12_1 rfl).trans ((xIshl d12_2).trans ((xIstore_n d12_3 rfl rfl).trans ((xAload_n d12_4 rfl).trans ((xGetI 3 (I c 3) rfl d12_5 zo_12 zfl_0_22 (by decide) rfl (isCur_k hc) (Or.inl (isCur_n hc))).trans ((xIload_n d12_8 rfl).trans ((xIand d12_9).trans ((xIfEq (t := 17) d12_10 rfl).trans (ziteC ((xIconst d12_17).trans ((xIstore_n d12_18 rfl rfl).trans ((xAload_n d12_19 rfl).trans ((xDup d12_20 rfl).trans ((xGetI 3 (I c 3) rfl d12_21 zo_12 zfl_0_22 (by decide) rfl (isCur_k hc) (Or.inl (isCur_n hc))).trans ((xIload_n d12_24 rfl).trans ((xIconst d12_25).trans ((xIxor d12_26).trans ((xIand d12_27).trans ((xPutI 3 d12_28 zo_12 zfl_0_22 rfl (isCur_k hc) (isCur_n hc) (Or.inl rfl)).trans ((xIload_n d12_31 rfl).trans (xZret d12_32 zret_12 (by decide))))))))))))) ((xIconst d12_13).trans ((xGoto (t := 18) d12_14 rfl).trans ((xIstore_n d12_18 rfl rfl).trans ((xAload_n d12_19 rfl).trans ((xDup d12_20 rfl).trans ((xGetI 3 (I c 3) rfl d12_21 zo_12 zfl_0_22 (by decide) rfl (isCur_k hc) (Or.inl (isCur_n hc))).trans ((xIload_n d12_24 rfl).trans ((xIconst d12_25).trans ((xIxor d12_26).trans ((xIand d12_27).trans ((xPutI 3 d12_28 zo_12 zfl_0_22 rfl (isCur_k hc) (isCur_n hc) (Or.inl rfl)).trans ((xIload_n d12_31 rfl).trans (xZret d12_32 zret_12 (by decide)))))))))))))))))))))))
