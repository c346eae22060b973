theorem zo_81 : zo 81 = 8 := by decide +kernel
theorem zret_81 : zret 81 = none := by decide +kernel
theorem d81_0 : decode (zb 81) 0 = .ok (.aload_n 0, 1) := by decide +kernel
theorem d81_1 : decode (zb 81) 1 = .ok (.iload_n 1, 1) := by decide +kernel
theorem d81_2 : decode (zb 81) 2 = .ok (.putfield 19, 3) := by decide +kernel
theorem d81_5 : decode (zb 81) 5 = .ok (.aload_n 0, 1) := by decide +kernel
theorem d81_6 : decode (zb 81) 6 = .ok (.iload_n 2, 1) := by decide +kernel
theorem d81_7 : decode (zb 81) 7 = .ok (.putfield 15, 3) := by decide +kernel
theorem d81_10 : decode (zb 81) 10 = .ok (.iconst 0, 1) := by decide +kernel
theorem d81_11 : decode (zb 81) 11 = .ok (.istore_n 3, 1) := by decide +kernel
theorem d81_12 : decode (zb 81) 12 = .ok (.iload_n 3, 1) := by decide +kernel
theorem d81_13 : decode (zb 81) 13 = .ok (.bipush 30, 2) := by decide +kernel
theorem d81_15 : decode (zb 81) 15 = .ok (.if_icmp .ge 16, 3) := by decide +kernel
theorem d81_18 : decode (zb 81) 18 = .ok (.aload_n 0, 1) := by decide +kernel
theorem d81_19 : decode (zb 81) 19 = .ok (.getfield 9, 3) := by decide +kernel
theorem d81_22 : decode (zb 81) 22 = .ok (.iload_n 3, 1) := by decide +kernel
theorem d81_23 : decode (zb 81) 23 = .ok (.lconst 0, 1) := by decide +kernel
theorem d81_24 : decode (zb 81) 24 = .ok (.lastore, 1) := by decide +kernel
theorem d81_25 : decode (zb 81) 25 = .ok (.iinc 3 1, 3) := by decide +kernel
theorem d81_28 : decode (zb 81) 28 = .ok (.goto (-16), 3) := by decide +kernel
theorem d81_31 : decode (zb 81) 31 = .ok (.return_, 1) := by decide +kernel
theorem run81 {h : zH} {x0 x1 : Int} {s : Nat} : zrun 81 [vR s, vI x0, vI x1] h = zX 81 0 [vR s, vI x0, vI x1, none] [] h := rfl
theorem e81_0 {I : Nat → Int → Int} {b : Bool} {S : Nat} {x0 x1 : Int} {s : Nat} (hs : isSh s) : zX 81 0 [vR s, vI x0, vI x1, none] [] (I, zRs b, 103, S) = zX 81 12 [vR s, vI x0, vI x1, vI 0] [] ((sI (sI I s 1 x0) s 2 x1), zRs b, 103, S) := (xAload_n d81_0 rfl).trans ((xIload_n d81_1 rfl).trans ((xPutI 1 d81_2 zo_81 zfl_8_19 rfl (isSh_k hs) (isSh_n hs) (Or.inl rfl)).trans ((xAload_n d81_5 rfl).trans ((xIload_n d81_6 rfl).trans ((xPutI 2 d81_7 zo_81 zfl_8_15 rfl (isSh_k hs) (isSh_n hs) (Or.inl rfl)).trans ((xIconst d81_10).trans (xIstore_n d81_11 rfl rfl)))))))
theorem e81_12 {I : Nat → Int → Int} {b : Bool} {S : Nat} {a1 a2 a3 : Int} {s : Nat} (hs : isSh s) : zX 81 12 [vR s, vI a1, vI a2, vI a3] [] (I, zRs b, 103, S) = if 30 ≤ a3 then some (none, (I, zRs b, 103, S)) else if 0 ≤ a3 ∧ a3 < 30 then zX 81 12 [vR s, vI a1, vI a2, vI (wr (a3 + 1))] [] ((sI I (s + 1) a3 0), zRs b, 103, S) else none := (xIload_n d81_12 rfl).trans ((xBipush d81_13).trans ((xIcmpGe (t := 31) d81_15 rfl).trans (ziteC (xVret d81_31 zret_81) ((xAload_n d81_18 rfl).trans ((xGetR 0 (s + 1) d81_19 zo_81 zfl_8_9 rfl (isSh_r0 hs) (isSh_k hs) (Or.inl (isSh_n hs))).trans ((xIload_n d81_22 rfl).trans ((xLconstV 0 rfl d81_23).trans ((xLast (N := 30) d81_24 (by rw [(isSh_k1 hs)]) (isSh_n1 hs) (by decide) (by rw [(isSh_k1 hs)]; rfl)).trans (ziteC ((xIinc d81_25 rfl rfl rfl).trans (xGoto (t := 12) d81_28 rfl)) rfl)))))))))
theorem zo_82 : zo 82 = 8 := by decide +kernel
theorem zret_82 : zret 82 = some .int := by decide +kernel
theorem d82_0 : decode (zb 82) 0 = .ok (.aload_n 0, 1) := by decide +kernel
theorem d82_1 : decode (zb 82) 1 = .ok (.getfield 15, 3) := by decide +kernel
theorem d82_4 : decode (zb 82) 4 = .ok (.ifCond .ge 5, 3) := by decide +kernel
theorem d82_7 : decode (zb 82) 7 = .ok (.iconst 1, 1) := by decide +kernel
theorem d82_8 : decode (zb 82) 8 = .ok (.ireturn, 1) := by decide +kernel
theorem d82_9 : decode (zb 82) 9 = .ok (.iload_n 1, 1) := by decide +kernel
theorem d82_10 : decode (zb 82) 10 = .ok (.aload_n 0, 1) := by decide +kernel
theorem d82_11 : decode (zb 82) 11 = .ok (.getfield 19, 3) := by decide +kernel
theorem d82_14 : decode (zb 82) 14 = .ok (.if_icmp .eq 5, 3) := by decide +kernel
theorem d82_17 : decode (zb 82) 17 = .ok (.iconst 2, 1) := by decide +kernel
theorem d82_18 : decode (zb 82) 18 = .ok (.ireturn, 1) := by decide +kernel
theorem d82_19 : decode (zb 82) 19 = .ok (.iload_n 2, 1) := by decide +kernel
theorem d82_20 : decode (zb 82) 20 = .ok (.ifCond .lt 11, 3) := by decide +kernel
theorem d82_23 : decode (zb 82) 23 = .ok (.iload_n 2, 1) := by decide +kernel
theorem d82_24 : decode (zb 82) 24 = .ok (.aload_n 0, 1) := by decide +kernel
theorem d82_25 : decode (zb 82) 25 = .ok (.getfield 15, 3) := by decide +kernel
theorem d82_28 : decode (zb 82) 28 = .ok (.if_icmp .lt 7, 3) := by decide +kernel
theorem d82_31 : decode (zb 82) 31 = .ok (.iconst 3, 1) := by decide +kernel
theorem d82_32 : decode (zb 82) 32 = .ok (.goto 4, 3) := by decide +kernel
theorem d82_35 : decode (zb 82) 35 = .ok (.iconst 0, 1) := by decide +kernel
theorem d82_36 : decode (zb 82) 36 = .ok (.ireturn, 1) := by decide +kernel
theorem run82 {h : zH} {x0 x1 : Int} {s : Nat} : zrun 82 [vR s, vI x0, vI x1] h = zX 82 0 [vR s, vI x0, vI x1] [] h := rfl
theorem e82_0 {I : Nat → Int → Int} {b : Bool} {S : Nat} {x0 x1 : Int} {s : Nat} (hs : isSh s) : zX 82 0 [vR s, vI x0, vI x1] [] (I, zRs b, 103, S) = if 0 ≤ (I s 2) then if x0 = (I s 1) then if x1 < 0 then some (some (vI 3), (I, zRs b, 103, S)) else if x1 < (I s 2) then some (some (vI 0), (I, zRs b, 103, S)) else some (some (vI 3), (I, zRs b, 103, S)) else some (some (vI 2), (I, zRs b, 103, S)) else some (some (vI 1), (I, zRs b, 103, S)) := (xAload_n d82_0 rfl).trans ((xGetI 2 (I s 2) rfl d82_1 zo_82 zfl_8_15 (by decide) rfl (isSh_k hs) (Or.inl (isSh_n hs))).trans ((xIfGe (t := 9) d82_4 rfl).trans (ziteC ((xIload_n d82_9 rfl).trans ((xAload_n d82_10 rfl).trans ((xGetI 1 (I s 1) rfl d82_11 zo_82 zfl_8_19 (by decide) rfl (isSh_k hs) (Or.inl (isSh_n hs))).trans ((xIcmpEq (t := 19) d82_14 rfl).trans (ziteC ((xIload_n d82_19 rfl).trans ((xIfLt (t := 31) d82_20 rfl).trans (ziteC ((xIconst d82_31).trans ((xGoto (t := 36) d82_32 rfl).trans (xIret d82_36 zret_82))) ((xIload_n d82_23 rfl).trans ((xAload_n d82_24 rfl).trans ((xGetI 2 (I s 2) rfl d82_25 zo_82 zfl_8_15 (by decide) rfl (isSh_k hs) (Or.inl (isSh_n hs))).trans ((xIcmpLt (t := 35) d82_28 rfl).trans (ziteC ((xIconst d82_35).trans (xIret d82_36 zret_82)) ((xIconst d82_31).trans ((xGoto (t := 36) d82_32 rfl).trans (xIret d82_36 zret_82))))))))))) ((xIconst d82_17).trans (xIret d82_18 zret_82))))))) ((xIconst d82_7).trans (xIret d82_8 zret_82)))))
