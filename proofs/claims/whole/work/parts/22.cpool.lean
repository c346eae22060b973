theorem zo_44 : zo 44 = 5 := by decide +kernel
theorem zret_44 : zret 44 = none := by decide +kernel
theorem d44_0 : decode (zb 44) 0 = .ok (.aload_n 0, 1) := by decide +kernel
theorem d44_1 : decode (zb 44) 1 = .ok (.iconst 0, 1) := by decide +kernel
theorem d44_2 : decode (zb 44) 2 = .ok (.putfield 24, 3) := by decide +kernel
theorem d44_5 : decode (zb 44) 5 = .ok (.aload_n 0, 1) := by decide +kernel
theorem d44_6 : decode (zb 44) 6 = .ok (.iconst 0, 1) := by decide +kernel
theorem d44_7 : decode (zb 44) 7 = .ok (.putfield 28, 3) := by decide +kernel
theorem d44_10 : decode (zb 44) 10 = .ok (.return_, 1) := by decide +kernel
theorem run44 {h : zH} {pq : Nat} : zrun 44 [vR pq] h = zX 44 0 [vR pq] [] h := rfl
theorem e44_0 {I : Nat → Int → Int} {b : Bool} {S : Nat} {pq : Nat} (hpq : isPool pq) : zX 44 0 [vR pq] [] (I, zRs b, 103, S) = some (none, ((sI (sI I pq 4 0) pq 5 0), zRs b, 103, S)) := (xAload_n d44_0 rfl).trans ((xIconst d44_1).trans ((xPutI 4 d44_2 zo_44 zfl_5_24 rfl (isPool_k hpq) (isPool_n hpq) (Or.inl rfl)).trans ((xAload_n d44_5 rfl).trans ((xIconst d44_6).trans ((xPutI 5 d44_7 zo_44 zfl_5_28 rfl (isPool_k hpq) (isPool_n hpq) (Or.inl rfl)).trans (xVret d44_10 zret_44))))))
theorem zo_45 : zo 45 = 5 := by decide +kernel
theorem zret_45 : zret 45 = none := by decide +kernel
theorem d45_0 : decode (zb 45) 0 = .ok (.aload_n 0, 1) := by decide +kernel
theorem d45_1 : decode (zb 45) 1 = .ok (.getfield 28, 3) := by decide +kernel
theorem d45_4 : decode (zb 45) 4 = .ok (.bipush 8, 2) := by decide +kernel
theorem d45_6 : decode (zb 45) 6 = .ok (.if_icmp .ge 28, 3) := by decide +kernel
theorem d45_9 : decode (zb 45) 9 = .ok (.iload_n 2, 1) := by decide +kernel
theorem d45_10 : decode (zb 45) 10 = .ok (.iconst 1, 1) := by decide +kernel
theorem d45_11 : decode (zb 45) 11 = .ok (.if_icmp .lt 23, 3) := by decide +kernel
theorem d45_14 : decode (zb 45) 14 = .ok (.iload_n 2, 1) := by decide +kernel
theorem d45_15 : decode (zb 45) 15 = .ok (.aload_n 1, 1) := by decide +kernel
theorem d45_16 : decode (zb 45) 16 = .ok (.arraylength, 1) := by decide +kernel
theorem d45_17 : decode (zb 45) 17 = .ok (.if_icmp .gt 17, 3) := by decide +kernel
theorem d45_20 : decode (zb 45) 20 = .ok (.aload_n 0, 1) := by decide +kernel
theorem d45_21 : decode (zb 45) 21 = .ok (.getfield 24, 3) := by decide +kernel
theorem d45_24 : decode (zb 45) 24 = .ok (.iload_n 2, 1) := by decide +kernel
theorem d45_25 : decode (zb 45) 25 = .ok (.iadd, 1) := by decide +kernel
theorem d45_26 : decode (zb 45) 26 = .ok (.aload_n 0, 1) := by decide +kernel
theorem d45_27 : decode (zb 45) 27 = .ok (.getfield 9, 3) := by decide +kernel
theorem d45_30 : decode (zb 45) 30 = .ok (.arraylength, 1) := by decide +kernel
theorem d45_31 : decode (zb 45) 31 = .ok (.if_icmp .le 4, 3) := by decide +kernel
theorem d45_34 : decode (zb 45) 34 = .ok (.return_, 1) := by decide +kernel
theorem d45_35 : decode (zb 45) 35 = .ok (.aload_n 0, 1) := by decide +kernel
theorem d45_36 : decode (zb 45) 36 = .ok (.aload_n 1, 1) := by decide +kernel
theorem d45_37 : decode (zb 45) 37 = .ok (.iload_n 2, 1) := by decide +kernel
theorem d45_38 : decode (zb 45) 38 = .ok (.invokevirtual 31, 3) := by decide +kernel
theorem d45_41 : decode (zb 45) 41 = .ok (.istore_n 3, 1) := by decide +kernel
theorem d45_42 : decode (zb 45) 42 = .ok (.iload_n 2, 1) := by decide +kernel
theorem d45_43 : decode (zb 45) 43 = .ok (.aload_n 0, 1) := by decide +kernel
theorem d45_44 : decode (zb 45) 44 = .ok (.getfield 24, 3) := by decide +kernel
theorem d45_47 : decode (zb 45) 47 = .ok (.iload_n 3, 1) := by decide +kernel
theorem d45_48 : decode (zb 45) 48 = .ok (.isub, 1) := by decide +kernel
theorem d45_49 : decode (zb 45) 49 = .ok (.invokestatic 35, 3) := by decide +kernel
theorem d45_52 : decode (zb 45) 52 = .ok (.istore 4, 2) := by decide +kernel
theorem d45_54 : decode (zb 45) 54 = .ok (.aload_n 1, 1) := by decide +kernel
theorem d45_55 : decode (zb 45) 55 = .ok (.iload 4, 2) := by decide +kernel
theorem d45_57 : decode (zb 45) 57 = .ok (.aload_n 0, 1) := by decide +kernel
theorem d45_58 : decode (zb 45) 58 = .ok (.getfield 9, 3) := by decide +kernel
theorem d45_61 : decode (zb 45) 61 = .ok (.aload_n 0, 1) := by decide +kernel
theorem d45_62 : decode (zb 45) 62 = .ok (.getfield 24, 3) := by decide +kernel
theorem d45_65 : decode (zb 45) 65 = .ok (.iload_n 2, 1) := by decide +kernel
theorem d45_66 : decode (zb 45) 66 = .ok (.iload 4, 2) := by decide +kernel
theorem d45_68 : decode (zb 45) 68 = .ok (.isub, 1) := by decide +kernel
theorem d45_69 : decode (zb 45) 69 = .ok (.invokestatic 41, 3) := by decide +kernel
theorem d45_72 : decode (zb 45) 72 = .ok (.aload_n 0, 1) := by decide +kernel
theorem d45_73 : decode (zb 45) 73 = .ok (.dup, 1) := by decide +kernel
theorem d45_74 : decode (zb 45) 74 = .ok (.getfield 24, 3) := by decide +kernel
theorem d45_77 : decode (zb 45) 77 = .ok (.iload_n 2, 1) := by decide +kernel
theorem d45_78 : decode (zb 45) 78 = .ok (.iload 4, 2) := by decide +kernel
theorem d45_80 : decode (zb 45) 80 = .ok (.isub, 1) := by decide +kernel
theorem d45_81 : decode (zb 45) 81 = .ok (.iadd, 1) := by decide +kernel
theorem d45_82 : decode (zb 45) 82 = .ok (.putfield 24, 3) := by decide +kernel
theorem d45_85 : decode (zb 45) 85 = .ok (.aload_n 0, 1) := by decide +kernel
theorem d45_86 : decode (zb 45) 86 = .ok (.getfield 15, 3) := by decide +kernel
theorem d45_89 : decode (zb 45) 89 = .ok (.aload_n 0, 1) := by decide +kernel
theorem d45_90 : decode (zb 45) 90 = .ok (.getfield 28, 3) := by decide +kernel
theorem d45_93 : decode (zb 45) 93 = .ok (.iload_n 3, 1) := by decide +kernel
theorem d45_94 : decode (zb 45) 94 = .ok (.iastore, 1) := by decide +kernel
theorem d45_95 : decode (zb 45) 95 = .ok (.aload_n 0, 1) := by decide +kernel
theorem d45_96 : decode (zb 45) 96 = .ok (.getfield 18, 3) := by decide +kernel
theorem d45_99 : decode (zb 45) 99 = .ok (.aload_n 0, 1) := by decide +kernel
theorem d45_100 : decode (zb 45) 100 = .ok (.getfield 28, 3) := by decide +kernel
theorem d45_103 : decode (zb 45) 103 = .ok (.iload_n 2, 1) := by decide +kernel
theorem d45_104 : decode (zb 45) 104 = .ok (.iastore, 1) := by decide +kernel
theorem d45_105 : decode (zb 45) 105 = .ok (.aload_n 0, 1) := by decide +kernel
theorem d45_106 : decode (zb 45) 106 = .ok (.getfield 21, 3) := by decide +kernel
theorem d45_109 : decode (zb 45) 109 = .ok (.aload_n 0, 1) := by decide +kernel
theorem d45_110 : decode (zb 45) 110 = .ok (.getfield 28, 3) := by decide +kernel
theorem d45_113 : decode (zb 45) 113 = .ok (.iload_n 2, 1) := by decide +kernel
theorem d45_114 : decode (zb 45) 114 = .ok (.iload 4, 2) := by decide +kernel
theorem d45_116 : decode (zb 45) 116 = .ok (.isub, 1) := by decide +kernel
theorem d45_117 : decode (zb 45) 117 = .ok (.iastore, 1) := by decide +kernel
theorem d45_118 : decode (zb 45) 118 = .ok (.aload_n 0, 1) := by decide +kernel
theorem d45_119 : decode (zb 45) 119 = .ok (.dup, 1) := by decide +kernel
theorem d45_120 : decode (zb 45) 120 = .ok (.getfield 28, 3) := by decide +kernel
theorem d45_123 : decode (zb 45) 123 = .ok (.iconst 1, 1) := by decide +kernel
theorem d45_124 : decode (zb 45) 124 = .ok (.iadd, 1) := by decide +kernel
theorem d45_125 : decode (zb 45) 125 = .ok (.putfield 28, 3) := by decide +kernel
theorem d45_128 : decode (zb 45) 128 = .ok (.return_, 1) := by decide +kernel
theorem run45 {h : zH} {x1 : Int} {pq r : Nat} : zrun 45 [vR pq, vR r, vI x1] h = zX 45 0 [vR pq, vR r, vI x1, none, none] [] h := rfl
theorem e45_0 {I : Nat → Int → Int} {b : Bool} {S : Nat} {x1 : Int} {pq : Nat} (hpq : isPool pq) {r : Nat} (hr : isRow r) : zX 45 0 [vR pq, vR r, vI x1, none, none] [] (I, zRs b, 103, S) = if 8 ≤ (I pq 5) then some (none, (I, zRs b, 103, S)) else if x1 < 1 then some (none, (I, zRs b, 103, S)) else if 16 < x1 then some (none, (I, zRs b, 103, S)) else if (wr ((I pq 4) + x1)) ≤ 128 then (zrun 46 [vR pq, vR r, vI x1] (I, zRs b, 103, S)).bind (fun q => zX 45 41 [vR pq, vR r, vI x1, none, none] (zpush q.1 []) q.2) else some (none, (I, zRs b, 103, S)) := (xAload_n d45_0 rfl).trans ((xGetI 5 (I pq 5) rfl d45_1 zo_45 zfl_5_28 (by decide) rfl (isPool_k hpq) (Or.inl (isPool_n hpq))).trans ((xBipush d45_4).trans ((xIcmpGe (t := 34) d45_6 rfl).trans (ziteC (xVret d45_34 zret_45) ((xIload_n d45_9 rfl).trans ((xIconst d45_10).trans ((xIcmpLt (t := 34) d45_11 rfl).trans (ziteC (xVret d45_34 zret_45) ((xIload_n d45_14 rfl).trans ((xAload_n d45_15 rfl).trans ((xAlen (N := 16) d45_16 (by rw [(isRow_k hr)]; decide) (Or.inl (isRow_n hr)) (zal_of (isRow_k hr) (isRow_n hr)) (by decide)).trans ((xIcmpGt (t := 34) d45_17 rfl).trans (ziteC (xVret d45_34 zret_45) ((xAload_n d45_20 rfl).trans ((xGetI 4 (I pq 4) rfl d45_21 zo_45 zfl_5_24 (by decide) rfl (isPool_k hpq) (Or.inl (isPool_n hpq))).trans ((xIload_n d45_24 rfl).trans ((xIadd d45_25).trans ((xAload_n d45_26 rfl).trans ((xGetR 0 (pq + 1) d45_27 zo_45 zfl_5_9 rfl (isPool_r0 hpq) (isPool_k hpq) (Or.inl (isPool_n hpq))).trans ((xAlen (N := 128) d45_30 (by rw [(isPool_k1 hpq)]; decide) (Or.inl (isPool_n1 hpq)) (zal_of (isPool_k1 hpq) (isPool_n1 hpq)) (by decide)).trans ((xIcmpLe (t := 35) d45_31 rfl).trans (ziteC ((xAload_n d45_35 rfl).trans ((xAload_n d45_36 rfl).trans ((xIload_n d45_37 rfl).trans (xInvV [vR pq, vR r, vI x1] [] d45_38 zo_45 zml_5_31 rfl rfl rfl (Or.inl ⟨(isPool_k hpq), (isPool_n hpq)⟩))))) (xVret d45_34 zret_45)))))))))))))))))))))))
theorem e45_41 {I : Nat → Int → Int} {b : Bool} {S : Nat} {a2 t0 : Int} {pq : Nat} (hpq : isPool pq) {r : Nat} (hr : isRow r) : zX 45 41 [vR pq, vR r, vI a2, none, none] [vI t0] (I, zRs b, 103, S) = (zrun 209 [vI a2, vI (wr ((I pq 4) - t0))] (I, zRs b, 103, S)).bind (fun q => zX 45 52 [vR pq, vR r, vI a2, vI t0, none] (zpush q.1 []) q.2) := (xIstore_n d45_41 rfl rfl).trans ((xIload_n d45_42 rfl).trans ((xAload_n d45_43 rfl).trans ((xGetI 4 (I pq 4) rfl d45_44 zo_45 zfl_5_24 (by decide) rfl (isPool_k hpq) (Or.inl (isPool_n hpq))).trans ((xIload_n d45_47 rfl).trans ((xIsub d45_48).trans (xInvS [vI a2, vI (wr ((I pq 4) - t0))] [] d45_49 zo_45 zml_5_35 rfl rfl))))))
theorem e45_52 {I : Nat → Int → Int} {b : Bool} {S : Nat} {a2 a3 t0 : Int} {pq : Nat} (hpq : isPool pq) {r : Nat} (hr : isRow r) : zX 45 52 [vR pq, vR r, vI a2, vI a3, none] [vI t0] (I, zRs b, 103, S) = if 0 ≤ (wr (a2 - t0)) ∧ 0 ≤ (I pq 4) ∧ 0 ≤ t0 ∧ t0 + (wr (a2 - t0)) ≤ 16 ∧ (I pq 4) + (wr (a2 - t0)) ≤ 128 then if 0 ≤ ((zcpy I r t0 (pq + 1) (I pq 4) (wr (a2 - t0))) pq 5) ∧ ((zcpy I r t0 (pq + 1) (I pq 4) (wr (a2 - t0))) pq 5) < 8 then if 0 ≤ ((zcpy I r t0 (pq + 1) (I pq 4) (wr (a2 - t0))) pq 5) ∧ ((zcpy I r t0 (pq + 1) (I pq 4) (wr (a2 - t0))) pq 5) < 8 then if 0 ≤ ((zcpy I r t0 (pq + 1) (I pq 4) (wr (a2 - t0))) pq 5) ∧ ((zcpy I r t0 (pq + 1) (I pq 4) (wr (a2 - t0))) pq 5) < 8 then some (none, ((sI (sI (sI (sI (sI (zcpy I r t0 (pq + 1) (I pq 4) (wr (a2 - t0))) pq 4 (wr (((zcpy I r t0 (pq + 1) (I pq 4) (wr (a2 - t0))) pq 4) + (wr (a2 - t0))))) (pq + 2) ((zcpy I r t0 (pq + 1) (I pq 4) (wr (a2 - t0))) pq 5) a3) (pq + 3) ((zcpy I r t0 (pq + 1) (I pq 4) (wr (a2 - t0))) pq 5) a2) (pq + 4) ((zcpy I r t0 (pq + 1) (I pq 4) (wr (a2 - t0))) pq 5) (wr (a2 - t0))) pq 5 (wr (((zcpy I r t0 (pq + 1) (I pq 4) (wr (a2 - t0))) pq 5) + 1))), zRs b, 103, S)) else none else none else none else none := (xIstore d45_52 rfl rfl).trans ((xAload_n d45_54 rfl).trans ((xIload d45_55 rfl).trans ((xAload_n d45_57 rfl).trans ((xGetR 0 (pq + 1) d45_58 zo_45 zfl_5_9 rfl (isPool_r0 hpq) (isPool_k hpq) (Or.inl (isPool_n hpq))).trans ((xAload_n d45_61 rfl).trans ((xGetI 4 (I pq 4) rfl d45_62 zo_45 zfl_5_24 (by decide) rfl (isPool_k hpq) (Or.inl (isPool_n hpq))).trans ((xIload_n d45_65 rfl).trans ((xIload d45_66 rfl).trans ((xIsub d45_68).trans ((xCopyG (N := 128) (M := 16) d45_69 zo_45 zml_5_41 (by rw [(isPool_k1 hpq)]) (isPool_n1 hpq) (by rw [(isRow_k hr)]) (isRow_n hr) (by rw [(isPool_k1 hpq)]; rfl) (by rw [(isRow_k hr)]; rfl) rfl).trans (ziteC ((xAload_n d45_72 rfl).trans ((xDup d45_73 rfl).trans ((xGetI 4 ((zcpy I r t0 (pq + 1) (I pq 4) (wr (a2 - t0))) pq 4) rfl d45_74 zo_45 zfl_5_24 (by decide) rfl (isPool_k hpq) (Or.inl (isPool_n hpq))).trans ((xIload_n d45_77 rfl).trans ((xIload d45_78 rfl).trans ((xIsub d45_80).trans ((xIadd d45_81).trans ((xPutI 4 d45_82 zo_45 zfl_5_24 rfl (isPool_k hpq) (isPool_n hpq) (Or.inl rfl)).trans ((xAload_n d45_85 rfl).trans ((xGetR 1 (pq + 2) d45_86 zo_45 zfl_5_15 rfl (isPool_r1 hpq) (isPool_k hpq) (Or.inl (isPool_n hpq))).trans ((xAload_n d45_89 rfl).trans ((xGetI 5 ((zcpy I r t0 (pq + 1) (I pq 4) (wr (a2 - t0))) pq 5) (sI_k (by decide)) d45_90 zo_45 zfl_5_28 (by decide) rfl (isPool_k hpq) (Or.inl (isPool_n hpq))).trans ((xIload_n d45_93 rfl).trans ((xIast (N := 8) d45_94 (by rw [(isPool_k2 hpq)]) (isPool_n2 hpq) (by rw [(isPool_k2 hpq)]; rfl)).trans (ziteC ((xAload_n d45_95 rfl).trans ((xGetR 2 (pq + 3) d45_96 zo_45 zfl_5_18 rfl (isPool_r2 hpq) (isPool_k hpq) (Or.inl (isPool_n hpq))).trans ((xAload_n d45_99 rfl).trans ((xGetI 5 ((zcpy I r t0 (pq + 1) (I pq 4) (wr (a2 - t0))) pq 5) ((sI_p (by omega)).trans (sI_k (by decide))) d45_100 zo_45 zfl_5_28 (by decide) rfl (isPool_k hpq) (Or.inl (isPool_n hpq))).trans ((xIload_n d45_103 rfl).trans ((xIast (N := 8) d45_104 (by rw [(isPool_k3 hpq)]) (isPool_n3 hpq) (by rw [(isPool_k3 hpq)]; rfl)).trans (ziteC ((xAload_n d45_105 rfl).trans ((xGetR 3 (pq + 4) d45_106 zo_45 zfl_5_21 rfl (isPool_r3 hpq) (isPool_k hpq) (Or.inl (isPool_n hpq))).trans ((xAload_n d45_109 rfl).trans ((xGetI 5 ((zcpy I r t0 (pq + 1) (I pq 4) (wr (a2 - t0))) pq 5) ((sI_p (by omega)).trans ((sI_p (by omega)).trans (sI_k (by decide)))) d45_110 zo_45 zfl_5_28 (by decide) rfl (isPool_k hpq) (Or.inl (isPool_n hpq))).trans ((xIload_n d45_113 rfl).trans ((xIload d45_114 rfl).trans ((xIsub d45_116).trans ((xIast (N := 8) d45_117 (by rw [(isPool_k4 hpq)]) (isPool_n4 hpq) (by rw [(isPool_k4 hpq)]; rfl)).trans (ziteC ((xAload_n d45_118 rfl).trans ((xDup d45_119 rfl).trans ((xGetI 5 ((zcpy I r t0 (pq + 1) (I pq 4) (wr (a2 - t0))) pq 5) ((sI_p (by omega)).trans ((sI_p (by omega)).trans ((sI_p (by omega)).trans (sI_k (by decide))))) d45_120 zo_45 zfl_5_28 (by decide) rfl (isPool_k hpq) (Or.inl (isPool_n hpq))).trans ((xIconst d45_123).trans ((xIadd d45_124).trans ((xPutI 5 d45_125 zo_45 zfl_5_28 rfl (isPool_k hpq) (isPool_n hpq) (Or.inl rfl)).trans (xVret d45_128 zret_45))))))) rfl))))))))) rfl))))))) rfl))))))))))))))) rfl)))))))))))
theorem zo_46 : zo 46 = 5 := by decide +kernel
theorem zret_46 : zret 46 = some .int := by decide +kernel
theorem d46_0 : decode (zb 46) 0 = .ok (.iconst 0, 1) := by decide +kernel
theorem d46_1 : decode (zb 46) 1 = .ok (.istore_n 3, 1) := by decide +kernel
theorem d46_2 : decode (zb 46) 2 = .ok (.iload_n 3, 1) := by decide +kernel
theorem d46_3 : decode (zb 46) 3 = .ok (.aload_n 0, 1) := by decide +kernel
theorem d46_4 : decode (zb 46) 4 = .ok (.getfield 24, 3) := by decide +kernel
theorem d46_7 : decode (zb 46) 7 = .ok (.if_icmp .ge 21, 3) := by decide +kernel
theorem d46_10 : decode (zb 46) 10 = .ok (.aload_n 0, 1) := by decide +kernel
theorem d46_11 : decode (zb 46) 11 = .ok (.iload_n 3, 1) := by decide +kernel
theorem d46_12 : decode (zb 46) 12 = .ok (.aload_n 1, 1) := by decide +kernel
theorem d46_13 : decode (zb 46) 13 = .ok (.iload_n 2, 1) := by decide +kernel
theorem d46_14 : decode (zb 46) 14 = .ok (.invokevirtual 47, 3) := by decide +kernel
theorem d46_17 : decode (zb 46) 17 = .ok (.ifCond .eq 5, 3) := by decide +kernel
theorem d46_20 : decode (zb 46) 20 = .ok (.iload_n 3, 1) := by decide +kernel
theorem d46_21 : decode (zb 46) 21 = .ok (.ireturn, 1) := by decide +kernel
theorem d46_22 : decode (zb 46) 22 = .ok (.iinc 3 1, 3) := by decide +kernel
theorem d46_25 : decode (zb 46) 25 = .ok (.goto (-23), 3) := by decide +kernel
theorem d46_28 : decode (zb 46) 28 = .ok (.aload_n 0, 1) := by decide +kernel
theorem d46_29 : decode (zb 46) 29 = .ok (.getfield 24, 3) := by decide +kernel
theorem d46_32 : decode (zb 46) 32 = .ok (.ireturn, 1) := by decide +kernel
theorem run46 {h : zH} {x1 : Int} {pq r : Nat} : zrun 46 [vR pq, vR r, vI x1] h = zX 46 0 [vR pq, vR r, vI x1, none] [] h := rfl
theorem e46_0 {I : Nat → Int → Int} {b : Bool} {S : Nat} {x1 : Int} {pq : Nat} (hpq : isPool pq) {r : Nat} (hr : isRow r) : zX 46 0 [vR pq, vR r, vI x1, none] [] (I, zRs b, 103, S) = zX 46 2 [vR pq, vR r, vI x1, vI 0] [] (I, zRs b, 103, S) := (xIconst d46_0).trans (xIstore_n d46_1 rfl rfl)
theorem e46_2 {I : Nat → Int → Int} {b : Bool} {S : Nat} {a2 a3 : Int} {pq : Nat} (hpq : isPool pq) {r : Nat} (hr : isRow r) : zX 46 2 [vR pq, vR r, vI a2, vI a3] [] (I, zRs b, 103, S) = if (I pq 4) ≤ a3 then some (some (vI (I pq 4)), (I, zRs b, 103, S)) else (zrun 47 [vR pq, vI a3, vR r, vI a2] (I, zRs b, 103, S)).bind (fun q => zX 46 17 [vR pq, vR r, vI a2, vI a3] (zpush q.1 []) q.2) := (xIload_n d46_2 rfl).trans ((xAload_n d46_3 rfl).trans ((xGetI 4 (I pq 4) rfl d46_4 zo_46 zfl_5_24 (by decide) rfl (isPool_k hpq) (Or.inl (isPool_n hpq))).trans ((xIcmpGe (t := 28) d46_7 rfl).trans (ziteC ((xAload_n d46_28 rfl).trans ((xGetI 4 (I pq 4) rfl d46_29 zo_46 zfl_5_24 (by decide) rfl (isPool_k hpq) (Or.inl (isPool_n hpq))).trans (xIret d46_32 zret_46))) ((xAload_n d46_10 rfl).trans ((xIload_n d46_11 rfl).trans ((xAload_n d46_12 rfl).trans ((xIload_n d46_13 rfl).trans (xInvV [vR pq, vI a3, vR r, vI a2] [] d46_14 zo_46 zml_5_47 rfl rfl rfl (Or.inl ⟨(isPool_k hpq), (isPool_n hpq)⟩))))))))))
theorem e46_17 {I : Nat → Int → Int} {b : Bool} {S : Nat} {a2 a3 t0 : Int} {pq : Nat} (hpq : isPool pq) {r : Nat} (hr : isRow r) : zX 46 17 [vR pq, vR r, vI a2, vI a3] [vI t0] (I, zRs b, 103, S) = if t0 = 0 then zX 46 2 [vR pq, vR r, vI a2, vI (wr (a3 + 1))] [] (I, zRs b, 103, S) else some (some (vI a3), (I, zRs b, 103, S)) := (xIfEq (t := 22) d46_17 rfl).trans (ziteC ((xIinc d46_22 rfl rfl rfl).trans (xGoto (t := 2) d46_25 rfl)) ((xIload_n d46_20 rfl).trans (xIret d46_21 zret_46)))
theorem zo_47 : zo 47 = 5 := by decide +kernel
theorem zret_47 : zret 47 = some .boolean := by decide +kernel
theorem d47_0 : decode (zb 47) 0 = .ok (.iconst 0, 1) := by decide +kernel
theorem d47_1 : decode (zb 47) 1 = .ok (.istore 4, 2) := by decide +kernel
theorem d47_3 : decode (zb 47) 3 = .ok (.iload 4, 2) := by decide +kernel
theorem d47_5 : decode (zb 47) 5 = .ok (.iload_n 3, 1) := by decide +kernel
theorem d47_6 : decode (zb 47) 6 = .ok (.if_icmp .ge 38, 3) := by decide +kernel
theorem d47_9 : decode (zb 47) 9 = .ok (.iload_n 1, 1) := by decide +kernel
theorem d47_10 : decode (zb 47) 10 = .ok (.iload 4, 2) := by decide +kernel
theorem d47_12 : decode (zb 47) 12 = .ok (.iadd, 1) := by decide +kernel
theorem d47_13 : decode (zb 47) 13 = .ok (.aload_n 0, 1) := by decide +kernel
theorem d47_14 : decode (zb 47) 14 = .ok (.getfield 24, 3) := by decide +kernel
theorem d47_17 : decode (zb 47) 17 = .ok (.if_icmp .ge 27, 3) := by decide +kernel
theorem d47_20 : decode (zb 47) 20 = .ok (.aload_n 0, 1) := by decide +kernel
theorem d47_21 : decode (zb 47) 21 = .ok (.getfield 9, 3) := by decide +kernel
theorem d47_24 : decode (zb 47) 24 = .ok (.iload_n 1, 1) := by decide +kernel
theorem d47_25 : decode (zb 47) 25 = .ok (.iload 4, 2) := by decide +kernel
theorem d47_27 : decode (zb 47) 27 = .ok (.iadd, 1) := by decide +kernel
theorem d47_28 : decode (zb 47) 28 = .ok (.iaload, 1) := by decide +kernel
theorem d47_29 : decode (zb 47) 29 = .ok (.aload_n 2, 1) := by decide +kernel
theorem d47_30 : decode (zb 47) 30 = .ok (.iload 4, 2) := by decide +kernel
theorem d47_32 : decode (zb 47) 32 = .ok (.iaload, 1) := by decide +kernel
theorem d47_33 : decode (zb 47) 33 = .ok (.if_icmp .eq 5, 3) := by decide +kernel
theorem d47_36 : decode (zb 47) 36 = .ok (.iconst 0, 1) := by decide +kernel
theorem d47_37 : decode (zb 47) 37 = .ok (.ireturn, 1) := by decide +kernel
theorem d47_38 : decode (zb 47) 38 = .ok (.iinc 4 1, 3) := by decide +kernel
theorem d47_41 : decode (zb 47) 41 = .ok (.goto (-38), 3) := by decide +kernel
theorem d47_44 : decode (zb 47) 44 = .ok (.iconst 1, 1) := by decide +kernel
theorem d47_45 : decode (zb 47) 45 = .ok (.ireturn, 1) := by decide +kernel
theorem run47 {h : zH} {x0 x2 : Int} {pq r : Nat} : zrun 47 [vR pq, vI x0, vR r, vI x2] h = zX 47 0 [vR pq, vI x0, vR r, vI x2, none] [] h := rfl
theorem e47_0 {I : Nat → Int → Int} {b : Bool} {S : Nat} {x0 x2 : Int} {pq : Nat} (hpq : isPool pq) {r : Nat} (hr : isRow r) : zX 47 0 [vR pq, vI x0, vR r, vI x2, none] [] (I, zRs b, 103, S) = zX 47 3 [vR pq, vI x0, vR r, vI x2, vI 0] [] (I, zRs b, 103, S) := (xIconst d47_0).trans (xIstore d47_1 rfl rfl)
theorem e47_3 {I : Nat → Int → Int} {b : Bool} {S : Nat} {a1 a3 a4 : Int} {pq : Nat} (hpq : isPool pq) {r : Nat} (hr : isRow r) : zX 47 3 [vR pq, vI a1, vR r, vI a3, vI a4] [] (I, zRs b, 103, S) = if a3 ≤ a4 then some (some (vI 1), (I, zRs b, 103, S)) else if (I pq 4) ≤ (wr (a1 + a4)) then some (some (vI 1), (I, zRs b, 103, S)) else if 0 ≤ (wr (a1 + a4)) ∧ (wr (a1 + a4)) < 128 then if 0 ≤ a4 ∧ a4 < 16 then if (I (pq + 1) (wr (a1 + a4))) = (I r a4) then zX 47 3 [vR pq, vI a1, vR r, vI a3, vI (wr (a4 + 1))] [] (I, zRs b, 103, S) else some (some (vI 0), (I, zRs b, 103, S)) else none else none := (xIload d47_3 rfl).trans ((xIload_n d47_5 rfl).trans ((xIcmpGe (t := 44) d47_6 rfl).trans (ziteC ((xIconst d47_44).trans (xZret d47_45 zret_47 (by decide))) ((xIload_n d47_9 rfl).trans ((xIload d47_10 rfl).trans ((xIadd d47_12).trans ((xAload_n d47_13 rfl).trans ((xGetI 4 (I pq 4) rfl d47_14 zo_47 zfl_5_24 (by decide) rfl (isPool_k hpq) (Or.inl (isPool_n hpq))).trans ((xIcmpGe (t := 44) d47_17 rfl).trans (ziteC ((xIconst d47_44).trans (xZret d47_45 zret_47 (by decide))) ((xAload_n d47_20 rfl).trans ((xGetR 0 (pq + 1) d47_21 zo_47 zfl_5_9 rfl (isPool_r0 hpq) (isPool_k hpq) (Or.inl (isPool_n hpq))).trans ((xIload_n d47_24 rfl).trans ((xIload d47_25 rfl).trans ((xIadd d47_27).trans ((xIald (N := 128) (I (pq + 1) (wr (a1 + a4))) rfl d47_28 (by rw [(isPool_k1 hpq)]) (Or.inl (isPool_n1 hpq)) (zal_of (isPool_k1 hpq) (isPool_n1 hpq))).trans (ziteC ((xAload_n d47_29 rfl).trans ((xIload d47_30 rfl).trans ((xIald (N := 16) (I r a4) rfl d47_32 (by rw [(isRow_k hr)]) (Or.inl (isRow_n hr)) (zal_of (isRow_k hr) (isRow_n hr))).trans (ziteC ((xIcmpEq (t := 38) d47_33 rfl).trans (ziteC ((xIinc d47_38 rfl rfl rfl).trans (xGoto (t := 3) d47_41 rfl)) ((xIconst d47_36).trans (xZret d47_37 zret_47 (by decide))))) rfl)))) rfl)))))))))))))))))
theorem zo_48 : zo 48 = 5 := by decide +kernel
theorem zret_48 : zret 48 = some .int := by decide +kernel
theorem d48_0 : decode (zb 48) 0 = .ok (.iload_n 1, 1) := by decide +kernel
theorem d48_1 : decode (zb 48) 1 = .ok (.ifCond .lt 25, 3) := by decide +kernel
theorem d48_4 : decode (zb 48) 4 = .ok (.iload_n 1, 1) := by decide +kernel
theorem d48_5 : decode (zb 48) 5 = .ok (.aload_n 0, 1) := by decide +kernel
theorem d48_6 : decode (zb 48) 6 = .ok (.getfield 28, 3) := by decide +kernel
theorem d48_9 : decode (zb 48) 9 = .ok (.if_icmp .ge 17, 3) := by decide +kernel
theorem d48_12 : decode (zb 48) 12 = .ok (.iload_n 2, 1) := by decide +kernel
theorem d48_13 : decode (zb 48) 13 = .ok (.ifCond .lt 13, 3) := by decide +kernel
theorem d48_16 : decode (zb 48) 16 = .ok (.iload_n 2, 1) := by decide +kernel
theorem d48_17 : decode (zb 48) 17 = .ok (.aload_n 0, 1) := by decide +kernel
theorem d48_18 : decode (zb 48) 18 = .ok (.getfield 18, 3) := by decide +kernel
theorem d48_21 : decode (zb 48) 21 = .ok (.iload_n 1, 1) := by decide +kernel
theorem d48_22 : decode (zb 48) 22 = .ok (.iaload, 1) := by decide +kernel
theorem d48_23 : decode (zb 48) 23 = .ok (.if_icmp .lt 5, 3) := by decide +kernel
theorem d48_26 : decode (zb 48) 26 = .ok (.iconst 0, 1) := by decide +kernel
theorem d48_27 : decode (zb 48) 27 = .ok (.ireturn, 1) := by decide +kernel
theorem d48_28 : decode (zb 48) 28 = .ok (.aload_n 0, 1) := by decide +kernel
theorem d48_29 : decode (zb 48) 29 = .ok (.getfield 9, 3) := by decide +kernel
theorem d48_32 : decode (zb 48) 32 = .ok (.aload_n 0, 1) := by decide +kernel
theorem d48_33 : decode (zb 48) 33 = .ok (.getfield 15, 3) := by decide +kernel
theorem d48_36 : decode (zb 48) 36 = .ok (.iload_n 1, 1) := by decide +kernel
theorem d48_37 : decode (zb 48) 37 = .ok (.iaload, 1) := by decide +kernel
theorem d48_38 : decode (zb 48) 38 = .ok (.iload_n 2, 1) := by decide +kernel
theorem d48_39 : decode (zb 48) 39 = .ok (.iadd, 1) := by decide +kernel
theorem d48_40 : decode (zb 48) 40 = .ok (.iaload, 1) := by decide +kernel
theorem d48_41 : decode (zb 48) 41 = .ok (.ireturn, 1) := by decide +kernel
theorem run48 {h : zH} {x0 x1 : Int} {pq : Nat} : zrun 48 [vR pq, vI x0, vI x1] h = zX 48 0 [vR pq, vI x0, vI x1] [] h := rfl
theorem e48_0 {I : Nat → Int → Int} {b : Bool} {S : Nat} {x0 x1 : Int} {pq : Nat} (hpq : isPool pq) : zX 48 0 [vR pq, vI x0, vI x1] [] (I, zRs b, 103, S) = if x0 < 0 then some (some (vI 0), (I, zRs b, 103, S)) else if (I pq 5) ≤ x0 then some (some (vI 0), (I, zRs b, 103, S)) else if x1 < 0 then some (some (vI 0), (I, zRs b, 103, S)) else if 0 ≤ x0 ∧ x0 < 8 then if x1 < (I (pq + 3) x0) then if 0 ≤ x0 ∧ x0 < 8 then if 0 ≤ (wr ((I (pq + 2) x0) + x1)) ∧ (wr ((I (pq + 2) x0) + x1)) < 128 then some (some (vI (I (pq + 1) (wr ((I (pq + 2) x0) + x1)))), (I, zRs b, 103, S)) else none else none else some (some (vI 0), (I, zRs b, 103, S)) else none := (xIload_n d48_0 rfl).trans ((xIfLt (t := 26) d48_1 rfl).trans (ziteC ((xIconst d48_26).trans (xIret d48_27 zret_48)) ((xIload_n d48_4 rfl).trans ((xAload_n d48_5 rfl).trans ((xGetI 5 (I pq 5) rfl d48_6 zo_48 zfl_5_28 (by decide) rfl (isPool_k hpq) (Or.inl (isPool_n hpq))).trans ((xIcmpGe (t := 26) d48_9 rfl).trans (ziteC ((xIconst d48_26).trans (xIret d48_27 zret_48)) ((xIload_n d48_12 rfl).trans ((xIfLt (t := 26) d48_13 rfl).trans (ziteC ((xIconst d48_26).trans (xIret d48_27 zret_48)) ((xIload_n d48_16 rfl).trans ((xAload_n d48_17 rfl).trans ((xGetR 2 (pq + 3) d48_18 zo_48 zfl_5_18 rfl (isPool_r2 hpq) (isPool_k hpq) (Or.inl (isPool_n hpq))).trans ((xIload_n d48_21 rfl).trans ((xIald (N := 8) (I (pq + 3) x0) rfl d48_22 (by rw [(isPool_k3 hpq)]) (Or.inl (isPool_n3 hpq)) (zal_of (isPool_k3 hpq) (isPool_n3 hpq))).trans (ziteC ((xIcmpLt (t := 28) d48_23 rfl).trans (ziteC ((xAload_n d48_28 rfl).trans ((xGetR 0 (pq + 1) d48_29 zo_48 zfl_5_9 rfl (isPool_r0 hpq) (isPool_k hpq) (Or.inl (isPool_n hpq))).trans ((xAload_n d48_32 rfl).trans ((xGetR 1 (pq + 2) d48_33 zo_48 zfl_5_15 rfl (isPool_r1 hpq) (isPool_k hpq) (Or.inl (isPool_n hpq))).trans ((xIload_n d48_36 rfl).trans ((xIald (N := 8) (I (pq + 2) x0) rfl d48_37 (by rw [(isPool_k2 hpq)]) (Or.inl (isPool_n2 hpq)) (zal_of (isPool_k2 hpq) (isPool_n2 hpq))).trans (ziteC ((xIload_n d48_38 rfl).trans ((xIadd d48_39).trans ((xIald (N := 128) (I (pq + 1) (wr ((I (pq + 2) x0) + x1))) rfl d48_40 (by rw [(isPool_k1 hpq)]) (Or.inl (isPool_n1 hpq)) (zal_of (isPool_k1 hpq) (isPool_n1 hpq))).trans (ziteC (xIret d48_41 zret_48) rfl)))) rfl))))))) ((xIconst d48_26).trans (xIret d48_27 zret_48)))) rfl))))))))))))))))
theorem zo_49 : zo 49 = 5 := by decide +kernel
theorem zret_49 : zret 49 = some .int := by decide +kernel
theorem d49_0 : decode (zb 49) 0 = .ok (.iconst 0, 1) := by decide +kernel
theorem d49_1 : decode (zb 49) 1 = .ok (.istore_n 1, 1) := by decide +kernel
theorem d49_2 : decode (zb 49) 2 = .ok (.iconst 0, 1) := by decide +kernel
theorem d49_3 : decode (zb 49) 3 = .ok (.istore_n 2, 1) := by decide +kernel
theorem d49_4 : decode (zb 49) 4 = .ok (.iload_n 2, 1) := by decide +kernel
theorem d49_5 : decode (zb 49) 5 = .ok (.aload_n 0, 1) := by decide +kernel
theorem d49_6 : decode (zb 49) 6 = .ok (.getfield 28, 3) := by decide +kernel
theorem d49_9 : decode (zb 49) 9 = .ok (.if_icmp .ge 18, 3) := by decide +kernel
theorem d49_12 : decode (zb 49) 12 = .ok (.iload_n 1, 1) := by decide +kernel
theorem d49_13 : decode (zb 49) 13 = .ok (.aload_n 0, 1) := by decide +kernel
theorem d49_14 : decode (zb 49) 14 = .ok (.getfield 18, 3) := by decide +kernel
theorem d49_17 : decode (zb 49) 17 = .ok (.iload_n 2, 1) := by decide +kernel
theorem d49_18 : decode (zb 49) 18 = .ok (.iaload, 1) := by decide +kernel
theorem d49_19 : decode (zb 49) 19 = .ok (.iadd, 1) := by decide +kernel
theorem d49_20 : decode (zb 49) 20 = .ok (.istore_n 1, 1) := by decide +kernel
theorem d49_21 : decode (zb 49) 21 = .ok (.iinc 2 1, 3) := by decide +kernel
theorem d49_24 : decode (zb 49) 24 = .ok (.goto (-20), 3) := by decide +kernel
theorem d49_27 : decode (zb 49) 27 = .ok (.iload_n 1, 1) := by decide +kernel
theorem d49_28 : decode (zb 49) 28 = .ok (.ireturn, 1) := by decide +kernel
theorem run49 {h : zH} {pq : Nat} : zrun 49 [vR pq] h = zX 49 0 [vR pq, none, none] [] h := rfl
theorem e49_0 {I : Nat → Int → Int} {b : Bool} {S : Nat} {pq : Nat} (hpq : isPool pq) : zX 49 0 [vR pq, none, none] [] (I, zRs b, 103, S) = zX 49 4 [vR pq, vI 0, vI 0] [] (I, zRs b, 103, S) := (xIconst d49_0).trans ((xIstore_n d49_1 rfl rfl).trans ((xIconst d49_2).trans (xIstore_n d49_3 rfl rfl)))
theorem e49_4 {I : Nat → Int → Int} {b : Bool} {S : Nat} {a1 a2 : Int} {pq : Nat} (hpq : isPool pq) : zX 49 4 [vR pq, vI a1, vI a2] [] (I, zRs b, 103, S) = if (I pq 5) ≤ a2 then some (some (vI a1), (I, zRs b, 103, S)) else if 0 ≤ a2 ∧ a2 < 8 then zX 49 4 [vR pq, vI (wr (a1 + (I (pq + 3) a2))), vI (wr (a2 + 1))] [] (I, zRs b, 103, S) else none := (xIload_n d49_4 rfl).trans ((xAload_n d49_5 rfl).trans ((xGetI 5 (I pq 5) rfl d49_6 zo_49 zfl_5_28 (by decide) rfl (isPool_k hpq) (Or.inl (isPool_n hpq))).trans ((xIcmpGe (t := 27) d49_9 rfl).trans (ziteC ((xIload_n d49_27 rfl).trans (xIret d49_28 zret_49)) ((xIload_n d49_12 rfl).trans ((xAload_n d49_13 rfl).trans ((xGetR 2 (pq + 3) d49_14 zo_49 zfl_5_18 rfl (isPool_r2 hpq) (isPool_k hpq) (Or.inl (isPool_n hpq))).trans ((xIload_n d49_17 rfl).trans ((xIald (N := 8) (I (pq + 3) a2) rfl d49_18 (by rw [(isPool_k3 hpq)]) (Or.inl (isPool_n3 hpq)) (zal_of (isPool_k3 hpq) (isPool_n3 hpq))).trans (ziteC ((xIadd d49_19).trans ((xIstore_n d49_20 rfl rfl).trans ((xIinc d49_21 rfl rfl rfl).trans (xGoto (t := 4) d49_24 rfl)))) rfl))))))))))
theorem zo_50 : zo 50 = 5 := by decide +kernel
theorem zret_50 : zret 50 = some .int := by decide +kernel
theorem d50_0 : decode (zb 50) 0 = .ok (.iconst 0, 1) := by decide +kernel
theorem d50_1 : decode (zb 50) 1 = .ok (.istore_n 1, 1) := by decide +kernel
theorem d50_2 : decode (zb 50) 2 = .ok (.iconst 0, 1) := by decide +kernel
theorem d50_3 : decode (zb 50) 3 = .ok (.istore_n 2, 1) := by decide +kernel
theorem d50_4 : decode (zb 50) 4 = .ok (.iload_n 2, 1) := by decide +kernel
theorem d50_5 : decode (zb 50) 5 = .ok (.aload_n 0, 1) := by decide +kernel
theorem d50_6 : decode (zb 50) 6 = .ok (.getfield 28, 3) := by decide +kernel
theorem d50_9 : decode (zb 50) 9 = .ok (.if_icmp .ge 21, 3) := by decide +kernel
theorem d50_12 : decode (zb 50) 12 = .ok (.aload_n 0, 1) := by decide +kernel
theorem d50_13 : decode (zb 50) 13 = .ok (.getfield 21, 3) := by decide +kernel
theorem d50_16 : decode (zb 50) 16 = .ok (.iload_n 2, 1) := by decide +kernel
theorem d50_17 : decode (zb 50) 17 = .ok (.iaload, 1) := by decide +kernel
theorem d50_18 : decode (zb 50) 18 = .ok (.ifCond .ne 6, 3) := by decide +kernel
theorem d50_21 : decode (zb 50) 21 = .ok (.iinc 1 1, 3) := by decide +kernel
theorem d50_24 : decode (zb 50) 24 = .ok (.iinc 2 1, 3) := by decide +kernel
theorem d50_27 : decode (zb 50) 27 = .ok (.goto (-23), 3) := by decide +kernel
theorem d50_30 : decode (zb 50) 30 = .ok (.iload_n 1, 1) := by decide +kernel
theorem d50_31 : decode (zb 50) 31 = .ok (.ireturn, 1) := by decide +kernel
theorem run50 {h : zH} {pq : Nat} : zrun 50 [vR pq] h = zX 50 0 [vR pq, none, none] [] h := rfl
theorem e50_0 {I : Nat → Int → Int} {b : Bool} {S : Nat} {pq : Nat} (hpq : isPool pq) : zX 50 0 [vR pq, none, none] [] (I, zRs b, 103, S) = zX 50 4 [vR pq, vI 0, vI 0] [] (I, zRs b, 103, S) := (xIconst d50_0).trans ((xIstore_n d50_1 rfl rfl).trans ((xIconst d50_2).trans (xIstore_n d50_3 rfl rfl)))
theorem e50_4 {I : Nat → Int → Int} {b : Bool} {S : Nat} {a1 a2 : Int} {pq : Nat} (hpq : isPool pq) : zX 50 4 [vR pq, vI a1, vI a2] [] (I, zRs b, 103, S) = if (I pq 5) ≤ a2 then some (some (vI a1), (I, zRs b, 103, S)) else if 0 ≤ a2 ∧ a2 < 8 then if (I (pq + 4) a2) = 0 then zX 50 4 [vR pq, vI (wr (a1 + 1)), vI (wr (a2 + 1))] [] (I, zRs b, 103, S) else zX 50 4 [vR pq, vI a1, vI (wr (a2 + 1))] [] (I, zRs b, 103, S) else none := (xIload_n d50_4 rfl).trans ((xAload_n d50_5 rfl).trans ((xGetI 5 (I pq 5) rfl d50_6 zo_50 zfl_5_28 (by decide) rfl (isPool_k hpq) (Or.inl (isPool_n hpq))).trans ((xIcmpGe (t := 30) d50_9 rfl).trans (ziteC ((xIload_n d50_30 rfl).trans (xIret d50_31 zret_50)) ((xAload_n d50_12 rfl).trans ((xGetR 3 (pq + 4) d50_13 zo_50 zfl_5_21 rfl (isPool_r3 hpq) (isPool_k hpq) (Or.inl (isPool_n hpq))).trans ((xIload_n d50_16 rfl).trans ((xIald (N := 8) (I (pq + 4) a2) rfl d50_17 (by rw [(isPool_k4 hpq)]) (Or.inl (isPool_n4 hpq)) (zal_of (isPool_k4 hpq) (isPool_n4 hpq))).trans (ziteC ((xIfNe (t := 24) d50_18 rfl).trans (ziteC ((xIinc d50_21 rfl rfl rfl).trans ((xIinc d50_24 rfl rfl rfl).trans (xGoto (t := 4) d50_27 rfl))) ((xIinc d50_24 rfl rfl rfl).trans (xGoto (t := 4) d50_27 rfl)))) rfl)))))))))
theorem zo_51 : zo 51 = 5 := by decide +kernel
theorem zret_51 : zret 51 = some .int := by decide +kernel
theorem d51_0 : decode (zb 51) 0 = .ok (.aload_n 0, 1) := by decide +kernel
theorem d51_1 : decode (zb 51) 1 = .ok (.getfield 24, 3) := by decide +kernel
theorem d51_4 : decode (zb 51) 4 = .ok (.bipush 8, 2) := by decide +kernel
theorem d51_6 : decode (zb 51) 6 = .ok (.iadd, 1) := by decide +kernel
theorem d51_7 : decode (zb 51) 7 = .ok (.iconst 1, 1) := by decide +kernel
theorem d51_8 : decode (zb 51) 8 = .ok (.isub, 1) := by decide +kernel
theorem d51_9 : decode (zb 51) 9 = .ok (.bipush 8, 2) := by decide +kernel
theorem d51_11 : decode (zb 51) 11 = .ok (.idiv, 1) := by decide +kernel
theorem d51_12 : decode (zb 51) 12 = .ok (.ireturn, 1) := by decide +kernel
theorem run51 {h : zH} {pq : Nat} : zrun 51 [vR pq] h = zX 51 0 [vR pq] [] h := rfl
theorem e51_0 {I : Nat → Int → Int} {b : Bool} {S : Nat} {pq : Nat} (hpq : isPool pq) : zX 51 0 [vR pq] [] (I, zRs b, 103, S) = some (some (vI (wr ((wr ((wr ((I pq 4) + 8)) - 1)).tdiv 8))), (I, zRs b, 103, S)) := (xAload_n d51_0 rfl).trans ((xGetI 4 (I pq 4) rfl d51_1 zo_51 zfl_5_24 (by decide) rfl (isPool_k hpq) (Or.inl (isPool_n hpq))).trans ((xBipush d51_4).trans ((xIadd d51_6).trans ((xIconst d51_7).trans ((xIsub d51_8).trans ((xBipush d51_9).trans ((xIdiv d51_11 (by decide)).trans (xIret d51_12 zret_51))))))))
