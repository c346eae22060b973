theorem xLconstV {m pc : Nat} {L st : List zV} {h : zH} {a : Fin 2} (v : Int) (hv : ((a : Nat) : Int) = v) (hd : decode (zb m) pc = .ok (.lconst a, 1)) : zX m pc L st h = zX m (pc + 1) L (vL v :: st) h := by subst hv; exact xLconst hd
theorem xInvNo {m pc : Nat} {L st : List zV} {h : zH} {i : Instr} {o idx : Nat} (hd : decode (zb m) pc = .ok (i, 3)) (ho : zo m = o) (hm : zml o idx = none) (hi : i = .invokevirtual idx ∨ i = .invokestatic idx ∨ i = .invokespecial idx) : zX m pc L st h = none := by
  subst ho
  rcases hi with rfl | rfl | rfl <;> refine zX_no hd ((zact_eq rfl).trans ?_) <;> simp only [zac0, zcall] <;> rw [hm]
theorem zo_207 : zo 207 = 17 := by decide +kernel
theorem zret_207 : zret 207 = some .int := by decide +kernel
theorem d207_0 : decode (zb 207) 0 = .ok (.iload_n 0, 1) := by decide +kernel
theorem d207_1 : decode (zb 207) 1 = .ok (.iload_n 0, 1) := by decide +kernel
theorem d207_2 : decode (zb 207) 2 = .ok (.iconst 1, 1) := by decide +kernel
theorem d207_3 : decode (zb 207) 3 = .ok (.iushr, 1) := by decide +kernel
theorem d207_4 : decode (zb 207) 4 = .ok (.ldc_w 265, 3) := by decide +kernel
theorem d207_7 : decode (zb 207) 7 = .ok (.iand, 1) := by decide +kernel
theorem d207_8 : decode (zb 207) 8 = .ok (.isub, 1) := by decide +kernel
theorem d207_9 : decode (zb 207) 9 = .ok (.istore_n 0, 1) := by decide +kernel
theorem d207_10 : decode (zb 207) 10 = .ok (.iload_n 0, 1) := by decide +kernel
theorem d207_11 : decode (zb 207) 11 = .ok (.ldc_w 266, 3) := by decide +kernel
theorem d207_14 : decode (zb 207) 14 = .ok (.iand, 1) := by decide +kernel
theorem d207_15 : decode (zb 207) 15 = .ok (.iload_n 0, 1) := by decide +kernel
theorem d207_16 : decode (zb 207) 16 = .ok (.iconst 2, 1) := by decide +kernel
theorem d207_17 : decode (zb 207) 17 = .ok (.iushr, 1) := by decide +kernel
theorem d207_18 : decode (zb 207) 18 = .ok (.ldc_w 266, 3) := by decide +kernel
theorem d207_21 : decode (zb 207) 21 = .ok (.iand, 1) := by decide +kernel
theorem d207_22 : decode (zb 207) 22 = .ok (.iadd, 1) := by decide +kernel
theorem d207_23 : decode (zb 207) 23 = .ok (.istore_n 0, 1) := by decide +kernel
theorem d207_24 : decode (zb 207) 24 = .ok (.iload_n 0, 1) := by decide +kernel
theorem d207_25 : decode (zb 207) 25 = .ok (.iload_n 0, 1) := by decide +kernel
theorem d207_26 : decode (zb 207) 26 = .ok (.iconst 4, 1) := by decide +kernel
theorem d207_27 : decode (zb 207) 27 = .ok (.iushr, 1) := by decide +kernel
theorem d207_28 : decode (zb 207) 28 = .ok (.iadd, 1) := by decide +kernel
theorem d207_29 : decode (zb 207) 29 = .ok (.ldc_w 267, 3) := by decide +kernel
theorem d207_32 : decode (zb 207) 32 = .ok (.iand, 1) := by decide +kernel
theorem d207_33 : decode (zb 207) 33 = .ok (.istore_n 0, 1) := by decide +kernel
theorem d207_34 : decode (zb 207) 34 = .ok (.iload_n 0, 1) := by decide +kernel
theorem d207_35 : decode (zb 207) 35 = .ok (.iload_n 0, 1) := by decide +kernel
theorem d207_36 : decode (zb 207) 36 = .ok (.bipush 8, 2) := by decide +kernel
theorem d207_38 : decode (zb 207) 38 = .ok (.iushr, 1) := by decide +kernel
theorem d207_39 : decode (zb 207) 39 = .ok (.iadd, 1) := by decide +kernel
theorem d207_40 : decode (zb 207) 40 = .ok (.istore_n 0, 1) := by decide +kernel
theorem d207_41 : decode (zb 207) 41 = .ok (.iload_n 0, 1) := by decide +kernel
theorem d207_42 : decode (zb 207) 42 = .ok (.iload_n 0, 1) := by decide +kernel
theorem d207_43 : decode (zb 207) 43 = .ok (.bipush 16, 2) := by decide +kernel
theorem d207_45 : decode (zb 207) 45 = .ok (.iushr, 1) := by decide +kernel
theorem d207_46 : decode (zb 207) 46 = .ok (.iadd, 1) := by decide +kernel
theorem d207_47 : decode (zb 207) 47 = .ok (.istore_n 0, 1) := by decide +kernel
theorem d207_48 : decode (zb 207) 48 = .ok (.iload_n 0, 1) := by decide +kernel
theorem d207_49 : decode (zb 207) 49 = .ok (.bipush 63, 2) := by decide +kernel
theorem d207_51 : decode (zb 207) 51 = .ok (.iand, 1) := by decide +kernel
theorem d207_52 : decode (zb 207) 52 = .ok (.ireturn, 1) := by decide +kernel
theorem run207 {h : zH} {x0 : Int} : zrun 207 [vI x0] h = zX 207 0 [vI x0] [] h := rfl
theorem e207_0 {I : Nat → Int → Int} {b : Bool} {S : Nat} {x0 : Int} : zX 207 0 [vI x0] [] (I, zRs b, 103, S) = some (some (vI (w2 (· &&& ·) (wr ((wr ((w2 (· &&& ·) (wr ((wr ((w2 (· &&& ·) (wr (x0 - (w2 (· &&& ·) (w2 zusr x0 1) 1431655765))) 858993459) + (w2 (· &&& ·) (w2 zusr (wr (x0 - (w2 (· &&& ·) (w2 zusr x0 1) 1431655765))) 2) 858993459))) + (w2 zusr (wr ((w2 (· &&& ·) (wr (x0 - (w2 (· &&& ·) (w2 zusr x0 1) 1431655765))) 858993459) + (w2 (· &&& ·) (w2 zusr (wr (x0 - (w2 (· &&& ·) (w2 zusr x0 1) 1431655765))) 2) 858993459))) 4))) 252645135) + (w2 zusr (w2 (· &&& ·) (wr ((wr ((w2 (· &&& ·) (wr (x0 - (w2 (· &&& ·) (w2 zusr x0 1) 1431655765))) 858993459) + (w2 (· &&& ·) (w2 zusr (wr (x0 - (w2 (· &&& ·) (w2 zusr x0 1) 1431655765))) 2) 858993459))) + (w2 zusr (wr ((w2 (· &&& ·) (wr (x0 - (w2 (· &&& ·) (w2 zusr x0 1) 1431655765))) 858993459) + (w2 (· &&& ·) (w2 zusr (wr (x0 - (w2 (· &&& ·) (w2 zusr x0 1) 1431655765))) 2) 858993459))) 4))) 252645135) 8))) + (w2 zusr (wr ((w2 (· &&& ·) (wr ((wr ((w2 (· &&& ·) (wr (x0 - (w2 (· &&& ·) (w2 zusr x0 1) 1431655765))) 858993459) + (w2 (· &&& ·) (w2 zusr (wr (x0 - (w2 (· &&& ·) (w2 zusr x0 1) 1431655765))) 2) 858993459))) + (w2 zusr (wr ((w2 (· &&& ·) (wr (x0 - (w2 (· &&& ·) (w2 zusr x0 1) 1431655765))) 858993459) + (w2 (· &&& ·) (w2 zusr (wr (x0 - (w2 (· &&& ·) (w2 zusr x0 1) 1431655765))) 2) 858993459))) 4))) 252645135) + (w2 zusr (w2 (· &&& ·) (wr ((wr ((w2 (· &&& ·) (wr (x0 - (w2 (· &&& ·) (w2 zusr x0 1) 1431655765))) 858993459) + (w2 (· &&& ·) (w2 zusr (wr (x0 - (w2 (· &&& ·) (w2 zusr x0 1) 1431655765))) 2) 858993459))) + (w2 zusr (wr ((w2 (· &&& ·) (wr (x0 - (w2 (· &&& ·) (w2 zusr x0 1) 1431655765))) 858993459) + (w2 (· &&& ·) (w2 zusr (wr (x0 - (w2 (· &&& ·) (w2 zusr x0 1) 1431655765))) 2) 858993459))) 4))) 252645135) 8))) 16))) 63)), (I, zRs b, 103, S)) := (xIload_n d207_0 rfl).trans ((xIload_n d207_1 rfl).trans ((xIconst d207_2).trans ((xIushr d207_3).trans ((xLdcw d207_4 zo_207 zct_17_265 (by decide)).trans ((xIand d207_7).trans ((xIsub d207_8).trans ((xIstore_n d207_9 rfl rfl).trans ((xIload_n d207_10 rfl).trans ((xLdcw d207_11 zo_207 zct_17_266 (by decide)).trans ((xIand d207_14).trans ((xIload_n d207_15 rfl).trans ((xIconst d207_16).trans ((xIushr d207_17).trans ((xLdcw d207_18 zo_207 zct_17_266 (by decide)).trans ((xIand d207_21).trans ((xIadd d207_22).trans ((xIstore_n d207_23 rfl rfl).trans ((xIload_n d207_24 rfl).trans ((xIload_n d207_25 rfl).trans ((xIconst d207_26).trans ((xIushr d207_27).trans ((xIadd d207_28).trans ((xLdcw d207_29 zo_207 zct_17_267 (by decide)).trans ((xIand d207_32).trans ((xIstore_n d207_33 rfl rfl).trans ((xIload_n d207_34 rfl).trans ((xIload_n d207_35 rfl).trans ((xBipush d207_36).trans ((xIushr d207_38).trans ((xIadd d207_39).trans ((xIstore_n d207_40 rfl rfl).trans ((xIload_n d207_41 rfl).trans ((xIload_n d207_42 rfl).trans ((xBipush d207_43).trans ((xIushr d207_45).trans ((xIadd d207_46).trans ((xIstore_n d207_47 rfl rfl).trans ((xIload_n d207_48 rfl).trans ((xBipush d207_49).trans ((xIand d207_51).trans (xIret d207_52 zret_207)))))))))))))))))))))))))))))))))))))))))
theorem zo_208 : zo 208 = 16 := by decide +kernel
theorem zret_208 : zret 208 = some .int := by decide +kernel
theorem d208_0 : decode (zb 208) 0 = .ok (.iload_n 0, 1) := by decide +kernel
theorem d208_1 : decode (zb 208) 1 = .ok (.iload_n 1, 1) := by decide +kernel
theorem d208_2 : decode (zb 208) 2 = .ok (.irem, 1) := by decide +kernel
theorem d208_3 : decode (zb 208) 3 = .ok (.istore_n 2, 1) := by decide +kernel
theorem d208_4 : decode (zb 208) 4 = .ok (.iload_n 0, 1) := by decide +kernel
theorem d208_5 : decode (zb 208) 5 = .ok (.iload_n 1, 1) := by decide +kernel
theorem d208_6 : decode (zb 208) 6 = .ok (.ixor, 1) := by decide +kernel
theorem d208_7 : decode (zb 208) 7 = .ok (.ifCond .ge 11, 3) := by decide +kernel
theorem d208_10 : decode (zb 208) 10 = .ok (.iload_n 2, 1) := by decide +kernel
theorem d208_11 : decode (zb 208) 11 = .ok (.ifCond .eq 7, 3) := by decide +kernel
theorem d208_14 : decode (zb 208) 14 = .ok (.iload_n 2, 1) := by decide +kernel
theorem d208_15 : decode (zb 208) 15 = .ok (.iload_n 1, 1) := by decide +kernel
theorem d208_16 : decode (zb 208) 16 = .ok (.iadd, 1) := by decide +kernel
theorem d208_17 : decode (zb 208) 17 = .ok (.ireturn, 1) := by decide +kernel
theorem d208_18 : decode (zb 208) 18 = .ok (.iload_n 2, 1) := by decide +kernel
theorem d208_19 : decode (zb 208) 19 = .ok (.ireturn, 1) := by decide +kernel
theorem run208 {h : zH} {x0 x1 : Int} : zrun 208 [vI x0, vI x1] h = zX 208 0 [vI x0, vI x1, none] [] h := rfl
theorem e208_0 {I : Nat → Int → Int} {b : Bool} {S : Nat} {x0 x1 : Int} : zX 208 0 [vI x0, vI x1, none] [] (I, zRs b, 103, S) = if x1 = 0 then none else if 0 ≤ (w2 (· ^^^ ·) x0 x1) then some (some (vI (x0.tmod x1)), (I, zRs b, 103, S)) else if (x0.tmod x1) = 0 then some (some (vI (x0.tmod x1)), (I, zRs b, 103, S)) else some (some (vI (wr ((x0.tmod x1) + x1))), (I, zRs b, 103, S)) := (xIload_n d208_0 rfl).trans ((xIload_n d208_1 rfl).trans ((xIremG d208_2).trans (ziteC rfl ((xIstore_n d208_3 rfl rfl).trans ((xIload_n d208_4 rfl).trans ((xIload_n d208_5 rfl).trans ((xIxor d208_6).trans ((xIfGe (t := 18) d208_7 rfl).trans (ziteC ((xIload_n d208_18 rfl).trans (xIret d208_19 zret_208)) ((xIload_n d208_10 rfl).trans ((xIfEq (t := 18) d208_11 rfl).trans (ziteC ((xIload_n d208_18 rfl).trans (xIret d208_19 zret_208)) ((xIload_n d208_14 rfl).trans ((xIload_n d208_15 rfl).trans ((xIadd d208_16).trans (xIret d208_17 zret_208))))))))))))))))
theorem zo_209 : zo 209 = 16 := by decide +kernel
theorem zret_209 : zret 209 = some .int := by decide +kernel
theorem d209_0 : decode (zb 209) 0 = .ok (.iload_n 0, 1) := by decide +kernel
theorem d209_1 : decode (zb 209) 1 = .ok (.iload_n 1, 1) := by decide +kernel
theorem d209_2 : decode (zb 209) 2 = .ok (.if_icmp .gt 7, 3) := by decide +kernel
theorem d209_5 : decode (zb 209) 5 = .ok (.iload_n 0, 1) := by decide +kernel
theorem d209_6 : decode (zb 209) 6 = .ok (.goto 4, 3) := by decide +kernel
theorem d209_9 : decode (zb 209) 9 = .ok (.iload_n 1, 1) := by decide +kernel
theorem d209_10 : decode (zb 209) 10 = .ok (.ireturn, 1) := by decide +kernel
theorem run209 {h : zH} {x0 x1 : Int} : zrun 209 [vI x0, vI x1] h = zX 209 0 [vI x0, vI x1] [] h := rfl
theorem e209_0 {I : Nat → Int → Int} {b : Bool} {S : Nat} {x0 x1 : Int} : zX 209 0 [vI x0, vI x1] [] (I, zRs b, 103, S) = if x1 < x0 then some (some (vI x1), (I, zRs b, 103, S)) else some (some (vI x0), (I, zRs b, 103, S)) := (xIload_n d209_0 rfl).trans ((xIload_n d209_1 rfl).trans ((xIcmpGt (t := 9) d209_2 rfl).trans (ziteC ((xIload_n d209_9 rfl).trans (xIret d209_10 zret_209)) ((xIload_n d209_5 rfl).trans ((xGoto (t := 10) d209_6 rfl).trans (xIret d209_10 zret_209))))))
theorem zo_216 : zo 216 = 15 := by decide +kernel
theorem zret_216 : zret 216 = some .int := by decide +kernel
theorem d216_0 : decode (zb 216) 0 = .ok (.iload_n 0, 1) := by decide +kernel
theorem d216_1 : decode (zb 216) 1 = .ok (.ifCond .lt 8, 3) := by decide +kernel
theorem d216_4 : decode (zb 216) 4 = .ok (.iload_n 0, 1) := by decide +kernel
theorem d216_5 : decode (zb 216) 5 = .ok (.iload_n 1, 1) := by decide +kernel
theorem d216_6 : decode (zb 216) 6 = .ok (.if_icmp .lt 10, 3) := by decide +kernel
theorem d216_9 : decode (zb 216) 9 = .ok (.aload_n 2, 1) := by decide +kernel
theorem d216_10 : decode (zb 216) 10 = .ok (.iload_n 0, 1) := by decide +kernel
theorem d216_11 : decode (zb 216) 11 = .ok (.iload_n 1, 1) := by decide +kernel
theorem d216_12 : decode (zb 216) 12 = .ok (.invokestatic 95, 3) := by decide +kernel
theorem d216_15 : decode (zb 216) 15 = .ok (.athrow, 1) := by decide +kernel
theorem d216_16 : decode (zb 216) 16 = .ok (.iload_n 0, 1) := by decide +kernel
theorem d216_17 : decode (zb 216) 17 = .ok (.ireturn, 1) := by decide +kernel
theorem run216 {h : zH} {x0 x1 : Int} : zrun 216 [vI x0, vI x1, vR 1200] h = zX 216 0 [vI x0, vI x1, vR 1200] [] h := rfl
theorem e216_0 {I : Nat → Int → Int} {b : Bool} {S : Nat} {x0 x1 : Int} : zX 216 0 [vI x0, vI x1, vR 1200] [] (I, zRs b, 103, S) = if x0 < 0 then none else if x0 < x1 then some (some (vI x0), (I, zRs b, 103, S)) else none := (xIload_n d216_0 rfl).trans ((xIfLt (t := 9) d216_1 rfl).trans (ziteC ((xAload_n d216_9 rfl).trans ((xIload_n d216_10 rfl).trans ((xIload_n d216_11 rfl).trans (xInvNo d216_12 zo_216 (by decide +kernel) (Or.inr (Or.inl rfl)))))) ((xIload_n d216_4 rfl).trans ((xIload_n d216_5 rfl).trans ((xIcmpLt (t := 16) d216_6 rfl).trans (ziteC ((xIload_n d216_16 rfl).trans (xIret d216_17 zret_216)) ((xAload_n d216_9 rfl).trans ((xIload_n d216_10 rfl).trans ((xIload_n d216_11 rfl).trans (xInvNo d216_12 zo_216 (by decide +kernel) (Or.inr (Or.inl rfl))))))))))))
theorem zo_215 : zo 215 = 14 := by decide +kernel
theorem zret_215 : zret 215 = some .char := by decide +kernel
theorem d215_0 : decode (zb 215) 0 = .ok (.iload_n 1, 1) := by decide +kernel
theorem d215_1 : decode (zb 215) 1 = .ok (.aload_n 0, 1) := by decide +kernel
theorem d215_2 : decode (zb 215) 2 = .ok (.arraylength, 1) := by decide +kernel
theorem d215_3 : decode (zb 215) 3 = .ok (.invokestatic 9, 3) := by decide +kernel
theorem d215_6 : decode (zb 215) 6 = .ok (.aload_n 0, 1) := by decide +kernel
theorem d215_7 : decode (zb 215) 7 = .ok (.iload_n 1, 1) := by decide +kernel
theorem d215_8 : decode (zb 215) 8 = .ok (.baload, 1) := by decide +kernel
theorem d215_9 : decode (zb 215) 9 = .ok (.sipush 255, 3) := by decide +kernel
theorem d215_12 : decode (zb 215) 12 = .ok (.iand, 1) := by decide +kernel
theorem d215_13 : decode (zb 215) 13 = .ok (.i2c, 1) := by decide +kernel
theorem d215_14 : decode (zb 215) 14 = .ok (.ireturn, 1) := by decide +kernel
theorem run215_w0 {h : zH} {x1 : Int} : zrun 215 [vR 1100, vI x1] h = zX 215 0 [vR 1100, vI x1] [] h := rfl
theorem e215_0_w0 {I : Nat → Int → Int} {b : Bool} {S : Nat} {x1 : Int} : zX 215 0 [vR 1100, vI x1] [] (I, zRs b, 103, S) = (zrun 214 [vI x1, vI 2] (I, zRs b, 103, S)).bind (fun q => zX 215 6 [vR 1100, vI x1] (zpush q.1 []) q.2) := (xIload_n d215_0 rfl).trans ((xAload_n d215_1 rfl).trans ((xAlen (N := 2) d215_2 (by decide) (Or.inr (Nat.le_of_ble_eq_true rfl)) rfl (by decide)).trans (xInvS [vI x1, vI 2] [] d215_3 zo_215 zml_14_9 rfl rfl)))
theorem e215_6_w0 {I : Nat → Int → Int} {b : Bool} {S : Nat} {a1 : Int} : zX 215 6 [vR 1100, vI a1] [] (I, zRs b, 103, S) = if 0 ≤ a1 ∧ a1 < 2 then if 0 ≤ (wc (w2 (· &&& ·) (I 1100 a1) 255)) ∧ (wc (w2 (· &&& ·) (I 1100 a1) 255)) < 65536 then some (some (vI (wc (w2 (· &&& ·) (I 1100 a1) 255))), (I, zRs b, 103, S)) else none else none := (xAload_n d215_6 rfl).trans ((xIload_n d215_7 rfl).trans ((xBald (N := 2) (I 1100 a1) rfl d215_8 (Or.inl rfl) (Or.inr (Nat.le_of_ble_eq_true rfl)) rfl).trans (ziteC ((xSipush d215_9).trans ((xIand d215_12).trans ((xI2c d215_13).trans (xCretG d215_14 zret_215)))) rfl)))
theorem run215_w1 {h : zH} {x1 : Int} : zrun 215 [vR 1101, vI x1] h = zX 215 0 [vR 1101, vI x1] [] h := rfl
theorem e215_0_w1 {I : Nat → Int → Int} {b : Bool} {S : Nat} {x1 : Int} : zX 215 0 [vR 1101, vI x1] [] (I, zRs b, 103, S) = (zrun 214 [vI x1, vI 3] (I, zRs b, 103, S)).bind (fun q => zX 215 6 [vR 1101, vI x1] (zpush q.1 []) q.2) := (xIload_n d215_0 rfl).trans ((xAload_n d215_1 rfl).trans ((xAlen (N := 3) d215_2 (by decide) (Or.inr (Nat.le_of_ble_eq_true rfl)) rfl (by decide)).trans (xInvS [vI x1, vI 3] [] d215_3 zo_215 zml_14_9 rfl rfl)))
theorem e215_6_w1 {I : Nat → Int → Int} {b : Bool} {S : Nat} {a1 : Int} : zX 215 6 [vR 1101, vI a1] [] (I, zRs b, 103, S) = if 0 ≤ a1 ∧ a1 < 3 then if 0 ≤ (wc (w2 (· &&& ·) (I 1101 a1) 255)) ∧ (wc (w2 (· &&& ·) (I 1101 a1) 255)) < 65536 then some (some (vI (wc (w2 (· &&& ·) (I 1101 a1) 255))), (I, zRs b, 103, S)) else none else none := (xAload_n d215_6 rfl).trans ((xIload_n d215_7 rfl).trans ((xBald (N := 3) (I 1101 a1) rfl d215_8 (Or.inl rfl) (Or.inr (Nat.le_of_ble_eq_true rfl)) rfl).trans (ziteC ((xSipush d215_9).trans ((xIand d215_12).trans ((xI2c d215_13).trans (xCretG d215_14 zret_215)))) rfl)))
theorem run215_w2 {h : zH} {x1 : Int} : zrun 215 [vR 1102, vI x1] h = zX 215 0 [vR 1102, vI x1] [] h := rfl
theorem e215_0_w2 {I : Nat → Int → Int} {b : Bool} {S : Nat} {x1 : Int} : zX 215 0 [vR 1102, vI x1] [] (I, zRs b, 103, S) = (zrun 214 [vI x1, vI 4] (I, zRs b, 103, S)).bind (fun q => zX 215 6 [vR 1102, vI x1] (zpush q.1 []) q.2) := (xIload_n d215_0 rfl).trans ((xAload_n d215_1 rfl).trans ((xAlen (N := 4) d215_2 (by decide) (Or.inr (Nat.le_of_ble_eq_true rfl)) rfl (by decide)).trans (xInvS [vI x1, vI 4] [] d215_3 zo_215 zml_14_9 rfl rfl)))
theorem e215_6_w2 {I : Nat → Int → Int} {b : Bool} {S : Nat} {a1 : Int} : zX 215 6 [vR 1102, vI a1] [] (I, zRs b, 103, S) = if 0 ≤ a1 ∧ a1 < 4 then if 0 ≤ (wc (w2 (· &&& ·) (I 1102 a1) 255)) ∧ (wc (w2 (· &&& ·) (I 1102 a1) 255)) < 65536 then some (some (vI (wc (w2 (· &&& ·) (I 1102 a1) 255))), (I, zRs b, 103, S)) else none else none := (xAload_n d215_6 rfl).trans ((xIload_n d215_7 rfl).trans ((xBald (N := 4) (I 1102 a1) rfl d215_8 (Or.inl rfl) (Or.inr (Nat.le_of_ble_eq_true rfl)) rfl).trans (ziteC ((xSipush d215_9).trans ((xIand d215_12).trans ((xI2c d215_13).trans (xCretG d215_14 zret_215)))) rfl)))
theorem run215_w3 {h : zH} {x1 : Int} : zrun 215 [vR 1103, vI x1] h = zX 215 0 [vR 1103, vI x1] [] h := rfl
theorem e215_0_w3 {I : Nat → Int → Int} {b : Bool} {S : Nat} {x1 : Int} : zX 215 0 [vR 1103, vI x1] [] (I, zRs b, 103, S) = (zrun 214 [vI x1, vI 4] (I, zRs b, 103, S)).bind (fun q => zX 215 6 [vR 1103, vI x1] (zpush q.1 []) q.2) := (xIload_n d215_0 rfl).trans ((xAload_n d215_1 rfl).trans ((xAlen (N := 4) d215_2 (by decide) (Or.inr (Nat.le_of_ble_eq_true rfl)) rfl (by decide)).trans (xInvS [vI x1, vI 4] [] d215_3 zo_215 zml_14_9 rfl rfl)))
theorem e215_6_w3 {I : Nat → Int → Int} {b : Bool} {S : Nat} {a1 : Int} : zX 215 6 [vR 1103, vI a1] [] (I, zRs b, 103, S) = if 0 ≤ a1 ∧ a1 < 4 then if 0 ≤ (wc (w2 (· &&& ·) (I 1103 a1) 255)) ∧ (wc (w2 (· &&& ·) (I 1103 a1) 255)) < 65536 then some (some (vI (wc (w2 (· &&& ·) (I 1103 a1) 255))), (I, zRs b, 103, S)) else none else none := (xAload_n d215_6 rfl).trans ((xIload_n d215_7 rfl).trans ((xBald (N := 4) (I 1103 a1) rfl d215_8 (Or.inl rfl) (Or.inr (Nat.le_of_ble_eq_true rfl)) rfl).trans (ziteC ((xSipush d215_9).trans ((xIand d215_12).trans ((xI2c d215_13).trans (xCretG d215_14 zret_215)))) rfl)))
theorem run215_w4 {h : zH} {x1 : Int} : zrun 215 [vR 1104, vI x1] h = zX 215 0 [vR 1104, vI x1] [] h := rfl
theorem e215_0_w4 {I : Nat → Int → Int} {b : Bool} {S : Nat} {x1 : Int} : zX 215 0 [vR 1104, vI x1] [] (I, zRs b, 103, S) = (zrun 214 [vI x1, vI 4] (I, zRs b, 103, S)).bind (fun q => zX 215 6 [vR 1104, vI x1] (zpush q.1 []) q.2) := (xIload_n d215_0 rfl).trans ((xAload_n d215_1 rfl).trans ((xAlen (N := 4) d215_2 (by decide) (Or.inr (Nat.le_of_ble_eq_true rfl)) rfl (by decide)).trans (xInvS [vI x1, vI 4] [] d215_3 zo_215 zml_14_9 rfl rfl)))
theorem e215_6_w4 {I : Nat → Int → Int} {b : Bool} {S : Nat} {a1 : Int} : zX 215 6 [vR 1104, vI a1] [] (I, zRs b, 103, S) = if 0 ≤ a1 ∧ a1 < 4 then if 0 ≤ (wc (w2 (· &&& ·) (I 1104 a1) 255)) ∧ (wc (w2 (· &&& ·) (I 1104 a1) 255)) < 65536 then some (some (vI (wc (w2 (· &&& ·) (I 1104 a1) 255))), (I, zRs b, 103, S)) else none else none := (xAload_n d215_6 rfl).trans ((xIload_n d215_7 rfl).trans ((xBald (N := 4) (I 1104 a1) rfl d215_8 (Or.inl rfl) (Or.inr (Nat.le_of_ble_eq_true rfl)) rfl).trans (ziteC ((xSipush d215_9).trans ((xIand d215_12).trans ((xI2c d215_13).trans (xCretG d215_14 zret_215)))) rfl)))
theorem run215_w5 {h : zH} {x1 : Int} : zrun 215 [vR 1105, vI x1] h = zX 215 0 [vR 1105, vI x1] [] h := rfl
theorem e215_0_w5 {I : Nat → Int → Int} {b : Bool} {S : Nat} {x1 : Int} : zX 215 0 [vR 1105, vI x1] [] (I, zRs b, 103, S) = (zrun 214 [vI x1, vI 5] (I, zRs b, 103, S)).bind (fun q => zX 215 6 [vR 1105, vI x1] (zpush q.1 []) q.2) := (xIload_n d215_0 rfl).trans ((xAload_n d215_1 rfl).trans ((xAlen (N := 5) d215_2 (by decide) (Or.inr (Nat.le_of_ble_eq_true rfl)) rfl (by decide)).trans (xInvS [vI x1, vI 5] [] d215_3 zo_215 zml_14_9 rfl rfl)))
theorem e215_6_w5 {I : Nat → Int → Int} {b : Bool} {S : Nat} {a1 : Int} : zX 215 6 [vR 1105, vI a1] [] (I, zRs b, 103, S) = if 0 ≤ a1 ∧ a1 < 5 then if 0 ≤ (wc (w2 (· &&& ·) (I 1105 a1) 255)) ∧ (wc (w2 (· &&& ·) (I 1105 a1) 255)) < 65536 then some (some (vI (wc (w2 (· &&& ·) (I 1105 a1) 255))), (I, zRs b, 103, S)) else none else none := (xAload_n d215_6 rfl).trans ((xIload_n d215_7 rfl).trans ((xBald (N := 5) (I 1105 a1) rfl d215_8 (Or.inl rfl) (Or.inr (Nat.le_of_ble_eq_true rfl)) rfl).trans (ziteC ((xSipush d215_9).trans ((xIand d215_12).trans ((xI2c d215_13).trans (xCretG d215_14 zret_215)))) rfl)))
theorem zo_210 : zo 210 = 13 := by decide +kernel
theorem zret_210 : zret 210 = some .int := by decide +kernel
theorem d210_0 : decode (zb 210) 0 = .ok (.aload_n 0, 1) := by decide +kernel
theorem d210_1 : decode (zb 210) 1 = .ok (.getfield 9, 3) := by decide +kernel
theorem d210_4 : decode (zb 210) 4 = .ok (.arraylength, 1) := by decide +kernel
theorem d210_5 : decode (zb 210) 5 = .ok (.aload_n 0, 1) := by decide +kernel
theorem d210_6 : decode (zb 210) 6 = .ok (.invokevirtual 335, 3) := by decide +kernel
theorem d210_9 : decode (zb 210) 9 = .ok (.ishr, 1) := by decide +kernel
theorem d210_10 : decode (zb 210) 10 = .ok (.ireturn, 1) := by decide +kernel
theorem run210_w0 {h : zH} : zrun 210 [vR 1000] h = zX 210 0 [vR 1000] [] h := rfl
theorem e210_0_w0 {I : Nat → Int → Int} {b : Bool} {S : Nat} : zX 210 0 [vR 1000] [] (I, zRs b, 103, S) = (zrun 212 [vR 1000] (I, zRs b, 103, S)).bind (fun q => zX 210 9 [vR 1000] (zpush q.1 [vI 2]) q.2) := (xAload_n d210_0 rfl).trans ((xGetR 0 1100 d210_1 zo_210 zfl_13_9 rfl rfl rfl (Or.inr (Nat.le_of_ble_eq_true rfl))).trans ((xAlen (N := 2) d210_4 (by decide) (Or.inr (Nat.le_of_ble_eq_true rfl)) rfl (by decide)).trans ((xAload_n d210_5 rfl).trans (xInvV [vR 1000] [vI 2] d210_6 zo_210 zml_13_335 rfl rfl rfl (Or.inr ⟨rfl, rfl⟩)))))
theorem e210_9_w0 {I : Nat → Int → Int} {b : Bool} {S : Nat} {t0 t1 : Int} : zX 210 9 [vR 1000] [vI t1, vI t0] (I, zRs b, 103, S) = some (some (vI (w2 (fun a b => a >>> (b &&& 31)) t0 t1)), (I, zRs b, 103, S)) := (xIshr d210_9).trans (xIret d210_10 zret_210)
theorem run210_w1 {h : zH} : zrun 210 [vR 1001] h = zX 210 0 [vR 1001] [] h := rfl
theorem e210_0_w1 {I : Nat → Int → Int} {b : Bool} {S : Nat} : zX 210 0 [vR 1001] [] (I, zRs b, 103, S) = (zrun 212 [vR 1001] (I, zRs b, 103, S)).bind (fun q => zX 210 9 [vR 1001] (zpush q.1 [vI 3]) q.2) := (xAload_n d210_0 rfl).trans ((xGetR 0 1101 d210_1 zo_210 zfl_13_9 rfl rfl rfl (Or.inr (Nat.le_of_ble_eq_true rfl))).trans ((xAlen (N := 3) d210_4 (by decide) (Or.inr (Nat.le_of_ble_eq_true rfl)) rfl (by decide)).trans ((xAload_n d210_5 rfl).trans (xInvV [vR 1001] [vI 3] d210_6 zo_210 zml_13_335 rfl rfl rfl (Or.inr ⟨rfl, rfl⟩)))))
theorem e210_9_w1 {I : Nat → Int → Int} {b : Bool} {S : Nat} {t0 t1 : Int} : zX 210 9 [vR 1001] [vI t1, vI t0] (I, zRs b, 103, S) = some (some (vI (w2 (fun a b => a >>> (b &&& 31)) t0 t1)), (I, zRs b, 103, S)) := (xIshr d210_9).trans (xIret d210_10 zret_210)
theorem run210_w2 {h : zH} : zrun 210 [vR 1002] h = zX 210 0 [vR 1002] [] h := rfl
theorem e210_0_w2 {I : Nat → Int → Int} {b : Bool} {S : Nat} : zX 210 0 [vR 1002] [] (I, zRs b, 103, S) = (zrun 212 [vR 1002] (I, zRs b, 103, S)).bind (fun q => zX 210 9 [vR 1002] (zpush q.1 [vI 4]) q.2) := (xAload_n d210_0 rfl).trans ((xGetR 0 1102 d210_1 zo_210 zfl_13_9 rfl rfl rfl (Or.inr (Nat.le_of_ble_eq_true rfl))).trans ((xAlen (N := 4) d210_4 (by decide) (Or.inr (Nat.le_of_ble_eq_true rfl)) rfl (by decide)).trans ((xAload_n d210_5 rfl).trans (xInvV [vR 1002] [vI 4] d210_6 zo_210 zml_13_335 rfl rfl rfl (Or.inr ⟨rfl, rfl⟩)))))
theorem e210_9_w2 {I : Nat → Int → Int} {b : Bool} {S : Nat} {t0 t1 : Int} : zX 210 9 [vR 1002] [vI t1, vI t0] (I, zRs b, 103, S) = some (some (vI (w2 (fun a b => a >>> (b &&& 31)) t0 t1)), (I, zRs b, 103, S)) := (xIshr d210_9).trans (xIret d210_10 zret_210)
theorem run210_w3 {h : zH} : zrun 210 [vR 1003] h = zX 210 0 [vR 1003] [] h := rfl
theorem e210_0_w3 {I : Nat → Int → Int} {b : Bool} {S : Nat} : zX 210 0 [vR 1003] [] (I, zRs b, 103, S) = (zrun 212 [vR 1003] (I, zRs b, 103, S)).bind (fun q => zX 210 9 [vR 1003] (zpush q.1 [vI 4]) q.2) := (xAload_n d210_0 rfl).trans ((xGetR 0 1103 d210_1 zo_210 zfl_13_9 rfl rfl rfl (Or.inr (Nat.le_of_ble_eq_true rfl))).trans ((xAlen (N := 4) d210_4 (by decide) (Or.inr (Nat.le_of_ble_eq_true rfl)) rfl (by decide)).trans ((xAload_n d210_5 rfl).trans (xInvV [vR 1003] [vI 4] d210_6 zo_210 zml_13_335 rfl rfl rfl (Or.inr ⟨rfl, rfl⟩)))))
theorem e210_9_w3 {I : Nat → Int → Int} {b : Bool} {S : Nat} {t0 t1 : Int} : zX 210 9 [vR 1003] [vI t1, vI t0] (I, zRs b, 103, S) = some (some (vI (w2 (fun a b => a >>> (b &&& 31)) t0 t1)), (I, zRs b, 103, S)) := (xIshr d210_9).trans (xIret d210_10 zret_210)
theorem run210_w4 {h : zH} : zrun 210 [vR 1004] h = zX 210 0 [vR 1004] [] h := rfl
theorem e210_0_w4 {I : Nat → Int → Int} {b : Bool} {S : Nat} : zX 210 0 [vR 1004] [] (I, zRs b, 103, S) = (zrun 212 [vR 1004] (I, zRs b, 103, S)).bind (fun q => zX 210 9 [vR 1004] (zpush q.1 [vI 4]) q.2) := (xAload_n d210_0 rfl).trans ((xGetR 0 1104 d210_1 zo_210 zfl_13_9 rfl rfl rfl (Or.inr (Nat.le_of_ble_eq_true rfl))).trans ((xAlen (N := 4) d210_4 (by decide) (Or.inr (Nat.le_of_ble_eq_true rfl)) rfl (by decide)).trans ((xAload_n d210_5 rfl).trans (xInvV [vR 1004] [vI 4] d210_6 zo_210 zml_13_335 rfl rfl rfl (Or.inr ⟨rfl, rfl⟩)))))
theorem e210_9_w4 {I : Nat → Int → Int} {b : Bool} {S : Nat} {t0 t1 : Int} : zX 210 9 [vR 1004] [vI t1, vI t0] (I, zRs b, 103, S) = some (some (vI (w2 (fun a b => a >>> (b &&& 31)) t0 t1)), (I, zRs b, 103, S)) := (xIshr d210_9).trans (xIret d210_10 zret_210)
theorem run210_w5 {h : zH} : zrun 210 [vR 1005] h = zX 210 0 [vR 1005] [] h := rfl
theorem e210_0_w5 {I : Nat → Int → Int} {b : Bool} {S : Nat} : zX 210 0 [vR 1005] [] (I, zRs b, 103, S) = (zrun 212 [vR 1005] (I, zRs b, 103, S)).bind (fun q => zX 210 9 [vR 1005] (zpush q.1 [vI 5]) q.2) := (xAload_n d210_0 rfl).trans ((xGetR 0 1105 d210_1 zo_210 zfl_13_9 rfl rfl rfl (Or.inr (Nat.le_of_ble_eq_true rfl))).trans ((xAlen (N := 5) d210_4 (by decide) (Or.inr (Nat.le_of_ble_eq_true rfl)) rfl (by decide)).trans ((xAload_n d210_5 rfl).trans (xInvV [vR 1005] [vI 5] d210_6 zo_210 zml_13_335 rfl rfl rfl (Or.inr ⟨rfl, rfl⟩)))))
theorem e210_9_w5 {I : Nat → Int → Int} {b : Bool} {S : Nat} {t0 t1 : Int} : zX 210 9 [vR 1005] [vI t1, vI t0] (I, zRs b, 103, S) = some (some (vI (w2 (fun a b => a >>> (b &&& 31)) t0 t1)), (I, zRs b, 103, S)) := (xIshr d210_9).trans (xIret d210_10 zret_210)
theorem zo_211 : zo 211 = 13 := by decide +kernel
theorem zret_211 : zret 211 = some .char := by decide +kernel
theorem d211_0 : decode (zb 211) 0 = .ok (.aload_n 0, 1) := by decide +kernel
theorem d211_1 : decode (zb 211) 1 = .ok (.invokevirtual 492, 3) := by decide +kernel
theorem d211_4 : decode (zb 211) 4 = .ok (.ifCond .eq 12, 3) := by decide +kernel
theorem d211_7 : decode (zb 211) 7 = .ok (.aload_n 0, 1) := by decide +kernel
theorem d211_8 : decode (zb 211) 8 = .ok (.getfield 9, 3) := by decide +kernel
theorem d211_11 : decode (zb 211) 11 = .ok (.iload_n 1, 1) := by decide +kernel
theorem d211_12 : decode (zb 211) 12 = .ok (.invokestatic 495, 3) := by decide +kernel
theorem d211_15 : decode (zb 211) 15 = .ok (.ireturn, 1) := by decide +kernel
theorem d211_16 : decode (zb 211) 16 = .ok (.aload_n 0, 1) := by decide +kernel
theorem d211_17 : decode (zb 211) 17 = .ok (.getfield 9, 3) := by decide +kernel
theorem d211_20 : decode (zb 211) 20 = .ok (.iload_n 1, 1) := by decide +kernel
theorem d211_21 : decode (zb 211) 21 = .ok (.invokestatic 498, 3) := by decide +kernel
theorem d211_24 : decode (zb 211) 24 = .ok (.ireturn, 1) := by decide +kernel
theorem run211_w0 {h : zH} {x0 : Int} : zrun 211 [vR 1000, vI x0] h = zX 211 0 [vR 1000, vI x0] [] h := rfl
theorem e211_0_w0 {I : Nat → Int → Int} {b : Bool} {S : Nat} {x0 : Int} : zX 211 0 [vR 1000, vI x0] [] (I, zRs b, 103, S) = (zrun 213 [vR 1000] (I, zRs b, 103, S)).bind (fun q => zX 211 4 [vR 1000, vI x0] (zpush q.1 []) q.2) := (xAload_n d211_0 rfl).trans (xInvV [vR 1000] [] d211_1 zo_211 zml_13_492 rfl rfl rfl (Or.inr ⟨rfl, rfl⟩))
theorem e211_4_w0 {I : Nat → Int → Int} {b : Bool} {S : Nat} {a1 t0 : Int} : zX 211 4 [vR 1000, vI a1] [vI t0] (I, zRs b, 103, S) = if t0 = 0 then none else (zrun 215 [vR 1100, vI a1] (I, zRs b, 103, S)).bind (fun q => zX 211 15 [vR 1000, vI a1] (zpush q.1 []) q.2) := (xIfEq (t := 16) d211_4 rfl).trans (ziteC ((xAload_n d211_16 rfl).trans ((xGetR 0 1100 d211_17 zo_211 zfl_13_9 rfl rfl rfl (Or.inr (Nat.le_of_ble_eq_true rfl))).trans ((xIload_n d211_20 rfl).trans (xInvNo d211_21 zo_211 (by decide +kernel) (Or.inr (Or.inl rfl)))))) ((xAload_n d211_7 rfl).trans ((xGetR 0 1100 d211_8 zo_211 zfl_13_9 rfl rfl rfl (Or.inr (Nat.le_of_ble_eq_true rfl))).trans ((xIload_n d211_11 rfl).trans (xInvS [vR 1100, vI a1] [] d211_12 zo_211 zml_13_495 rfl rfl)))))
theorem e211_15_w0 {I : Nat → Int → Int} {b : Bool} {S : Nat} {a1 t0 : Int} : zX 211 15 [vR 1000, vI a1] [vI t0] (I, zRs b, 103, S) = if 0 ≤ t0 ∧ t0 < 65536 then some (some (vI t0), (I, zRs b, 103, S)) else none := xCretG d211_15 zret_211
theorem run211_w1 {h : zH} {x0 : Int} : zrun 211 [vR 1001, vI x0] h = zX 211 0 [vR 1001, vI x0] [] h := rfl
theorem e211_0_w1 {I : Nat → Int → Int} {b : Bool} {S : Nat} {x0 : Int} : zX 211 0 [vR 1001, vI x0] [] (I, zRs b, 103, S) = (zrun 213 [vR 1001] (I, zRs b, 103, S)).bind (fun q => zX 211 4 [vR 1001, vI x0] (zpush q.1 []) q.2) := (xAload_n d211_0 rfl).trans (xInvV [vR 1001] [] d211_1 zo_211 zml_13_492 rfl rfl rfl (Or.inr ⟨rfl, rfl⟩))
theorem e211_4_w1 {I : Nat → Int → Int} {b : Bool} {S : Nat} {a1 t0 : Int} : zX 211 4 [vR 1001, vI a1] [vI t0] (I, zRs b, 103, S) = if t0 = 0 then none else (zrun 215 [vR 1101, vI a1] (I, zRs b, 103, S)).bind (fun q => zX 211 15 [vR 1001, vI a1] (zpush q.1 []) q.2) := (xIfEq (t := 16) d211_4 rfl).trans (ziteC ((xAload_n d211_16 rfl).trans ((xGetR 0 1101 d211_17 zo_211 zfl_13_9 rfl rfl rfl (Or.inr (Nat.le_of_ble_eq_true rfl))).trans ((xIload_n d211_20 rfl).trans (xInvNo d211_21 zo_211 (by decide +kernel) (Or.inr (Or.inl rfl)))))) ((xAload_n d211_7 rfl).trans ((xGetR 0 1101 d211_8 zo_211 zfl_13_9 rfl rfl rfl (Or.inr (Nat.le_of_ble_eq_true rfl))).trans ((xIload_n d211_11 rfl).trans (xInvS [vR 1101, vI a1] [] d211_12 zo_211 zml_13_495 rfl rfl)))))
theorem e211_15_w1 {I : Nat → Int → Int} {b : Bool} {S : Nat} {a1 t0 : Int} : zX 211 15 [vR 1001, vI a1] [vI t0] (I, zRs b, 103, S) = if 0 ≤ t0 ∧ t0 < 65536 then some (some (vI t0), (I, zRs b, 103, S)) else none := xCretG d211_15 zret_211
theorem run211_w2 {h : zH} {x0 : Int} : zrun 211 [vR 1002, vI x0] h = zX 211 0 [vR 1002, vI x0] [] h := rfl
theorem e211_0_w2 {I : Nat → Int → Int} {b : Bool} {S : Nat} {x0 : Int} : zX 211 0 [vR 1002, vI x0] [] (I, zRs b, 103, S) = (zrun 213 [vR 1002] (I, zRs b, 103, S)).bind (fun q => zX 211 4 [vR 1002, vI x0] (zpush q.1 []) q.2) := (xAload_n d211_0 rfl).trans (xInvV [vR 1002] [] d211_1 zo_211 zml_13_492 rfl rfl rfl (Or.inr ⟨rfl, rfl⟩))
theorem e211_4_w2 {I : Nat → Int → Int} {b : Bool} {S : Nat} {a1 t0 : Int} : zX 211 4 [vR 1002, vI a1] [vI t0] (I, zRs b, 103, S) = if t0 = 0 then none else (zrun 215 [vR 1102, vI a1] (I, zRs b, 103, S)).bind (fun q => zX 211 15 [vR 1002, vI a1] (zpush q.1 []) q.2) := (xIfEq (t := 16) d211_4 rfl).trans (ziteC ((xAload_n d211_16 rfl).trans ((xGetR 0 1102 d211_17 zo_211 zfl_13_9 rfl rfl rfl (Or.inr (Nat.le_of_ble_eq_true rfl))).trans ((xIload_n d211_20 rfl).trans (xInvNo d211_21 zo_211 (by decide +kernel) (Or.inr (Or.inl rfl)))))) ((xAload_n d211_7 rfl).trans ((xGetR 0 1102 d211_8 zo_211 zfl_13_9 rfl rfl rfl (Or.inr (Nat.le_of_ble_eq_true rfl))).trans ((xIload_n d211_11 rfl).trans (xInvS [vR 1102, vI a1] [] d211_12 zo_211 zml_13_495 rfl rfl)))))
theorem e211_15_w2 {I : Nat → Int → Int} {b : Bool} {S : Nat} {a1 t0 : Int} : zX 211 15 [vR 1002, vI a1] [vI t0] (I, zRs b, 103, S) = if 0 ≤ t0 ∧ t0 < 65536 then some (some (vI t0), (I, zRs b, 103, S)) else none := xCretG d211_15 zret_211
theorem run211_w3 {h : zH} {x0 : Int} : zrun 211 [vR 1003, vI x0] h = zX 211 0 [vR 1003, vI x0] [] h := rfl
theorem e211_0_w3 {I : Nat → Int → Int} {b : Bool} {S : Nat} {x0 : Int} : zX 211 0 [vR 1003, vI x0] [] (I, zRs b, 103, S) = (zrun 213 [vR 1003] (I, zRs b, 103, S)).bind (fun q => zX 211 4 [vR 1003, vI x0] (zpush q.1 []) q.2) := (xAload_n d211_0 rfl).trans (xInvV [vR 1003] [] d211_1 zo_211 zml_13_492 rfl rfl rfl (Or.inr ⟨rfl, rfl⟩))
theorem e211_4_w3 {I : Nat → Int → Int} {b : Bool} {S : Nat} {a1 t0 : Int} : zX 211 4 [vR 1003, vI a1] [vI t0] (I, zRs b, 103, S) = if t0 = 0 then none else (zrun 215 [vR 1103, vI a1] (I, zRs b, 103, S)).bind (fun q => zX 211 15 [vR 1003, vI a1] (zpush q.1 []) q.2) := (xIfEq (t := 16) d211_4 rfl).trans (ziteC ((xAload_n d211_16 rfl).trans ((xGetR 0 1103 d211_17 zo_211 zfl_13_9 rfl rfl rfl (Or.inr (Nat.le_of_ble_eq_true rfl))).trans ((xIload_n d211_20 rfl).trans (xInvNo d211_21 zo_211 (by decide +kernel) (Or.inr (Or.inl rfl)))))) ((xAload_n d211_7 rfl).trans ((xGetR 0 1103 d211_8 zo_211 zfl_13_9 rfl rfl rfl (Or.inr (Nat.le_of_ble_eq_true rfl))).trans ((xIload_n d211_11 rfl).trans (xInvS [vR 1103, vI a1] [] d211_12 zo_211 zml_13_495 rfl rfl)))))
theorem e211_15_w3 {I : Nat → Int → Int} {b : Bool} {S : Nat} {a1 t0 : Int} : zX 211 15 [vR 1003, vI a1] [vI t0] (I, zRs b, 103, S) = if 0 ≤ t0 ∧ t0 < 65536 then some (some (vI t0), (I, zRs b, 103, S)) else none := xCretG d211_15 zret_211
theorem run211_w4 {h : zH} {x0 : Int} : zrun 211 [vR 1004, vI x0] h = zX 211 0 [vR 1004, vI x0] [] h := rfl
theorem e211_0_w4 {I : Nat → Int → Int} {b : Bool} {S : Nat} {x0 : Int} : zX 211 0 [vR 1004, vI x0] [] (I, zRs b, 103, S) = (zrun 213 [vR 1004] (I, zRs b, 103, S)).bind (fun q => zX 211 4 [vR 1004, vI x0] (zpush q.1 []) q.2) := (xAload_n d211_0 rfl).trans (xInvV [vR 1004] [] d211_1 zo_211 zml_13_492 rfl rfl rfl (Or.inr ⟨rfl, rfl⟩))
theorem e211_4_w4 {I : Nat → Int → Int} {b : Bool} {S : Nat} {a1 t0 : Int} : zX 211 4 [vR 1004, vI a1] [vI t0] (I, zRs b, 103, S) = if t0 = 0 then none else (zrun 215 [vR 1104, vI a1] (I, zRs b, 103, S)).bind (fun q => zX 211 15 [vR 1004, vI a1] (zpush q.1 []) q.2) := (xIfEq (t := 16) d211_4 rfl).trans (ziteC ((xAload_n d211_16 rfl).trans ((xGetR 0 1104 d211_17 zo_211 zfl_13_9 rfl rfl rfl (Or.inr (Nat.le_of_ble_eq_true rfl))).trans ((xIload_n d211_20 rfl).trans (xInvNo d211_21 zo_211 (by decide +kernel) (Or.inr (Or.inl rfl)))))) ((xAload_n d211_7 rfl).trans ((xGetR 0 1104 d211_8 zo_211 zfl_13_9 rfl rfl rfl (Or.inr (Nat.le_of_ble_eq_true rfl))).trans ((xIload_n d211_11 rfl).trans (xInvS [vR 1104, vI a1] [] d211_12 zo_211 zml_13_495 rfl rfl)))))
theorem e211_15_w4 {I : Nat → Int → Int} {b : Bool} {S : Nat} {a1 t0 : Int} : zX 211 15 [vR 1004, vI a1] [vI t0] (I, zRs b, 103, S) = if 0 ≤ t0 ∧ t0 < 65536 then some (some (vI t0), (I, zRs b, 103, S)) else none := xCretG d211_15 zret_211
theorem run211_w5 {h : zH} {x0 : Int} : zrun 211 [vR 1005, vI x0] h = zX 211 0 [vR 1005, vI x0] [] h := rfl
theorem e211_0_w5 {I : Nat → Int → Int} {b : Bool} {S : Nat} {x0 : Int} : zX 211 0 [vR 1005, vI x0] [] (I, zRs b, 103, S) = (zrun 213 [vR 1005] (I, zRs b, 103, S)).bind (fun q => zX 211 4 [vR 1005, vI x0] (zpush q.1 []) q.2) := (xAload_n d211_0 rfl).trans (xInvV [vR 1005] [] d211_1 zo_211 zml_13_492 rfl rfl rfl (Or.inr ⟨rfl, rfl⟩))
theorem e211_4_w5 {I : Nat → Int → Int} {b : Bool} {S : Nat} {a1 t0 : Int} : zX 211 4 [vR 1005, vI a1] [vI t0] (I, zRs b, 103, S) = if t0 = 0 then none else (zrun 215 [vR 1105, vI a1] (I, zRs b, 103, S)).bind (fun q => zX 211 15 [vR 1005, vI a1] (zpush q.1 []) q.2) := (xIfEq (t := 16) d211_4 rfl).trans (ziteC ((xAload_n d211_16 rfl).trans ((xGetR 0 1105 d211_17 zo_211 zfl_13_9 rfl rfl rfl (Or.inr (Nat.le_of_ble_eq_true rfl))).trans ((xIload_n d211_20 rfl).trans (xInvNo d211_21 zo_211 (by decide +kernel) (Or.inr (Or.inl rfl)))))) ((xAload_n d211_7 rfl).trans ((xGetR 0 1105 d211_8 zo_211 zfl_13_9 rfl rfl rfl (Or.inr (Nat.le_of_ble_eq_true rfl))).trans ((xIload_n d211_11 rfl).trans (xInvS [vR 1105, vI a1] [] d211_12 zo_211 zml_13_495 rfl rfl)))))
theorem e211_15_w5 {I : Nat → Int → Int} {b : Bool} {S : Nat} {a1 t0 : Int} : zX 211 15 [vR 1005, vI a1] [vI t0] (I, zRs b, 103, S) = if 0 ≤ t0 ∧ t0 < 65536 then some (some (vI t0), (I, zRs b, 103, S)) else none := xCretG d211_15 zret_211
theorem zo_212 : zo 212 = 13 := by decide +kernel
theorem zret_212 : zret 212 = some .byte := by decide +kernel
theorem d212_0 : decode (zb 212) 0 = .ok (.getstatic 38, 3) := by decide +kernel
theorem d212_3 : decode (zb 212) 3 = .ok (.ifCond .eq 10, 3) := by decide +kernel
theorem d212_6 : decode (zb 212) 6 = .ok (.aload_n 0, 1) := by decide +kernel
theorem d212_7 : decode (zb 212) 7 = .ok (.getfield 15, 3) := by decide +kernel
theorem d212_10 : decode (zb 212) 10 = .ok (.goto 4, 3) := by decide +kernel
theorem d212_13 : decode (zb 212) 13 = .ok (.iconst 1, 1) := by decide +kernel
theorem d212_14 : decode (zb 212) 14 = .ok (.ireturn, 1) := by decide +kernel
theorem run212_w0 {h : zH} : zrun 212 [vR 1000] h = zX 212 0 [vR 1000] [] h := rfl
theorem e212_0_w0 {I : Nat → Int → Int} {b : Bool} {S : Nat} : zX 212 0 [vR 1000] [] (I, zRs b, 103, S) = if -128 ≤ (I 1000 1) ∧ (I 1000 1) < 128 then some (some (vI (I 1000 1)), (I, zRs b, 103, S)) else none := (xGetstI d212_0 zo_212 zgs_13_38).trans ((xIfEq (t := 13) d212_3 rfl).trans ((if_neg (by decide)).trans ((xAload_n d212_6 rfl).trans ((xGetI 1 (I 1000 1) rfl d212_7 zo_212 zfl_13_15 (by decide) rfl rfl (Or.inr (Nat.le_of_ble_eq_true rfl))).trans ((xGoto (t := 14) d212_10 rfl).trans (xBretG d212_14 zret_212))))))
theorem run212_w1 {h : zH} : zrun 212 [vR 1001] h = zX 212 0 [vR 1001] [] h := rfl
theorem e212_0_w1 {I : Nat → Int → Int} {b : Bool} {S : Nat} : zX 212 0 [vR 1001] [] (I, zRs b, 103, S) = if -128 ≤ (I 1001 1) ∧ (I 1001 1) < 128 then some (some (vI (I 1001 1)), (I, zRs b, 103, S)) else none := (xGetstI d212_0 zo_212 zgs_13_38).trans ((xIfEq (t := 13) d212_3 rfl).trans ((if_neg (by decide)).trans ((xAload_n d212_6 rfl).trans ((xGetI 1 (I 1001 1) rfl d212_7 zo_212 zfl_13_15 (by decide) rfl rfl (Or.inr (Nat.le_of_ble_eq_true rfl))).trans ((xGoto (t := 14) d212_10 rfl).trans (xBretG d212_14 zret_212))))))
theorem run212_w2 {h : zH} : zrun 212 [vR 1002] h = zX 212 0 [vR 1002] [] h := rfl
theorem e212_0_w2 {I : Nat → Int → Int} {b : Bool} {S : Nat} : zX 212 0 [vR 1002] [] (I, zRs b, 103, S) = if -128 ≤ (I 1002 1) ∧ (I 1002 1) < 128 then some (some (vI (I 1002 1)), (I, zRs b, 103, S)) else none := (xGetstI d212_0 zo_212 zgs_13_38).trans ((xIfEq (t := 13) d212_3 rfl).trans ((if_neg (by decide)).trans ((xAload_n d212_6 rfl).trans ((xGetI 1 (I 1002 1) rfl d212_7 zo_212 zfl_13_15 (by decide) rfl rfl (Or.inr (Nat.le_of_ble_eq_true rfl))).trans ((xGoto (t := 14) d212_10 rfl).trans (xBretG d212_14 zret_212))))))
theorem run212_w3 {h : zH} : zrun 212 [vR 1003] h = zX 212 0 [vR 1003] [] h := rfl
theorem e212_0_w3 {I : Nat → Int → Int} {b : Bool} {S : Nat} : zX 212 0 [vR 1003] [] (I, zRs b, 103, S) = if -128 ≤ (I 1003 1) ∧ (I 1003 1) < 128 then some (some (vI (I 1003 1)), (I, zRs b, 103, S)) else none := (xGetstI d212_0 zo_212 zgs_13_38).trans ((xIfEq (t := 13) d212_3 rfl).trans ((if_neg (by decide)).trans ((xAload_n d212_6 rfl).trans ((xGetI 1 (I 1003 1) rfl d212_7 zo_212 zfl_13_15 (by decide) rfl rfl (Or.inr (Nat.le_of_ble_eq_true rfl))).trans ((xGoto (t := 14) d212_10 rfl).trans (xBretG d212_14 zret_212))))))
theorem run212_w4 {h : zH} : zrun 212 [vR 1004] h = zX 212 0 [vR 1004] [] h := rfl
theorem e212_0_w4 {I : Nat → Int → Int} {b : Bool} {S : Nat} : zX 212 0 [vR 1004] [] (I, zRs b, 103, S) = if -128 ≤ (I 1004 1) ∧ (I 1004 1) < 128 then some (some (vI (I 1004 1)), (I, zRs b, 103, S)) else none := (xGetstI d212_0 zo_212 zgs_13_38).trans ((xIfEq (t := 13) d212_3 rfl).trans ((if_neg (by decide)).trans ((xAload_n d212_6 rfl).trans ((xGetI 1 (I 1004 1) rfl d212_7 zo_212 zfl_13_15 (by decide) rfl rfl (Or.inr (Nat.le_of_ble_eq_true rfl))).trans ((xGoto (t := 14) d212_10 rfl).trans (xBretG d212_14 zret_212))))))
theorem run212_w5 {h : zH} : zrun 212 [vR 1005] h = zX 212 0 [vR 1005] [] h := rfl
theorem e212_0_w5 {I : Nat → Int → Int} {b : Bool} {S : Nat} : zX 212 0 [vR 1005] [] (I, zRs b, 103, S) = if -128 ≤ (I 1005 1) ∧ (I 1005 1) < 128 then some (some (vI (I 1005 1)), (I, zRs b, 103, S)) else none := (xGetstI d212_0 zo_212 zgs_13_38).trans ((xIfEq (t := 13) d212_3 rfl).trans ((if_neg (by decide)).trans ((xAload_n d212_6 rfl).trans ((xGetI 1 (I 1005 1) rfl d212_7 zo_212 zfl_13_15 (by decide) rfl rfl (Or.inr (Nat.le_of_ble_eq_true rfl))).trans ((xGoto (t := 14) d212_10 rfl).trans (xBretG d212_14 zret_212))))))
theorem zo_213 : zo 213 = 13 := by decide +kernel
theorem zret_213 : zret 213 = some .boolean := by decide +kernel
theorem d213_0 : decode (zb 213) 0 = .ok (.getstatic 38, 3) := by decide +kernel
theorem d213_3 : decode (zb 213) 3 = .ok (.ifCond .eq 14, 3) := by decide +kernel
theorem d213_6 : decode (zb 213) 6 = .ok (.aload_n 0, 1) := by decide +kernel
theorem d213_7 : decode (zb 213) 7 = .ok (.getfield 15, 3) := by decide +kernel
theorem d213_10 : decode (zb 213) 10 = .ok (.ifCond .ne 7, 3) := by decide +kernel
theorem d213_13 : decode (zb 213) 13 = .ok (.iconst 1, 1) := by decide +kernel
theorem d213_14 : decode (zb 213) 14 = .ok (.goto 4, 3) := by decide +kernel
theorem d213_17 : decode (zb 213) 17 = .ok (.iconst 0, 1) := by decide +kernel
theorem d213_18 : decode (zb 213) 18 = .ok (.ireturn, 1) := by decide +kernel
theorem run213_w0 {h : zH} : zrun 213 [vR 1000] h = zX 213 0 [vR 1000] [] h := rfl
theorem e213_0_w0 {I : Nat → Int → Int} {b : Bool} {S : Nat} : zX 213 0 [vR 1000] [] (I, zRs b, 103, S) = if (I 1000 1) = 0 then some (some (vI 1), (I, zRs b, 103, S)) else some (some (vI 0), (I, zRs b, 103, S)) := (xGetstI d213_0 zo_213 zgs_13_38).trans ((xIfEq (t := 17) d213_3 rfl).trans ((if_neg (by decide)).trans ((xAload_n d213_6 rfl).trans ((xGetI 1 (I 1000 1) rfl d213_7 zo_213 zfl_13_15 (by decide) rfl rfl (Or.inr (Nat.le_of_ble_eq_true rfl))).trans ((xIfNe (t := 17) d213_10 rfl).trans (ziteC ((xIconst d213_13).trans ((xGoto (t := 18) d213_14 rfl).trans (xZret d213_18 zret_213 (by decide)))) ((xIconst d213_17).trans (xZret d213_18 zret_213 (by decide)))))))))
theorem run213_w1 {h : zH} : zrun 213 [vR 1001] h = zX 213 0 [vR 1001] [] h := rfl
theorem e213_0_w1 {I : Nat → Int → Int} {b : Bool} {S : Nat} : zX 213 0 [vR 1001] [] (I, zRs b, 103, S) = if (I 1001 1) = 0 then some (some (vI 1), (I, zRs b, 103, S)) else some (some (vI 0), (I, zRs b, 103, S)) := (xGetstI d213_0 zo_213 zgs_13_38).trans ((xIfEq (t := 17) d213_3 rfl).trans ((if_neg (by decide)).trans ((xAload_n d213_6 rfl).trans ((xGetI 1 (I 1001 1) rfl d213_7 zo_213 zfl_13_15 (by decide) rfl rfl (Or.inr (Nat.le_of_ble_eq_true rfl))).trans ((xIfNe (t := 17) d213_10 rfl).trans (ziteC ((xIconst d213_13).trans ((xGoto (t := 18) d213_14 rfl).trans (xZret d213_18 zret_213 (by decide)))) ((xIconst d213_17).trans (xZret d213_18 zret_213 (by decide)))))))))
theorem run213_w2 {h : zH} : zrun 213 [vR 1002] h = zX 213 0 [vR 1002] [] h := rfl
theorem e213_0_w2 {I : Nat → Int → Int} {b : Bool} {S : Nat} : zX 213 0 [vR 1002] [] (I, zRs b, 103, S) = if (I 1002 1) = 0 then some (some (vI 1), (I, zRs b, 103, S)) else some (some (vI 0), (I, zRs b, 103, S)) := (xGetstI d213_0 zo_213 zgs_13_38).trans ((xIfEq (t := 17) d213_3 rfl).trans ((if_neg (by decide)).trans ((xAload_n d213_6 rfl).trans ((xGetI 1 (I 1002 1) rfl d213_7 zo_213 zfl_13_15 (by decide) rfl rfl (Or.inr (Nat.le_of_ble_eq_true rfl))).trans ((xIfNe (t := 17) d213_10 rfl).trans (ziteC ((xIconst d213_13).trans ((xGoto (t := 18) d213_14 rfl).trans (xZret d213_18 zret_213 (by decide)))) ((xIconst d213_17).trans (xZret d213_18 zret_213 (by decide)))))))))
theorem run213_w3 {h : zH} : zrun 213 [vR 1003] h = zX 213 0 [vR 1003] [] h := rfl
theorem e213_0_w3 {I : Nat → Int → Int} {b : Bool} {S : Nat} : zX 213 0 [vR 1003] [] (I, zRs b, 103, S) = if (I 1003 1) = 0 then some (some (vI 1), (I, zRs b, 103, S)) else some (some (vI 0), (I, zRs b, 103, S)) := (xGetstI d213_0 zo_213 zgs_13_38).trans ((xIfEq (t := 17) d213_3 rfl).trans ((if_neg (by decide)).trans ((xAload_n d213_6 rfl).trans ((xGetI 1 (I 1003 1) rfl d213_7 zo_213 zfl_13_15 (by decide) rfl rfl (Or.inr (Nat.le_of_ble_eq_true rfl))).trans ((xIfNe (t := 17) d213_10 rfl).trans (ziteC ((xIconst d213_13).trans ((xGoto (t := 18) d213_14 rfl).trans (xZret d213_18 zret_213 (by decide)))) ((xIconst d213_17).trans (xZret d213_18 zret_213 (by decide)))))))))
theorem run213_w4 {h : zH} : zrun 213 [vR 1004] h = zX 213 0 [vR 1004] [] h := rfl
theorem e213_0_w4 {I : Nat → Int → Int} {b : Bool} {S : Nat} : zX 213 0 [vR 1004] [] (I, zRs b, 103, S) = if (I 1004 1) = 0 then some (some (vI 1), (I, zRs b, 103, S)) else some (some (vI 0), (I, zRs b, 103, S)) := (xGetstI d213_0 zo_213 zgs_13_38).trans ((xIfEq (t := 17) d213_3 rfl).trans ((if_neg (by decide)).trans ((xAload_n d213_6 rfl).trans ((xGetI 1 (I 1004 1) rfl d213_7 zo_213 zfl_13_15 (by decide) rfl rfl (Or.inr (Nat.le_of_ble_eq_true rfl))).trans ((xIfNe (t := 17) d213_10 rfl).trans (ziteC ((xIconst d213_13).trans ((xGoto (t := 18) d213_14 rfl).trans (xZret d213_18 zret_213 (by decide)))) ((xIconst d213_17).trans (xZret d213_18 zret_213 (by decide)))))))))
theorem run213_w5 {h : zH} : zrun 213 [vR 1005] h = zX 213 0 [vR 1005] [] h := rfl
theorem e213_0_w5 {I : Nat → Int → Int} {b : Bool} {S : Nat} : zX 213 0 [vR 1005] [] (I, zRs b, 103, S) = if (I 1005 1) = 0 then some (some (vI 1), (I, zRs b, 103, S)) else some (some (vI 0), (I, zRs b, 103, S)) := (xGetstI d213_0 zo_213 zgs_13_38).trans ((xIfEq (t := 17) d213_3 rfl).trans ((if_neg (by decide)).trans ((xAload_n d213_6 rfl).trans ((xGetI 1 (I 1005 1) rfl d213_7 zo_213 zfl_13_15 (by decide) rfl rfl (Or.inr (Nat.le_of_ble_eq_true rfl))).trans ((xIfNe (t := 17) d213_10 rfl).trans (ziteC ((xIconst d213_13).trans ((xGoto (t := 18) d213_14 rfl).trans (xZret d213_18 zret_213 (by decide)))) ((xIconst d213_17).trans (xZret d213_18 zret_213 (by decide)))))))))
theorem zo_214 : zo 214 = 13 := by decide +kernel
theorem zret_214 : zret 214 = none := by decide +kernel
theorem d214_0 : decode (zb 214) 0 = .ok (.iload_n 0, 1) := by decide +kernel
theorem d214_1 : decode (zb 214) 1 = .ok (.iload_n 1, 1) := by decide +kernel
theorem d214_2 : decode (zb 214) 2 = .ok (.getstatic 1053, 3) := by decide +kernel
theorem d214_5 : decode (zb 214) 5 = .ok (.invokestatic 1059, 3) := by decide +kernel
theorem d214_8 : decode (zb 214) 8 = .ok (.pop, 1) := by decide +kernel
theorem d214_9 : decode (zb 214) 9 = .ok (.return_, 1) := by decide +kernel
theorem run214 {h : zH} {x0 x1 : Int} : zrun 214 [vI x0, vI x1] h = zX 214 0 [vI x0, vI x1] [] h := rfl
theorem e214_0 {I : Nat → Int → Int} {b : Bool} {S : Nat} {x0 x1 : Int} : zX 214 0 [vI x0, vI x1] [] (I, zRs b, 103, S) = (zrun 216 [vI x0, vI x1, vR 1200] (I, zRs b, 103, S)).bind (fun q => zX 214 8 [vI x0, vI x1] (zpush q.1 []) q.2) := (xIload_n d214_0 rfl).trans ((xIload_n d214_1 rfl).trans ((xGetstR (q := 1200) d214_2 zo_214 zgs_13_1053 rfl).trans (xInvS [vI x0, vI x1, vR 1200] [] d214_5 zo_214 zml_13_1059 rfl rfl)))
theorem e214_8 {I : Nat → Int → Int} {b : Bool} {S : Nat} {a0 a1 t0 : Int} : zX 214 8 [vI a0, vI a1] [vI t0] (I, zRs b, 103, S) = some (none, (I, zRs b, 103, S)) := (xPop d214_8 rfl).trans (xVret d214_9 zret_214)
