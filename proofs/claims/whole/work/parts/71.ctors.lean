/-! ===== the constructors ===== -/
section X71
variable {m pc n S : Nat} {L st : List zV} {I : Nat → Int → Int} {R : Nat → Int → Nat}
theorem xNew {o idx ci : Nat} (n' : Nat) (he : n + 1 = n') (hd : decode (zb m) pc = .ok (.new idx, 3)) (ho : zo m = o) (hc : zcn o idx = some ci) (hk : zkd n' = (0, ci)) (hn : n < 103) : zX m pc L st (I, R, n, S) = zX m (pc + 3) L (vR n' :: st) (zfill I n', zfilR R n', n', S) := by
  subst ho; subst he
  refine zX_go hd ((zact_eq rfl).trans ?_)
  simp only [zac0, znew]
  rw [hc]
  exact if_pos ⟨hk, hn⟩
theorem xNewa {t : ArrayType} {l : Nat} (n' : Nat) (he : n + 1 = n') (hd : decode (zb m) pc = .ok (.newarray t, 2)) {a : Int} (hk : zkd n' = (zat t, l)) (ha : a = (l : Int)) (hn : n < 103) : zX m pc L (vI a :: st) (I, R, n, S) = zX m (pc + 2) L (vR n' :: st) (zfill I n', zfilR R n', n', S) := by
  subst he; subst ha
  refine zX_go hd ((zact_eq rfl).trans ?_)
  show (if (zkd (n + 1)).1 = zat t ∧ 0 ≤ (l : Int) ∧ (l : Int) = (zkd (n + 1)).2 ∧ n < zNP then _ else zno) = _
  rw [hk]
  exact if_pos ⟨rfl, by omega, rfl, hn⟩
theorem xAnew {o idx ci : Nat} (n' : Nat) (he : n + 1 = n') (hd : decode (zb m) pc = .ok (.anewarray idx, 3)) (ho : zo m = o) (hc : zcn o idx = some ci) {a : Int} (hk : (zkd n').1 = 5 ∧ ci = 4 ∨ (zkd n').1 = 6 ∧ ci = 8) (ha : a = ((zkd n').2 : Int)) (hn : n < 103) : zX m pc L (vI a :: st) (I, R, n, S) = zX m (pc + 3) L (vR n' :: st) (zfill I n', zfilR R n', n', S) := by
  subst ho; subst he; subst ha
  refine zX_go hd ((zact_eq rfl).trans ?_)
  simp only [zac0, zanew]
  rw [hc]
  exact if_pos ⟨hk, by omega, rfl, hn⟩
theorem xClone {o idx d' : Nat} (n' : Nat) (he : n + 1 = n') (hd : decode (zb m) pc = .ok (.invokevirtual idx, 3)) (ho : zo m = o) (hm : zml o idx = some (12, d')) (hk : zkd n' = (1, 5)) (hn : n < 103) (hc : (Nat.ble 1 (zfr m) && Nat.ble ((st.map zcat).sum + 30) (zlo m)) = true) : zX m pc L (vR 900 :: st) (I, R, n, S) = zX m (pc + 3) L (vR n' :: st) (zcpy (zfill I n') 900 0 n' 0 5, zfilR R n', n', S) := by
  subst ho; subst he
  refine zX_go hd ((zact_eq rfl).trans ?_)
  simp only [Bool.and_eq_true, Nat.ble_eq] at hc
  show zcall m (zo m) idx (pc + 3) 0 0 L (vR 900 :: st) (I, R, n, S) = _
  unfold zcall
  rw [hm]
  simp only
  rw [if_neg (by decide), if_neg (by decide), if_neg (by decide), if_pos (by decide)]
  exact if_pos ⟨trivial, hk, hn, hc.1, hc.2⟩
theorem xCheck {o idx p : Nat} (hd : decode (zb m) pc = .ok (.checkcast idx, 3)) (ho : zo m = o) (hc : zcn o idx = some 30) (hk : (zkd p).1 = 1) (hn : p ≤ n) : zX m pc L (vR p :: st) (I, R, n, S) = zX m (pc + 3) L (vR p :: st) (I, R, n, S) := by
  subst ho
  refine zX_go hd ((zact_eq rfl).trans ?_)
  simp only [zac0]
  rw [hc]
  exact if_pos ⟨hk, hn⟩
end X71
theorem yo_0 : zo 0 = 0 := by decide +kernel
theorem yo_13 : zo 13 = 1 := by decide +kernel
theorem yo_20 : zo 20 = 2 := by decide +kernel
theorem yo_26 : zo 26 = 3 := by decide +kernel
theorem yo_35 : zo 35 = 4 := by decide +kernel
theorem yo_43 : zo 43 = 5 := by decide +kernel
theorem yo_52 : zo 52 = 6 := by decide +kernel
theorem yo_69 : zo 69 = 7 := by decide +kernel
theorem yo_80 : zo 80 = 8 := by decide +kernel
theorem yo_83 : zo 83 = 9 := by decide +kernel
theorem yo_91 : zo 91 = 10 := by decide +kernel
theorem yo_124 : zo 124 = 11 := by decide +kernel
theorem yo_217 : zo 217 = 12 := by decide +kernel
theorem yr_0 : zret 0 = none := by decide +kernel
theorem yr_13 : zret 13 = none := by decide +kernel
theorem yr_20 : zret 20 = none := by decide +kernel
theorem yr_26 : zret 26 = none := by decide +kernel
theorem yr_35 : zret 35 = none := by decide +kernel
theorem yr_43 : zret 43 = none := by decide +kernel
theorem yr_52 : zret 52 = none := by decide +kernel
theorem yr_69 : zret 69 = none := by decide +kernel
theorem yr_80 : zret 80 = none := by decide +kernel
theorem yr_83 : zret 83 = none := by decide +kernel
theorem yr_91 : zret 91 = none := by decide +kernel
theorem q0_0 : decode (zb 0) 0 = .ok (.aload_n 0, 1) := by decide +kernel
theorem q0_1 : decode (zb 0) 1 = .ok (.invokespecial 3, 3) := by decide +kernel
theorem q0_4 : decode (zb 0) 4 = .ok (.aload_n 0, 1) := by decide +kernel
theorem q0_5 : decode (zb 0) 5 = .ok (.bipush (-4), 2) := by decide +kernel
theorem q0_7 : decode (zb 0) 7 = .ok (.putfield 9, 3) := by decide +kernel
theorem q0_10 : decode (zb 0) 10 = .ok (.aload_n 0, 1) := by decide +kernel
theorem q0_11 : decode (zb 0) 11 = .ok (.bipush 24, 2) := by decide +kernel
theorem q0_13 : decode (zb 0) 13 = .ok (.newarray .int, 2) := by decide +kernel
theorem q0_15 : decode (zb 0) 15 = .ok (.putfield 15, 3) := by decide +kernel
theorem q0_18 : decode (zb 0) 18 = .ok (.return_, 1) := by decide +kernel
theorem q13_0 : decode (zb 13) 0 = .ok (.aload_n 0, 1) := by decide +kernel
theorem q13_1 : decode (zb 13) 1 = .ok (.invokespecial 3, 3) := by decide +kernel
theorem q13_4 : decode (zb 13) 4 = .ok (.aload_n 0, 1) := by decide +kernel
theorem q13_5 : decode (zb 13) 5 = .ok (.bipush 16, 2) := by decide +kernel
theorem q13_7 : decode (zb 13) 7 = .ok (.newarray .int, 2) := by decide +kernel
theorem q13_9 : decode (zb 13) 9 = .ok (.putfield 9, 3) := by decide +kernel
theorem q13_12 : decode (zb 13) 12 = .ok (.return_, 1) := by decide +kernel
theorem q20_0 : decode (zb 20) 0 = .ok (.aload_n 0, 1) := by decide +kernel
theorem q20_1 : decode (zb 20) 1 = .ok (.invokespecial 3, 3) := by decide +kernel
theorem q20_4 : decode (zb 20) 4 = .ok (.aload_n 0, 1) := by decide +kernel
theorem q20_5 : decode (zb 20) 5 = .ok (.bipush 40, 2) := by decide +kernel
theorem q20_7 : decode (zb 20) 7 = .ok (.newarray .int, 2) := by decide +kernel
theorem q20_9 : decode (zb 20) 9 = .ok (.putfield 9, 3) := by decide +kernel
theorem q20_12 : decode (zb 20) 12 = .ok (.aload_n 0, 1) := by decide +kernel
theorem q20_13 : decode (zb 20) 13 = .ok (.bipush 40, 2) := by decide +kernel
theorem q20_15 : decode (zb 20) 15 = .ok (.newarray .int, 2) := by decide +kernel
theorem q20_17 : decode (zb 20) 17 = .ok (.putfield 15, 3) := by decide +kernel
theorem q20_20 : decode (zb 20) 20 = .ok (.return_, 1) := by decide +kernel
theorem q26_0 : decode (zb 26) 0 = .ok (.aload_n 0, 1) := by decide +kernel
theorem q26_1 : decode (zb 26) 1 = .ok (.invokespecial 3, 3) := by decide +kernel
theorem q26_4 : decode (zb 26) 4 = .ok (.aload_n 0, 1) := by decide +kernel
theorem q26_5 : decode (zb 26) 5 = .ok (.bipush 6, 2) := by decide +kernel
theorem q26_7 : decode (zb 26) 7 = .ok (.newarray .int, 2) := by decide +kernel
theorem q26_9 : decode (zb 26) 9 = .ok (.putfield 9, 3) := by decide +kernel
theorem q26_12 : decode (zb 26) 12 = .ok (.aload_n 0, 1) := by decide +kernel
theorem q26_13 : decode (zb 26) 13 = .ok (.bipush 16, 2) := by decide +kernel
theorem q26_15 : decode (zb 26) 15 = .ok (.newarray .int, 2) := by decide +kernel
theorem q26_17 : decode (zb 26) 17 = .ok (.putfield 15, 3) := by decide +kernel
theorem q26_20 : decode (zb 26) 20 = .ok (.aload_n 0, 1) := by decide +kernel
theorem q26_21 : decode (zb 26) 21 = .ok (.bipush 16, 2) := by decide +kernel
theorem q26_23 : decode (zb 26) 23 = .ok (.newarray .int, 2) := by decide +kernel
theorem q26_25 : decode (zb 26) 25 = .ok (.putfield 18, 3) := by decide +kernel
theorem q26_28 : decode (zb 26) 28 = .ok (.return_, 1) := by decide +kernel
theorem q35_0 : decode (zb 35) 0 = .ok (.aload_n 0, 1) := by decide +kernel
theorem q35_1 : decode (zb 35) 1 = .ok (.invokespecial 3, 3) := by decide +kernel
theorem q35_4 : decode (zb 35) 4 = .ok (.aload_n 0, 1) := by decide +kernel
theorem q35_5 : decode (zb 35) 5 = .ok (.new 9, 3) := by decide +kernel
theorem q35_8 : decode (zb 35) 8 = .ok (.dup, 1) := by decide +kernel
theorem q35_9 : decode (zb 35) 9 = .ok (.invokespecial 11, 3) := by decide +kernel
theorem q35_12 : decode (zb 35) 12 = .ok (.putfield 12, 3) := by decide +kernel
theorem q35_15 : decode (zb 35) 15 = .ok (.aload_n 0, 1) := by decide +kernel
theorem q35_16 : decode (zb 35) 16 = .ok (.new 18, 3) := by decide +kernel
theorem q35_19 : decode (zb 35) 19 = .ok (.dup, 1) := by decide +kernel
theorem q35_20 : decode (zb 35) 20 = .ok (.invokespecial 20, 3) := by decide +kernel
theorem q35_23 : decode (zb 35) 23 = .ok (.putfield 21, 3) := by decide +kernel
theorem q35_26 : decode (zb 35) 26 = .ok (.aload_n 0, 1) := by decide +kernel
theorem q35_27 : decode (zb 35) 27 = .ok (.new 25, 3) := by decide +kernel
theorem q35_30 : decode (zb 35) 30 = .ok (.dup, 1) := by decide +kernel
theorem q35_31 : decode (zb 35) 31 = .ok (.invokespecial 27, 3) := by decide +kernel
theorem q35_34 : decode (zb 35) 34 = .ok (.putfield 28, 3) := by decide +kernel
theorem q35_37 : decode (zb 35) 37 = .ok (.aload_n 0, 1) := by decide +kernel
theorem q35_38 : decode (zb 35) 38 = .ok (.sipush 200, 3) := by decide +kernel
theorem q35_41 : decode (zb 35) 41 = .ok (.newarray .int, 2) := by decide +kernel
theorem q35_43 : decode (zb 35) 43 = .ok (.putfield 32, 3) := by decide +kernel
theorem q35_46 : decode (zb 35) 46 = .ok (.aload_n 0, 1) := by decide +kernel
theorem q35_47 : decode (zb 35) 47 = .ok (.getstatic 36, 3) := by decide +kernel
theorem q35_50 : decode (zb 35) 50 = .ok (.invokevirtual 39, 3) := by decide +kernel
theorem q35_53 : decode (zb 35) 53 = .ok (.checkcast 40, 3) := by decide +kernel
theorem q35_56 : decode (zb 35) 56 = .ok (.putfield 44, 3) := by decide +kernel
theorem q35_59 : decode (zb 35) 59 = .ok (.aload_n 0, 1) := by decide +kernel
theorem q35_60 : decode (zb 35) 60 = .ok (.new 9, 3) := by decide +kernel
theorem q35_63 : decode (zb 35) 63 = .ok (.dup, 1) := by decide +kernel
theorem q35_64 : decode (zb 35) 64 = .ok (.invokespecial 11, 3) := by decide +kernel
theorem q35_67 : decode (zb 35) 67 = .ok (.putfield 47, 3) := by decide +kernel
theorem q35_70 : decode (zb 35) 70 = .ok (.return_, 1) := by decide +kernel
theorem q43_0 : decode (zb 43) 0 = .ok (.aload_n 0, 1) := by decide +kernel
theorem q43_1 : decode (zb 43) 1 = .ok (.invokespecial 3, 3) := by decide +kernel
theorem q43_4 : decode (zb 43) 4 = .ok (.aload_n 0, 1) := by decide +kernel
theorem q43_5 : decode (zb 43) 5 = .ok (.sipush 128, 3) := by decide +kernel
theorem q43_8 : decode (zb 43) 8 = .ok (.newarray .int, 2) := by decide +kernel
theorem q43_10 : decode (zb 43) 10 = .ok (.putfield 9, 3) := by decide +kernel
theorem q43_13 : decode (zb 43) 13 = .ok (.aload_n 0, 1) := by decide +kernel
theorem q43_14 : decode (zb 43) 14 = .ok (.bipush 8, 2) := by decide +kernel
theorem q43_16 : decode (zb 43) 16 = .ok (.newarray .int, 2) := by decide +kernel
theorem q43_18 : decode (zb 43) 18 = .ok (.putfield 15, 3) := by decide +kernel
theorem q43_21 : decode (zb 43) 21 = .ok (.aload_n 0, 1) := by decide +kernel
theorem q43_22 : decode (zb 43) 22 = .ok (.bipush 8, 2) := by decide +kernel
theorem q43_24 : decode (zb 43) 24 = .ok (.newarray .int, 2) := by decide +kernel
theorem q43_26 : decode (zb 43) 26 = .ok (.putfield 18, 3) := by decide +kernel
theorem q43_29 : decode (zb 43) 29 = .ok (.aload_n 0, 1) := by decide +kernel
theorem q43_30 : decode (zb 43) 30 = .ok (.bipush 8, 2) := by decide +kernel
theorem q43_32 : decode (zb 43) 32 = .ok (.newarray .int, 2) := by decide +kernel
theorem q43_34 : decode (zb 43) 34 = .ok (.putfield 21, 3) := by decide +kernel
theorem q43_37 : decode (zb 43) 37 = .ok (.return_, 1) := by decide +kernel
theorem q52_0 : decode (zb 52) 0 = .ok (.aload_n 0, 1) := by decide +kernel
theorem q52_1 : decode (zb 52) 1 = .ok (.invokespecial 3, 3) := by decide +kernel
theorem q52_4 : decode (zb 52) 4 = .ok (.aload_n 0, 1) := by decide +kernel
theorem q52_5 : decode (zb 52) 5 = .ok (.new 9, 3) := by decide +kernel
theorem q52_8 : decode (zb 52) 8 = .ok (.dup, 1) := by decide +kernel
theorem q52_9 : decode (zb 52) 9 = .ok (.invokespecial 11, 3) := by decide +kernel
theorem q52_12 : decode (zb 52) 12 = .ok (.putfield 12, 3) := by decide +kernel
theorem q52_15 : decode (zb 52) 15 = .ok (.aload_n 0, 1) := by decide +kernel
theorem q52_16 : decode (zb 52) 16 = .ok (.bipush 24, 2) := by decide +kernel
theorem q52_18 : decode (zb 52) 18 = .ok (.newarray .int, 2) := by decide +kernel
theorem q52_20 : decode (zb 52) 20 = .ok (.putfield 18, 3) := by decide +kernel
theorem q52_23 : decode (zb 52) 23 = .ok (.aload_n 0, 1) := by decide +kernel
theorem q52_24 : decode (zb 52) 24 = .ok (.bipush 24, 2) := by decide +kernel
theorem q52_26 : decode (zb 52) 26 = .ok (.newarray .int, 2) := by decide +kernel
theorem q52_28 : decode (zb 52) 28 = .ok (.putfield 22, 3) := by decide +kernel
theorem q52_31 : decode (zb 52) 31 = .ok (.aload_n 0, 1) := by decide +kernel
theorem q52_32 : decode (zb 52) 32 = .ok (.bipush 24, 2) := by decide +kernel
theorem q52_34 : decode (zb 52) 34 = .ok (.newarray .int, 2) := by decide +kernel
theorem q52_36 : decode (zb 52) 36 = .ok (.putfield 25, 3) := by decide +kernel
theorem q52_39 : decode (zb 52) 39 = .ok (.aload_n 0, 1) := by decide +kernel
theorem q52_40 : decode (zb 52) 40 = .ok (.bipush 24, 2) := by decide +kernel
theorem q52_42 : decode (zb 52) 42 = .ok (.newarray .int, 2) := by decide +kernel
theorem q52_44 : decode (zb 52) 44 = .ok (.putfield 28, 3) := by decide +kernel
theorem q52_47 : decode (zb 52) 47 = .ok (.aload_n 0, 1) := by decide +kernel
theorem q52_48 : decode (zb 52) 48 = .ok (.bipush 24, 2) := by decide +kernel
theorem q52_50 : decode (zb 52) 50 = .ok (.newarray .int, 2) := by decide +kernel
theorem q52_52 : decode (zb 52) 52 = .ok (.putfield 31, 3) := by decide +kernel
theorem q52_55 : decode (zb 52) 55 = .ok (.aload_n 0, 1) := by decide +kernel
theorem q52_56 : decode (zb 52) 56 = .ok (.iconst 4, 1) := by decide +kernel
theorem q52_57 : decode (zb 52) 57 = .ok (.newarray .int, 2) := by decide +kernel
theorem q52_59 : decode (zb 52) 59 = .ok (.putfield 34, 3) := by decide +kernel
theorem q52_62 : decode (zb 52) 62 = .ok (.aload_n 0, 1) := by decide +kernel
theorem q52_63 : decode (zb 52) 63 = .ok (.iconst 5, 1) := by decide +kernel
theorem q52_64 : decode (zb 52) 64 = .ok (.newarray .int, 2) := by decide +kernel
theorem q52_66 : decode (zb 52) 66 = .ok (.putfield 37, 3) := by decide +kernel
theorem q52_69 : decode (zb 52) 69 = .ok (.return_, 1) := by decide +kernel
theorem q69_0 : decode (zb 69) 0 = .ok (.aload_n 0, 1) := by decide +kernel
theorem q69_1 : decode (zb 69) 1 = .ok (.invokespecial 3, 3) := by decide +kernel
theorem q69_4 : decode (zb 69) 4 = .ok (.aload_n 0, 1) := by decide +kernel
theorem q69_5 : decode (zb 69) 5 = .ok (.bipush 16, 2) := by decide +kernel
theorem q69_7 : decode (zb 69) 7 = .ok (.newarray .int, 2) := by decide +kernel
theorem q69_9 : decode (zb 69) 9 = .ok (.putfield 9, 3) := by decide +kernel
theorem q69_12 : decode (zb 69) 12 = .ok (.aload_n 0, 1) := by decide +kernel
theorem q69_13 : decode (zb 69) 13 = .ok (.aload_n 1, 1) := by decide +kernel
theorem q69_14 : decode (zb 69) 14 = .ok (.putfield 15, 3) := by decide +kernel
theorem q69_17 : decode (zb 69) 17 = .ok (.return_, 1) := by decide +kernel
theorem q80_0 : decode (zb 80) 0 = .ok (.aload_n 0, 1) := by decide +kernel
theorem q80_1 : decode (zb 80) 1 = .ok (.invokespecial 3, 3) := by decide +kernel
theorem q80_4 : decode (zb 80) 4 = .ok (.aload_n 0, 1) := by decide +kernel
theorem q80_5 : decode (zb 80) 5 = .ok (.bipush 30, 2) := by decide +kernel
theorem q80_7 : decode (zb 80) 7 = .ok (.newarray .long, 2) := by decide +kernel
theorem q80_9 : decode (zb 80) 9 = .ok (.putfield 9, 3) := by decide +kernel
theorem q80_12 : decode (zb 80) 12 = .ok (.aload_n 0, 1) := by decide +kernel
theorem q80_13 : decode (zb 80) 13 = .ok (.bipush (-4), 2) := by decide +kernel
theorem q80_15 : decode (zb 80) 15 = .ok (.putfield 15, 3) := by decide +kernel
theorem q80_18 : decode (zb 80) 18 = .ok (.return_, 1) := by decide +kernel
theorem q83_0 : decode (zb 83) 0 = .ok (.aload_n 0, 1) := by decide +kernel
theorem q83_1 : decode (zb 83) 1 = .ok (.invokespecial 3, 3) := by decide +kernel
theorem q83_4 : decode (zb 83) 4 = .ok (.aload_n 0, 1) := by decide +kernel
theorem q83_5 : decode (zb 83) 5 = .ok (.sipush 300, 3) := by decide +kernel
theorem q83_8 : decode (zb 83) 8 = .ok (.newarray .byte, 2) := by decide +kernel
theorem q83_10 : decode (zb 83) 10 = .ok (.putfield 9, 3) := by decide +kernel
theorem q83_13 : decode (zb 83) 13 = .ok (.return_, 1) := by decide +kernel
theorem q91_0 : decode (zb 91) 0 = .ok (.aload_n 0, 1) := by decide +kernel
theorem q91_1 : decode (zb 91) 1 = .ok (.invokespecial 3, 3) := by decide +kernel
theorem q91_4 : decode (zb 91) 4 = .ok (.aload_n 0, 1) := by decide +kernel
theorem q91_5 : decode (zb 91) 5 = .ok (.new 9, 3) := by decide +kernel
theorem q91_8 : decode (zb 91) 8 = .ok (.dup, 1) := by decide +kernel
theorem q91_9 : decode (zb 91) 9 = .ok (.invokespecial 11, 3) := by decide +kernel
theorem q91_12 : decode (zb 91) 12 = .ok (.putfield 12, 3) := by decide +kernel
theorem q91_15 : decode (zb 91) 15 = .ok (.aload_n 0, 1) := by decide +kernel
theorem q91_16 : decode (zb 91) 16 = .ok (.new 16, 3) := by decide +kernel
theorem q91_19 : decode (zb 91) 19 = .ok (.dup, 1) := by decide +kernel
theorem q91_20 : decode (zb 91) 20 = .ok (.aload_n 0, 1) := by decide +kernel
theorem q91_21 : decode (zb 91) 21 = .ok (.getfield 12, 3) := by decide +kernel
theorem q91_24 : decode (zb 91) 24 = .ok (.invokespecial 18, 3) := by decide +kernel
theorem q91_27 : decode (zb 91) 27 = .ok (.putfield 21, 3) := by decide +kernel
theorem q91_30 : decode (zb 91) 30 = .ok (.aload_n 0, 1) := by decide +kernel
theorem q91_31 : decode (zb 91) 31 = .ok (.new 25, 3) := by decide +kernel
theorem q91_34 : decode (zb 91) 34 = .ok (.dup, 1) := by decide +kernel
theorem q91_35 : decode (zb 91) 35 = .ok (.invokespecial 27, 3) := by decide +kernel
theorem q91_38 : decode (zb 91) 38 = .ok (.putfield 28, 3) := by decide +kernel
theorem q91_41 : decode (zb 91) 41 = .ok (.aload_n 0, 1) := by decide +kernel
theorem q91_42 : decode (zb 91) 42 = .ok (.new 32, 3) := by decide +kernel
theorem q91_45 : decode (zb 91) 45 = .ok (.dup, 1) := by decide +kernel
theorem q91_46 : decode (zb 91) 46 = .ok (.invokespecial 34, 3) := by decide +kernel
theorem q91_49 : decode (zb 91) 49 = .ok (.putfield 35, 3) := by decide +kernel
theorem q91_52 : decode (zb 91) 52 = .ok (.aload_n 0, 1) := by decide +kernel
theorem q91_53 : decode (zb 91) 53 = .ok (.iconst 2, 1) := by decide +kernel
theorem q91_54 : decode (zb 91) 54 = .ok (.anewarray 32, 3) := by decide +kernel
theorem q91_57 : decode (zb 91) 57 = .ok (.putfield 39, 3) := by decide +kernel
theorem q91_60 : decode (zb 91) 60 = .ok (.aload_n 0, 1) := by decide +kernel
theorem q91_61 : decode (zb 91) 61 = .ok (.iconst 2, 1) := by decide +kernel
theorem q91_62 : decode (zb 91) 62 = .ok (.newarray .boolean, 2) := by decide +kernel
theorem q91_64 : decode (zb 91) 64 = .ok (.putfield 43, 3) := by decide +kernel
theorem q91_67 : decode (zb 91) 67 = .ok (.aload_n 0, 1) := by decide +kernel
theorem q91_68 : decode (zb 91) 68 = .ok (.iconst 4, 1) := by decide +kernel
theorem q91_69 : decode (zb 91) 69 = .ok (.anewarray 47, 3) := by decide +kernel
theorem q91_72 : decode (zb 91) 72 = .ok (.putfield 49, 3) := by decide +kernel
theorem q91_75 : decode (zb 91) 75 = .ok (.aload_n 0, 1) := by decide +kernel
theorem q91_76 : decode (zb 91) 76 = .ok (.new 53, 3) := by decide +kernel
theorem q91_79 : decode (zb 91) 79 = .ok (.dup, 1) := by decide +kernel
theorem q91_80 : decode (zb 91) 80 = .ok (.invokespecial 55, 3) := by decide +kernel
theorem q91_83 : decode (zb 91) 83 = .ok (.putfield 56, 3) := by decide +kernel
theorem q91_86 : decode (zb 91) 86 = .ok (.aload_n 0, 1) := by decide +kernel
theorem q91_87 : decode (zb 91) 87 = .ok (.new 53, 3) := by decide +kernel
theorem q91_90 : decode (zb 91) 90 = .ok (.dup, 1) := by decide +kernel
theorem q91_91 : decode (zb 91) 91 = .ok (.invokespecial 55, 3) := by decide +kernel
theorem q91_94 : decode (zb 91) 94 = .ok (.putfield 60, 3) := by decide +kernel
theorem q91_97 : decode (zb 91) 97 = .ok (.iconst 0, 1) := by decide +kernel
theorem q91_98 : decode (zb 91) 98 = .ok (.istore_n 1, 1) := by decide +kernel
theorem q91_99 : decode (zb 91) 99 = .ok (.iload_n 1, 1) := by decide +kernel
theorem q91_100 : decode (zb 91) 100 = .ok (.iconst 2, 1) := by decide +kernel
theorem q91_101 : decode (zb 91) 101 = .ok (.if_icmp .ge 22, 3) := by decide +kernel
theorem q91_104 : decode (zb 91) 104 = .ok (.aload_n 0, 1) := by decide +kernel
theorem q91_105 : decode (zb 91) 105 = .ok (.getfield 39, 3) := by decide +kernel
theorem q91_108 : decode (zb 91) 108 = .ok (.iload_n 1, 1) := by decide +kernel
theorem q91_109 : decode (zb 91) 109 = .ok (.new 32, 3) := by decide +kernel
theorem q91_112 : decode (zb 91) 112 = .ok (.dup, 1) := by decide +kernel
theorem q91_113 : decode (zb 91) 113 = .ok (.invokespecial 34, 3) := by decide +kernel
theorem q91_116 : decode (zb 91) 116 = .ok (.aastore, 1) := by decide +kernel
theorem q91_117 : decode (zb 91) 117 = .ok (.iinc 1 1, 3) := by decide +kernel
theorem q91_120 : decode (zb 91) 120 = .ok (.goto (-21), 3) := by decide +kernel
theorem q91_123 : decode (zb 91) 123 = .ok (.iconst 0, 1) := by decide +kernel
theorem q91_124 : decode (zb 91) 124 = .ok (.istore_n 1, 1) := by decide +kernel
theorem q91_125 : decode (zb 91) 125 = .ok (.iload_n 1, 1) := by decide +kernel
theorem q91_126 : decode (zb 91) 126 = .ok (.iconst 4, 1) := by decide +kernel
theorem q91_127 : decode (zb 91) 127 = .ok (.if_icmp .ge 22, 3) := by decide +kernel
theorem q91_130 : decode (zb 91) 130 = .ok (.aload_n 0, 1) := by decide +kernel
theorem q91_131 : decode (zb 91) 131 = .ok (.getfield 49, 3) := by decide +kernel
theorem q91_134 : decode (zb 91) 134 = .ok (.iload_n 1, 1) := by decide +kernel
theorem q91_135 : decode (zb 91) 135 = .ok (.new 47, 3) := by decide +kernel
theorem q91_138 : decode (zb 91) 138 = .ok (.dup, 1) := by decide +kernel
theorem q91_139 : decode (zb 91) 139 = .ok (.invokespecial 63, 3) := by decide +kernel
theorem q91_142 : decode (zb 91) 142 = .ok (.aastore, 1) := by decide +kernel
theorem q91_143 : decode (zb 91) 143 = .ok (.iinc 1 1, 3) := by decide +kernel
theorem q91_146 : decode (zb 91) 146 = .ok (.goto (-21), 3) := by decide +kernel
theorem q91_149 : decode (zb 91) 149 = .ok (.return_, 1) := by decide +kernel
theorem q124_0 : decode (zb 124) 0 = .ok (.aload_n 0, 1) := by decide +kernel
theorem q124_1 : decode (zb 124) 1 = .ok (.invokespecial 1, 3) := by decide +kernel
theorem q124_4 : decode (zb 124) 4 = .ok (.aload_n 0, 1) := by decide +kernel
theorem q124_5 : decode (zb 124) 5 = .ok (.sipush 234, 3) := by decide +kernel
theorem q124_8 : decode (zb 124) 8 = .ok (.newarray .int, 2) := by decide +kernel
theorem q124_10 : decode (zb 124) 10 = .ok (.putfield 7, 3) := by decide +kernel
theorem q124_13 : decode (zb 124) 13 = .ok (.aload_n 0, 1) := by decide +kernel
theorem q124_14 : decode (zb 124) 14 = .ok (.sipush 234, 3) := by decide +kernel
theorem q124_17 : decode (zb 124) 17 = .ok (.newarray .int, 2) := by decide +kernel
theorem q124_19 : decode (zb 124) 19 = .ok (.putfield 13, 3) := by decide +kernel
theorem q124_22 : decode (zb 124) 22 = .ok (.aload_n 0, 1) := by decide +kernel
theorem q124_23 : decode (zb 124) 23 = .ok (.sipush 128, 3) := by decide +kernel
theorem q124_26 : decode (zb 124) 26 = .ok (.newarray .int, 2) := by decide +kernel
theorem q124_28 : decode (zb 124) 28 = .ok (.putfield 16, 3) := by decide +kernel
theorem q124_31 : decode (zb 124) 31 = .ok (.aload_n 0, 1) := by decide +kernel
theorem q124_32 : decode (zb 124) 32 = .ok (.bipush 8, 2) := by decide +kernel
theorem q124_34 : decode (zb 124) 34 = .ok (.newarray .int, 2) := by decide +kernel
theorem q124_36 : decode (zb 124) 36 = .ok (.putfield 19, 3) := by decide +kernel
theorem q124_39 : decode (zb 124) 39 = .ok (.aload_n 0, 1) := by decide +kernel
theorem q124_40 : decode (zb 124) 40 = .ok (.bipush 8, 2) := by decide +kernel
theorem q124_42 : decode (zb 124) 42 = .ok (.newarray .int, 2) := by decide +kernel
theorem q124_44 : decode (zb 124) 44 = .ok (.putfield 22, 3) := by decide +kernel
theorem q124_47 : decode (zb 124) 47 = .ok (.aload_n 0, 1) := by decide +kernel
theorem q124_48 : decode (zb 124) 48 = .ok (.sipush 392, 3) := by decide +kernel
theorem q124_51 : decode (zb 124) 51 = .ok (.newarray .int, 2) := by decide +kernel
theorem q124_53 : decode (zb 124) 53 = .ok (.putfield 25, 3) := by decide +kernel
theorem q124_56 : decode (zb 124) 56 = .ok (.aload_n 0, 1) := by decide +kernel
theorem q124_57 : decode (zb 124) 57 = .ok (.sipush 784, 3) := by decide +kernel
theorem q124_60 : decode (zb 124) 60 = .ok (.newarray .int, 2) := by decide +kernel
theorem q124_62 : decode (zb 124) 62 = .ok (.putfield 28, 3) := by decide +kernel
theorem q124_65 : decode (zb 124) 65 = .ok (.aload_n 0, 1) := by decide +kernel
theorem q124_66 : decode (zb 124) 66 = .ok (.iconst 2, 1) := by decide +kernel
theorem q124_67 : decode (zb 124) 67 = .ok (.newarray .boolean, 2) := by decide +kernel
theorem q124_69 : decode (zb 124) 69 = .ok (.putfield 31, 3) := by decide +kernel
theorem q124_72 : decode (zb 124) 72 = .ok (.aload_n 0, 1) := by decide +kernel
theorem q124_73 : decode (zb 124) 73 = .ok (.sipush 300, 3) := by decide +kernel
theorem q124_76 : decode (zb 124) 76 = .ok (.newarray .int, 2) := by decide +kernel
theorem q124_78 : decode (zb 124) 78 = .ok (.putfield 35, 3) := by decide +kernel
theorem q124_81 : decode (zb 124) 81 = .ok (.aload_n 0, 1) := by decide +kernel
theorem q124_82 : decode (zb 124) 82 = .ok (.iconst 4, 1) := by decide +kernel
theorem q124_83 : decode (zb 124) 83 = .ok (.newarray .int, 2) := by decide +kernel
theorem q124_85 : decode (zb 124) 85 = .ok (.putfield 38, 3) := by decide +kernel
theorem q124_88 : decode (zb 124) 88 = .ok (.aload_n 0, 1) := by decide +kernel
theorem q124_89 : decode (zb 124) 89 = .ok (.iconst 4, 1) := by decide +kernel
theorem q124_90 : decode (zb 124) 90 = .ok (.newarray .boolean, 2) := by decide +kernel
theorem q124_92 : decode (zb 124) 92 = .ok (.putfield 41, 3) := by decide +kernel
theorem q124_95 : decode (zb 124) 95 = .ok (.aload_n 0, 1) := by decide +kernel
theorem q124_96 : decode (zb 124) 96 = .ok (.sipush 392, 3) := by decide +kernel
theorem q124_99 : decode (zb 124) 99 = .ok (.newarray .int, 2) := by decide +kernel
theorem q124_101 : decode (zb 124) 101 = .ok (.putfield 44, 3) := by decide +kernel
theorem q124_104 : decode (zb 124) 104 = .ok (.aload_n 0, 1) := by decide +kernel
theorem q124_105 : decode (zb 124) 105 = .ok (.bipush 18, 2) := by decide +kernel
theorem q124_107 : decode (zb 124) 107 = .ok (.newarray .int, 2) := by decide +kernel
theorem q124_109 : decode (zb 124) 109 = .ok (.putfield 47, 3) := by decide +kernel
theorem q124_112 : decode (zb 124) 112 = .ok (.aload_n 0, 1) := by decide +kernel
theorem q124_113 : decode (zb 124) 113 = .ok (.iconst 4, 1) := by decide +kernel
theorem q124_114 : decode (zb 124) 114 = .ok (.newarray .int, 2) := by decide +kernel
theorem q124_116 : decode (zb 124) 116 = .ok (.putfield 50, 3) := by decide +kernel
theorem q124_119 : decode (zb 124) 119 = .ok (.aload_n 0, 1) := by decide +kernel
theorem q124_120 : decode (zb 124) 120 = .ok (.iconst 4, 1) := by decide +kernel
theorem q124_121 : decode (zb 124) 121 = .ok (.newarray .int, 2) := by decide +kernel
theorem q124_123 : decode (zb 124) 123 = .ok (.putfield 53, 3) := by decide +kernel
theorem q124_126 : decode (zb 124) 126 = .ok (.aload_n 0, 1) := by decide +kernel
theorem q124_127 : decode (zb 124) 127 = .ok (.bipush 120, 2) := by decide +kernel
theorem q124_129 : decode (zb 124) 129 = .ok (.newarray .int, 2) := by decide +kernel
theorem q124_131 : decode (zb 124) 131 = .ok (.putfield 56, 3) := by decide +kernel
theorem q124_134 : decode (zb 124) 134 = .ok (.aload_n 0, 1) := by decide +kernel
theorem q124_135 : decode (zb 124) 135 = .ok (.getfield 25, 3) := by decide +kernel
theorem q124_138 : decode (zb 124) 138 = .ok (.bipush 13, 2) := by decide +kernel
theorem q124_140 : decode (zb 124) 140 = .ok (.bipush 16, 2) := by decide +kernel
theorem q124_142 : decode (zb 124) 142 = .ok (.iastore, 1) := by decide +kernel
theorem q124_143 : decode (zb 124) 143 = .ok (.aload_n 0, 1) := by decide +kernel
theorem q124_144 : decode (zb 124) 144 = .ok (.getfield 25, 3) := by decide +kernel
theorem q124_147 : decode (zb 124) 147 = .ok (.bipush 15, 2) := by decide +kernel
theorem q124_149 : decode (zb 124) 149 = .ok (.iconst 3, 1) := by decide +kernel
theorem q124_150 : decode (zb 124) 150 = .ok (.iastore, 1) := by decide +kernel
theorem q124_151 : decode (zb 124) 151 = .ok (.aload_n 0, 1) := by decide +kernel
theorem q124_152 : decode (zb 124) 152 = .ok (.getfield 25, 3) := by decide +kernel
theorem q124_155 : decode (zb 124) 155 = .ok (.bipush 16, 2) := by decide +kernel
theorem q124_157 : decode (zb 124) 157 = .ok (.iconst 1, 1) := by decide +kernel
theorem q124_158 : decode (zb 124) 158 = .ok (.iastore, 1) := by decide +kernel
theorem q124_159 : decode (zb 124) 159 = .ok (.aload_n 0, 1) := by decide +kernel
theorem q124_160 : decode (zb 124) 160 = .ok (.getfield 25, 3) := by decide +kernel
theorem q124_163 : decode (zb 124) 163 = .ok (.bipush 17, 2) := by decide +kernel
theorem q124_165 : decode (zb 124) 165 = .ok (.iconst 4, 1) := by decide +kernel
theorem q124_166 : decode (zb 124) 166 = .ok (.iastore, 1) := by decide +kernel
theorem q124_167 : decode (zb 124) 167 = .ok (.iconst 0, 1) := by decide +kernel
theorem q124_168 : decode (zb 124) 168 = .ok (.istore_n 1, 1) := by decide +kernel
theorem q124_169 : decode (zb 124) 169 = .ok (.iload_n 1, 1) := by decide +kernel
theorem q124_170 : decode (zb 124) 170 = .ok (.iconst 4, 1) := by decide +kernel
theorem q124_171 : decode (zb 124) 171 = .ok (.if_icmp .ge 17, 3) := by decide +kernel
theorem q124_174 : decode (zb 124) 174 = .ok (.aload_n 0, 1) := by decide +kernel
theorem q124_175 : decode (zb 124) 175 = .ok (.getfield 50, 3) := by decide +kernel
theorem q124_178 : decode (zb 124) 178 = .ok (.iload_n 1, 1) := by decide +kernel
theorem q124_179 : decode (zb 124) 179 = .ok (.bipush (-4), 2) := by decide +kernel
theorem q124_181 : decode (zb 124) 181 = .ok (.iastore, 1) := by decide +kernel
theorem q124_182 : decode (zb 124) 182 = .ok (.iinc 1 1, 3) := by decide +kernel
theorem q124_185 : decode (zb 124) 185 = .ok (.goto (-16), 3) := by decide +kernel
theorem q217_0 : decode (zb 217) 0 = .ok (.new 7, 3) := by decide +kernel
theorem q217_3 : decode (zb 217) 3 = .ok (.dup, 1) := by decide +kernel
theorem q217_4 : decode (zb 217) 4 = .ok (.invokespecial 9, 3) := by decide +kernel
theorem q217_7 : decode (zb 217) 7 = .ok (.astore_n 1, 1) := by decide +kernel
theorem q217_8 : decode (zb 217) 8 = .ok (.new 10, 3) := by decide +kernel
theorem q217_11 : decode (zb 217) 11 = .ok (.dup, 1) := by decide +kernel
def kI_2 (I : Nat → Int → Int) : Nat → Int → Int := (zfill I 3)
def kR_2 (R : Nat → Int → Nat) : Nat → Int → Nat := (sR (zfilR R 3) 2 0 3)
theorem kk_2 {I : Nat → Int → Int} {R : Nat → Int → Nat} {S : Nat} : zrun 83 [vR 2] (I, R, 2, S) = some (none, (kI_2 I, kR_2 R, 3, S)) := by
  show zX 83 0 [vR 2] [] (I, R, 2, S) = _
  refine (xAload_n q83_0 rfl).trans ?_
  refine (xObj q83_1 yo_83 zml_9_3 ⟨(Nat.le_of_ble_eq_true rfl), (Nat.le_of_ble_eq_true rfl)⟩ rfl).trans ?_
  refine (xAload_n q83_4 rfl).trans ?_
  refine (xSipush q83_5).trans ?_
  refine (xNewa 3 rfl q83_8 rfl rfl (Nat.lt_of_lt_of_le (Nat.lt_succ_self _) (Nat.le_of_ble_eq_true rfl))).trans ?_
  refine (xPutR 0 q83_10 yo_83 zfl_9_9 rfl rfl (Nat.le_of_ble_eq_true rfl) (Nat.le_of_ble_eq_true rfl) (by decide +kernel)).trans ?_
  exact xVret q83_13 yr_83
def kI_4 (I : Nat → Int → Int) : Nat → Int → Int := (zfill I 5)
def kR_4 (R : Nat → Int → Nat) : Nat → Int → Nat := (sR (sR (zfilR R 5) 4 3 5) 4 0 2)
theorem kk_4 {I : Nat → Int → Int} {R : Nat → Int → Nat} {S : Nat} : zrun 69 [vR 4, vR 2] (I, R, 4, S) = some (none, (kI_4 I, kR_4 R, 5, S)) := by
  show zX 69 0 [vR 4, vR 2] [] (I, R, 4, S) = _
  refine (xAload_n q69_0 rfl).trans ?_
  refine (xObj q69_1 yo_69 zml_7_3 ⟨(Nat.le_of_ble_eq_true rfl), (Nat.le_of_ble_eq_true rfl)⟩ rfl).trans ?_
  refine (xAload_n q69_4 rfl).trans ?_
  refine (xBipush q69_5).trans ?_
  refine (xNewa 5 rfl q69_7 rfl rfl (Nat.lt_of_lt_of_le (Nat.lt_succ_self _) (Nat.le_of_ble_eq_true rfl))).trans ?_
  refine (xPutR 3 q69_9 yo_69 zfl_7_9 rfl rfl (Nat.le_of_ble_eq_true rfl) (Nat.le_of_ble_eq_true rfl) (by decide +kernel)).trans ?_
  refine (xAload_n q69_12 rfl).trans ?_
  refine (xAload_n q69_13 rfl).trans ?_
  refine (xPutR 0 q69_14 yo_69 zfl_7_15 rfl rfl (Nat.le_of_ble_eq_true rfl) (Nat.le_of_ble_eq_true rfl) (by decide +kernel)).trans ?_
  exact xVret q69_17 yr_69
def kI_6 (I : Nat → Int → Int) : Nat → Int → Int := (zfill I 7)
def kR_6 (R : Nat → Int → Nat) : Nat → Int → Nat := (sR (zfilR R 7) 6 0 7)
theorem kk_6 {I : Nat → Int → Int} {R : Nat → Int → Nat} {S : Nat} : zrun 13 [vR 6] (I, R, 6, S) = some (none, (kI_6 I, kR_6 R, 7, S)) := by
  show zX 13 0 [vR 6] [] (I, R, 6, S) = _
  refine (xAload_n q13_0 rfl).trans ?_
  refine (xObj q13_1 yo_13 zml_1_3 ⟨(Nat.le_of_ble_eq_true rfl), (Nat.le_of_ble_eq_true rfl)⟩ rfl).trans ?_
  refine (xAload_n q13_4 rfl).trans ?_
  refine (xBipush q13_5).trans ?_
  refine (xNewa 7 rfl q13_7 rfl rfl (Nat.lt_of_lt_of_le (Nat.lt_succ_self _) (Nat.le_of_ble_eq_true rfl))).trans ?_
  refine (xPutR 0 q13_9 yo_13 zfl_1_9 rfl rfl (Nat.le_of_ble_eq_true rfl) (Nat.le_of_ble_eq_true rfl) (by decide +kernel)).trans ?_
  exact xVret q13_12 yr_13
def kI_9 (I : Nat → Int → Int) : Nat → Int → Int := (zfill (sI I 9 0 (-4)) 10)
def kR_9 (R : Nat → Int → Nat) : Nat → Int → Nat := (sR (zfilR R 10) 9 2 10)
theorem kk_9 {I : Nat → Int → Int} {R : Nat → Int → Nat} {S : Nat} : zrun 0 [vR 9] (I, R, 9, S) = some (none, (kI_9 I, kR_9 R, 10, S)) := by
  show zX 0 0 [vR 9] [] (I, R, 9, S) = _
  refine (xAload_n q0_0 rfl).trans ?_
  refine (xObj q0_1 yo_0 zml_0_3 ⟨(Nat.le_of_ble_eq_true rfl), (Nat.le_of_ble_eq_true rfl)⟩ rfl).trans ?_
  refine (xAload_n q0_4 rfl).trans ?_
  refine (xBipush q0_5).trans ?_
  refine (xPutI 0 q0_7 yo_0 zfl_0_9 rfl rfl (Nat.le_of_ble_eq_true rfl) (by decide +kernel)).trans ?_
  refine (xAload_n q0_10 rfl).trans ?_
  refine (xBipush q0_11).trans ?_
  refine (xNewa 10 rfl q0_13 rfl rfl (Nat.lt_of_lt_of_le (Nat.lt_succ_self _) (Nat.le_of_ble_eq_true rfl))).trans ?_
  refine (xPutR 2 q0_15 yo_0 zfl_0_15 rfl rfl (Nat.le_of_ble_eq_true rfl) (Nat.le_of_ble_eq_true rfl) (by decide +kernel)).trans ?_
  exact xVret q0_18 yr_0
def kI_11 (I : Nat → Int → Int) : Nat → Int → Int := (zfill (zfill (zfill I 12) 13) 14)
def kR_11 (R : Nat → Int → Nat) : Nat → Int → Nat := (sR (zfilR (sR (zfilR (sR (zfilR R 12) 11 0 12) 13) 11 2 13) 14) 11 3 14)
theorem kk_11 {I : Nat → Int → Int} {R : Nat → Int → Nat} {S : Nat} : zrun 26 [vR 11] (I, R, 11, S) = some (none, (kI_11 I, kR_11 R, 14, S)) := by
  show zX 26 0 [vR 11] [] (I, R, 11, S) = _
  refine (xAload_n q26_0 rfl).trans ?_
  refine (xObj q26_1 yo_26 zml_3_3 ⟨(Nat.le_of_ble_eq_true rfl), (Nat.le_of_ble_eq_true rfl)⟩ rfl).trans ?_
  refine (xAload_n q26_4 rfl).trans ?_
  refine (xBipush q26_5).trans ?_
  refine (xNewa 12 rfl q26_7 rfl rfl (Nat.lt_of_lt_of_le (Nat.lt_succ_self _) (Nat.le_of_ble_eq_true rfl))).trans ?_
  refine (xPutR 0 q26_9 yo_26 zfl_3_9 rfl rfl (Nat.le_of_ble_eq_true rfl) (Nat.le_of_ble_eq_true rfl) (by decide +kernel)).trans ?_
  refine (xAload_n q26_12 rfl).trans ?_
  refine (xBipush q26_13).trans ?_
  refine (xNewa 13 rfl q26_15 rfl rfl (Nat.lt_of_lt_of_le (Nat.lt_succ_self _) (Nat.le_of_ble_eq_true rfl))).trans ?_
  refine (xPutR 2 q26_17 yo_26 zfl_3_15 rfl rfl (Nat.le_of_ble_eq_true rfl) (Nat.le_of_ble_eq_true rfl) (by decide +kernel)).trans ?_
  refine (xAload_n q26_20 rfl).trans ?_
  refine (xBipush q26_21).trans ?_
  refine (xNewa 14 rfl q26_23 rfl rfl (Nat.lt_of_lt_of_le (Nat.lt_succ_self _) (Nat.le_of_ble_eq_true rfl))).trans ?_
  refine (xPutR 3 q26_25 yo_26 zfl_3_18 rfl rfl (Nat.le_of_ble_eq_true rfl) (Nat.le_of_ble_eq_true rfl) (by decide +kernel)).trans ?_
  exact xVret q26_28 yr_26
def kI_15 (I : Nat → Int → Int) : Nat → Int → Int := (zfill (zfill I 16) 17)
def kR_15 (R : Nat → Int → Nat) : Nat → Int → Nat := (sR (zfilR (sR (zfilR R 16) 15 0 16) 17) 15 1 17)
theorem kk_15 {I : Nat → Int → Int} {R : Nat → Int → Nat} {S : Nat} : zrun 20 [vR 15] (I, R, 15, S) = some (none, (kI_15 I, kR_15 R, 17, S)) := by
  show zX 20 0 [vR 15] [] (I, R, 15, S) = _
  refine (xAload_n q20_0 rfl).trans ?_
  refine (xObj q20_1 yo_20 zml_2_3 ⟨(Nat.le_of_ble_eq_true rfl), (Nat.le_of_ble_eq_true rfl)⟩ rfl).trans ?_
  refine (xAload_n q20_4 rfl).trans ?_
  refine (xBipush q20_5).trans ?_
  refine (xNewa 16 rfl q20_7 rfl rfl (Nat.lt_of_lt_of_le (Nat.lt_succ_self _) (Nat.le_of_ble_eq_true rfl))).trans ?_
  refine (xPutR 0 q20_9 yo_20 zfl_2_9 rfl rfl (Nat.le_of_ble_eq_true rfl) (Nat.le_of_ble_eq_true rfl) (by decide +kernel)).trans ?_
  refine (xAload_n q20_12 rfl).trans ?_
  refine (xBipush q20_13).trans ?_
  refine (xNewa 17 rfl q20_15 rfl rfl (Nat.lt_of_lt_of_le (Nat.lt_succ_self _) (Nat.le_of_ble_eq_true rfl))).trans ?_
  refine (xPutR 1 q20_17 yo_20 zfl_2_15 rfl rfl (Nat.le_of_ble_eq_true rfl) (Nat.le_of_ble_eq_true rfl) (by decide +kernel)).trans ?_
  exact xVret q20_20 yr_20
def kI_20 (I : Nat → Int → Int) : Nat → Int → Int := (zfill (sI I 20 0 (-4)) 21)
def kR_20 (R : Nat → Int → Nat) : Nat → Int → Nat := (sR (zfilR R 21) 20 2 21)
theorem kk_20 {I : Nat → Int → Int} {R : Nat → Int → Nat} {S : Nat} : zrun 0 [vR 20] (I, R, 20, S) = some (none, (kI_20 I, kR_20 R, 21, S)) := by
  show zX 0 0 [vR 20] [] (I, R, 20, S) = _
  refine (xAload_n q0_0 rfl).trans ?_
  refine (xObj q0_1 yo_0 zml_0_3 ⟨(Nat.le_of_ble_eq_true rfl), (Nat.le_of_ble_eq_true rfl)⟩ rfl).trans ?_
  refine (xAload_n q0_4 rfl).trans ?_
  refine (xBipush q0_5).trans ?_
  refine (xPutI 0 q0_7 yo_0 zfl_0_9 rfl rfl (Nat.le_of_ble_eq_true rfl) (by decide +kernel)).trans ?_
  refine (xAload_n q0_10 rfl).trans ?_
  refine (xBipush q0_11).trans ?_
  refine (xNewa 21 rfl q0_13 rfl rfl (Nat.lt_of_lt_of_le (Nat.lt_succ_self _) (Nat.le_of_ble_eq_true rfl))).trans ?_
  refine (xPutR 2 q0_15 yo_0 zfl_0_15 rfl rfl (Nat.le_of_ble_eq_true rfl) (Nat.le_of_ble_eq_true rfl) (by decide +kernel)).trans ?_
  exact xVret q0_18 yr_0
def kI_8 (I : Nat → Int → Int) : Nat → Int → Int := (kI_20 (zfill (zcpy (zfill (zfill (kI_15 (zfill (kI_11 (zfill (kI_9 (zfill I 9)) 11)) 15)) 18) 19) 900 0 19 0 5) 20))
def kR_8 (R : Nat → Int → Nat) : Nat → Int → Nat := (sR (kR_20 (zfilR (sR (zfilR (sR (zfilR (sR (kR_15 (zfilR (sR (kR_11 (zfilR (sR (kR_9 (zfilR R 9)) 8 0 9) 11)) 8 1 11) 15)) 8 2 15) 18) 8 3 18) 19) 8 4 19) 20)) 8 9 20)
theorem kk_8 {I : Nat → Int → Int} {R : Nat → Int → Nat} {S : Nat} : zrun 35 [vR 8] (I, R, 8, S) = some (none, (kI_8 I, kR_8 R, 21, S)) := by
  show zX 35 0 [vR 8] [] (I, R, 8, S) = _
  refine (xAload_n q35_0 rfl).trans ?_
  refine (xObj q35_1 yo_35 zml_4_3 ⟨(Nat.le_of_ble_eq_true rfl), (Nat.le_of_ble_eq_true rfl)⟩ rfl).trans ?_
  refine (xAload_n q35_4 rfl).trans ?_
  refine (xNew 9 rfl q35_5 yo_35 zcn_4_9 rfl (Nat.lt_of_lt_of_le (Nat.lt_succ_self _) (Nat.le_of_ble_eq_true rfl))).trans ?_
  refine (xDup q35_8 rfl).trans ?_
  refine (xInvC [vR 9] [vR 9, vR 8] q35_9 yo_35 zml_4_11 (by decide) rfl rfl rfl (Or.inl ⟨rfl, (Nat.le_of_ble_eq_true rfl)⟩)).trans ?_
  rw [kk_9, Option.bind_some]
  simp only [zpush_n]
  refine (xPutR 0 q35_12 yo_35 zfl_4_12 rfl rfl (Nat.le_of_ble_eq_true rfl) (Nat.le_of_ble_eq_true rfl) (by decide +kernel)).trans ?_
  refine (xAload_n q35_15 rfl).trans ?_
  refine (xNew 11 rfl q35_16 yo_35 zcn_4_18 rfl (Nat.lt_of_lt_of_le (Nat.lt_succ_self _) (Nat.le_of_ble_eq_true rfl))).trans ?_
  refine (xDup q35_19 rfl).trans ?_
  refine (xInvC [vR 11] [vR 11, vR 8] q35_20 yo_35 zml_4_20 (by decide) rfl rfl rfl (Or.inl ⟨rfl, (Nat.le_of_ble_eq_true rfl)⟩)).trans ?_
  rw [kk_11, Option.bind_some]
  simp only [zpush_n]
  refine (xPutR 1 q35_23 yo_35 zfl_4_21 rfl rfl (Nat.le_of_ble_eq_true rfl) (Nat.le_of_ble_eq_true rfl) (by decide +kernel)).trans ?_
  refine (xAload_n q35_26 rfl).trans ?_
  refine (xNew 15 rfl q35_27 yo_35 zcn_4_25 rfl (Nat.lt_of_lt_of_le (Nat.lt_succ_self _) (Nat.le_of_ble_eq_true rfl))).trans ?_
  refine (xDup q35_30 rfl).trans ?_
  refine (xInvC [vR 15] [vR 15, vR 8] q35_31 yo_35 zml_4_27 (by decide) rfl rfl rfl (Or.inl ⟨rfl, (Nat.le_of_ble_eq_true rfl)⟩)).trans ?_
  rw [kk_15, Option.bind_some]
  simp only [zpush_n]
  refine (xPutR 2 q35_34 yo_35 zfl_4_28 rfl rfl (Nat.le_of_ble_eq_true rfl) (Nat.le_of_ble_eq_true rfl) (by decide +kernel)).trans ?_
  refine (xAload_n q35_37 rfl).trans ?_
  refine (xSipush q35_38).trans ?_
  refine (xNewa 18 rfl q35_41 rfl rfl (Nat.lt_of_lt_of_le (Nat.lt_succ_self _) (Nat.le_of_ble_eq_true rfl))).trans ?_
  refine (xPutR 3 q35_43 yo_35 zfl_4_32 rfl rfl (Nat.le_of_ble_eq_true rfl) (Nat.le_of_ble_eq_true rfl) (by decide +kernel)).trans ?_
  refine (xAload_n q35_46 rfl).trans ?_
  refine (xGetstR (q := 900) q35_47 yo_35 zgs_4_36 rfl).trans ?_
  refine (xClone 19 rfl q35_50 yo_35 zml_4_39 rfl (Nat.lt_of_lt_of_le (Nat.lt_succ_self _) (Nat.le_of_ble_eq_true rfl)) rfl).trans ?_
  refine (xCheck q35_53 yo_35 zcn_4_40 rfl (Nat.le_of_ble_eq_true rfl)).trans ?_
  refine (xPutR 4 q35_56 yo_35 zfl_4_44 rfl rfl (Nat.le_of_ble_eq_true rfl) (Nat.le_of_ble_eq_true rfl) (by decide +kernel)).trans ?_
  refine (xAload_n q35_59 rfl).trans ?_
  refine (xNew 20 rfl q35_60 yo_35 zcn_4_9 rfl (Nat.lt_of_lt_of_le (Nat.lt_succ_self _) (Nat.le_of_ble_eq_true rfl))).trans ?_
  refine (xDup q35_63 rfl).trans ?_
  refine (xInvC [vR 20] [vR 20, vR 8] q35_64 yo_35 zml_4_11 (by decide) rfl rfl rfl (Or.inl ⟨rfl, (Nat.le_of_ble_eq_true rfl)⟩)).trans ?_
  rw [kk_20, Option.bind_some]
  simp only [zpush_n]
  refine (xPutR 9 q35_67 yo_35 zfl_4_47 rfl rfl (Nat.le_of_ble_eq_true rfl) (Nat.le_of_ble_eq_true rfl) (by decide +kernel)).trans ?_
  exact xVret q35_70 yr_35
def kI_26 (I : Nat → Int → Int) : Nat → Int → Int := (zfill (zfill (zfill (zfill I 27) 28) 29) 30)
def kR_26 (R : Nat → Int → Nat) : Nat → Int → Nat := (sR (zfilR (sR (zfilR (sR (zfilR (sR (zfilR R 27) 26 0 27) 28) 26 1 28) 29) 26 2 29) 30) 26 3 30)
theorem kk_26 {I : Nat → Int → Int} {R : Nat → Int → Nat} {S : Nat} : zrun 43 [vR 26] (I, R, 26, S) = some (none, (kI_26 I, kR_26 R, 30, S)) := by
  show zX 43 0 [vR 26] [] (I, R, 26, S) = _
  refine (xAload_n q43_0 rfl).trans ?_
  refine (xObj q43_1 yo_43 zml_5_3 ⟨(Nat.le_of_ble_eq_true rfl), (Nat.le_of_ble_eq_true rfl)⟩ rfl).trans ?_
  refine (xAload_n q43_4 rfl).trans ?_
  refine (xSipush q43_5).trans ?_
  refine (xNewa 27 rfl q43_8 rfl rfl (Nat.lt_of_lt_of_le (Nat.lt_succ_self _) (Nat.le_of_ble_eq_true rfl))).trans ?_
  refine (xPutR 0 q43_10 yo_43 zfl_5_9 rfl rfl (Nat.le_of_ble_eq_true rfl) (Nat.le_of_ble_eq_true rfl) (by decide +kernel)).trans ?_
  refine (xAload_n q43_13 rfl).trans ?_
  refine (xBipush q43_14).trans ?_
  refine (xNewa 28 rfl q43_16 rfl rfl (Nat.lt_of_lt_of_le (Nat.lt_succ_self _) (Nat.le_of_ble_eq_true rfl))).trans ?_
  refine (xPutR 1 q43_18 yo_43 zfl_5_15 rfl rfl (Nat.le_of_ble_eq_true rfl) (Nat.le_of_ble_eq_true rfl) (by decide +kernel)).trans ?_
  refine (xAload_n q43_21 rfl).trans ?_
  refine (xBipush q43_22).trans ?_
  refine (xNewa 29 rfl q43_24 rfl rfl (Nat.lt_of_lt_of_le (Nat.lt_succ_self _) (Nat.le_of_ble_eq_true rfl))).trans ?_
  refine (xPutR 2 q43_26 yo_43 zfl_5_18 rfl rfl (Nat.le_of_ble_eq_true rfl) (Nat.le_of_ble_eq_true rfl) (by decide +kernel)).trans ?_
  refine (xAload_n q43_29 rfl).trans ?_
  refine (xBipush q43_30).trans ?_
  refine (xNewa 30 rfl q43_32 rfl rfl (Nat.lt_of_lt_of_le (Nat.lt_succ_self _) (Nat.le_of_ble_eq_true rfl))).trans ?_
  refine (xPutR 3 q43_34 yo_43 zfl_5_21 rfl rfl (Nat.le_of_ble_eq_true rfl) (Nat.le_of_ble_eq_true rfl) (by decide +kernel)).trans ?_
  exact xVret q43_37 yr_43
def kI_25 (I : Nat → Int → Int) : Nat → Int → Int := (zfill (zfill (zfill (zfill (zfill (zfill (zfill (kI_26 (zfill I 26)) 31) 32) 33) 34) 35) 36) 37)
def kR_25 (R : Nat → Int → Nat) : Nat → Int → Nat := (sR (zfilR (sR (zfilR (sR (zfilR (sR (zfilR (sR (zfilR (sR (zfilR (sR (zfilR (sR (kR_26 (zfilR R 26)) 25 0 26) 31) 25 1 31) 32) 25 2 32) 33) 25 3 33) 34) 25 4 34) 35) 25 5 35) 36) 25 7 36) 37) 25 9 37)
theorem kk_25 {I : Nat → Int → Int} {R : Nat → Int → Nat} {S : Nat} : zrun 52 [vR 25] (I, R, 25, S) = some (none, (kI_25 I, kR_25 R, 37, S)) := by
  show zX 52 0 [vR 25] [] (I, R, 25, S) = _
  refine (xAload_n q52_0 rfl).trans ?_
  refine (xObj q52_1 yo_52 zml_6_3 ⟨(Nat.le_of_ble_eq_true rfl), (Nat.le_of_ble_eq_true rfl)⟩ rfl).trans ?_
  refine (xAload_n q52_4 rfl).trans ?_
  refine (xNew 26 rfl q52_5 yo_52 zcn_6_9 rfl (Nat.lt_of_lt_of_le (Nat.lt_succ_self _) (Nat.le_of_ble_eq_true rfl))).trans ?_
  refine (xDup q52_8 rfl).trans ?_
  refine (xInvC [vR 26] [vR 26, vR 25] q52_9 yo_52 zml_6_11 (by decide) rfl rfl rfl (Or.inl ⟨rfl, (Nat.le_of_ble_eq_true rfl)⟩)).trans ?_
  rw [kk_26, Option.bind_some]
  simp only [zpush_n]
  refine (xPutR 0 q52_12 yo_52 zfl_6_12 rfl rfl (Nat.le_of_ble_eq_true rfl) (Nat.le_of_ble_eq_true rfl) (by decide +kernel)).trans ?_
  refine (xAload_n q52_15 rfl).trans ?_
  refine (xBipush q52_16).trans ?_
  refine (xNewa 31 rfl q52_18 rfl rfl (Nat.lt_of_lt_of_le (Nat.lt_succ_self _) (Nat.le_of_ble_eq_true rfl))).trans ?_
  refine (xPutR 1 q52_20 yo_52 zfl_6_18 rfl rfl (Nat.le_of_ble_eq_true rfl) (Nat.le_of_ble_eq_true rfl) (by decide +kernel)).trans ?_
  refine (xAload_n q52_23 rfl).trans ?_
  refine (xBipush q52_24).trans ?_
  refine (xNewa 32 rfl q52_26 rfl rfl (Nat.lt_of_lt_of_le (Nat.lt_succ_self _) (Nat.le_of_ble_eq_true rfl))).trans ?_
  refine (xPutR 2 q52_28 yo_52 zfl_6_22 rfl rfl (Nat.le_of_ble_eq_true rfl) (Nat.le_of_ble_eq_true rfl) (by decide +kernel)).trans ?_
  refine (xAload_n q52_31 rfl).trans ?_
  refine (xBipush q52_32).trans ?_
  refine (xNewa 33 rfl q52_34 rfl rfl (Nat.lt_of_lt_of_le (Nat.lt_succ_self _) (Nat.le_of_ble_eq_true rfl))).trans ?_
  refine (xPutR 3 q52_36 yo_52 zfl_6_25 rfl rfl (Nat.le_of_ble_eq_true rfl) (Nat.le_of_ble_eq_true rfl) (by decide +kernel)).trans ?_
  refine (xAload_n q52_39 rfl).trans ?_
  refine (xBipush q52_40).trans ?_
  refine (xNewa 34 rfl q52_42 rfl rfl (Nat.lt_of_lt_of_le (Nat.lt_succ_self _) (Nat.le_of_ble_eq_true rfl))).trans ?_
  refine (xPutR 4 q52_44 yo_52 zfl_6_28 rfl rfl (Nat.le_of_ble_eq_true rfl) (Nat.le_of_ble_eq_true rfl) (by decide +kernel)).trans ?_
  refine (xAload_n q52_47 rfl).trans ?_
  refine (xBipush q52_48).trans ?_
  refine (xNewa 35 rfl q52_50 rfl rfl (Nat.lt_of_lt_of_le (Nat.lt_succ_self _) (Nat.le_of_ble_eq_true rfl))).trans ?_
  refine (xPutR 5 q52_52 yo_52 zfl_6_31 rfl rfl (Nat.le_of_ble_eq_true rfl) (Nat.le_of_ble_eq_true rfl) (by decide +kernel)).trans ?_
  refine (xAload_n q52_55 rfl).trans ?_
  refine (xIconst q52_56).trans ?_
  refine (xNewa 36 rfl q52_57 rfl rfl (Nat.lt_of_lt_of_le (Nat.lt_succ_self _) (Nat.le_of_ble_eq_true rfl))).trans ?_
  refine (xPutR 7 q52_59 yo_52 zfl_6_34 rfl rfl (Nat.le_of_ble_eq_true rfl) (Nat.le_of_ble_eq_true rfl) (by decide +kernel)).trans ?_
  refine (xAload_n q52_62 rfl).trans ?_
  refine (xIconst q52_63).trans ?_
  refine (xNewa 37 rfl q52_64 rfl rfl (Nat.lt_of_lt_of_le (Nat.lt_succ_self _) (Nat.le_of_ble_eq_true rfl))).trans ?_
  refine (xPutR 9 q52_66 yo_52 zfl_6_37 rfl rfl (Nat.le_of_ble_eq_true rfl) (Nat.le_of_ble_eq_true rfl) (by decide +kernel)).trans ?_
  exact xVret q52_69 yr_52
def kI_39 (I : Nat → Int → Int) : Nat → Int → Int := (zfill (zfill (zfill (zfill I 40) 41) 42) 43)
def kR_39 (R : Nat → Int → Nat) : Nat → Int → Nat := (sR (zfilR (sR (zfilR (sR (zfilR (sR (zfilR R 40) 39 0 40) 41) 39 1 41) 42) 39 2 42) 43) 39 3 43)
theorem kk_39 {I : Nat → Int → Int} {R : Nat → Int → Nat} {S : Nat} : zrun 43 [vR 39] (I, R, 39, S) = some (none, (kI_39 I, kR_39 R, 43, S)) := by
  show zX 43 0 [vR 39] [] (I, R, 39, S) = _
  refine (xAload_n q43_0 rfl).trans ?_
  refine (xObj q43_1 yo_43 zml_5_3 ⟨(Nat.le_of_ble_eq_true rfl), (Nat.le_of_ble_eq_true rfl)⟩ rfl).trans ?_
  refine (xAload_n q43_4 rfl).trans ?_
  refine (xSipush q43_5).trans ?_
  refine (xNewa 40 rfl q43_8 rfl rfl (Nat.lt_of_lt_of_le (Nat.lt_succ_self _) (Nat.le_of_ble_eq_true rfl))).trans ?_
  refine (xPutR 0 q43_10 yo_43 zfl_5_9 rfl rfl (Nat.le_of_ble_eq_true rfl) (Nat.le_of_ble_eq_true rfl) (by decide +kernel)).trans ?_
  refine (xAload_n q43_13 rfl).trans ?_
  refine (xBipush q43_14).trans ?_
  refine (xNewa 41 rfl q43_16 rfl rfl (Nat.lt_of_lt_of_le (Nat.lt_succ_self _) (Nat.le_of_ble_eq_true rfl))).trans ?_
  refine (xPutR 1 q43_18 yo_43 zfl_5_15 rfl rfl (Nat.le_of_ble_eq_true rfl) (Nat.le_of_ble_eq_true rfl) (by decide +kernel)).trans ?_
  refine (xAload_n q43_21 rfl).trans ?_
  refine (xBipush q43_22).trans ?_
  refine (xNewa 42 rfl q43_24 rfl rfl (Nat.lt_of_lt_of_le (Nat.lt_succ_self _) (Nat.le_of_ble_eq_true rfl))).trans ?_
  refine (xPutR 2 q43_26 yo_43 zfl_5_18 rfl rfl (Nat.le_of_ble_eq_true rfl) (Nat.le_of_ble_eq_true rfl) (by decide +kernel)).trans ?_
  refine (xAload_n q43_29 rfl).trans ?_
  refine (xBipush q43_30).trans ?_
  refine (xNewa 43 rfl q43_32 rfl rfl (Nat.lt_of_lt_of_le (Nat.lt_succ_self _) (Nat.le_of_ble_eq_true rfl))).trans ?_
  refine (xPutR 3 q43_34 yo_43 zfl_5_21 rfl rfl (Nat.le_of_ble_eq_true rfl) (Nat.le_of_ble_eq_true rfl) (by decide +kernel)).trans ?_
  exact xVret q43_37 yr_43
def kI_38 (I : Nat → Int → Int) : Nat → Int → Int := (zfill (zfill (zfill (zfill (zfill (zfill (zfill (kI_39 (zfill I 39)) 44) 45) 46) 47) 48) 49) 50)
def kR_38 (R : Nat → Int → Nat) : Nat → Int → Nat := (sR (zfilR (sR (zfilR (sR (zfilR (sR (zfilR (sR (zfilR (sR (zfilR (sR (zfilR (sR (kR_39 (zfilR R 39)) 38 0 39) 44) 38 1 44) 45) 38 2 45) 46) 38 3 46) 47) 38 4 47) 48) 38 5 48) 49) 38 7 49) 50) 38 9 50)
theorem kk_38 {I : Nat → Int → Int} {R : Nat → Int → Nat} {S : Nat} : zrun 52 [vR 38] (I, R, 38, S) = some (none, (kI_38 I, kR_38 R, 50, S)) := by
  show zX 52 0 [vR 38] [] (I, R, 38, S) = _
  refine (xAload_n q52_0 rfl).trans ?_
  refine (xObj q52_1 yo_52 zml_6_3 ⟨(Nat.le_of_ble_eq_true rfl), (Nat.le_of_ble_eq_true rfl)⟩ rfl).trans ?_
  refine (xAload_n q52_4 rfl).trans ?_
  refine (xNew 39 rfl q52_5 yo_52 zcn_6_9 rfl (Nat.lt_of_lt_of_le (Nat.lt_succ_self _) (Nat.le_of_ble_eq_true rfl))).trans ?_
  refine (xDup q52_8 rfl).trans ?_
  refine (xInvC [vR 39] [vR 39, vR 38] q52_9 yo_52 zml_6_11 (by decide) rfl rfl rfl (Or.inl ⟨rfl, (Nat.le_of_ble_eq_true rfl)⟩)).trans ?_
  rw [kk_39, Option.bind_some]
  simp only [zpush_n]
  refine (xPutR 0 q52_12 yo_52 zfl_6_12 rfl rfl (Nat.le_of_ble_eq_true rfl) (Nat.le_of_ble_eq_true rfl) (by decide +kernel)).trans ?_
  refine (xAload_n q52_15 rfl).trans ?_
  refine (xBipush q52_16).trans ?_
  refine (xNewa 44 rfl q52_18 rfl rfl (Nat.lt_of_lt_of_le (Nat.lt_succ_self _) (Nat.le_of_ble_eq_true rfl))).trans ?_
  refine (xPutR 1 q52_20 yo_52 zfl_6_18 rfl rfl (Nat.le_of_ble_eq_true rfl) (Nat.le_of_ble_eq_true rfl) (by decide +kernel)).trans ?_
  refine (xAload_n q52_23 rfl).trans ?_
  refine (xBipush q52_24).trans ?_
  refine (xNewa 45 rfl q52_26 rfl rfl (Nat.lt_of_lt_of_le (Nat.lt_succ_self _) (Nat.le_of_ble_eq_true rfl))).trans ?_
  refine (xPutR 2 q52_28 yo_52 zfl_6_22 rfl rfl (Nat.le_of_ble_eq_true rfl) (Nat.le_of_ble_eq_true rfl) (by decide +kernel)).trans ?_
  refine (xAload_n q52_31 rfl).trans ?_
  refine (xBipush q52_32).trans ?_
  refine (xNewa 46 rfl q52_34 rfl rfl (Nat.lt_of_lt_of_le (Nat.lt_succ_self _) (Nat.le_of_ble_eq_true rfl))).trans ?_
  refine (xPutR 3 q52_36 yo_52 zfl_6_25 rfl rfl (Nat.le_of_ble_eq_true rfl) (Nat.le_of_ble_eq_true rfl) (by decide +kernel)).trans ?_
  refine (xAload_n q52_39 rfl).trans ?_
  refine (xBipush q52_40).trans ?_
  refine (xNewa 47 rfl q52_42 rfl rfl (Nat.lt_of_lt_of_le (Nat.lt_succ_self _) (Nat.le_of_ble_eq_true rfl))).trans ?_
  refine (xPutR 4 q52_44 yo_52 zfl_6_28 rfl rfl (Nat.le_of_ble_eq_true rfl) (Nat.le_of_ble_eq_true rfl) (by decide +kernel)).trans ?_
  refine (xAload_n q52_47 rfl).trans ?_
  refine (xBipush q52_48).trans ?_
  refine (xNewa 48 rfl q52_50 rfl rfl (Nat.lt_of_lt_of_le (Nat.lt_succ_self _) (Nat.le_of_ble_eq_true rfl))).trans ?_
  refine (xPutR 5 q52_52 yo_52 zfl_6_31 rfl rfl (Nat.le_of_ble_eq_true rfl) (Nat.le_of_ble_eq_true rfl) (by decide +kernel)).trans ?_
  refine (xAload_n q52_55 rfl).trans ?_
  refine (xIconst q52_56).trans ?_
  refine (xNewa 49 rfl q52_57 rfl rfl (Nat.lt_of_lt_of_le (Nat.lt_succ_self _) (Nat.le_of_ble_eq_true rfl))).trans ?_
  refine (xPutR 7 q52_59 yo_52 zfl_6_34 rfl rfl (Nat.le_of_ble_eq_true rfl) (Nat.le_of_ble_eq_true rfl) (by decide +kernel)).trans ?_
  refine (xAload_n q52_62 rfl).trans ?_
  refine (xIconst q52_63).trans ?_
  refine (xNewa 50 rfl q52_64 rfl rfl (Nat.lt_of_lt_of_le (Nat.lt_succ_self _) (Nat.le_of_ble_eq_true rfl))).trans ?_
  refine (xPutR 9 q52_66 yo_52 zfl_6_37 rfl rfl (Nat.le_of_ble_eq_true rfl) (Nat.le_of_ble_eq_true rfl) (by decide +kernel)).trans ?_
  exact xVret q52_69 yr_52
def kI_52 (I : Nat → Int → Int) : Nat → Int → Int := (zfill (sI I 52 0 (-4)) 53)
def kR_52 (R : Nat → Int → Nat) : Nat → Int → Nat := (sR (zfilR R 53) 52 2 53)
theorem kk_52 {I : Nat → Int → Int} {R : Nat → Int → Nat} {S : Nat} : zrun 0 [vR 52] (I, R, 52, S) = some (none, (kI_52 I, kR_52 R, 53, S)) := by
  show zX 0 0 [vR 52] [] (I, R, 52, S) = _
  refine (xAload_n q0_0 rfl).trans ?_
  refine (xObj q0_1 yo_0 zml_0_3 ⟨(Nat.le_of_ble_eq_true rfl), (Nat.le_of_ble_eq_true rfl)⟩ rfl).trans ?_
  refine (xAload_n q0_4 rfl).trans ?_
  refine (xBipush q0_5).trans ?_
  refine (xPutI 0 q0_7 yo_0 zfl_0_9 rfl rfl (Nat.le_of_ble_eq_true rfl) (by decide +kernel)).trans ?_
  refine (xAload_n q0_10 rfl).trans ?_
  refine (xBipush q0_11).trans ?_
  refine (xNewa 53 rfl q0_13 rfl rfl (Nat.lt_of_lt_of_le (Nat.lt_succ_self _) (Nat.le_of_ble_eq_true rfl))).trans ?_
  refine (xPutR 2 q0_15 yo_0 zfl_0_15 rfl rfl (Nat.le_of_ble_eq_true rfl) (Nat.le_of_ble_eq_true rfl) (by decide +kernel)).trans ?_
  exact xVret q0_18 yr_0
def kI_54 (I : Nat → Int → Int) : Nat → Int → Int := (zfill (zfill (zfill I 55) 56) 57)
def kR_54 (R : Nat → Int → Nat) : Nat → Int → Nat := (sR (zfilR (sR (zfilR (sR (zfilR R 55) 54 0 55) 56) 54 2 56) 57) 54 3 57)
theorem kk_54 {I : Nat → Int → Int} {R : Nat → Int → Nat} {S : Nat} : zrun 26 [vR 54] (I, R, 54, S) = some (none, (kI_54 I, kR_54 R, 57, S)) := by
  show zX 26 0 [vR 54] [] (I, R, 54, S) = _
  refine (xAload_n q26_0 rfl).trans ?_
  refine (xObj q26_1 yo_26 zml_3_3 ⟨(Nat.le_of_ble_eq_true rfl), (Nat.le_of_ble_eq_true rfl)⟩ rfl).trans ?_
  refine (xAload_n q26_4 rfl).trans ?_
  refine (xBipush q26_5).trans ?_
  refine (xNewa 55 rfl q26_7 rfl rfl (Nat.lt_of_lt_of_le (Nat.lt_succ_self _) (Nat.le_of_ble_eq_true rfl))).trans ?_
  refine (xPutR 0 q26_9 yo_26 zfl_3_9 rfl rfl (Nat.le_of_ble_eq_true rfl) (Nat.le_of_ble_eq_true rfl) (by decide +kernel)).trans ?_
  refine (xAload_n q26_12 rfl).trans ?_
  refine (xBipush q26_13).trans ?_
  refine (xNewa 56 rfl q26_15 rfl rfl (Nat.lt_of_lt_of_le (Nat.lt_succ_self _) (Nat.le_of_ble_eq_true rfl))).trans ?_
  refine (xPutR 2 q26_17 yo_26 zfl_3_15 rfl rfl (Nat.le_of_ble_eq_true rfl) (Nat.le_of_ble_eq_true rfl) (by decide +kernel)).trans ?_
  refine (xAload_n q26_20 rfl).trans ?_
  refine (xBipush q26_21).trans ?_
  refine (xNewa 57 rfl q26_23 rfl rfl (Nat.lt_of_lt_of_le (Nat.lt_succ_self _) (Nat.le_of_ble_eq_true rfl))).trans ?_
  refine (xPutR 3 q26_25 yo_26 zfl_3_18 rfl rfl (Nat.le_of_ble_eq_true rfl) (Nat.le_of_ble_eq_true rfl) (by decide +kernel)).trans ?_
  exact xVret q26_28 yr_26
def kI_58 (I : Nat → Int → Int) : Nat → Int → Int := (zfill (zfill I 59) 60)
def kR_58 (R : Nat → Int → Nat) : Nat → Int → Nat := (sR (zfilR (sR (zfilR R 59) 58 0 59) 60) 58 1 60)
theorem kk_58 {I : Nat → Int → Int} {R : Nat → Int → Nat} {S : Nat} : zrun 20 [vR 58] (I, R, 58, S) = some (none, (kI_58 I, kR_58 R, 60, S)) := by
  show zX 20 0 [vR 58] [] (I, R, 58, S) = _
  refine (xAload_n q20_0 rfl).trans ?_
  refine (xObj q20_1 yo_20 zml_2_3 ⟨(Nat.le_of_ble_eq_true rfl), (Nat.le_of_ble_eq_true rfl)⟩ rfl).trans ?_
  refine (xAload_n q20_4 rfl).trans ?_
  refine (xBipush q20_5).trans ?_
  refine (xNewa 59 rfl q20_7 rfl rfl (Nat.lt_of_lt_of_le (Nat.lt_succ_self _) (Nat.le_of_ble_eq_true rfl))).trans ?_
  refine (xPutR 0 q20_9 yo_20 zfl_2_9 rfl rfl (Nat.le_of_ble_eq_true rfl) (Nat.le_of_ble_eq_true rfl) (by decide +kernel)).trans ?_
  refine (xAload_n q20_12 rfl).trans ?_
  refine (xBipush q20_13).trans ?_
  refine (xNewa 60 rfl q20_15 rfl rfl (Nat.lt_of_lt_of_le (Nat.lt_succ_self _) (Nat.le_of_ble_eq_true rfl))).trans ?_
  refine (xPutR 1 q20_17 yo_20 zfl_2_15 rfl rfl (Nat.le_of_ble_eq_true rfl) (Nat.le_of_ble_eq_true rfl) (by decide +kernel)).trans ?_
  exact xVret q20_20 yr_20
def kI_63 (I : Nat → Int → Int) : Nat → Int → Int := (zfill (sI I 63 0 (-4)) 64)
def kR_63 (R : Nat → Int → Nat) : Nat → Int → Nat := (sR (zfilR R 64) 63 2 64)
theorem kk_63 {I : Nat → Int → Int} {R : Nat → Int → Nat} {S : Nat} : zrun 0 [vR 63] (I, R, 63, S) = some (none, (kI_63 I, kR_63 R, 64, S)) := by
  show zX 0 0 [vR 63] [] (I, R, 63, S) = _
  refine (xAload_n q0_0 rfl).trans ?_
  refine (xObj q0_1 yo_0 zml_0_3 ⟨(Nat.le_of_ble_eq_true rfl), (Nat.le_of_ble_eq_true rfl)⟩ rfl).trans ?_
  refine (xAload_n q0_4 rfl).trans ?_
  refine (xBipush q0_5).trans ?_
  refine (xPutI 0 q0_7 yo_0 zfl_0_9 rfl rfl (Nat.le_of_ble_eq_true rfl) (by decide +kernel)).trans ?_
  refine (xAload_n q0_10 rfl).trans ?_
  refine (xBipush q0_11).trans ?_
  refine (xNewa 64 rfl q0_13 rfl rfl (Nat.lt_of_lt_of_le (Nat.lt_succ_self _) (Nat.le_of_ble_eq_true rfl))).trans ?_
  refine (xPutR 2 q0_15 yo_0 zfl_0_15 rfl rfl (Nat.le_of_ble_eq_true rfl) (Nat.le_of_ble_eq_true rfl) (by decide +kernel)).trans ?_
  exact xVret q0_18 yr_0
def kI_51 (I : Nat → Int → Int) : Nat → Int → Int := (kI_63 (zfill (zcpy (zfill (zfill (kI_58 (zfill (kI_54 (zfill (kI_52 (zfill I 52)) 54)) 58)) 61) 62) 900 0 62 0 5) 63))
def kR_51 (R : Nat → Int → Nat) : Nat → Int → Nat := (sR (kR_63 (zfilR (sR (zfilR (sR (zfilR (sR (kR_58 (zfilR (sR (kR_54 (zfilR (sR (kR_52 (zfilR R 52)) 51 0 52) 54)) 51 1 54) 58)) 51 2 58) 61) 51 3 61) 62) 51 4 62) 63)) 51 9 63)
theorem kk_51 {I : Nat → Int → Int} {R : Nat → Int → Nat} {S : Nat} : zrun 35 [vR 51] (I, R, 51, S) = some (none, (kI_51 I, kR_51 R, 64, S)) := by
  show zX 35 0 [vR 51] [] (I, R, 51, S) = _
  refine (xAload_n q35_0 rfl).trans ?_
  refine (xObj q35_1 yo_35 zml_4_3 ⟨(Nat.le_of_ble_eq_true rfl), (Nat.le_of_ble_eq_true rfl)⟩ rfl).trans ?_
  refine (xAload_n q35_4 rfl).trans ?_
  refine (xNew 52 rfl q35_5 yo_35 zcn_4_9 rfl (Nat.lt_of_lt_of_le (Nat.lt_succ_self _) (Nat.le_of_ble_eq_true rfl))).trans ?_
  refine (xDup q35_8 rfl).trans ?_
  refine (xInvC [vR 52] [vR 52, vR 51] q35_9 yo_35 zml_4_11 (by decide) rfl rfl rfl (Or.inl ⟨rfl, (Nat.le_of_ble_eq_true rfl)⟩)).trans ?_
  rw [kk_52, Option.bind_some]
  simp only [zpush_n]
  refine (xPutR 0 q35_12 yo_35 zfl_4_12 rfl rfl (Nat.le_of_ble_eq_true rfl) (Nat.le_of_ble_eq_true rfl) (by decide +kernel)).trans ?_
  refine (xAload_n q35_15 rfl).trans ?_
  refine (xNew 54 rfl q35_16 yo_35 zcn_4_18 rfl (Nat.lt_of_lt_of_le (Nat.lt_succ_self _) (Nat.le_of_ble_eq_true rfl))).trans ?_
  refine (xDup q35_19 rfl).trans ?_
  refine (xInvC [vR 54] [vR 54, vR 51] q35_20 yo_35 zml_4_20 (by decide) rfl rfl rfl (Or.inl ⟨rfl, (Nat.le_of_ble_eq_true rfl)⟩)).trans ?_
  rw [kk_54, Option.bind_some]
  simp only [zpush_n]
  refine (xPutR 1 q35_23 yo_35 zfl_4_21 rfl rfl (Nat.le_of_ble_eq_true rfl) (Nat.le_of_ble_eq_true rfl) (by decide +kernel)).trans ?_
  refine (xAload_n q35_26 rfl).trans ?_
  refine (xNew 58 rfl q35_27 yo_35 zcn_4_25 rfl (Nat.lt_of_lt_of_le (Nat.lt_succ_self _) (Nat.le_of_ble_eq_true rfl))).trans ?_
  refine (xDup q35_30 rfl).trans ?_
  refine (xInvC [vR 58] [vR 58, vR 51] q35_31 yo_35 zml_4_27 (by decide) rfl rfl rfl (Or.inl ⟨rfl, (Nat.le_of_ble_eq_true rfl)⟩)).trans ?_
  rw [kk_58, Option.bind_some]
  simp only [zpush_n]
  refine (xPutR 2 q35_34 yo_35 zfl_4_28 rfl rfl (Nat.le_of_ble_eq_true rfl) (Nat.le_of_ble_eq_true rfl) (by decide +kernel)).trans ?_
  refine (xAload_n q35_37 rfl).trans ?_
  refine (xSipush q35_38).trans ?_
  refine (xNewa 61 rfl q35_41 rfl rfl (Nat.lt_of_lt_of_le (Nat.lt_succ_self _) (Nat.le_of_ble_eq_true rfl))).trans ?_
  refine (xPutR 3 q35_43 yo_35 zfl_4_32 rfl rfl (Nat.le_of_ble_eq_true rfl) (Nat.le_of_ble_eq_true rfl) (by decide +kernel)).trans ?_
  refine (xAload_n q35_46 rfl).trans ?_
  refine (xGetstR (q := 900) q35_47 yo_35 zgs_4_36 rfl).trans ?_
  refine (xClone 62 rfl q35_50 yo_35 zml_4_39 rfl (Nat.lt_of_lt_of_le (Nat.lt_succ_self _) (Nat.le_of_ble_eq_true rfl)) rfl).trans ?_
  refine (xCheck q35_53 yo_35 zcn_4_40 rfl (Nat.le_of_ble_eq_true rfl)).trans ?_
  refine (xPutR 4 q35_56 yo_35 zfl_4_44 rfl rfl (Nat.le_of_ble_eq_true rfl) (Nat.le_of_ble_eq_true rfl) (by decide +kernel)).trans ?_
  refine (xAload_n q35_59 rfl).trans ?_
  refine (xNew 63 rfl q35_60 yo_35 zcn_4_9 rfl (Nat.lt_of_lt_of_le (Nat.lt_succ_self _) (Nat.le_of_ble_eq_true rfl))).trans ?_
  refine (xDup q35_63 rfl).trans ?_
  refine (xInvC [vR 63] [vR 63, vR 51] q35_64 yo_35 zml_4_11 (by decide) rfl rfl rfl (Or.inl ⟨rfl, (Nat.le_of_ble_eq_true rfl)⟩)).trans ?_
  rw [kk_63, Option.bind_some]
  simp only [zpush_n]
  refine (xPutR 9 q35_67 yo_35 zfl_4_47 rfl rfl (Nat.le_of_ble_eq_true rfl) (Nat.le_of_ble_eq_true rfl) (by decide +kernel)).trans ?_
  exact xVret q35_70 yr_35
def kI_66 (I : Nat → Int → Int) : Nat → Int → Int := (zfill (sI I 66 0 (-4)) 67)
def kR_66 (R : Nat → Int → Nat) : Nat → Int → Nat := (sR (zfilR R 67) 66 2 67)
theorem kk_66 {I : Nat → Int → Int} {R : Nat → Int → Nat} {S : Nat} : zrun 0 [vR 66] (I, R, 66, S) = some (none, (kI_66 I, kR_66 R, 67, S)) := by
  show zX 0 0 [vR 66] [] (I, R, 66, S) = _
  refine (xAload_n q0_0 rfl).trans ?_
  refine (xObj q0_1 yo_0 zml_0_3 ⟨(Nat.le_of_ble_eq_true rfl), (Nat.le_of_ble_eq_true rfl)⟩ rfl).trans ?_
  refine (xAload_n q0_4 rfl).trans ?_
  refine (xBipush q0_5).trans ?_
  refine (xPutI 0 q0_7 yo_0 zfl_0_9 rfl rfl (Nat.le_of_ble_eq_true rfl) (by decide +kernel)).trans ?_
  refine (xAload_n q0_10 rfl).trans ?_
  refine (xBipush q0_11).trans ?_
  refine (xNewa 67 rfl q0_13 rfl rfl (Nat.lt_of_lt_of_le (Nat.lt_succ_self _) (Nat.le_of_ble_eq_true rfl))).trans ?_
  refine (xPutR 2 q0_15 yo_0 zfl_0_15 rfl rfl (Nat.le_of_ble_eq_true rfl) (Nat.le_of_ble_eq_true rfl) (by decide +kernel)).trans ?_
  exact xVret q0_18 yr_0
def kI_68 (I : Nat → Int → Int) : Nat → Int → Int := (zfill (zfill (zfill I 69) 70) 71)
def kR_68 (R : Nat → Int → Nat) : Nat → Int → Nat := (sR (zfilR (sR (zfilR (sR (zfilR R 69) 68 0 69) 70) 68 2 70) 71) 68 3 71)
theorem kk_68 {I : Nat → Int → Int} {R : Nat → Int → Nat} {S : Nat} : zrun 26 [vR 68] (I, R, 68, S) = some (none, (kI_68 I, kR_68 R, 71, S)) := by
  show zX 26 0 [vR 68] [] (I, R, 68, S) = _
  refine (xAload_n q26_0 rfl).trans ?_
  refine (xObj q26_1 yo_26 zml_3_3 ⟨(Nat.le_of_ble_eq_true rfl), (Nat.le_of_ble_eq_true rfl)⟩ rfl).trans ?_
  refine (xAload_n q26_4 rfl).trans ?_
  refine (xBipush q26_5).trans ?_
  refine (xNewa 69 rfl q26_7 rfl rfl (Nat.lt_of_lt_of_le (Nat.lt_succ_self _) (Nat.le_of_ble_eq_true rfl))).trans ?_
  refine (xPutR 0 q26_9 yo_26 zfl_3_9 rfl rfl (Nat.le_of_ble_eq_true rfl) (Nat.le_of_ble_eq_true rfl) (by decide +kernel)).trans ?_
  refine (xAload_n q26_12 rfl).trans ?_
  refine (xBipush q26_13).trans ?_
  refine (xNewa 70 rfl q26_15 rfl rfl (Nat.lt_of_lt_of_le (Nat.lt_succ_self _) (Nat.le_of_ble_eq_true rfl))).trans ?_
  refine (xPutR 2 q26_17 yo_26 zfl_3_15 rfl rfl (Nat.le_of_ble_eq_true rfl) (Nat.le_of_ble_eq_true rfl) (by decide +kernel)).trans ?_
  refine (xAload_n q26_20 rfl).trans ?_
  refine (xBipush q26_21).trans ?_
  refine (xNewa 71 rfl q26_23 rfl rfl (Nat.lt_of_lt_of_le (Nat.lt_succ_self _) (Nat.le_of_ble_eq_true rfl))).trans ?_
  refine (xPutR 3 q26_25 yo_26 zfl_3_18 rfl rfl (Nat.le_of_ble_eq_true rfl) (Nat.le_of_ble_eq_true rfl) (by decide +kernel)).trans ?_
  exact xVret q26_28 yr_26
def kI_72 (I : Nat → Int → Int) : Nat → Int → Int := (zfill (zfill I 73) 74)
def kR_72 (R : Nat → Int → Nat) : Nat → Int → Nat := (sR (zfilR (sR (zfilR R 73) 72 0 73) 74) 72 1 74)
theorem kk_72 {I : Nat → Int → Int} {R : Nat → Int → Nat} {S : Nat} : zrun 20 [vR 72] (I, R, 72, S) = some (none, (kI_72 I, kR_72 R, 74, S)) := by
  show zX 20 0 [vR 72] [] (I, R, 72, S) = _
  refine (xAload_n q20_0 rfl).trans ?_
  refine (xObj q20_1 yo_20 zml_2_3 ⟨(Nat.le_of_ble_eq_true rfl), (Nat.le_of_ble_eq_true rfl)⟩ rfl).trans ?_
  refine (xAload_n q20_4 rfl).trans ?_
  refine (xBipush q20_5).trans ?_
  refine (xNewa 73 rfl q20_7 rfl rfl (Nat.lt_of_lt_of_le (Nat.lt_succ_self _) (Nat.le_of_ble_eq_true rfl))).trans ?_
  refine (xPutR 0 q20_9 yo_20 zfl_2_9 rfl rfl (Nat.le_of_ble_eq_true rfl) (Nat.le_of_ble_eq_true rfl) (by decide +kernel)).trans ?_
  refine (xAload_n q20_12 rfl).trans ?_
  refine (xBipush q20_13).trans ?_
  refine (xNewa 74 rfl q20_15 rfl rfl (Nat.lt_of_lt_of_le (Nat.lt_succ_self _) (Nat.le_of_ble_eq_true rfl))).trans ?_
  refine (xPutR 1 q20_17 yo_20 zfl_2_15 rfl rfl (Nat.le_of_ble_eq_true rfl) (Nat.le_of_ble_eq_true rfl) (by decide +kernel)).trans ?_
  exact xVret q20_20 yr_20
def kI_77 (I : Nat → Int → Int) : Nat → Int → Int := (zfill (sI I 77 0 (-4)) 78)
def kR_77 (R : Nat → Int → Nat) : Nat → Int → Nat := (sR (zfilR R 78) 77 2 78)
theorem kk_77 {I : Nat → Int → Int} {R : Nat → Int → Nat} {S : Nat} : zrun 0 [vR 77] (I, R, 77, S) = some (none, (kI_77 I, kR_77 R, 78, S)) := by
  show zX 0 0 [vR 77] [] (I, R, 77, S) = _
  refine (xAload_n q0_0 rfl).trans ?_
  refine (xObj q0_1 yo_0 zml_0_3 ⟨(Nat.le_of_ble_eq_true rfl), (Nat.le_of_ble_eq_true rfl)⟩ rfl).trans ?_
  refine (xAload_n q0_4 rfl).trans ?_
  refine (xBipush q0_5).trans ?_
  refine (xPutI 0 q0_7 yo_0 zfl_0_9 rfl rfl (Nat.le_of_ble_eq_true rfl) (by decide +kernel)).trans ?_
  refine (xAload_n q0_10 rfl).trans ?_
  refine (xBipush q0_11).trans ?_
  refine (xNewa 78 rfl q0_13 rfl rfl (Nat.lt_of_lt_of_le (Nat.lt_succ_self _) (Nat.le_of_ble_eq_true rfl))).trans ?_
  refine (xPutR 2 q0_15 yo_0 zfl_0_15 rfl rfl (Nat.le_of_ble_eq_true rfl) (Nat.le_of_ble_eq_true rfl) (by decide +kernel)).trans ?_
  exact xVret q0_18 yr_0
def kI_65 (I : Nat → Int → Int) : Nat → Int → Int := (kI_77 (zfill (zcpy (zfill (zfill (kI_72 (zfill (kI_68 (zfill (kI_66 (zfill I 66)) 68)) 72)) 75) 76) 900 0 76 0 5) 77))
def kR_65 (R : Nat → Int → Nat) : Nat → Int → Nat := (sR (kR_77 (zfilR (sR (zfilR (sR (zfilR (sR (kR_72 (zfilR (sR (kR_68 (zfilR (sR (kR_66 (zfilR R 66)) 65 0 66) 68)) 65 1 68) 72)) 65 2 72) 75) 65 3 75) 76) 65 4 76) 77)) 65 9 77)
theorem kk_65 {I : Nat → Int → Int} {R : Nat → Int → Nat} {S : Nat} : zrun 35 [vR 65] (I, R, 65, S) = some (none, (kI_65 I, kR_65 R, 78, S)) := by
  show zX 35 0 [vR 65] [] (I, R, 65, S) = _
  refine (xAload_n q35_0 rfl).trans ?_
  refine (xObj q35_1 yo_35 zml_4_3 ⟨(Nat.le_of_ble_eq_true rfl), (Nat.le_of_ble_eq_true rfl)⟩ rfl).trans ?_
  refine (xAload_n q35_4 rfl).trans ?_
  refine (xNew 66 rfl q35_5 yo_35 zcn_4_9 rfl (Nat.lt_of_lt_of_le (Nat.lt_succ_self _) (Nat.le_of_ble_eq_true rfl))).trans ?_
  refine (xDup q35_8 rfl).trans ?_
  refine (xInvC [vR 66] [vR 66, vR 65] q35_9 yo_35 zml_4_11 (by decide) rfl rfl rfl (Or.inl ⟨rfl, (Nat.le_of_ble_eq_true rfl)⟩)).trans ?_
  rw [kk_66, Option.bind_some]
  simp only [zpush_n]
  refine (xPutR 0 q35_12 yo_35 zfl_4_12 rfl rfl (Nat.le_of_ble_eq_true rfl) (Nat.le_of_ble_eq_true rfl) (by decide +kernel)).trans ?_
  refine (xAload_n q35_15 rfl).trans ?_
  refine (xNew 68 rfl q35_16 yo_35 zcn_4_18 rfl (Nat.lt_of_lt_of_le (Nat.lt_succ_self _) (Nat.le_of_ble_eq_true rfl))).trans ?_
  refine (xDup q35_19 rfl).trans ?_
  refine (xInvC [vR 68] [vR 68, vR 65] q35_20 yo_35 zml_4_20 (by decide) rfl rfl rfl (Or.inl ⟨rfl, (Nat.le_of_ble_eq_true rfl)⟩)).trans ?_
  rw [kk_68, Option.bind_some]
  simp only [zpush_n]
  refine (xPutR 1 q35_23 yo_35 zfl_4_21 rfl rfl (Nat.le_of_ble_eq_true rfl) (Nat.le_of_ble_eq_true rfl) (by decide +kernel)).trans ?_
  refine (xAload_n q35_26 rfl).trans ?_
  refine (xNew 72 rfl q35_27 yo_35 zcn_4_25 rfl (Nat.lt_of_lt_of_le (Nat.lt_succ_self _) (Nat.le_of_ble_eq_true rfl))).trans ?_
  refine (xDup q35_30 rfl).trans ?_
  refine (xInvC [vR 72] [vR 72, vR 65] q35_31 yo_35 zml_4_27 (by decide) rfl rfl rfl (Or.inl ⟨rfl, (Nat.le_of_ble_eq_true rfl)⟩)).trans ?_
  rw [kk_72, Option.bind_some]
  simp only [zpush_n]
  refine (xPutR 2 q35_34 yo_35 zfl_4_28 rfl rfl (Nat.le_of_ble_eq_true rfl) (Nat.le_of_ble_eq_true rfl) (by decide +kernel)).trans ?_
  refine (xAload_n q35_37 rfl).trans ?_
  refine (xSipush q35_38).trans ?_
  refine (xNewa 75 rfl q35_41 rfl rfl (Nat.lt_of_lt_of_le (Nat.lt_succ_self _) (Nat.le_of_ble_eq_true rfl))).trans ?_
  refine (xPutR 3 q35_43 yo_35 zfl_4_32 rfl rfl (Nat.le_of_ble_eq_true rfl) (Nat.le_of_ble_eq_true rfl) (by decide +kernel)).trans ?_
  refine (xAload_n q35_46 rfl).trans ?_
  refine (xGetstR (q := 900) q35_47 yo_35 zgs_4_36 rfl).trans ?_
  refine (xClone 76 rfl q35_50 yo_35 zml_4_39 rfl (Nat.lt_of_lt_of_le (Nat.lt_succ_self _) (Nat.le_of_ble_eq_true rfl)) rfl).trans ?_
  refine (xCheck q35_53 yo_35 zcn_4_40 rfl (Nat.le_of_ble_eq_true rfl)).trans ?_
  refine (xPutR 4 q35_56 yo_35 zfl_4_44 rfl rfl (Nat.le_of_ble_eq_true rfl) (Nat.le_of_ble_eq_true rfl) (by decide +kernel)).trans ?_
  refine (xAload_n q35_59 rfl).trans ?_
  refine (xNew 77 rfl q35_60 yo_35 zcn_4_9 rfl (Nat.lt_of_lt_of_le (Nat.lt_succ_self _) (Nat.le_of_ble_eq_true rfl))).trans ?_
  refine (xDup q35_63 rfl).trans ?_
  refine (xInvC [vR 77] [vR 77, vR 65] q35_64 yo_35 zml_4_11 (by decide) rfl rfl rfl (Or.inl ⟨rfl, (Nat.le_of_ble_eq_true rfl)⟩)).trans ?_
  rw [kk_77, Option.bind_some]
  simp only [zpush_n]
  refine (xPutR 9 q35_67 yo_35 zfl_4_47 rfl rfl (Nat.le_of_ble_eq_true rfl) (Nat.le_of_ble_eq_true rfl) (by decide +kernel)).trans ?_
  exact xVret q35_70 yr_35
def kI_79 (I : Nat → Int → Int) : Nat → Int → Int := (sI (zfill I 80) 79 2 (-4))
def kR_79 (R : Nat → Int → Nat) : Nat → Int → Nat := (sR (zfilR R 80) 79 0 80)
theorem kk_79 {I : Nat → Int → Int} {R : Nat → Int → Nat} {S : Nat} : zrun 80 [vR 79] (I, R, 79, S) = some (none, (kI_79 I, kR_79 R, 80, S)) := by
  show zX 80 0 [vR 79] [] (I, R, 79, S) = _
  refine (xAload_n q80_0 rfl).trans ?_
  refine (xObj q80_1 yo_80 zml_8_3 ⟨(Nat.le_of_ble_eq_true rfl), (Nat.le_of_ble_eq_true rfl)⟩ rfl).trans ?_
  refine (xAload_n q80_4 rfl).trans ?_
  refine (xBipush q80_5).trans ?_
  refine (xNewa 80 rfl q80_7 rfl rfl (Nat.lt_of_lt_of_le (Nat.lt_succ_self _) (Nat.le_of_ble_eq_true rfl))).trans ?_
  refine (xPutR 0 q80_9 yo_80 zfl_8_9 rfl rfl (Nat.le_of_ble_eq_true rfl) (Nat.le_of_ble_eq_true rfl) (by decide +kernel)).trans ?_
  refine (xAload_n q80_12 rfl).trans ?_
  refine (xBipush q80_13).trans ?_
  refine (xPutI 2 q80_15 yo_80 zfl_8_15 rfl rfl (Nat.le_of_ble_eq_true rfl) (by decide +kernel)).trans ?_
  exact xVret q80_18 yr_80
def kI_81 (I : Nat → Int → Int) : Nat → Int → Int := (sI (zfill I 82) 81 2 (-4))
def kR_81 (R : Nat → Int → Nat) : Nat → Int → Nat := (sR (zfilR R 82) 81 0 82)
theorem kk_81 {I : Nat → Int → Int} {R : Nat → Int → Nat} {S : Nat} : zrun 80 [vR 81] (I, R, 81, S) = some (none, (kI_81 I, kR_81 R, 82, S)) := by
  show zX 80 0 [vR 81] [] (I, R, 81, S) = _
  refine (xAload_n q80_0 rfl).trans ?_
  refine (xObj q80_1 yo_80 zml_8_3 ⟨(Nat.le_of_ble_eq_true rfl), (Nat.le_of_ble_eq_true rfl)⟩ rfl).trans ?_
  refine (xAload_n q80_4 rfl).trans ?_
  refine (xBipush q80_5).trans ?_
  refine (xNewa 82 rfl q80_7 rfl rfl (Nat.lt_of_lt_of_le (Nat.lt_succ_self _) (Nat.le_of_ble_eq_true rfl))).trans ?_
  refine (xPutR 0 q80_9 yo_80 zfl_8_9 rfl rfl (Nat.le_of_ble_eq_true rfl) (Nat.le_of_ble_eq_true rfl) (by decide +kernel)).trans ?_
  refine (xAload_n q80_12 rfl).trans ?_
  refine (xBipush q80_13).trans ?_
  refine (xPutI 2 q80_15 yo_80 zfl_8_15 rfl rfl (Nat.le_of_ble_eq_true rfl) (by decide +kernel)).trans ?_
  exact xVret q80_18 yr_80
def kI_83 (I : Nat → Int → Int) : Nat → Int → Int := (sI (zfill I 84) 83 2 (-4))
def kR_83 (R : Nat → Int → Nat) : Nat → Int → Nat := (sR (zfilR R 84) 83 0 84)
theorem kk_83 {I : Nat → Int → Int} {R : Nat → Int → Nat} {S : Nat} : zrun 80 [vR 83] (I, R, 83, S) = some (none, (kI_83 I, kR_83 R, 84, S)) := by
  show zX 80 0 [vR 83] [] (I, R, 83, S) = _
  refine (xAload_n q80_0 rfl).trans ?_
  refine (xObj q80_1 yo_80 zml_8_3 ⟨(Nat.le_of_ble_eq_true rfl), (Nat.le_of_ble_eq_true rfl)⟩ rfl).trans ?_
  refine (xAload_n q80_4 rfl).trans ?_
  refine (xBipush q80_5).trans ?_
  refine (xNewa 84 rfl q80_7 rfl rfl (Nat.lt_of_lt_of_le (Nat.lt_succ_self _) (Nat.le_of_ble_eq_true rfl))).trans ?_
  refine (xPutR 0 q80_9 yo_80 zfl_8_9 rfl rfl (Nat.le_of_ble_eq_true rfl) (Nat.le_of_ble_eq_true rfl) (by decide +kernel)).trans ?_
  refine (xAload_n q80_12 rfl).trans ?_
  refine (xBipush q80_13).trans ?_
  refine (xPutI 2 q80_15 yo_80 zfl_8_15 rfl rfl (Nat.le_of_ble_eq_true rfl) (by decide +kernel)).trans ?_
  exact xVret q80_18 yr_80
def kI_85 (I : Nat → Int → Int) : Nat → Int → Int := (sI (zfill I 86) 85 2 (-4))
def kR_85 (R : Nat → Int → Nat) : Nat → Int → Nat := (sR (zfilR R 86) 85 0 86)
theorem kk_85 {I : Nat → Int → Int} {R : Nat → Int → Nat} {S : Nat} : zrun 80 [vR 85] (I, R, 85, S) = some (none, (kI_85 I, kR_85 R, 86, S)) := by
  show zX 80 0 [vR 85] [] (I, R, 85, S) = _
  refine (xAload_n q80_0 rfl).trans ?_
  refine (xObj q80_1 yo_80 zml_8_3 ⟨(Nat.le_of_ble_eq_true rfl), (Nat.le_of_ble_eq_true rfl)⟩ rfl).trans ?_
  refine (xAload_n q80_4 rfl).trans ?_
  refine (xBipush q80_5).trans ?_
  refine (xNewa 86 rfl q80_7 rfl rfl (Nat.lt_of_lt_of_le (Nat.lt_succ_self _) (Nat.le_of_ble_eq_true rfl))).trans ?_
  refine (xPutR 0 q80_9 yo_80 zfl_8_9 rfl rfl (Nat.le_of_ble_eq_true rfl) (Nat.le_of_ble_eq_true rfl) (by decide +kernel)).trans ?_
  refine (xAload_n q80_12 rfl).trans ?_
  refine (xBipush q80_13).trans ?_
  refine (xPutI 2 q80_15 yo_80 zfl_8_15 rfl rfl (Nat.le_of_ble_eq_true rfl) (by decide +kernel)).trans ?_
  exact xVret q80_18 yr_80
def kI_1 (I : Nat → Int → Int) : Nat → Int → Int := (kI_85 (zfill (kI_83 (zfill (kI_81 (zfill (kI_79 (zfill (kI_65 (zfill (kI_51 (zfill (kI_38 (zfill (kI_25 (zfill (zfill (zfill (zfill (kI_8 (zfill (kI_6 (zfill (kI_4 (zfill (kI_2 (zfill I 2)) 4)) 6)) 8)) 22) 23) 24) 25)) 38)) 51)) 65)) 79)) 81)) 83)) 85))
def kR_1 (R : Nat → Int → Nat) : Nat → Int → Nat := (sR (kR_85 (zfilR (sR (kR_83 (zfilR (sR (kR_81 (zfilR (sR (kR_79 (zfilR (sR (kR_65 (zfilR (sR (kR_51 (zfilR (sR (kR_38 (zfilR (sR (kR_25 (zfilR (sR (zfilR (sR (zfilR (sR (zfilR (sR (kR_8 (zfilR (sR (kR_6 (zfilR (sR (kR_4 (zfilR (sR (kR_2 (zfilR R 2)) 1 0 2) 4)) 1 1 4) 6)) 1 2 6) 8)) 1 3 8) 22) 1 4 22) 23) 1 5 23) 24) 1 6 24) 25)) 1 7 25) 38)) 1 8 38) 51)) 22 0 51) 65)) 22 1 65) 79)) 24 0 79) 81)) 24 1 81) 83)) 24 2 83) 85)) 24 3 85)
theorem kk_1 {I : Nat → Int → Int} {R : Nat → Int → Nat} {S : Nat} : zrun 91 [vR 1] (I, R, 1, S) = some (none, (kI_1 I, kR_1 R, 86, S)) := by
  show zX 91 0 [vR 1, none] [] (I, R, 1, S) = _
  refine (xAload_n q91_0 rfl).trans ?_
  refine (xObj q91_1 yo_91 zml_10_3 ⟨(Nat.le_of_ble_eq_true rfl), (Nat.le_of_ble_eq_true rfl)⟩ rfl).trans ?_
  refine (xAload_n q91_4 rfl).trans ?_
  refine (xNew 2 rfl q91_5 yo_91 zcn_10_9 rfl (Nat.lt_of_lt_of_le (Nat.lt_succ_self _) (Nat.le_of_ble_eq_true rfl))).trans ?_
  refine (xDup q91_8 rfl).trans ?_
  refine (xInvC [vR 2] [vR 2, vR 1] q91_9 yo_91 zml_10_11 (by decide) rfl rfl rfl (Or.inl ⟨rfl, (Nat.le_of_ble_eq_true rfl)⟩)).trans ?_
  rw [kk_2, Option.bind_some]
  simp only [zpush_n]
  refine (xPutR 0 q91_12 yo_91 zfl_10_12 rfl rfl (Nat.le_of_ble_eq_true rfl) (Nat.le_of_ble_eq_true rfl) (by decide +kernel)).trans ?_
  refine (xAload_n q91_15 rfl).trans ?_
  refine (xNew 4 rfl q91_16 yo_91 zcn_10_16 rfl (Nat.lt_of_lt_of_le (Nat.lt_succ_self _) (Nat.le_of_ble_eq_true rfl))).trans ?_
  refine (xDup q91_19 rfl).trans ?_
  refine (xAload_n q91_20 rfl).trans ?_
  refine (xGetR 0 2 q91_21 yo_91 zfl_10_12 rfl rfl rfl (Or.inl (Nat.le_of_ble_eq_true rfl))).trans ?_
  refine (xInvC [vR 4, vR 2] [vR 4, vR 1] q91_24 yo_91 zml_10_18 (by decide) rfl rfl rfl (Or.inl ⟨rfl, (Nat.le_of_ble_eq_true rfl)⟩)).trans ?_
  rw [kk_4, Option.bind_some]
  simp only [zpush_n]
  refine (xPutR 1 q91_27 yo_91 zfl_10_21 rfl rfl (Nat.le_of_ble_eq_true rfl) (Nat.le_of_ble_eq_true rfl) (by decide +kernel)).trans ?_
  refine (xAload_n q91_30 rfl).trans ?_
  refine (xNew 6 rfl q91_31 yo_91 zcn_10_25 rfl (Nat.lt_of_lt_of_le (Nat.lt_succ_self _) (Nat.le_of_ble_eq_true rfl))).trans ?_
  refine (xDup q91_34 rfl).trans ?_
  refine (xInvC [vR 6] [vR 6, vR 1] q91_35 yo_91 zml_10_27 (by decide) rfl rfl rfl (Or.inl ⟨rfl, (Nat.le_of_ble_eq_true rfl)⟩)).trans ?_
  rw [kk_6, Option.bind_some]
  simp only [zpush_n]
  refine (xPutR 2 q91_38 yo_91 zfl_10_28 rfl rfl (Nat.le_of_ble_eq_true rfl) (Nat.le_of_ble_eq_true rfl) (by decide +kernel)).trans ?_
  refine (xAload_n q91_41 rfl).trans ?_
  refine (xNew 8 rfl q91_42 yo_91 zcn_10_32 rfl (Nat.lt_of_lt_of_le (Nat.lt_succ_self _) (Nat.le_of_ble_eq_true rfl))).trans ?_
  refine (xDup q91_45 rfl).trans ?_
  refine (xInvC [vR 8] [vR 8, vR 1] q91_46 yo_91 zml_10_34 (by decide) rfl rfl rfl (Or.inl ⟨rfl, (Nat.le_of_ble_eq_true rfl)⟩)).trans ?_
  rw [kk_8, Option.bind_some]
  simp only [zpush_n]
  refine (xPutR 3 q91_49 yo_91 zfl_10_35 rfl rfl (Nat.le_of_ble_eq_true rfl) (Nat.le_of_ble_eq_true rfl) (by decide +kernel)).trans ?_
  refine (xAload_n q91_52 rfl).trans ?_
  refine (xIconst q91_53).trans ?_
  refine (xAnew 22 rfl q91_54 yo_91 zcn_10_32 (by decide) rfl (Nat.lt_of_lt_of_le (Nat.lt_succ_self _) (Nat.le_of_ble_eq_true rfl))).trans ?_
  refine (xPutR 4 q91_57 yo_91 zfl_10_39 rfl rfl (Nat.le_of_ble_eq_true rfl) (Nat.le_of_ble_eq_true rfl) (by decide +kernel)).trans ?_
  refine (xAload_n q91_60 rfl).trans ?_
  refine (xIconst q91_61).trans ?_
  refine (xNewa 23 rfl q91_62 rfl rfl (Nat.lt_of_lt_of_le (Nat.lt_succ_self _) (Nat.le_of_ble_eq_true rfl))).trans ?_
  refine (xPutR 5 q91_64 yo_91 zfl_10_43 rfl rfl (Nat.le_of_ble_eq_true rfl) (Nat.le_of_ble_eq_true rfl) (by decide +kernel)).trans ?_
  refine (xAload_n q91_67 rfl).trans ?_
  refine (xIconst q91_68).trans ?_
  refine (xAnew 24 rfl q91_69 yo_91 zcn_10_47 (by decide) rfl (Nat.lt_of_lt_of_le (Nat.lt_succ_self _) (Nat.le_of_ble_eq_true rfl))).trans ?_
  refine (xPutR 6 q91_72 yo_91 zfl_10_49 rfl rfl (Nat.le_of_ble_eq_true rfl) (Nat.le_of_ble_eq_true rfl) (by decide +kernel)).trans ?_
  refine (xAload_n q91_75 rfl).trans ?_
  refine (xNew 25 rfl q91_76 yo_91 zcn_10_53 rfl (Nat.lt_of_lt_of_le (Nat.lt_succ_self _) (Nat.le_of_ble_eq_true rfl))).trans ?_
  refine (xDup q91_79 rfl).trans ?_
  refine (xInvC [vR 25] [vR 25, vR 1] q91_80 yo_91 zml_10_55 (by decide) rfl rfl rfl (Or.inl ⟨rfl, (Nat.le_of_ble_eq_true rfl)⟩)).trans ?_
  rw [kk_25, Option.bind_some]
  simp only [zpush_n]
  refine (xPutR 7 q91_83 yo_91 zfl_10_56 rfl rfl (Nat.le_of_ble_eq_true rfl) (Nat.le_of_ble_eq_true rfl) (by decide +kernel)).trans ?_
  refine (xAload_n q91_86 rfl).trans ?_
  refine (xNew 38 rfl q91_87 yo_91 zcn_10_53 rfl (Nat.lt_of_lt_of_le (Nat.lt_succ_self _) (Nat.le_of_ble_eq_true rfl))).trans ?_
  refine (xDup q91_90 rfl).trans ?_
  refine (xInvC [vR 38] [vR 38, vR 1] q91_91 yo_91 zml_10_55 (by decide) rfl rfl rfl (Or.inl ⟨rfl, (Nat.le_of_ble_eq_true rfl)⟩)).trans ?_
  rw [kk_38, Option.bind_some]
  simp only [zpush_n]
  refine (xPutR 8 q91_94 yo_91 zfl_10_60 rfl rfl (Nat.le_of_ble_eq_true rfl) (Nat.le_of_ble_eq_true rfl) (by decide +kernel)).trans ?_
  refine (xIconst q91_97).trans ?_
  refine (xIstore_n q91_98 rfl rfl).trans ?_
  refine (xIload_n q91_99 rfl).trans ?_
  refine (xIconst q91_100).trans ?_
  refine (xIcmpGe (t := 123) q91_101 rfl).trans ?_
  rw [if_neg (by decide)]
  refine (xAload_n q91_104 rfl).trans ?_
  refine (xGetR 4 22 q91_105 yo_91 zfl_10_39 rfl rfl rfl (Or.inl (Nat.le_of_ble_eq_true rfl))).trans ?_
  refine (xIload_n q91_108 rfl).trans ?_
  refine (xNew 51 rfl q91_109 yo_91 zcn_10_32 rfl (Nat.lt_of_lt_of_le (Nat.lt_succ_self _) (Nat.le_of_ble_eq_true rfl))).trans ?_
  refine (xDup q91_112 rfl).trans ?_
  refine (xInvC [vR 51] [vR 51, vI 0, vR 22] q91_113 yo_91 zml_10_34 (by decide) rfl rfl rfl (Or.inl ⟨rfl, (Nat.le_of_ble_eq_true rfl)⟩)).trans ?_
  rw [kk_51, Option.bind_some]
  simp only [zpush_n]
  refine (xAast (N := 2) q91_116 (by decide) (Nat.le_of_ble_eq_true rfl) (Nat.le_of_ble_eq_true rfl) rfl).trans ?_
  rw [if_pos (by decide)]
  refine (xIinc (L' := [vR 1, vI 1]) q91_117 rfl rfl (by rw [wr_id (by decide) (by decide)]; rfl)).trans ?_
  refine (xGoto (t := 99) q91_120 rfl).trans ?_
  refine (xIload_n q91_99 rfl).trans ?_
  refine (xIconst q91_100).trans ?_
  refine (xIcmpGe (t := 123) q91_101 rfl).trans ?_
  rw [if_neg (by decide)]
  refine (xAload_n q91_104 rfl).trans ?_
  refine (xGetR 4 22 q91_105 yo_91 zfl_10_39 rfl rfl rfl (Or.inl (Nat.le_of_ble_eq_true rfl))).trans ?_
  refine (xIload_n q91_108 rfl).trans ?_
  refine (xNew 65 rfl q91_109 yo_91 zcn_10_32 rfl (Nat.lt_of_lt_of_le (Nat.lt_succ_self _) (Nat.le_of_ble_eq_true rfl))).trans ?_
  refine (xDup q91_112 rfl).trans ?_
  refine (xInvC [vR 65] [vR 65, vI 1, vR 22] q91_113 yo_91 zml_10_34 (by decide) rfl rfl rfl (Or.inl ⟨rfl, (Nat.le_of_ble_eq_true rfl)⟩)).trans ?_
  rw [kk_65, Option.bind_some]
  simp only [zpush_n]
  refine (xAast (N := 2) q91_116 (by decide) (Nat.le_of_ble_eq_true rfl) (Nat.le_of_ble_eq_true rfl) rfl).trans ?_
  rw [if_pos (by decide)]
  refine (xIinc (L' := [vR 1, vI 2]) q91_117 rfl rfl (by rw [wr_id (by decide) (by decide)]; rfl)).trans ?_
  refine (xGoto (t := 99) q91_120 rfl).trans ?_
  refine (xIload_n q91_99 rfl).trans ?_
  refine (xIconst q91_100).trans ?_
  refine (xIcmpGe (t := 123) q91_101 rfl).trans ?_
  rw [if_pos (by decide)]
  refine (xIconst q91_123).trans ?_
  refine (xIstore_n q91_124 rfl rfl).trans ?_
  refine (xIload_n q91_125 rfl).trans ?_
  refine (xIconst q91_126).trans ?_
  refine (xIcmpGe (t := 149) q91_127 rfl).trans ?_
  rw [if_neg (by decide)]
  refine (xAload_n q91_130 rfl).trans ?_
  refine (xGetR 6 24 q91_131 yo_91 zfl_10_49 rfl rfl rfl (Or.inl (Nat.le_of_ble_eq_true rfl))).trans ?_
  refine (xIload_n q91_134 rfl).trans ?_
  refine (xNew 79 rfl q91_135 yo_91 zcn_10_47 rfl (Nat.lt_of_lt_of_le (Nat.lt_succ_self _) (Nat.le_of_ble_eq_true rfl))).trans ?_
  refine (xDup q91_138 rfl).trans ?_
  refine (xInvC [vR 79] [vR 79, vI 0, vR 24] q91_139 yo_91 zml_10_63 (by decide) rfl rfl rfl (Or.inl ⟨rfl, (Nat.le_of_ble_eq_true rfl)⟩)).trans ?_
  rw [kk_79, Option.bind_some]
  simp only [zpush_n]
  refine (xAast (N := 4) q91_142 (by decide) (Nat.le_of_ble_eq_true rfl) (Nat.le_of_ble_eq_true rfl) rfl).trans ?_
  rw [if_pos (by decide)]
  refine (xIinc (L' := [vR 1, vI 1]) q91_143 rfl rfl (by rw [wr_id (by decide) (by decide)]; rfl)).trans ?_
  refine (xGoto (t := 125) q91_146 rfl).trans ?_
  refine (xIload_n q91_125 rfl).trans ?_
  refine (xIconst q91_126).trans ?_
  refine (xIcmpGe (t := 149) q91_127 rfl).trans ?_
  rw [if_neg (by decide)]
  refine (xAload_n q91_130 rfl).trans ?_
  refine (xGetR 6 24 q91_131 yo_91 zfl_10_49 rfl rfl rfl (Or.inl (Nat.le_of_ble_eq_true rfl))).trans ?_
  refine (xIload_n q91_134 rfl).trans ?_
  refine (xNew 81 rfl q91_135 yo_91 zcn_10_47 rfl (Nat.lt_of_lt_of_le (Nat.lt_succ_self _) (Nat.le_of_ble_eq_true rfl))).trans ?_
  refine (xDup q91_138 rfl).trans ?_
  refine (xInvC [vR 81] [vR 81, vI 1, vR 24] q91_139 yo_91 zml_10_63 (by decide) rfl rfl rfl (Or.inl ⟨rfl, (Nat.le_of_ble_eq_true rfl)⟩)).trans ?_
  rw [kk_81, Option.bind_some]
  simp only [zpush_n]
  refine (xAast (N := 4) q91_142 (by decide) (Nat.le_of_ble_eq_true rfl) (Nat.le_of_ble_eq_true rfl) rfl).trans ?_
  rw [if_pos (by decide)]
  refine (xIinc (L' := [vR 1, vI 2]) q91_143 rfl rfl (by rw [wr_id (by decide) (by decide)]; rfl)).trans ?_
  refine (xGoto (t := 125) q91_146 rfl).trans ?_
  refine (xIload_n q91_125 rfl).trans ?_
  refine (xIconst q91_126).trans ?_
  refine (xIcmpGe (t := 149) q91_127 rfl).trans ?_
  rw [if_neg (by decide)]
  refine (xAload_n q91_130 rfl).trans ?_
  refine (xGetR 6 24 q91_131 yo_91 zfl_10_49 rfl rfl rfl (Or.inl (Nat.le_of_ble_eq_true rfl))).trans ?_
  refine (xIload_n q91_134 rfl).trans ?_
  refine (xNew 83 rfl q91_135 yo_91 zcn_10_47 rfl (Nat.lt_of_lt_of_le (Nat.lt_succ_self _) (Nat.le_of_ble_eq_true rfl))).trans ?_
  refine (xDup q91_138 rfl).trans ?_
  refine (xInvC [vR 83] [vR 83, vI 2, vR 24] q91_139 yo_91 zml_10_63 (by decide) rfl rfl rfl (Or.inl ⟨rfl, (Nat.le_of_ble_eq_true rfl)⟩)).trans ?_
  rw [kk_83, Option.bind_some]
  simp only [zpush_n]
  refine (xAast (N := 4) q91_142 (by decide) (Nat.le_of_ble_eq_true rfl) (Nat.le_of_ble_eq_true rfl) rfl).trans ?_
  rw [if_pos (by decide)]
  refine (xIinc (L' := [vR 1, vI 3]) q91_143 rfl rfl (by rw [wr_id (by decide) (by decide)]; rfl)).trans ?_
  refine (xGoto (t := 125) q91_146 rfl).trans ?_
  refine (xIload_n q91_125 rfl).trans ?_
  refine (xIconst q91_126).trans ?_
  refine (xIcmpGe (t := 149) q91_127 rfl).trans ?_
  rw [if_neg (by decide)]
  refine (xAload_n q91_130 rfl).trans ?_
  refine (xGetR 6 24 q91_131 yo_91 zfl_10_49 rfl rfl rfl (Or.inl (Nat.le_of_ble_eq_true rfl))).trans ?_
  refine (xIload_n q91_134 rfl).trans ?_
  refine (xNew 85 rfl q91_135 yo_91 zcn_10_47 rfl (Nat.lt_of_lt_of_le (Nat.lt_succ_self _) (Nat.le_of_ble_eq_true rfl))).trans ?_
  refine (xDup q91_138 rfl).trans ?_
  refine (xInvC [vR 85] [vR 85, vI 3, vR 24] q91_139 yo_91 zml_10_63 (by decide) rfl rfl rfl (Or.inl ⟨rfl, (Nat.le_of_ble_eq_true rfl)⟩)).trans ?_
  rw [kk_85, Option.bind_some]
  simp only [zpush_n]
  refine (xAast (N := 4) q91_142 (by decide) (Nat.le_of_ble_eq_true rfl) (Nat.le_of_ble_eq_true rfl) rfl).trans ?_
  rw [if_pos (by decide)]
  refine (xIinc (L' := [vR 1, vI 4]) q91_143 rfl rfl (by rw [wr_id (by decide) (by decide)]; rfl)).trans ?_
  refine (xGoto (t := 125) q91_146 rfl).trans ?_
  refine (xIload_n q91_125 rfl).trans ?_
  refine (xIconst q91_126).trans ?_
  refine (xIcmpGe (t := 149) q91_127 rfl).trans ?_
  rw [if_pos (by decide)]
  exact xVret q91_149 yr_91
def kI_0 (I : Nat → Int → Int) : Nat → Int → Int := (sI (sI (sI (sI (sI (sI (sI (sI (zfill (zfill (zfill (zfill (zfill (zfill (zfill (zfill (zfill (zfill (zfill (zfill (zfill (zfill (zfill (zfill (zfill (kI_1 (zfill I 1)) 87) 88) 89) 90) 91) 92) 93) 94) 95) 96) 97) 98) 99) 100) 101) 102) 103) 93 13 16) 93 15 3) 93 16 1) 93 17 4) 101 0 (-4)) 101 1 (-4)) 101 2 (-4)) 101 3 (-4))
def kR_0 (R : Nat → Int → Nat) : Nat → Int → Nat := (sR (zfilR (sR (zfilR (sR (zfilR (sR (zfilR (sR (zfilR (sR (zfilR (sR (zfilR (sR (zfilR (sR (zfilR (sR (zfilR (sR (zfilR (sR (zfilR (sR (zfilR (sR (zfilR (sR (zfilR (sR (zfilR (zfilR (kR_1 (zfilR R 1)) 87) 88) 87 0 88) 89) 87 1 89) 90) 87 2 90) 91) 87 4 91) 92) 87 5 92) 93) 87 6 93) 94) 87 7 94) 95) 87 8 95) 96) 87 9 96) 97) 87 17 97) 98) 87 18 98) 99) 87 20 99) 100) 87 22 100) 101) 87 25 101) 102) 87 26 102) 103) 87 27 103)
theorem kk_m {I : Nat → Int → Int} {R : Nat → Int → Nat} {S : Nat} : zrun 124 [vR 87] (I, R, 87, S) = zX 124 188 [vR 87, vI 4] [] ((sI (sI (sI (sI (sI (sI (sI (sI (zfill (zfill (zfill (zfill (zfill (zfill (zfill (zfill (zfill (zfill (zfill (zfill (zfill (zfill (zfill (zfill I 88) 89) 90) 91) 92) 93) 94) 95) 96) 97) 98) 99) 100) 101) 102) 103) 93 13 16) 93 15 3) 93 16 1) 93 17 4) 101 0 (-4)) 101 1 (-4)) 101 2 (-4)) 101 3 (-4)), (sR (zfilR (sR (zfilR (sR (zfilR (sR (zfilR (sR (zfilR (sR (zfilR (sR (zfilR (sR (zfilR (sR (zfilR (sR (zfilR (sR (zfilR (sR (zfilR (sR (zfilR (sR (zfilR (sR (zfilR (sR (zfilR R 88) 87 0 88) 89) 87 1 89) 90) 87 2 90) 91) 87 4 91) 92) 87 5 92) 93) 87 6 93) 94) 87 7 94) 95) 87 8 95) 96) 87 9 96) 97) 87 17 97) 98) 87 18 98) 99) 87 20 99) 100) 87 22 100) 101) 87 25 101) 102) 87 26 102) 103) 87 27 103), 103, S) := by
  show zX 124 0 [vR 87, none] [] (I, R, 87, S) = _
  refine (xAload_n q124_0 rfl).trans ?_
  refine (xObj q124_1 yo_124 zml_11_1 ⟨(Nat.le_of_ble_eq_true rfl), (Nat.le_of_ble_eq_true rfl)⟩ rfl).trans ?_
  refine (xAload_n q124_4 rfl).trans ?_
  refine (xSipush q124_5).trans ?_
  refine (xNewa 88 rfl q124_8 rfl rfl (Nat.lt_of_lt_of_le (Nat.lt_succ_self _) (Nat.le_of_ble_eq_true rfl))).trans ?_
  refine (xPutR 0 q124_10 yo_124 zfl_11_7 rfl rfl (Nat.le_of_ble_eq_true rfl) (Nat.le_of_ble_eq_true rfl) (by decide +kernel)).trans ?_
  refine (xAload_n q124_13 rfl).trans ?_
  refine (xSipush q124_14).trans ?_
  refine (xNewa 89 rfl q124_17 rfl rfl (Nat.lt_of_lt_of_le (Nat.lt_succ_self _) (Nat.le_of_ble_eq_true rfl))).trans ?_
  refine (xPutR 1 q124_19 yo_124 zfl_11_13 rfl rfl (Nat.le_of_ble_eq_true rfl) (Nat.le_of_ble_eq_true rfl) (by decide +kernel)).trans ?_
  refine (xAload_n q124_22 rfl).trans ?_
  refine (xSipush q124_23).trans ?_
  refine (xNewa 90 rfl q124_26 rfl rfl (Nat.lt_of_lt_of_le (Nat.lt_succ_self _) (Nat.le_of_ble_eq_true rfl))).trans ?_
  refine (xPutR 2 q124_28 yo_124 zfl_11_16 rfl rfl (Nat.le_of_ble_eq_true rfl) (Nat.le_of_ble_eq_true rfl) (by decide +kernel)).trans ?_
  refine (xAload_n q124_31 rfl).trans ?_
  refine (xBipush q124_32).trans ?_
  refine (xNewa 91 rfl q124_34 rfl rfl (Nat.lt_of_lt_of_le (Nat.lt_succ_self _) (Nat.le_of_ble_eq_true rfl))).trans ?_
  refine (xPutR 4 q124_36 yo_124 zfl_11_19 rfl rfl (Nat.le_of_ble_eq_true rfl) (Nat.le_of_ble_eq_true rfl) (by decide +kernel)).trans ?_
  refine (xAload_n q124_39 rfl).trans ?_
  refine (xBipush q124_40).trans ?_
  refine (xNewa 92 rfl q124_42 rfl rfl (Nat.lt_of_lt_of_le (Nat.lt_succ_self _) (Nat.le_of_ble_eq_true rfl))).trans ?_
  refine (xPutR 5 q124_44 yo_124 zfl_11_22 rfl rfl (Nat.le_of_ble_eq_true rfl) (Nat.le_of_ble_eq_true rfl) (by decide +kernel)).trans ?_
  refine (xAload_n q124_47 rfl).trans ?_
  refine (xSipush q124_48).trans ?_
  refine (xNewa 93 rfl q124_51 rfl rfl (Nat.lt_of_lt_of_le (Nat.lt_succ_self _) (Nat.le_of_ble_eq_true rfl))).trans ?_
  refine (xPutR 6 q124_53 yo_124 zfl_11_25 rfl rfl (Nat.le_of_ble_eq_true rfl) (Nat.le_of_ble_eq_true rfl) (by decide +kernel)).trans ?_
  refine (xAload_n q124_56 rfl).trans ?_
  refine (xSipush q124_57).trans ?_
  refine (xNewa 94 rfl q124_60 rfl rfl (Nat.lt_of_lt_of_le (Nat.lt_succ_self _) (Nat.le_of_ble_eq_true rfl))).trans ?_
  refine (xPutR 7 q124_62 yo_124 zfl_11_28 rfl rfl (Nat.le_of_ble_eq_true rfl) (Nat.le_of_ble_eq_true rfl) (by decide +kernel)).trans ?_
  refine (xAload_n q124_65 rfl).trans ?_
  refine (xIconst q124_66).trans ?_
  refine (xNewa 95 rfl q124_67 rfl rfl (Nat.lt_of_lt_of_le (Nat.lt_succ_self _) (Nat.le_of_ble_eq_true rfl))).trans ?_
  refine (xPutR 8 q124_69 yo_124 zfl_11_31 rfl rfl (Nat.le_of_ble_eq_true rfl) (Nat.le_of_ble_eq_true rfl) (by decide +kernel)).trans ?_
  refine (xAload_n q124_72 rfl).trans ?_
  refine (xSipush q124_73).trans ?_
  refine (xNewa 96 rfl q124_76 rfl rfl (Nat.lt_of_lt_of_le (Nat.lt_succ_self _) (Nat.le_of_ble_eq_true rfl))).trans ?_
  refine (xPutR 9 q124_78 yo_124 zfl_11_35 rfl rfl (Nat.le_of_ble_eq_true rfl) (Nat.le_of_ble_eq_true rfl) (by decide +kernel)).trans ?_
  refine (xAload_n q124_81 rfl).trans ?_
  refine (xIconst q124_82).trans ?_
  refine (xNewa 97 rfl q124_83 rfl rfl (Nat.lt_of_lt_of_le (Nat.lt_succ_self _) (Nat.le_of_ble_eq_true rfl))).trans ?_
  refine (xPutR 17 q124_85 yo_124 zfl_11_38 rfl rfl (Nat.le_of_ble_eq_true rfl) (Nat.le_of_ble_eq_true rfl) (by decide +kernel)).trans ?_
  refine (xAload_n q124_88 rfl).trans ?_
  refine (xIconst q124_89).trans ?_
  refine (xNewa 98 rfl q124_90 rfl rfl (Nat.lt_of_lt_of_le (Nat.lt_succ_self _) (Nat.le_of_ble_eq_true rfl))).trans ?_
  refine (xPutR 18 q124_92 yo_124 zfl_11_41 rfl rfl (Nat.le_of_ble_eq_true rfl) (Nat.le_of_ble_eq_true rfl) (by decide +kernel)).trans ?_
  refine (xAload_n q124_95 rfl).trans ?_
  refine (xSipush q124_96).trans ?_
  refine (xNewa 99 rfl q124_99 rfl rfl (Nat.lt_of_lt_of_le (Nat.lt_succ_self _) (Nat.le_of_ble_eq_true rfl))).trans ?_
  refine (xPutR 20 q124_101 yo_124 zfl_11_44 rfl rfl (Nat.le_of_ble_eq_true rfl) (Nat.le_of_ble_eq_true rfl) (by decide +kernel)).trans ?_
  refine (xAload_n q124_104 rfl).trans ?_
  refine (xBipush q124_105).trans ?_
  refine (xNewa 100 rfl q124_107 rfl rfl (Nat.lt_of_lt_of_le (Nat.lt_succ_self _) (Nat.le_of_ble_eq_true rfl))).trans ?_
  refine (xPutR 22 q124_109 yo_124 zfl_11_47 rfl rfl (Nat.le_of_ble_eq_true rfl) (Nat.le_of_ble_eq_true rfl) (by decide +kernel)).trans ?_
  refine (xAload_n q124_112 rfl).trans ?_
  refine (xIconst q124_113).trans ?_
  refine (xNewa 101 rfl q124_114 rfl rfl (Nat.lt_of_lt_of_le (Nat.lt_succ_self _) (Nat.le_of_ble_eq_true rfl))).trans ?_
  refine (xPutR 25 q124_116 yo_124 zfl_11_50 rfl rfl (Nat.le_of_ble_eq_true rfl) (Nat.le_of_ble_eq_true rfl) (by decide +kernel)).trans ?_
  refine (xAload_n q124_119 rfl).trans ?_
  refine (xIconst q124_120).trans ?_
  refine (xNewa 102 rfl q124_121 rfl rfl (Nat.lt_of_lt_of_le (Nat.lt_succ_self _) (Nat.le_of_ble_eq_true rfl))).trans ?_
  refine (xPutR 26 q124_123 yo_124 zfl_11_53 rfl rfl (Nat.le_of_ble_eq_true rfl) (Nat.le_of_ble_eq_true rfl) (by decide +kernel)).trans ?_
  refine (xAload_n q124_126 rfl).trans ?_
  refine (xBipush q124_127).trans ?_
  refine (xNewa 103 rfl q124_129 rfl rfl (Nat.lt_of_lt_of_le (Nat.lt_succ_self _) (Nat.le_of_ble_eq_true rfl))).trans ?_
  refine (xPutR 27 q124_131 yo_124 zfl_11_56 rfl rfl (Nat.le_of_ble_eq_true rfl) (Nat.le_of_ble_eq_true rfl) (by decide +kernel)).trans ?_
  refine (xAload_n q124_134 rfl).trans ?_
  refine (xGetR 6 93 q124_135 yo_124 zfl_11_25 rfl rfl rfl (Or.inl (Nat.le_of_ble_eq_true rfl))).trans ?_
  refine (xBipush q124_138).trans ?_
  refine (xBipush q124_140).trans ?_
  refine (xIast (N := 392) q124_142 rfl (Nat.le_of_ble_eq_true rfl) rfl).trans ?_
  rw [if_pos (by decide)]
  refine (xAload_n q124_143 rfl).trans ?_
  refine (xGetR 6 93 q124_144 yo_124 zfl_11_25 rfl rfl rfl (Or.inl (Nat.le_of_ble_eq_true rfl))).trans ?_
  refine (xBipush q124_147).trans ?_
  refine (xIconst q124_149).trans ?_
  refine (xIast (N := 392) q124_150 rfl (Nat.le_of_ble_eq_true rfl) rfl).trans ?_
  rw [if_pos (by decide)]
  refine (xAload_n q124_151 rfl).trans ?_
  refine (xGetR 6 93 q124_152 yo_124 zfl_11_25 rfl rfl rfl (Or.inl (Nat.le_of_ble_eq_true rfl))).trans ?_
  refine (xBipush q124_155).trans ?_
  refine (xIconst q124_157).trans ?_
  refine (xIast (N := 392) q124_158 rfl (Nat.le_of_ble_eq_true rfl) rfl).trans ?_
  rw [if_pos (by decide)]
  refine (xAload_n q124_159 rfl).trans ?_
  refine (xGetR 6 93 q124_160 yo_124 zfl_11_25 rfl rfl rfl (Or.inl (Nat.le_of_ble_eq_true rfl))).trans ?_
  refine (xBipush q124_163).trans ?_
  refine (xIconst q124_165).trans ?_
  refine (xIast (N := 392) q124_166 rfl (Nat.le_of_ble_eq_true rfl) rfl).trans ?_
  rw [if_pos (by decide)]
  refine (xIconst q124_167).trans ?_
  refine (xIstore_n q124_168 rfl rfl).trans ?_
  refine (xIload_n q124_169 rfl).trans ?_
  refine (xIconst q124_170).trans ?_
  refine (xIcmpGe (t := 188) q124_171 rfl).trans ?_
  rw [if_neg (by decide)]
  refine (xAload_n q124_174 rfl).trans ?_
  refine (xGetR 25 101 q124_175 yo_124 zfl_11_50 rfl rfl rfl (Or.inl (Nat.le_of_ble_eq_true rfl))).trans ?_
  refine (xIload_n q124_178 rfl).trans ?_
  refine (xBipush q124_179).trans ?_
  refine (xIast (N := 4) q124_181 rfl (Nat.le_of_ble_eq_true rfl) rfl).trans ?_
  rw [if_pos (by decide)]
  refine (xIinc (L' := [vR 87, vI 1]) q124_182 rfl rfl (by rw [wr_id (by decide) (by decide)]; rfl)).trans ?_
  refine (xGoto (t := 169) q124_185 rfl).trans ?_
  refine (xIload_n q124_169 rfl).trans ?_
  refine (xIconst q124_170).trans ?_
  refine (xIcmpGe (t := 188) q124_171 rfl).trans ?_
  rw [if_neg (by decide)]
  refine (xAload_n q124_174 rfl).trans ?_
  refine (xGetR 25 101 q124_175 yo_124 zfl_11_50 rfl rfl rfl (Or.inl (Nat.le_of_ble_eq_true rfl))).trans ?_
  refine (xIload_n q124_178 rfl).trans ?_
  refine (xBipush q124_179).trans ?_
  refine (xIast (N := 4) q124_181 rfl (Nat.le_of_ble_eq_true rfl) rfl).trans ?_
  rw [if_pos (by decide)]
  refine (xIinc (L' := [vR 87, vI 2]) q124_182 rfl rfl (by rw [wr_id (by decide) (by decide)]; rfl)).trans ?_
  refine (xGoto (t := 169) q124_185 rfl).trans ?_
  refine (xIload_n q124_169 rfl).trans ?_
  refine (xIconst q124_170).trans ?_
  refine (xIcmpGe (t := 188) q124_171 rfl).trans ?_
  rw [if_neg (by decide)]
  refine (xAload_n q124_174 rfl).trans ?_
  refine (xGetR 25 101 q124_175 yo_124 zfl_11_50 rfl rfl rfl (Or.inl (Nat.le_of_ble_eq_true rfl))).trans ?_
  refine (xIload_n q124_178 rfl).trans ?_
  refine (xBipush q124_179).trans ?_
  refine (xIast (N := 4) q124_181 rfl (Nat.le_of_ble_eq_true rfl) rfl).trans ?_
  rw [if_pos (by decide)]
  refine (xIinc (L' := [vR 87, vI 3]) q124_182 rfl rfl (by rw [wr_id (by decide) (by decide)]; rfl)).trans ?_
  refine (xGoto (t := 169) q124_185 rfl).trans ?_
  refine (xIload_n q124_169 rfl).trans ?_
  refine (xIconst q124_170).trans ?_
  refine (xIcmpGe (t := 188) q124_171 rfl).trans ?_
  rw [if_neg (by decide)]
  refine (xAload_n q124_174 rfl).trans ?_
  refine (xGetR 25 101 q124_175 yo_124 zfl_11_50 rfl rfl rfl (Or.inl (Nat.le_of_ble_eq_true rfl))).trans ?_
  refine (xIload_n q124_178 rfl).trans ?_
  refine (xBipush q124_179).trans ?_
  refine (xIast (N := 4) q124_181 rfl (Nat.le_of_ble_eq_true rfl) rfl).trans ?_
  rw [if_pos (by decide)]
  refine (xIinc (L' := [vR 87, vI 4]) q124_182 rfl rfl (by rw [wr_id (by decide) (by decide)]; rfl)).trans ?_
  refine (xGoto (t := 169) q124_185 rfl).trans ?_
  refine (xIload_n q124_169 rfl).trans ?_
  refine (xIconst q124_170).trans ?_
  refine (xIcmpGe (t := 188) q124_171 rfl).trans ?_
  rw [if_pos (by decide)]
  all_goals rfl
theorem kk_s {I : Nat → Int → Int} {R : Nat → Int → Nat} {S : Nat} : zX 217 0 [vR 899, none, none, none] [] (I, R, 0, S) = zX 217 12 [vR 899, vR 1, none, none] [vR 87, vR 87] ((zfill (kI_1 (zfill I 1)) 87), (zfilR (kR_1 (zfilR R 1)) 87), 87, S) := by
  refine (xNew 1 rfl q217_0 yo_217 zcn_12_7 rfl (Nat.lt_of_lt_of_le (Nat.lt_succ_self _) (Nat.le_of_ble_eq_true rfl))).trans ?_
  refine (xDup q217_3 rfl).trans ?_
  refine (xInvC [vR 1] [vR 1] q217_4 yo_217 zml_12_9 (by decide) rfl rfl rfl (Or.inl ⟨rfl, (Nat.le_of_ble_eq_true rfl)⟩)).trans ?_
  rw [kk_1, Option.bind_some]
  simp only [zpush_n]
  refine (xAstore_n q217_7 rfl rfl).trans ?_
  refine (xNew 87 rfl q217_8 yo_217 zcn_12_10 rfl (Nat.lt_of_lt_of_le (Nat.lt_succ_self _) (Nat.le_of_ble_eq_true rfl))).trans ?_
  refine (xDup q217_11 rfl).trans ?_
  all_goals rfl
