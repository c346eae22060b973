/-! ===== guarded rows; block equations (by program: wip/whole/gen20.py) ===== -/
section XG
variable {m pc : Nat} {L st : List zV} {I : Nat → Int → Int} {R : Nat → Int → Nat} {n S : Nat}
theorem zpush_s (v : zV) (st : List zV) : zpush (some v) st = v :: st := rfl
theorem zpush_n (st : List zV) : zpush none st = st := rfl
theorem xIdivG {a b : Int} {h : zH} (hd : decode (zb m) pc = .ok (.idiv, 1)) : zX m pc L (vI b :: vI a :: st) h = if b = 0 then none else zX m (pc + 1) L (vI (wr (a.tdiv b)) :: st) h := by
  by_cases hb : b = 0
  · rw [if_pos hb]; exact zX_no hd ((zact_eq rfl).trans (if_pos hb))
  · rw [if_neg hb]; exact xIdiv hd hb
theorem xIremG {a b : Int} {h : zH} (hd : decode (zb m) pc = .ok (.irem, 1)) : zX m pc L (vI b :: vI a :: st) h = if b = 0 then none else zX m (pc + 1) L (vI (a.tmod b) :: st) h := by
  by_cases hb : b = 0
  · rw [if_pos hb]; exact zX_no hd ((zact_eq rfl).trans (if_pos hb))
  · rw [if_neg hb]; exact xIrem hd hb
theorem xZretG {a : Int} {h : zH} (hd : decode (zb m) pc = .ok (.ireturn, 1)) (hr : zret m = some .boolean) : zX m pc L [vI a] h = if a = 0 ∨ a = 1 then some (some (vI a), h) else none := by
  by_cases ha : a = 0 ∨ a = 1
  · rw [if_pos ha]; exact xZret hd hr ha
  · rw [if_neg ha]
    refine zX_no hd ((zact_eq rfl).trans ?_)
    simp only [zac0, zrt]
    rw [hr]
    exact if_neg ha
theorem xCretG {a : Int} {h : zH} (hd : decode (zb m) pc = .ok (.ireturn, 1)) (hr : zret m = some .char) : zX m pc L [vI a] h = if 0 ≤ a ∧ a < 65536 then some (some (vI a), h) else none := by
  by_cases ha : 0 ≤ a ∧ a < 65536
  · rw [if_pos ha]; exact xCret hd hr ha
  · rw [if_neg ha]
    refine zX_no hd ((zact_eq rfl).trans ?_)
    simp only [zac0, zrt]
    rw [hr]
    exact if_neg ha
theorem xBretG {a : Int} {h : zH} (hd : decode (zb m) pc = .ok (.ireturn, 1)) (hr : zret m = some .byte) : zX m pc L [vI a] h = if -128 ≤ a ∧ a < 128 then some (some (vI a), h) else none := by
  by_cases ha : -128 ≤ a ∧ a < 128
  · rw [if_pos ha]; exact xBret hd hr ha
  · rw [if_neg ha]
    refine zX_no hd ((zact_eq rfl).trans ?_)
    simp only [zac0, zrt]
    rw [hr]
    exact if_neg ha
theorem xPutZG {o idx ci k p : Nat} {a : Int} (kk : Int) (hd : decode (zb m) pc = .ok (.putfield idx, 3)) (ho : zo m = o) (hf : zfl o idx = some (ci, k, 1)) (hkk : (k : Int) = kk) (hk : zkd p = (0, ci)) (hn : p ≤ n) (hw : zfin ci k = false ∨ zin m = true ∧ zo m = ci) : zX m pc L (vI a :: vR p :: st) (I, R, n, S) = if a = 0 ∨ a = 1 then zX m (pc + 3) L st (sI I p kk a, R, n, S) else none := by
  by_cases ha : a = 0 ∨ a = 1
  · rw [if_pos ha]; exact xPutZ kk hd ho hf hkk hk hn ha hw
  · rw [if_neg ha]
    subst ho
    refine zX_no hd ((zact_eq rfl).trans ?_)
    show zput m (zo m) idx (pc + 3) L (vI a :: vR p :: st) (I, R, n, S) = _
    unfold zput
    rw [hf]
    exact if_neg (fun z => ha (z.2.2.1.elim (fun z => by cases z) (fun z => z.2)))
theorem xZastG {p : Nat} {i x N : Int} (hd : decode (zb m) pc = .ok (.bastore, 1)) (hk : (zkd p).1 = 3) (hn : p ≤ n) (hl : ((zkd p).2 : Int) = N) : zX m pc L (vI x :: vI i :: vR p :: st) (I, R, n, S) = if (0 ≤ i ∧ i < N) ∧ (x = 0 ∨ x = 1) then zX m (pc + 1) L st (sI I p i x, R, n, S) else none := by
  by_cases hx : x = 0 ∨ x = 1
  · rw [xZast hd hk hn hx hl]
    by_cases hi : 0 ≤ i ∧ i < N
    · rw [if_pos hi, if_pos ⟨hi, hx⟩]
    · rw [if_neg hi, if_neg (fun z => hi z.1)]
  · rw [if_neg (fun z => hx z.2)]
    refine zX_no hd ((zact_eq rfl).trans ?_)
    show (if p ≤ n ∧ 0 ≤ i ∧ i < ((zkd p).2 : Int) then (if (zkd p).1 = 2 then _ else if (zkd p).1 = 3 ∧ (x = 0 ∨ x = 1) then _ else zno) else zno) = _
    split
    · rw [if_neg (by omega), if_neg (fun z => hx z.2)]
    · rfl
theorem xLastG {p : Nat} {i x N : Int} (hd : decode (zb m) pc = .ok (.lastore, 1)) (hk : (zkd p).1 = 4) (hn : p ≤ n) (hl : ((zkd p).2 : Int) = N) : zX m pc L (vL x :: vI i :: vR p :: st) (I, R, n, S) = if (0 ≤ i ∧ i < N) ∧ -2147483648 ≤ x ∧ x ≤ 2147483647 then zX m (pc + 1) L st (sI I p i x, R, n, S) else none := by
  by_cases hx : -2147483648 ≤ x ∧ x ≤ 2147483647
  · rw [xLast hd hk hn hx hl]
    by_cases hi : 0 ≤ i ∧ i < N
    · rw [if_pos hi, if_pos ⟨hi, hx⟩]
    · rw [if_neg hi, if_neg (fun z => hi z.1)]
  · rw [if_neg (fun z => hx z.2)]
    refine zX_no hd ((zact_eq rfl).trans ?_)
    show (if (zkd p).1 = 4 ∧ p ≤ n ∧ 0 ≤ i ∧ i < ((zkd p).2 : Int) ∧ -2147483648 ≤ x ∧ x ≤ 2147483647 then _ else zno) = _
    rw [if_neg (fun z => hx z.2.2.2.2)]
theorem xCopyG {o idx d' p q : Nat} {k dp sp N M : Int} (hd : decode (zb m) pc = .ok (.invokestatic idx, 3)) (ho : zo m = o) (hm : zml o idx = some (11, d')) (hp : (zkd p).1 = 1) (hpn : p ≤ n) (hq : (zkd q).1 = 1) (hqn : q ≤ n) (hN : ((zkd p).2 : Int) = N) (hM : ((zkd q).2 : Int) = M) (hc : (Nat.ble 1 (zfr m) && Nat.ble ((st.map zcat).sum + 30) (zlo m)) = true) : zX m pc L (vI k :: vI dp :: vR p :: vI sp :: vR q :: st) (I, R, n, S) = if 0 ≤ k ∧ 0 ≤ dp ∧ 0 ≤ sp ∧ sp + k ≤ M ∧ dp + k ≤ N then zX m (pc + 3) L st (zcpy I q sp p dp k, R, n, S) else none := by
  by_cases hb : 0 ≤ k ∧ 0 ≤ dp ∧ 0 ≤ sp ∧ sp + k ≤ M ∧ dp + k ≤ N
  · rw [if_pos hb]; exact xCopy hd ho hm hp hpn hq hqn hN hM hc hb
  · rw [if_neg hb]
    subst ho
    refine zX_no hd ((zact_eq rfl).trans ?_)
    show zcall m (zo m) idx (pc + 3) 1 1 L (vI k :: vI dp :: vR p :: vI sp :: vR q :: st) (I, R, n, S) = _
    unfold zcall
    rw [hm]
    simp only
    rw [if_neg (by decide), if_neg (by decide), if_pos (by decide)]
    exact if_neg (fun z => hb ⟨z.2.2.2.2.1, z.2.2.2.2.2.1, z.2.2.2.2.2.2.1, by rw [← hM]; exact z.2.2.2.2.2.2.2.1, by rw [← hN]; exact z.2.2.2.2.2.2.2.2.1⟩)
theorem xIfnullD {h : zH} {off : Int} {q t : Nat} (hd : decode (zb m) pc = .ok (.ifnull off, 3)) (ht : (pc : Int) + off = (t : Int)) (hq : q = 0 ∨ q = 15) : zX m pc L (vR q :: st) h = if q = 0 then zX m t L st h else zX m (pc + 3) L st h := by
  rcases hq with rfl | rfl
  · exact xIfnull0 hd ht
  · exact xIfnull1 hd (by decide) (by decide)
theorem zal_of {p N : Nat} {k : Nat} (hk : zkd p = (k, N)) (hn : p ≤ 103) : (zal (I, R, n, S) p : Int) = (N : Int) := by
  unfold zal
  rw [if_neg (by omega), hk]
end XG
