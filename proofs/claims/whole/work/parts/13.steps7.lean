section ZS7
variable {p : Program} {l : Launch} {e : Env} {R : Room} {s : State} {mi : MethodId} {args : Array Value} {below : List Frame} {meth : Method} {c : Code} {Q : State → Prop} {D : va_G} {cs : Nat → ClassId} {A : Nat → Prop} {sv : Value} {m n0 nf : Nat} {ad0 : Nat → Nat}
variable {pc len : Nat} {L st : List zV} {h : zH} {q : Nat × List zV × List zV × zH}
/-- the class of an array is the one of the tables -/
theorem zcs_eq {k : Nat} {ty : FieldType} {cA : ClassId} (hK : va_K D vwCl (ztys cs) s) (hk : (ztys cs)[k]? = some (cs (k + 1), ty)) (hK2 : va_K D vwCl (ztys cs ++ [(cA, ty)]) s) : cA = cs (k + 1) := by
  have h1 := (hK.2 k _ hk).2
  have h2 := (hK2.2 6 (cA, ty) rfl).2
  cases ty with
  | object C =>
    obtain ⟨_, _, _, _, _, g1⟩ := h1
    obtain ⟨_, _, _, _, _, g2⟩ := h2
    exact Option.some.inj (g2.symm.trans g1)
  | _ => exact Option.some.inj ((show s.vm.findClass _ = some cA from h2).symm.trans h1)
theorem zkd_len : ∀ x : Nat, x ≤ 103 → (zkd x).2 ≤ 784 := by decide +kernel
theorem zs_newarray {t : ArrayType} (cx : zCx p R s mi args meth c D cs A sv m n0 nf) (hd : decode (zb m) pc = .ok (.newarray t, len)) (hlen : ziln (.newarray t) = 0 ∨ ziln (.newarray t) = len) (ha : zac0 m (.newarray t) pc len L st h = .inl q) (hnf : q.2.2.2.2.2.1 ≤ nf) (K : zG p l e R s mi args below meth c Q D cs A sv m n0 ad0 q.1 q.2.1 q.2.2.1 q.2.2.2) : zG p l e R s mi args below meth c Q D cs A sv m n0 ad0 pc L st h := by
  obtain rfl := zl2 rfl hlen
  simp only [zac0, znewa] at ha
  split at ha
  · rename_i x s1
    split at ha
    · rename_i hk
      obtain ⟨hkt, hx0, hxe, hlt⟩ := hk
      cases Sum.inl.inj ha
      have hNP : zNP = 103 := rfl
      have hle := zkd_len (h.2.2.1 + 1) (by omega)
      have rx : zRI x := ⟨by omega, by omega⟩
      have hxn : (Int32.ofInt x).toNatClampNeg = (zkd (h.2.2.1 + 1)).2 := by rw [zi_nat rx hx0]; omega
      have hk2 := zkd_lo2 (h.2.2.1 + 1) (by omega)
      have ht : t = .int ∨ t = .byte ∨ t = .boolean ∨ t = .long := by
        cases t <;> simp [zat] at hkt <;> first | exact Or.inl rfl | exact Or.inr (Or.inl rfl) | exact Or.inr (Or.inr (Or.inl rfl)) | exact Or.inr (Or.inr (Or.inr rfl)) | omega
      have hsz : zsz (h.2.2.1 + 1) = (zkd (h.2.2.1 + 1)).2 := by
        unfold zsz
        rw [if_neg]
        rcases ht with rfl | rfl | rfl | rfl <;> rw [hkt] <;> decide
      have hac : ∀ ty : FieldType, (ty = .int ∨ ty = .byte ∨ ty = .boolean ∨ ty = .long) → (Cond.arrayClass ty).before args s = true := by
        have hz : Cond.arrayClass .int ∈ zgt ∧ Cond.arrayClass .byte ∈ zgt ∧ Cond.arrayClass .boolean ∈ zgt ∧ Cond.arrayClass .long ∈ zgt := by
          have h0 : Cond.arrayClass .int ∈ tables_1 ∧ Cond.arrayClass .byte ∈ tables_1 ∧ Cond.arrayClass .boolean ∈ tables_1 ∧ Cond.arrayClass .long ∈ tables_1 := by decide +kernel
          exact ⟨List.mem_filter.mpr ⟨List.mem_append_right _ h0.1, rfl⟩, List.mem_filter.mpr ⟨List.mem_append_right _ h0.2.1, rfl⟩, List.mem_filter.mpr ⟨List.mem_append_right _ h0.2.2.1, rfl⟩, List.mem_filter.mpr ⟨List.mem_append_right _ h0.2.2.2, rfl⟩⟩
        rintro ty (rfl | rfl | rfl | rfl)
        · exact cx.2.2.2.2.1 _ hz.1
        · exact cx.2.2.2.2.1 _ hz.2.1
        · exact cx.2.2.2.2.1 _ hz.2.2.1
        · exact cx.2.2.2.2.1 _ hz.2.2.2
      have small : ∀ k : Nat, (zkd (h.2.2.1 + 1)).1 = k + 1 → k < 3 → ∀ ty : FieldType, newarray.typeOf t = ty → (ztys cs)[k]? = some (cs (k + 1), ty) → defaultValue ty = .int 0 → componentBytes ty ≤ 8 → (Cond.arrayClass (newarray.typeOf t)).before args s = true → zG p l e R s mi args below meth c Q D cs A sv m n0 ad0 pc L (vI x :: s1) h := by
        intro k hk hk3 ty hty htk hdv hcb hac
        refine zG_mk (e0 := .inl (cs (k + 1), (zkd (h.2.2.1 + 1)).2, .inl (fun _ => 0))) cx hnf K hlt rfl rfl zmk_I (zmk_R hlt) (fun x hx => zmk_1 hx) (fun x hx => zmk_2 hx) (fun ad _ a => ?_) (fun hs => (List.forall_mem_cons.mp hs).2) (fun ad H locs ls cells slots hw hl hL hs hc1 hc2 kk => ?_)
        · rw [zcell_i (by omega) (by omega), hk]
          congr 4
          funext j
          rw [zmk_n1]
          rfl
        · rw [hsz] at hc2 kk
          refine va_newa cx.1 cx.2.1 (atype := t) hac hty cx.2.2.2.2.2.2.2.2.2.2.2.1 hw.1 hw.2.1 hw.2.2.1 cx.2.2.2.2.2.2.2.2.2.2.2.2.2 (a0 := ((zkd (h.2.2.1 + 1)).2, .inl (fun _ => 0))) (fun cA => by rw [vp_cell_i, hdv]) (zi_neg rx hx0) hxn (by have := Nat.mul_le_mul hle hcb; omega) hc1 hc2 hd (fun a cA H1 hK2 hP hD hS => ?_)
          have hcA := zcs_eq cx.2.2.2.2.2.2.2.2.2.2.2.1 htk hK2
          subst hcA
          exact kk a H1 hP hD hS
      rcases ht with rfl | rfl | rfl | rfl
      · exact small 0 hkt (by omega) .int rfl rfl rfl (by decide) (hac _ (Or.inl rfl))
      · exact small 1 hkt (by omega) .byte rfl rfl rfl (by decide) (hac _ (Or.inr (Or.inl rfl)))
      · exact small 2 hkt (by omega) .boolean rfl rfl rfl (by decide) (hac _ (Or.inr (Or.inr (Or.inl rfl))))
      · have k4 : (zkd (h.2.2.1 + 1)).1 = 4 := hkt
        refine zG_mk (e0 := .inl (cs 4, (zkd (h.2.2.1 + 1)).2, .inr (.inl (fun _ => 0)))) cx hnf K hlt rfl rfl zmk_I (zmk_R hlt) (fun x hx => zmk_1 hx) (fun x hx => zmk_2 hx) (fun ad _ a => ?_) (fun hs => (List.forall_mem_cons.mp hs).2) (fun ad H locs ls cells slots hw hl hL hs hc1 hc2 kk => ?_)
        · rw [zcell_l k4]
          congr 5
          funext j
          rw [zmk_n1]
          rfl
        · rw [hsz] at hc2 kk
          refine va_newa cx.1 cx.2.1 (atype := .long) (hac _ (Or.inr (Or.inr (Or.inr rfl)))) rfl cx.2.2.2.2.2.2.2.2.2.2.2.1 hw.1 hw.2.1 hw.2.2.1 cx.2.2.2.2.2.2.2.2.2.2.2.2.2 (a0 := ((zkd (h.2.2.1 + 1)).2, .inr (.inl (fun _ => 0)))) (fun cA => by rw [vp_cell_l]; rfl) (zi_neg rx hx0) hxn (by have := Nat.mul_le_mul hle (show componentBytes (newarray.typeOf .long) ≤ 8 by decide); omega) hc1 hc2 hd (fun a cA H1 hK2 hP hD hS => ?_)
          have hcA := zcs_eq (k := 3) cx.2.2.2.2.2.2.2.2.2.2.2.1 rfl hK2
          subst hcA
          exact kk a H1 hP hD hS
    · cases ha
  · cases ha
theorem zs_anewarray {t : Nat} (cx : zCx p R s mi args meth c D cs A sv m n0 nf) (hd : decode (zb m) pc = .ok (.anewarray t, len)) (hlen : ziln (.anewarray t) = 0 ∨ ziln (.anewarray t) = len) (ha : zac0 m (.anewarray t) pc len L st h = .inl q) (hnf : q.2.2.2.2.2.1 ≤ nf) (K : zG p l e R s mi args below meth c Q D cs A sv m n0 ad0 q.1 q.2.1 q.2.2.1 q.2.2.2) : zG p l e R s mi args below meth c Q D cs A sv m n0 ad0 pc L st h := by
  obtain rfl := zl3 rfl hlen
  simp only [zac0, zanew] at ha
  split at ha
  · rename_i ci x s1 hc
    split at ha
    · rename_i hk
      obtain ⟨hkt, hx0, hxe, hlt⟩ := hk
      cases Sum.inl.inj ha
      have hNP : zNP = 103 := rfl
      have hle := zkd_len (h.2.2.1 + 1) (by omega)
      have rx : zRI x := ⟨by omega, by omega⟩
      have hxn : (Int32.ofInt x).toNatClampNeg = (zkd (h.2.2.1 + 1)).2 := by rw [zi_nat rx hx0]; omega
      have hcn := zcn_ok hc
      rw [if_neg (by omega)] at hcn
      have hsz : zsz (h.2.2.1 + 1) = (zkd (h.2.2.1 + 1)).2 := by
        unfold zsz
        rw [if_neg (by omega)]
      have gen : ∀ k : Nat, (zkd (h.2.2.1 + 1)).1 = k + 1 → 4 ≤ k → ∀ C : String, (ztys cs)[k]? = some (cs (k + 1), .object C) → zCn ci = C → (∀ ad, zRO A ad sv s s.heap h → va_AO C s) → zG p l e R s mi args below meth c Q D cs A sv m n0 ad0 pc L (vI x :: s1) h := by
        intro k hk hk3 C htk hC hao
        refine zG_mk (e0 := .inl (cs (k + 1), (zkd (h.2.2.1 + 1)).2, .inr (.inr (.inr (.inr (fun _ => none)))))) cx hnf K hlt rfl rfl zmk_I (zmk_R hlt) (fun x hx => zmk_1 hx) (fun x hx => zmk_2 hx) (fun ad _ a => ?_) (fun hs => (List.forall_mem_cons.mp hs).2) (fun ad H locs ls cells slots hw hl hL hs hc1 hc2 kk => ?_)
        · rw [zcell_r (by omega), hk]
          congr 7
          funext j
          rw [zmk_n2]
          rfl
        · rw [hsz] at hc2 kk
          refine va_newq cx.1 cx.2.1 (C := C) cx.2.2.2.1 (hC ▸ cx.2.2.2.2.1 _ hcn.2.1) (hao ad hw.2.2.2.2.2.2) cx.2.2.2.2.2.2.2.2.2.2.2.1 hw.1 hw.2.1 hw.2.2.1 cx.2.2.2.2.2.2.2.2.2.2.2.2.2 (zi_neg rx hx0) hxn (by omega) hc1 hc2 hd (fun a cA H1 hK2 hP hD hS => ?_)
          have hcA := zcs_eq cx.2.2.2.2.2.2.2.2.2.2.2.1 htk hK2
          subst hcA
          exact kk a H1 hP hD hS
      rcases hkt with ⟨k5, rfl⟩ | ⟨k6, rfl⟩
      · exact gen 4 k5 (by omega) "PooledWaves$Player" rfl (by decide +kernel) (fun ad r => r.2.2.2.2.2.2.1)
      · exact gen 5 k6 (by omega) "PooledWaves$Sheet" rfl (by decide +kernel) (fun ad r => r.2.2.2.2.2.2.2.1)
    · cases ha
  · cases ha
theorem zs_checkcast {a : Nat} (cx : zCx p R s mi args meth c D cs A sv m n0 nf) (hd : decode (zb m) pc = .ok (.checkcast a, len)) (hlen : ziln (.checkcast a) = 0 ∨ ziln (.checkcast a) = len) (ha : zac0 m (.checkcast a) pc len L st h = .inl q) (K : zG p l e R s mi args below meth c Q D cs A sv m n0 ad0 q.1 q.2.1 q.2.2.1 q.2.2.2) : zG p l e R s mi args below meth c Q D cs A sv m n0 ad0 pc L st h := by
  obtain rfl := zl3 rfl hlen
  simp only [zac0] at ha
  split at ha
  · rename_i x s1 hc
    split at ha
    · rename_i hk
      cases Sum.inl.inj ha
      have hcn := zcn_ok hc
      rw [if_pos rfl] at hcn
      have hx0 : x ≠ 0 := fun z => by rw [z, zkd_0] at hk; exact absurd hk.1 (by decide)
      refine zG_st K (fun _ _ _ hs => hs) (fun ad H locs ls hw _ _ hs k => ?_)
      have hn := hw.2.2.2.2.2.1
      have hNP : zNP = 103 := rfl
      have he := zws_at cs ad (h := h) (p := x) (by omega) hk.2
      rw [zcell_i (by omega) (by omega), hk.1] at he
      have hcs : s.vm.findClass "[I" = some (cs 1) := (cx.2.2.2.2.2.2.2.2.2.2.2.1.2 0 (cs 1, .int) rfl).2
      have hcv : (vR x :: s1).map (zcv ad sv) = .ref (ad x) :: s1.map (zcv ad sv) := by
        show zcv ad sv (vR x) :: _ = _
        rw [zcv_p hx0 (by omega)]
      rw [hcv] at k ⊢
      exact va_castA cx.1 cx.2.1 cx.2.2.2.1 (cx.2.2.2.2.1 _ hcn) hw.1 (x - 1) he hcs hd k
    · cases ha
  · cases ha
/-- what is called without a frame of ours: Object's constructor, arraycopy, clone -/
theorem zs_objinit {a d : Nat} {s1 : List zV} {x : Nat} (cx : zCx p R s mi args meth c D cs A sv m n0 nf) (hd : decode (zb m) pc = .ok (.invokespecial a, 3)) (hm : zml (zo m) a = some (10, d)) (hx : 1 ≤ x ∧ x ≤ h.2.2.1 ∧ 1 ≤ zfr m ∧ (s1.map zcat).sum + 12 ≤ zlo m) (K : zG p l e R s mi args below meth c Q D cs A sv m n0 ad0 (pc + 3) L s1 h) : zG p l e R s mi args below meth c Q D cs A sv m n0 ad0 pc L (vR x :: s1) h := by
  obtain ⟨y, ey, hy⟩ := zml_in hm
  unfold zmlR at hy
  rw [ey] at hy
  simp only [show ¬ (10 : Nat) = 0 by decide, show ¬ (10 : Nat) = 1 by decide, show ¬ (10 : Nat) = 2 by decide, show ¬ (10 : Nat) = 3 by decide, if_false, if_true, Bool.and_eq_true] at hy
  refine zG_np (fun hnp => ?_)
  have hNP : zNP = 103 := rfl
  intro ad H locs ls hw hl hL hvo hnl hso hn0 had
  have k := K ad H locs ls hw hl hL hvo hnl (List.forall_mem_cons.mp hso).2 hn0 had
  have hcv : (vR x :: s1).map (zcv ad sv) = .ref (ad x) :: s1.map (zcv ad sv) := by
    show zcv ad sv (vR x) :: _ = _
    rw [zcv_p (by omega) (by omega)]
  rw [hcv]
  refine W.objInit cx.1 cx.2.1 cx.2.2.2.1 (cx.2.2.2.2.1 _ (zwq_in hy.1.1)) (cx.2.2.2.2.1 _ (zwq_in hy.1.2)) (cx.2.2.2.2.1 _ (zwq_in hy.2)) rfl (by rw [cx.2.2.1, ← hL]; exact hl.1) rfl hd (by have := cx.2.2.2.2.2.2.2.1; omega) ?_ k
  have h1 := zcat_sum (ad := ad) (zsvc cx) s1
  have h2 := cx.2.2.2.2.2.2.2.2.1
  show 2 * 0 + _ + 12 ≤ R.locals
  rw [h1]
  omega
theorem znfw : nativeFrameWords "java/lang/System" "arraycopy" 5 + 11 ≤ 30 := by decide +kernel
theorem zs_acopy {a d : Nat} {s1 : List zV} {n dp sp : Int} {x y : Nat} (cx : zCx p R s mi args meth c D cs A sv m n0 nf) (hd : decode (zb m) pc = .ok (.invokestatic a, 3)) (hm : zml (zo m) a = some (11, d)) (hc : (zkd x).1 = 1 ∧ x ≤ h.2.2.1 ∧ (zkd y).1 = 1 ∧ y ≤ h.2.2.1 ∧ 0 ≤ n ∧ 0 ≤ dp ∧ 0 ≤ sp ∧ sp + n ≤ (zkd y).2 ∧ dp + n ≤ (zkd x).2 ∧ 1 ≤ zfr m ∧ (s1.map zcat).sum + 30 ≤ zlo m) (K : zG p l e R s mi args below meth c Q D cs A sv m n0 ad0 (pc + 3) L s1 (zcpy h.1 y sp x dp n, h.2)) : zG p l e R s mi args below meth c Q D cs A sv m n0 ad0 pc L (vI n :: vI dp :: vR x :: vI sp :: vR y :: s1) h := by
  obtain ⟨kx, hxh, ky, hyh, hn0, hd0, hs0, hsn, hdn, hfr, hlo⟩ := hc
  obtain ⟨z, ez, hz⟩ := zml_in hm
  unfold zmlR at hz
  rw [ez] at hz
  simp only [show ¬ (11 : Nat) = 0 by decide, show ¬ (11 : Nat) = 1 by decide, show ¬ (11 : Nat) = 2 by decide, show ¬ (11 : Nat) = 3 by decide, show ¬ (11 : Nat) = 10 by decide, if_false, if_true, Bool.and_eq_true] at hz
  refine zG_np (fun hnp => ?_)
  have hNP : zNP = 103 := rfl
  have hx0 : x ≠ 0 := fun z => by rw [z, zkd_0] at kx; cases kx
  have hy0 : y ≠ 0 := fun z => by rw [z, zkd_0] at ky; cases ky
  have hlx := zkd_len x (by omega)
  have hly := zkd_len y (by omega)
  have rn : zRI n := ⟨by omega, by omega⟩
  have rd : zRI dp := ⟨by omega, by omega⟩
  have rs : zRI sp := ⟨by omega, by omega⟩
  intro ad H locs ls hw hl hL hvo hnl hso hnn had
  have hs1 := (List.forall_mem_cons.mp (List.forall_mem_cons.mp (List.forall_mem_cons.mp (List.forall_mem_cons.mp (List.forall_mem_cons.mp hso).2).2).2).2).2
  have hcv : (vI n :: vI dp :: vR x :: vI sp :: vR y :: s1).map (zcv ad sv) = .int (Int32.ofInt n) :: .int (Int32.ofInt dp) :: .ref (ad x) :: .int (Int32.ofInt sp) :: .ref (ad y) :: s1.map (zcv ad sv) := by
    show _ :: _ :: zcv ad sv (vR x) :: _ :: zcv ad sv (vR y) :: _ = _
    rw [zcv_p hx0 (by omega), zcv_p hy0 (by omega)]
    rfl
  rw [hcv]
  have hex := zws_at cs ad (h := h) (p := x) (by omega) hxh
  have hey := zws_at cs ad (h := h) (p := y) (by omega) hyh
  rw [zcell_i (by omega) (by omega), kx] at hex
  rw [zcell_i (by omega) (by omega), ky] at hey
  have h1 := zcat_sum (ad := ad) (zsvc cx) s1
  have h2 := cx.2.2.2.2.2.2.2.2.1
  have h3 := znfw
  have hini : (Cond.initialized "java/lang/System").before args s = true := by
    have h0 : Cond.initialized "java/lang/System" ∈ tables_1 := by decide +kernel
    exact cx.2.2.2.2.1 _ (List.mem_filter.mpr ⟨List.mem_append_right _ h0, rfl⟩)
  refine va_copyi cx.1 cx.2.1 (by rw [cx.2.2.1, ← hL]; exact hl.1.symm) cx.2.2.2.1 (cx.2.2.2.2.1 _ (zwq_in hz.1.1)) (cx.2.2.2.2.1 _ (zwq_in hz.2)) (cx.2.2.2.2.1 _ (zwq_in hz.1.2)) hini cx.2.2.2.2.2.2.2.2.2.2.2.1 hw.1 hw.2.1 hw.2.2.1 (y - 1) (x - 1) 0 0 hey hex rfl rfl rfl (zi_neg rs hs0) (zi_neg rd hd0) (zi_neg rn hn0) (by rw [zi_nat rs hs0, zi_nat rn hn0]; omega) (by rw [zi_nat rd hd0, zi_nat rn hn0]; omega) (fun _ _ => rfl) (by have := cx.2.2.2.2.2.2.2.1; omega) (by rw [h1]; omega) hd (fun H1 locs1 hP hD hS => ?_)
  have hcell : (.inl (cs 1, (zkd x).2, .inl (va_cpy (fun j => Int32.ofInt (h.1 y j)) (fun j => Int32.ofInt (h.1 x j)) (Int32.ofInt sp).toNatClampNeg (Int32.ofInt dp).toNatClampNeg (Int32.ofInt n).toNatClampNeg)) : va_E) = zcell cs ad (zcpy h.1 y sp x dp n, h.2) x := by
    rw [zcell_i (by omega) (by omega), kx]
    congr 4
    funext j
    rw [zi_nat rs hs0, zi_nat rd hd0, zi_nat rn hn0]
    show (if dp.toNat ≤ j ∧ j < dp.toNat + n.toNat then Int32.ofInt (h.1 y ((sp.toNat + (j - dp.toNat) : Nat) : Int)) else Int32.ofInt (h.1 x j)) = Int32.ofInt (if x = x ∧ dp ≤ (j : Int) ∧ (j : Int) < dp + n then h.1 y (sp + ((j : Int) - dp)) else h.1 x j)
    by_cases hj : dp.toNat ≤ j ∧ j < dp.toNat + n.toNat
    · rw [if_pos hj, if_pos (by omega), show ((sp.toNat + (j - dp.toNat) : Nat) : Int) = sp + ((j : Int) - dp) by omega]
    · rw [if_neg hj, if_neg (by omega)]
  rw [zws_set (cs := cs) (ad := ad) (h := h) (h' := (zcpy h.1 y sp x dp n, h.2)) (p := x) (by omega) hxh rfl (fun q hq => zcell_cpy hq) hcell] at hP hD
  exact K ad H1 locs1 ls ⟨hP, hD, hS, hw.2.2.2.1.cp, hw.2.2.2.2.1, hw.2.2.2.2.2.1, hw.2.2.2.2.2.2.cp (by omega)⟩ hl hL hvo hnl hs1 hnn had
theorem zarr5 {cell : Cell} {f : Int → Int} {cA : ClassId} (h0 : cell.cls = cA) (h1 : cell.slots.size = 5) (h2 : ∀ j : Nat, j < 5 → cell.slots[j]? = some (.int (Int32.ofInt (f j)))) : ({ cls := cell.cls, slots := cell.slots } : Cell) = vp_cell cA (5, .inl (fun j => Int32.ofInt (f j))) := by
  rw [vp_cell_i]
  unfold arrV
  rw [h0]
  congr 1
  apply Array.ext
  · rw [h1, Array.size_ofFn]
  · intro j hj1 hj2
    rw [Array.getElem_ofFn]
    have h3 := h2 j (by omega)
    rw [Array.getElem?_eq_getElem hj1] at h3
    exact Option.some.inj h3
theorem zs_clone {a d : Nat} {s1 : List zV} (cx : zCx p R s mi args meth c D cs A sv m n0 nf) (hd : decode (zb m) pc = .ok (.invokevirtual a, 3)) (hm : zml (zo m) a = some (12, d)) (hc : zkd (h.2.2.1 + 1) = (1, 5) ∧ h.2.2.1 < zNP ∧ 1 ≤ zfr m ∧ (s1.map zcat).sum + 30 ≤ zlo m) (hnf : h.2.2.1 + 1 ≤ nf) (K : zG p l e R s mi args below meth c Q D cs A sv m n0 ad0 (pc + 3) L (vR (h.2.2.1 + 1) :: s1) (zcpy (zmk h).1 900 0 (h.2.2.1 + 1) 0 5, (zmk h).2)) : zG p l e R s mi args below meth c Q D cs A sv m n0 ad0 pc L (vR 900 :: s1) h := by
  obtain ⟨hk, hlt, hfr, hlo⟩ := hc
  obtain ⟨z, ez, hz⟩ := zml_in hm
  unfold zmlR at hz
  rw [ez] at hz
  simp only [show ¬ (12 : Nat) = 0 by decide, show ¬ (12 : Nat) = 1 by decide, show ¬ (12 : Nat) = 2 by decide, show ¬ (12 : Nat) = 3 by decide, show ¬ (12 : Nat) = 10 by decide, show ¬ (12 : Nat) = 11 by decide, if_false, Bool.and_eq_true] at hz
  have hNP : zNP = 103 := rfl
  have gw : ∀ w : Cond, w ∈ tables_1 → goodWord w = true → w.before args s = true := fun w h1 h2 => cx.2.2.2.2.1 _ (List.mem_filter.mpr ⟨List.mem_append_right _ h1, h2⟩)
  have w1 : (Cond.sameMethod "[I" "java/lang/Object" "clone" "()Ljava/lang/Object;").before args s = true := gw _ (by decide +kernel) rfl
  have w2 : (Cond.native ⟨"java/lang/Object", "clone", "()Ljava/lang/Object;"⟩).before args s = true := gw _ (by decide +kernel) rfl
  have w3 : (Cond.instanceMethod ⟨"java/lang/Object", "clone", "()Ljava/lang/Object;"⟩).before args s = true := gw _ (by decide +kernel) rfl
  have w4 : (Cond.selects "[I" ⟨"[I", "clone", "()Ljava/lang/Object;"⟩ ⟨"java/lang/Object", "clone", "()Ljava/lang/Object;"⟩).before args s = true := gw _ (by decide +kernel) rfl
  have hca : Cond.castable "[I" "java/lang/Cloneable" ∈ znws := by
    have h0 : Cond.castable "[I" "java/lang/Cloneable" ∈ tables_1 := by decide +kernel
    exact List.mem_filter.mpr ⟨List.mem_append_right _ h0, rfl⟩
  have hsz : zsz (h.2.2.1 + 1) = 5 := by unfold zsz; rw [hk]; rfl
  refine zG_mk (e0 := .inl (cs 1, 5, .inl (fun j => Int32.ofInt (zcpy (zmk h).1 900 0 (h.2.2.1 + 1) 0 5 (h.2.2.1 + 1) j)))) cx hnf K hlt rfl rfl (fun i => (zmk_I i).cp) (zmk_R hlt) (fun x hx => ?_) (fun x hx => zmk_2 hx) (fun ad _ a => ?_) (fun hs => (List.forall_mem_cons.mp hs).2) (fun ad H locs ls cells slots hw hl hL hs hc1 hc2 kk => ?_)
  · funext j
    show zcpy (zmk h).1 900 0 (h.2.2.1 + 1) 0 5 x j = h.1 x j
    unfold zcpy
    rw [if_neg (fun z => hx z.1), zmk_1 hx]
  · rw [zcell_i (by rw [hk]; decide) (by rw [hk]; decide), hk]
  · rw [hsz] at hc2 kk
    have hro := hw.2.2.2.2.2.2
    obtain ⟨cell, b1, b2, b3, b4, b5, b6, b7⟩ := hro.2.2.2.2.2.2.2.2
    have hcs : s.vm.findClass "[I" = some (cs 1) := (cx.2.2.2.2.2.2.2.2.2.2.2.1.2 0 (cs 1, .int) rfl).2
    have hcl : cell.cls = cs 1 := Option.some.inj (b4.symm.trans hcs)
    have hcellH : H[ad 900]? = some cell := by rw [hw.2.2.1.2.1 _ (Array.getElem?_eq_some_iff.mp b1).1 b7]; exact b1
    have hcv : (vR 900 :: s1).map (zcv ad sv) = .ref (ad 900) :: s1.map (zcv ad sv) := by
      show zcv ad sv (vR 900) :: _ = _
      rw [zcv_p (by omega) (by omega)]
    rw [hcv]
    obtain ⟨c0, t0', f1, f2, f3⟩ := Cond.castable_spec (va_Nw.use (A := args) rfl (hro.2.2.2.2.2.1 _ hca))
    cases b4.symm.trans f1
    intro T hT X
    have hcellT : T.heap[ad 900]? = some cell := by rw [hT]; exact hcellH
    obtain ⟨-, kA, hkA, comp, hkind⟩ := State.isArrayOf_alike X.warmed.alike ((cx.2.2.2.2.2.2.2.2.2.2.2.1.2 0 (cs 1, .int) rfl).1 0 (fun _ => .null))
    obtain ⟨-, kS, hkS, compS, hkindS⟩ := (cx.2.2.2.2.2.2.2.2.2.2.2.1.2 0 (cs 1, .int) rfl).1 0 (fun _ => .null)
    have hkA' : T.vm.classes[cs 1]? = some kA := hkA
    have hkS' : s.vm.classes[cs 1]? = some kS := hkS
    have hcatS := zcat_sum (ad := ad) (zsvc cx) s1
    have hlo2 := cx.2.2.2.2.2.2.2.2.1
    obtain ⟨vm', X', stp⟩ := X.cloneArray cx.1 cx.2.2.2.1 (cx.2.2.2.2.1 _ (zwq_in hz.2)) w1 w2 w3 w4 (a := ad 900) (cell := cell) hcellT (fun k h => by rw [h] at b2; cases b2) b3 (by rw [← f1]) f2 f3
      (fun i v hv => by
        rw [hcl]
        have hi : i < 5 := by have := (Array.getElem?_eq_some_iff.mp hv).1; omega
        rw [b6 i hi] at hv
        cases Option.some.inj hv
        simp [State.fitsSlot, State.slotType?, hkA', hkind, fits])
      (g := F0 mi pc ls (.ref (ad 900) :: s1.map (zcv ad sv))) rfl (by rw [cx.2.2.1, ← hL]; exact hl.1) rfl (by rw [cx.2.1]; exact hd) (by have := cx.2.2.2.2.2.2.2.1; omega) (by show 2 * 0 + _ + 14 ≤ _; rw [hcatS]; omega) hc1 (by rw [b5]; exact hc2) (hloader := by rw [hcl]; exact Vm.clonesLoader_of_array hkS' hkindS)
    have hce := zarr5 (f := zcpy (zmk h).1 900 0 (h.2.2.1 + 1) 0 5 (h.2.2.1 + 1)) hcl b5 (fun j hj => by
      rw [b6 j hj]
      show _ = some (Value.int (Int32.ofInt (if h.2.2.1 + 1 = h.2.2.1 + 1 ∧ (0 : Int) ≤ (j : Int) ∧ (j : Int) < 0 + 5 then (zmk h).1 900 (0 + ((j : Int) - 0)) else _)))
      rw [if_pos (by omega), zmk_1 (by omega), show (0 : Int) + ((j : Int) - 0) = (j : Int) by omega])
    rw [hce, b5] at X'
    generalize hH1 : H.push (vp_cell (cs 1) (5, .inl (fun j => Int32.ofInt (zcpy (zmk h).1 900 0 (h.2.2.1 + 1) 0 5 (h.2.2.1 + 1) j)))) = H1
    have z1 : H1.size = H.size + 1 := by rw [← hH1, Array.size_push]
    have e1 : H1[H.size]? = some (vp_cell (cs 1) (5, .inl (fun j => Int32.ofInt (zcpy (zmk h).1 900 0 (h.2.2.1 + 1) 0 5 (h.2.2.1 + 1) j)))) := by rw [← hH1, Array.getElem?_push_size]
    have o1 : ∀ q : Nat, q < H.size → H1[q]? = H[q]? := fun q hq => by rw [← hH1, Array.getElem?_push, if_neg (Nat.ne_of_lt hq)]
    have hS := hw.2.2.1
    obtain ⟨t, g1, g2⟩ := kk H.size H1 ((hw.1.kept (fun k y hy => o1 y.1 ((hw.1 k y hy).lt))).app (fun k y hy => by
        have hz : k < 1 := (List.getElem?_eq_some_iff.mp hy).1
        rw [show k = 0 by omega] at hy
        cases hy
        exact e1)) (hw.2.1.push hw.1 rfl (cx.2.2.2.2.2.2.2.2.2.2.2.2.2 _ hS.1)) ⟨Nat.le_trans hS.1 (by omega), fun y h1 h2 => (o1 y (Nat.lt_of_lt_of_le h1 hS.1)).trans (hS.2.1 y h1 h2), hS.2.2⟩
      ((T.setVm vm').pushCell (vp_cell (cs 1) (5, .inl (fun j => Int32.ofInt (zcpy (zmk h).1 900 0 (h.2.2.1 + 1) 0 5 (h.2.2.1 + 1) j))))) (by rw [← hH1, ← hT]; rfl) X'
    refine ⟨t, stp t ?_, g2⟩
    rw [hce, hT]
    exact g1
end ZS7
