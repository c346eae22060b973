section ZS2
variable {p : Program} {l : Launch} {e : Env} {R : Room} {s : State} {mi : MethodId} {args : Array Value} {below : List Frame} {meth : Method} {c : Code} {Q : State → Prop} {D : va_G} {cs : Nat → ClassId} {A : Nat → Prop} {sv : Value} {m n0 nf : Nat} {ad0 : Nat → Nat}
variable {pc len : Nat} {L st : List zV} {h : zH} {q : Nat × List zV × List zV × zH}
theorem zs_bin {f : Int → Int → Int} {pc' : Nat} (ha : zbin f pc' L st h = .inl q) (K : zG p l e R s mi args below meth c Q D cs A sv m n0 ad0 q.1 q.2.1 q.2.2.1 q.2.2.2) (hR : ∀ a b, zRI a → zRI b → zRI (f a b))
    (row : ∀ (H : Heap) (locs : List Loc) (ls : Array Slot) (cells slots : Nat) (rest : List Value) (a b : Int), zRI a → zRI b → W p l e R s mi args below meth c H locs cells slots Q (F0 mi pc' ls (.int (Int32.ofInt (f a b)) :: rest)) → W p l e R s mi args below meth c H locs cells slots Q (F0 mi pc ls (.int (Int32.ofInt b) :: .int (Int32.ofInt a) :: rest))) : zG p l e R s mi args below meth c Q D cs A sv m n0 ad0 pc L st h := by
  obtain ⟨a, b, s1, rfl, rfl⟩ := zbin_inv ha
  refine zG_st K (fun _ _ _ hs => ?_) (fun ad H locs ls hw _ _ hs k => ?_)
  · have h1 := List.forall_mem_cons.mp hs
    have h2 := List.forall_mem_cons.mp h1.2
    exact zcons ⟨rfl, hR a b h2.1.2 h1.1.2⟩ h2.2
  · have h1 := List.forall_mem_cons.mp hs
    have h2 := List.forall_mem_cons.mp h1.2
    exact row H locs ls _ _ _ a b h2.1.2 h1.1.2 k
theorem zs_dv {f : Int → Int → Int} {pc' : Nat} (ha : zdv f pc' L st h = .inl q) (K : zG p l e R s mi args below meth c Q D cs A sv m n0 ad0 q.1 q.2.1 q.2.2.1 q.2.2.2) (hR : ∀ a b, zRI a → zRI b → zRI (f a b))
    (row : ∀ (H : Heap) (locs : List Loc) (ls : Array Slot) (cells slots : Nat) (rest : List Value) (a b : Int), zRI a → zRI b → ¬ Int32.ofInt b = 0 → W p l e R s mi args below meth c H locs cells slots Q (F0 mi pc' ls (.int (Int32.ofInt (f a b)) :: rest)) → W p l e R s mi args below meth c H locs cells slots Q (F0 mi pc ls (.int (Int32.ofInt b) :: .int (Int32.ofInt a) :: rest))) : zG p l e R s mi args below meth c Q D cs A sv m n0 ad0 pc L st h := by
  obtain ⟨a, b, s1, rfl, hne, rfl⟩ := zdv_inv ha
  refine zG_st K (fun _ _ _ hs => ?_) (fun ad H locs ls hw _ _ hs k => ?_)
  · have h1 := List.forall_mem_cons.mp hs
    have h2 := List.forall_mem_cons.mp h1.2
    exact zcons ⟨rfl, hR a b h2.1.2 h1.1.2⟩ h2.2
  · have h1 := List.forall_mem_cons.mp hs
    have h2 := List.forall_mem_cons.mp h1.2
    exact row H locs ls _ _ _ a b h2.1.2 h1.1.2 (fun z => hne ((zi_eq h1.1.2 zR0).mp (z.trans zi_0.symm))) k
theorem zl1 {i : Instr} (hi : ziln i = 1) (hlen : ziln i = 0 ∨ ziln i = len) : len = 1 := by omega
theorem zl3 {i : Instr} (hi : ziln i = 3) (hlen : ziln i = 0 ∨ ziln i = len) : len = 3 := by omega
theorem zl2 {i : Instr} (hi : ziln i = 2) (hlen : ziln i = 0 ∨ ziln i = len) : len = 2 := by omega
theorem zs_iadd (cx : zCx p R s mi args meth c D cs A sv m n0 nf) (hd : decode (zb m) pc = .ok (.iadd, len)) (hlen : ziln .iadd = 0 ∨ ziln .iadd = len) (ha : zac0 m .iadd pc len L st h = .inl q) (K : zG p l e R s mi args below meth c Q D cs A sv m n0 ad0 q.1 q.2.1 q.2.2.1 q.2.2.2) : zG p l e R s mi args below meth c Q D cs A sv m n0 ad0 pc L st h := by
  obtain rfl := zl1 rfl hlen
  exact zs_bin (f := fun a b => wr (a + b)) ha K (fun _ _ _ _ => wr_RI _) (fun H locs ls _ _ rest a b _ _ k => lv_iadd cx.1 cx.2.1 hd (by rw [zi_wr, Int32.ofInt_add] at k; exact k))
theorem zs_isub (cx : zCx p R s mi args meth c D cs A sv m n0 nf) (hd : decode (zb m) pc = .ok (.isub, len)) (hlen : ziln .isub = 0 ∨ ziln .isub = len) (ha : zac0 m .isub pc len L st h = .inl q) (K : zG p l e R s mi args below meth c Q D cs A sv m n0 ad0 q.1 q.2.1 q.2.2.1 q.2.2.2) : zG p l e R s mi args below meth c Q D cs A sv m n0 ad0 pc L st h := by
  obtain rfl := zl1 rfl hlen
  exact zs_bin (f := fun a b => wr (a - b)) ha K (fun _ _ _ _ => wr_RI _) (fun H locs ls _ _ rest a b _ _ k => lv_isub cx.1 cx.2.1 hd (by rw [zi_wr, Int32.ofInt_sub] at k; exact k))
theorem zs_imul (cx : zCx p R s mi args meth c D cs A sv m n0 nf) (hd : decode (zb m) pc = .ok (.imul, len)) (hlen : ziln .imul = 0 ∨ ziln .imul = len) (ha : zac0 m .imul pc len L st h = .inl q) (K : zG p l e R s mi args below meth c Q D cs A sv m n0 ad0 q.1 q.2.1 q.2.2.1 q.2.2.2) : zG p l e R s mi args below meth c Q D cs A sv m n0 ad0 pc L st h := by
  obtain rfl := zl1 rfl hlen
  exact zs_bin (f := fun a b => wr (a * b)) ha K (fun _ _ _ _ => wr_RI _) (fun H locs ls _ _ rest a b _ _ k => lv_imul cx.1 cx.2.1 hd (by rw [zi_wr, Int32.ofInt_mul] at k; exact k))
theorem zs_idiv (cx : zCx p R s mi args meth c D cs A sv m n0 nf) (hd : decode (zb m) pc = .ok (.idiv, len)) (hlen : ziln .idiv = 0 ∨ ziln .idiv = len) (ha : zac0 m .idiv pc len L st h = .inl q) (K : zG p l e R s mi args below meth c Q D cs A sv m n0 ad0 q.1 q.2.1 q.2.2.1 q.2.2.2) : zG p l e R s mi args below meth c Q D cs A sv m n0 ad0 pc L st h := by
  obtain rfl := zl1 rfl hlen
  exact zs_dv (f := fun a b => wr (a.tdiv b)) ha K (fun _ _ _ _ => wr_RI _) (fun H locs ls _ _ rest a b h1 h2 hne k => lv_idiv cx.1 cx.2.1 hd hne (by rw [zi_div h1 h2] at k; exact k))
theorem zs_irem (cx : zCx p R s mi args meth c D cs A sv m n0 nf) (hd : decode (zb m) pc = .ok (.irem, len)) (hlen : ziln .irem = 0 ∨ ziln .irem = len) (ha : zac0 m .irem pc len L st h = .inl q) (K : zG p l e R s mi args below meth c Q D cs A sv m n0 ad0 q.1 q.2.1 q.2.2.1 q.2.2.2) : zG p l e R s mi args below meth c Q D cs A sv m n0 ad0 pc L st h := by
  obtain rfl := zl1 rfl hlen
  exact zs_dv (f := fun a b => a.tmod b) ha K (fun _ _ h1 _ => zi_remR h1) (fun H locs ls _ _ rest a b h1 h2 hne k => lv_irem cx.1 cx.2.1 hd hne (by rw [zi_rem h1 h2] at k; exact k))
theorem zs_iand (cx : zCx p R s mi args meth c D cs A sv m n0 nf) (hd : decode (zb m) pc = .ok (.iand, len)) (hlen : ziln .iand = 0 ∨ ziln .iand = len) (ha : zac0 m .iand pc len L st h = .inl q) (K : zG p l e R s mi args below meth c Q D cs A sv m n0 ad0 q.1 q.2.1 q.2.2.1 q.2.2.2) : zG p l e R s mi args below meth c Q D cs A sv m n0 ad0 pc L st h := by
  obtain rfl := zl1 rfl hlen
  exact zs_bin (f := w2 (· &&& ·)) ha K (fun _ _ _ _ => w2_RI _ _ _) (fun H locs ls _ _ rest a b _ _ k => lv_iand cx.1 cx.2.1 hd (by rw [zi_w2] at k; exact k))
theorem zs_ior (cx : zCx p R s mi args meth c D cs A sv m n0 nf) (hd : decode (zb m) pc = .ok (.ior, len)) (hlen : ziln .ior = 0 ∨ ziln .ior = len) (ha : zac0 m .ior pc len L st h = .inl q) (K : zG p l e R s mi args below meth c Q D cs A sv m n0 ad0 q.1 q.2.1 q.2.2.1 q.2.2.2) : zG p l e R s mi args below meth c Q D cs A sv m n0 ad0 pc L st h := by
  obtain rfl := zl1 rfl hlen
  exact zs_bin (f := w2 (· ||| ·)) ha K (fun _ _ _ _ => w2_RI _ _ _) (fun H locs ls _ _ rest a b _ _ k => lv_ior cx.1 cx.2.1 hd (by rw [zi_w2] at k; exact k))
theorem zs_ixor (cx : zCx p R s mi args meth c D cs A sv m n0 nf) (hd : decode (zb m) pc = .ok (.ixor, len)) (hlen : ziln .ixor = 0 ∨ ziln .ixor = len) (ha : zac0 m .ixor pc len L st h = .inl q) (K : zG p l e R s mi args below meth c Q D cs A sv m n0 ad0 q.1 q.2.1 q.2.2.1 q.2.2.2) : zG p l e R s mi args below meth c Q D cs A sv m n0 ad0 pc L st h := by
  obtain rfl := zl1 rfl hlen
  exact zs_bin (f := w2 (· ^^^ ·)) ha K (fun _ _ _ _ => w2_RI _ _ _) (fun H locs ls _ _ rest a b _ _ k => lv_ixor cx.1 cx.2.1 hd (by rw [zi_w2] at k; exact k))
theorem zs_ishl (cx : zCx p R s mi args meth c D cs A sv m n0 nf) (hd : decode (zb m) pc = .ok (.ishl, len)) (hlen : ziln .ishl = 0 ∨ ziln .ishl = len) (ha : zac0 m .ishl pc len L st h = .inl q) (K : zG p l e R s mi args below meth c Q D cs A sv m n0 ad0 q.1 q.2.1 q.2.2.1 q.2.2.2) : zG p l e R s mi args below meth c Q D cs A sv m n0 ad0 pc L st h := by
  obtain rfl := zl1 rfl hlen
  exact zs_bin (f := w2 (fun a b => a <<< (b &&& 31))) ha K (fun _ _ _ _ => w2_RI _ _ _) (fun H locs ls _ _ rest a b _ _ k => lv_ishl cx.1 cx.2.1 hd (by rw [zi_w2] at k; exact k))
theorem zs_ishr (cx : zCx p R s mi args meth c D cs A sv m n0 nf) (hd : decode (zb m) pc = .ok (.ishr, len)) (hlen : ziln .ishr = 0 ∨ ziln .ishr = len) (ha : zac0 m .ishr pc len L st h = .inl q) (K : zG p l e R s mi args below meth c Q D cs A sv m n0 ad0 q.1 q.2.1 q.2.2.1 q.2.2.2) : zG p l e R s mi args below meth c Q D cs A sv m n0 ad0 pc L st h := by
  obtain rfl := zl1 rfl hlen
  exact zs_bin (f := w2 (fun a b => a >>> (b &&& 31))) ha K (fun _ _ _ _ => w2_RI _ _ _) (fun H locs ls _ _ rest a b _ _ k => lv_ishr cx.1 cx.2.1 hd (by rw [zi_w2] at k; exact k))
theorem zs_iushr (cx : zCx p R s mi args meth c D cs A sv m n0 nf) (hd : decode (zb m) pc = .ok (.iushr, len)) (hlen : ziln .iushr = 0 ∨ ziln .iushr = len) (ha : zac0 m .iushr pc len L st h = .inl q) (K : zG p l e R s mi args below meth c Q D cs A sv m n0 ad0 q.1 q.2.1 q.2.2.1 q.2.2.2) : zG p l e R s mi args below meth c Q D cs A sv m n0 ad0 pc L st h := by
  obtain rfl := zl1 rfl hlen
  exact zs_bin (f := w2 zusr) ha K (fun _ _ _ _ => w2_RI _ _ _) (fun H locs ls _ _ rest a b _ _ k => lv_iushr cx.1 cx.2.1 hd rfl (by rw [zi_w2] at k; exact k))
theorem zs_i2l (cx : zCx p R s mi args meth c D cs A sv m n0 nf) (hd : decode (zb m) pc = .ok (.i2l, len)) (hlen : ziln .i2l = 0 ∨ ziln .i2l = len) (ha : zac0 m .i2l pc len L st h = .inl q) (K : zG p l e R s mi args below meth c Q D cs A sv m n0 ad0 q.1 q.2.1 q.2.2.1 q.2.2.2) : zG p l e R s mi args below meth c Q D cs A sv m n0 ad0 pc L st h := by
  obtain rfl := zl1 rfl hlen
  simp only [zac0] at ha
  split at ha
  · rename_i a s1
    cases Sum.inl.inj ha
    refine zG_st K (fun _ _ _ hs => ?_) (fun ad H locs ls hw _ _ hs k => ?_)
    · have h1 := List.forall_mem_cons.mp hs
      have h3 : zRI a := h1.1.2
      exact zcons ⟨rfl, show zRL a from ⟨by omega, by omega⟩⟩ h1.2
    · have h1 := List.forall_mem_cons.mp hs
      have h3 : zRI a := h1.1.2
      exact lv_i2l cx.1 cx.2.1 hd (Int32.toInt64_ofInt h3.1 h3.2) k
  · cases ha
theorem zs_l2i (cx : zCx p R s mi args meth c D cs A sv m n0 nf) (hd : decode (zb m) pc = .ok (.l2i, len)) (hlen : ziln .l2i = 0 ∨ ziln .l2i = len) (ha : zac0 m .l2i pc len L st h = .inl q) (K : zG p l e R s mi args below meth c Q D cs A sv m n0 ad0 q.1 q.2.1 q.2.2.1 q.2.2.2) : zG p l e R s mi args below meth c Q D cs A sv m n0 ad0 pc L st h := by
  obtain rfl := zl1 rfl hlen
  simp only [zac0] at ha
  split at ha
  · rename_i a s1
    cases Sum.inl.inj ha
    refine zG_st K (fun _ _ _ hs => zcons ⟨rfl, wr_RI _⟩ (List.forall_mem_cons.mp hs).2) (fun ad H locs ls hw _ _ hs k => ?_)
    exact lv_l2i cx.1 cx.2.1 hd (Int64.toInt32_ofInt.trans (zi_wr a).symm) k
  · cases ha
theorem zs_i2b (cx : zCx p R s mi args meth c D cs A sv m n0 nf) (hd : decode (zb m) pc = .ok (.i2b, len)) (hlen : ziln .i2b = 0 ∨ ziln .i2b = len) (ha : zac0 m .i2b pc len L st h = .inl q) (K : zG p l e R s mi args below meth c Q D cs A sv m n0 ad0 q.1 q.2.1 q.2.2.1 q.2.2.2) : zG p l e R s mi args below meth c Q D cs A sv m n0 ad0 pc L st h := by
  obtain rfl := zl1 rfl hlen
  simp only [zac0] at ha
  split at ha
  · rename_i a s1
    cases Sum.inl.inj ha
    refine zG_st K (fun _ _ _ hs => zcons ⟨rfl, zt_RI _⟩ (List.forall_mem_cons.mp hs).2) (fun ad H locs ls hw _ _ hs k => ?_)
    exact lv_i2b cx.1 cx.2.1 hd (Int32.ofInt_toInt _).symm k
  · cases ha
theorem zs_i2c (cx : zCx p R s mi args meth c D cs A sv m n0 nf) (hd : decode (zb m) pc = .ok (.i2c, len)) (hlen : ziln .i2c = 0 ∨ ziln .i2c = len) (ha : zac0 m .i2c pc len L st h = .inl q) (K : zG p l e R s mi args below meth c Q D cs A sv m n0 ad0 q.1 q.2.1 q.2.2.1 q.2.2.2) : zG p l e R s mi args below meth c Q D cs A sv m n0 ad0 pc L st h := by
  obtain rfl := zl1 rfl hlen
  simp only [zac0] at ha
  split at ha
  · rename_i a s1
    cases Sum.inl.inj ha
    refine zG_st K (fun _ _ _ hs => zcons ⟨rfl, zt_RI _⟩ (List.forall_mem_cons.mp hs).2) (fun ad H locs ls hw _ _ hs k => ?_)
    exact lv_i2c cx.1 cx.2.1 hd (Int32.ofInt_toInt _).symm k
  · cases ha
theorem zs_ladd (cx : zCx p R s mi args meth c D cs A sv m n0 nf) (hd : decode (zb m) pc = .ok (.ladd, len)) (hlen : ziln .ladd = 0 ∨ ziln .ladd = len) (ha : zac0 m .ladd pc len L st h = .inl q) (K : zG p l e R s mi args below meth c Q D cs A sv m n0 ad0 q.1 q.2.1 q.2.2.1 q.2.2.2) : zG p l e R s mi args below meth c Q D cs A sv m n0 ad0 pc L st h := by
  obtain rfl := zl1 rfl hlen
  simp only [zac0] at ha
  split at ha
  · rename_i b a s1
    cases Sum.inl.inj ha
    refine zG_st K (fun _ _ _ hs => zcons ⟨rfl, zt_RL _⟩ (List.forall_mem_cons.mp (List.forall_mem_cons.mp hs).2).2) (fun ad H locs ls hw _ _ hs k => ?_)
    refine lv_ladd cx.1 cx.2.1 hd ?_
    have e1 : Int64.ofInt (wl (a + b)) = Int64.ofInt a + Int64.ofInt b := by unfold wl; rw [Int64.ofInt_toInt, Int64.ofInt_add]
    have k' : W p l e R s mi args below meth c H locs (h.2.2.1 - n0) (zsl h.2.2.1 - zsl n0) Q (F0 mi (pc + 1) ls (.long (Int64.ofInt (wl (a + b))) :: s1.map (zcv ad sv))) := k
    rw [e1] at k'
    exact k'
  · cases ha
theorem zs_lcmp (cx : zCx p R s mi args meth c D cs A sv m n0 nf) (hd : decode (zb m) pc = .ok (.lcmp, len)) (hlen : ziln .lcmp = 0 ∨ ziln .lcmp = len) (ha : zac0 m .lcmp pc len L st h = .inl q) (K : zG p l e R s mi args below meth c Q D cs A sv m n0 ad0 q.1 q.2.1 q.2.2.1 q.2.2.2) : zG p l e R s mi args below meth c Q D cs A sv m n0 ad0 pc L st h := by
  obtain rfl := zl1 rfl hlen
  simp only [zac0] at ha
  split at ha
  · rename_i b a s1
    cases Sum.inl.inj ha
    refine zG_st K (fun _ _ _ hs => zcons ⟨rfl, ?_⟩ (List.forall_mem_cons.mp (List.forall_mem_cons.mp hs).2).2) (fun ad H locs ls hw _ _ hs k => ?_)
    · show zRI (if a < b then -1 else if a = b then 0 else 1)
      split
      · exact ⟨by omega, by omega⟩
      · split <;> exact ⟨by omega, by omega⟩
    · refine W.lcmp cx.1 cx.2.1 hd ?_
      have h1 := List.forall_mem_cons.mp hs
      have h2 := List.forall_mem_cons.mp h1.2
      have ra : zRL a := h2.1.2
      have rb : zRL b := h1.1.2
      have e1 : lg_cmp (Int64.ofInt a) (Int64.ofInt b) = Int32.ofInt (if a < b then -1 else if a = b then 0 else 1) := by
        unfold lg_cmp
        simp only [gt_iff_lt, Int64.lt_iff_toInt_lt, ← Int64.toInt_inj, zl_to ra, zl_to rb]
        by_cases h3 : b < a
        · rw [if_pos h3, if_neg (by omega), if_neg (by omega)]; rfl
        · rw [if_neg h3]
          by_cases h4 : a = b
          · rw [if_pos h4, if_neg (by omega), if_pos h4]; rfl
          · rw [if_neg h4, if_pos (by omega)]; rfl
      rw [e1]
      exact k
  · cases ha
theorem zs_dup (cx : zCx p R s mi args meth c D cs A sv m n0 nf) (hd : decode (zb m) pc = .ok (.dup, len)) (hlen : ziln .dup = 0 ∨ ziln .dup = len) (ha : zac0 m .dup pc len L st h = .inl q) (K : zG p l e R s mi args below meth c Q D cs A sv m n0 ad0 q.1 q.2.1 q.2.2.1 q.2.2.2) (hsv : sv.category = 1) : zG p l e R s mi args below meth c Q D cs A sv m n0 ad0 pc L st h := by
  obtain rfl := zl1 rfl hlen
  simp only [zac0] at ha
  split at ha
  · rename_i v s1
    split at ha
    · rename_i hc
      cases Sum.inl.inj ha
      refine zG_st K (fun _ _ _ hs => zcons (List.forall_mem_cons.mp hs).1 hs) (fun ad H locs ls hw _ _ hs k => ?_)
      exact lv_dup cx.1 cx.2.1 hd ((zcat_cv hsv v).trans hc.1) k
    · cases ha
  · cases ha
theorem zs_dup2 (cx : zCx p R s mi args meth c D cs A sv m n0 nf) (hd : decode (zb m) pc = .ok (.dup2, len)) (hlen : ziln .dup2 = 0 ∨ ziln .dup2 = len) (ha : zac0 m .dup2 pc len L st h = .inl q) (K : zG p l e R s mi args below meth c Q D cs A sv m n0 ad0 q.1 q.2.1 q.2.2.1 q.2.2.2) (hsv : sv.category = 1) : zG p l e R s mi args below meth c Q D cs A sv m n0 ad0 pc L st h := by
  obtain rfl := zl1 rfl hlen
  simp only [zac0] at ha
  split at ha
  · rename_i v w s1
    split at ha
    · rename_i hc
      cases Sum.inl.inj ha
      refine zG_st K (fun _ _ _ hs => zcons (List.forall_mem_cons.mp hs).1 (zcons (List.forall_mem_cons.mp (List.forall_mem_cons.mp hs).2).1 hs)) (fun ad H locs ls hw _ _ hs k => ?_)
      exact lv_dup2_11 cx.1 cx.2.1 hd ((zcat_cv hsv v).trans hc.1) ((zcat_cv hsv w).trans hc.2.1) k
    · cases ha
  · cases ha
theorem zs_pop (cx : zCx p R s mi args meth c D cs A sv m n0 nf) (hd : decode (zb m) pc = .ok (.pop, len)) (hlen : ziln .pop = 0 ∨ ziln .pop = len) (ha : zac0 m .pop pc len L st h = .inl q) (K : zG p l e R s mi args below meth c Q D cs A sv m n0 ad0 q.1 q.2.1 q.2.2.1 q.2.2.2) (hsv : sv.category = 1) : zG p l e R s mi args below meth c Q D cs A sv m n0 ad0 pc L st h := by
  obtain rfl := zl1 rfl hlen
  simp only [zac0] at ha
  split at ha
  · rename_i v s1
    split at ha
    · rename_i hc
      cases Sum.inl.inj ha
      refine zG_st K (fun _ _ _ hs => (List.forall_mem_cons.mp hs).2) (fun ad H locs ls hw _ _ hs k => ?_)
      exact lv_pop cx.1 cx.2.1 hd ((zcat_cv hsv v).trans hc.1) k
    · cases ha
  · cases ha
/-- branches -/
theorem zs_goto {off : Int} (cx : zCx p R s mi args meth c D cs A sv m n0 nf) (hd : decode (zb m) pc = .ok (.goto off, len)) (hlen : ziln (.goto off) = 0 ∨ ziln (.goto off) = len) (ha : zac0 m (.goto off) pc len L st h = .inl q) (K : zG p l e R s mi args below meth c Q D cs A sv m n0 ad0 q.1 q.2.1 q.2.2.1 q.2.2.2) : zG p l e R s mi args below meth c Q D cs A sv m n0 ad0 pc L st h := by
  obtain rfl := zl3 rfl hlen
  simp only [zac0] at ha
  obtain ⟨t, ht, rfl⟩ := zjmp_inv ha
  exact zG_st K (fun _ _ _ hs => hs) (fun ad H locs ls hw _ _ hs k => lv_goto cx.1 cx.2.1 hd ht k)
theorem zs_br {a b : Int} {s1 : List zV} {t pc' : Nat} {cd : ClassFile.Cond} (hq : (if zcnd cd a b = true then zgo t L s1 h else zgo pc' L s1 h) = .inl q) (K : zG p l e R s mi args below meth c Q D cs A sv m n0 ad0 q.1 q.2.1 q.2.2.1 q.2.2.2) (hst : (∀ v ∈ st, v.isSome = true ∧ zvo h.2.2.1 v) → ∀ v ∈ s1, v.isSome = true ∧ zvo h.2.2.1 v)
    (row : ∀ (ad : Nat → Nat) (H : Heap) (locs : List Loc) (ls : Array Slot) (cells slots : Nat), (∀ v ∈ st, v.isSome = true ∧ zvo h.2.2.1 v) → (zcnd cd a b = true → W p l e R s mi args below meth c H locs cells slots Q (F0 mi t ls (s1.map (zcv ad sv)))) → (zcnd cd a b = false → W p l e R s mi args below meth c H locs cells slots Q (F0 mi pc' ls (s1.map (zcv ad sv)))) → W p l e R s mi args below meth c H locs cells slots Q (F0 mi pc ls (st.map (zcv ad sv)))) : zG p l e R s mi args below meth c Q D cs A sv m n0 ad0 pc L st h := by
  cases hc : zcnd cd a b with
  | true =>
    rw [hc, if_pos rfl] at hq
    cases Sum.inl.inj hq
    exact zG_st K (fun _ _ _ hs => hst hs) (fun ad H locs ls hw _ _ hs k => row ad H locs ls _ _ hs (fun _ => k) (fun z => by rw [hc] at z; cases z))
  | false =>
    rw [hc, if_neg (by decide)] at hq
    cases Sum.inl.inj hq
    exact zG_st K (fun _ _ _ hs => hst hs) (fun ad H locs ls hw _ _ hs k => row ad H locs ls _ _ hs (fun z => by rw [hc] at z; cases z) (fun _ => k))
theorem zs_if {cd : ClassFile.Cond} {off : Int} (cx : zCx p R s mi args meth c D cs A sv m n0 nf) (hd : decode (zb m) pc = .ok (.ifCond cd off, len)) (hlen : ziln (.ifCond cd off) = 0 ∨ ziln (.ifCond cd off) = len) (ha : zac0 m (.ifCond cd off) pc len L st h = .inl q) (K : zG p l e R s mi args below meth c Q D cs A sv m n0 ad0 q.1 q.2.1 q.2.2.1 q.2.2.2) : zG p l e R s mi args below meth c Q D cs A sv m n0 ad0 pc L st h := by
  obtain rfl := zl3 rfl hlen
  simp only [zac0, zif] at ha
  split at ha
  · rename_i a s1
    split at ha
    · rename_i h0
      have ht : (pc : Int) + off = ((((pc : Int) + off).toNat : Nat) : Int) := by omega
      refine zs_br ha K (fun hs => (List.forall_mem_cons.mp hs).2) (fun ad H locs ls _ _ hs k1 k2 => ?_)
      have ra : zRI a := (List.forall_mem_cons.mp hs).1.2
      cases cd
      · exact lv_if_eq cx.1 cx.2.1 hd ht (fun z => k1 (decide_eq_true ((zi_eq ra zR0).mp z))) (fun z => k2 (decide_eq_false (fun w => z ((zi_eq ra zR0).mpr w))))
      · exact lv_if_ne cx.1 cx.2.1 hd ht (fun z => k1 (decide_eq_true (fun w => z ((zi_eq ra zR0).mpr w)))) (fun z => k2 (decide_eq_false (fun w => w ((zi_eq ra zR0).mp z))))
      · exact lv_if_lt cx.1 cx.2.1 hd ht (fun z => k1 (decide_eq_true ((zi_lt ra zR0).mp z))) (fun z => k2 (decide_eq_false (fun w => z ((zi_lt ra zR0).mpr w))))
      · exact lv_if_ge cx.1 cx.2.1 hd ht (fun z => k1 (decide_eq_true ((zi_le zR0 ra).mp z))) (fun z => k2 (decide_eq_false (fun w => z ((zi_le zR0 ra).mpr w))))
      · exact lv_if_gt cx.1 cx.2.1 hd ht (fun z => k1 (decide_eq_true ((zi_lt zR0 ra).mp z))) (fun z => k2 (decide_eq_false (fun w => z ((zi_lt zR0 ra).mpr w))))
      · exact lv_if_le cx.1 cx.2.1 hd ht (fun z => k1 (decide_eq_true ((zi_le ra zR0).mp z))) (fun z => k2 (decide_eq_false (fun w => z ((zi_le ra zR0).mpr w))))
    · cases ha
  · cases ha
theorem zs_icmp {cd : ClassFile.Cond} {off : Int} (cx : zCx p R s mi args meth c D cs A sv m n0 nf) (hd : decode (zb m) pc = .ok (.if_icmp cd off, len)) (hlen : ziln (.if_icmp cd off) = 0 ∨ ziln (.if_icmp cd off) = len) (ha : zac0 m (.if_icmp cd off) pc len L st h = .inl q) (K : zG p l e R s mi args below meth c Q D cs A sv m n0 ad0 q.1 q.2.1 q.2.2.1 q.2.2.2) : zG p l e R s mi args below meth c Q D cs A sv m n0 ad0 pc L st h := by
  obtain rfl := zl3 rfl hlen
  simp only [zac0, zicmp] at ha
  split at ha
  · rename_i b a s1
    split at ha
    · rename_i h0
      have ht : (pc : Int) + off = ((((pc : Int) + off).toNat : Nat) : Int) := by omega
      refine zs_br ha K (fun hs => (List.forall_mem_cons.mp (List.forall_mem_cons.mp hs).2).2) (fun ad H locs ls _ _ hs k1 k2 => ?_)
      have rb : zRI b := (List.forall_mem_cons.mp hs).1.2
      have ra : zRI a := (List.forall_mem_cons.mp (List.forall_mem_cons.mp hs).2).1.2
      cases cd
      · exact lv_icmp_eq cx.1 cx.2.1 hd ht (fun z => k1 (decide_eq_true ((zi_eq ra rb).mp z))) (fun z => k2 (decide_eq_false (fun w => z ((zi_eq ra rb).mpr w))))
      · exact lv_icmp_ne cx.1 cx.2.1 hd ht (fun z => k1 (decide_eq_true (fun w => z ((zi_eq ra rb).mpr w)))) (fun z => k2 (decide_eq_false (fun w => w ((zi_eq ra rb).mp z))))
      · exact lv_icmp_lt cx.1 cx.2.1 hd ht (fun z => k1 (decide_eq_true ((zi_lt ra rb).mp z))) (fun z => k2 (decide_eq_false (fun w => z ((zi_lt ra rb).mpr w))))
      · exact lv_icmp_ge cx.1 cx.2.1 hd ht (fun z => k1 (decide_eq_true ((zi_le rb ra).mp z))) (fun z => k2 (decide_eq_false (fun w => z ((zi_le rb ra).mpr w))))
      · exact lv_icmp_gt cx.1 cx.2.1 hd ht (fun z => k1 (decide_eq_true ((zi_lt rb ra).mp z))) (fun z => k2 (decide_eq_false (fun w => z ((zi_lt rb ra).mpr w))))
      · exact lv_icmp_le cx.1 cx.2.1 hd ht (fun z => k1 (decide_eq_true ((zi_le ra rb).mp z))) (fun z => k2 (decide_eq_false (fun w => z ((zi_le ra rb).mpr w))))
    · cases ha
  · cases ha
theorem zs_ifnull {off : Int} (cx : zCx p R s mi args meth c D cs A sv m n0 nf) (hd : decode (zb m) pc = .ok (.ifnull off, len)) (hlen : ziln (.ifnull off) = 0 ∨ ziln (.ifnull off) = len) (ha : zac0 m (.ifnull off) pc len L st h = .inl q) (K : zG p l e R s mi args below meth c Q D cs A sv m n0 ad0 q.1 q.2.1 q.2.2.1 q.2.2.2) : zG p l e R s mi args below meth c Q D cs A sv m n0 ad0 pc L st h := by
  obtain rfl := zl3 rfl hlen
  simp only [zac0, zifnull] at ha
  split at ha
  · rename_i x s1
    split at ha
    · rename_i h0
      obtain ⟨t, ht, rfl⟩ := zjmp_inv ha
      subst h0
      exact zG_st K (fun _ _ _ hs => (List.forall_mem_cons.mp hs).2) (fun ad H locs ls hw _ _ hs k => lv_ifnullN cx.1 cx.2.1 hd ht k)
    · rename_i h0
      split at ha
      · cases ha
      · rename_i h1
        cases Sum.inl.inj ha
        refine zG_st K (fun _ _ _ hs => (List.forall_mem_cons.mp hs).2) (fun ad H locs ls hw _ _ hs k => ?_)
        have e1 : zcv ad sv (vR x) = .ref (ad x) := by
          unfold zcv zrfo
          simp only
          rw [if_neg h1, if_neg h0]
          rfl
        have k2 := lv_ifnull (x := ad x) cx.1 cx.2.1 hd k
        rw [← e1] at k2
        exact k2
  · cases ha
theorem zs_tab {dflt lo hi : Int} {offs : Array Int} (cx : zCx p R s mi args meth c D cs A sv m n0 nf) (hd : decode (zb m) pc = .ok (.tableswitch dflt lo hi offs, len)) (ha : zac0 m (.tableswitch dflt lo hi offs) pc len L st h = .inl q) (K : zG p l e R s mi args below meth c Q D cs A sv m n0 ad0 q.1 q.2.1 q.2.2.1 q.2.2.2) : zG p l e R s mi args below meth c Q D cs A sv m n0 ad0 pc L st h := by
  simp only [zac0, ztab] at ha
  split at ha
  · rename_i a s1
    split at ha
    · rename_i h0
      obtain ⟨t, ht, rfl⟩ := zjmp_inv ha
      refine zG_st K (fun _ _ _ hs => (List.forall_mem_cons.mp hs).2) (fun ad H locs ls hw _ _ hs k => ?_)
      have ra : zRI a := (List.forall_mem_cons.mp hs).1.2
      exact lv_tableOut cx.1 cx.2.1 hd (by rw [zi_to ra]; exact h0) ht k
    · rename_i h0
      split at ha
      · rename_i off ho
        obtain ⟨t, ht, rfl⟩ := zjmp_inv ha
        refine zG_st K (fun _ _ _ hs => (List.forall_mem_cons.mp hs).2) (fun ad H locs ls hw _ _ hs k => ?_)
        have ra : zRI a := (List.forall_mem_cons.mp hs).1.2
        exact lv_tableIn cx.1 cx.2.1 hd (by rw [zi_to ra]; omega) (by rw [zi_to ra]; omega) (by rw [zi_to ra]; exact ho) ht k
      · cases ha
  · cases ha
theorem zs_look {dflt : Int} {ps : Array (Int × Int)} (cx : zCx p R s mi args meth c D cs A sv m n0 nf) (hd : decode (zb m) pc = .ok (.lookupswitch dflt ps, len)) (ha : zac0 m (.lookupswitch dflt ps) pc len L st h = .inl q) (K : zG p l e R s mi args below meth c Q D cs A sv m n0 ad0 q.1 q.2.1 q.2.2.1 q.2.2.2) : zG p l e R s mi args below meth c Q D cs A sv m n0 ad0 pc L st h := by
  simp only [zac0, zlook] at ha
  split at ha
  · rename_i a s1
    split at ha
    · rename_i h0
      obtain ⟨t, ht, rfl⟩ := zjmp_inv ha
      refine zG_st K (fun _ _ _ hs => (List.forall_mem_cons.mp hs).2) (fun ad H locs ls hw _ _ hs k => ?_)
      have ra : zRI a := (List.forall_mem_cons.mp hs).1.2
      exact lv_lookup cx.1 cx.2.1 hd h0 (by rw [zi_to ra]) ht k
    · cases ha
  · cases ha
end ZS2
