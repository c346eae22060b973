/-! ===== instruction by instruction ===== -/
section ZS1
variable {p : Program} {l : Launch} {e : Env} {R : Room} {s : State} {mi : MethodId} {args : Array Value} {below : List Frame} {meth : Method} {c : Code} {Q : State → Prop} {D : va_G} {cs : Nat → ClassId} {A : Nat → Prop} {sv : Value} {m n0 nf : Nat} {ad0 : Nat → Nat}
variable {pc len : Nat} {L st : List zV} {h : zH} {q : Nat × List zV × List zV × zH}
theorem zbin_inv {f : Int → Int → Int} (ha : zbin f pc L st h = .inl q) : ∃ a b s1, st = vI b :: vI a :: s1 ∧ q = (pc, L, vI (f a b) :: s1, h) := by
  unfold zbin at ha
  split at ha
  · rename_i b a s1; exact ⟨a, b, s1, rfl, (Sum.inl.inj ha).symm⟩
  · cases ha
theorem zdv_inv {f : Int → Int → Int} (ha : zdv f pc L st h = .inl q) : ∃ a b s1, st = vI b :: vI a :: s1 ∧ b ≠ 0 ∧ q = (pc, L, vI (f a b) :: s1, h) := by
  unfold zdv at ha
  split at ha
  · rename_i b a s1
    split at ha
    · cases ha
    · rename_i hb; exact ⟨a, b, s1, rfl, hb, (Sum.inl.inj ha).symm⟩
  · cases ha
theorem zldI_inv {k : Nat} (ha : zldI k pc L st h = .inl q) : ∃ a, L[k]? = some (vI a) ∧ q = (pc, L, vI a :: st, h) := by
  unfold zldI at ha
  split at ha
  · rename_i a hk; exact ⟨a, hk, (Sum.inl.inj ha).symm⟩
  · cases ha
theorem zldL_inv {k : Nat} (ha : zldL k pc L st h = .inl q) : ∃ a, L[k]? = some (vL a) ∧ q = (pc, L, vL a :: st, h) := by
  unfold zldL at ha
  split at ha
  · rename_i a hk; exact ⟨a, hk, (Sum.inl.inj ha).symm⟩
  · cases ha
theorem zldR_inv {k : Nat} (ha : zldR k pc L st h = .inl q) : ∃ a, L[k]? = some (vR a) ∧ q = (pc, L, vR a :: st, h) := by
  unfold zldR at ha
  split at ha
  · rename_i a hk; exact ⟨a, hk, (Sum.inl.inj ha).symm⟩
  · cases ha
theorem zjmp_inv {off : Int} (ha : zjmp pc off L st h = .inl q) : ∃ t : Nat, (pc : Int) + off = (t : Int) ∧ q = (t, L, st, h) := by
  unfold zjmp at ha
  split at ha
  · rename_i h0; exact ⟨((pc : Int) + off).toNat, by omega, (Sum.inl.inj ha).symm⟩
  · cases ha
theorem zcons {v : zV} {n : Nat} {st : List zV} (hv : v.isSome = true ∧ zvo n v) (h : ∀ w ∈ st, w.isSome = true ∧ zvo n w) : ∀ w ∈ v :: st, w.isSome = true ∧ zvo n w := List.forall_mem_cons.mpr ⟨hv, h⟩
/-- a constant -/
theorem zs_push {v : zV} {pc' : Nat} (hv : v.isSome = true ∧ zvo h.2.2.1 v) (K : zG p l e R s mi args below meth c Q D cs A sv m n0 ad0 pc' L (v :: st) h)
    (row : ∀ (ad : Nat → Nat) (H : Heap) (locs : List Loc) (ls : Array Slot) (cells slots : Nat) (rest : List Value), va_S A s.heap H locs → zRO A ad sv s s.heap h → W p l e R s mi args below meth c H locs cells slots Q (F0 mi pc' ls (zcv ad sv v :: rest)) → W p l e R s mi args below meth c H locs cells slots Q (F0 mi pc ls rest)) : zG p l e R s mi args below meth c Q D cs A sv m n0 ad0 pc L st h :=
  zG_st K (fun _ _ _ hs => zcons hv hs) (fun ad H locs ls hw _ _ _ k => row ad H locs ls _ _ _ hw.2.2.1 hw.2.2.2.2.2.2 k)
theorem zs_iconst {a : Int} (cx : zCx p R s mi args meth c D cs A sv m n0 nf) (hd : decode (zb m) pc = .ok (.iconst a, len)) (hlen : ziln (.iconst a) = 0 ∨ ziln (.iconst a) = len) (ha : zac0 m (.iconst a) pc len L st h = .inl q) (K : zG p l e R s mi args below meth c Q D cs A sv m n0 ad0 q.1 q.2.1 q.2.2.1 q.2.2.2) : zG p l e R s mi args below meth c Q D cs A sv m n0 ad0 pc L st h := by
  obtain rfl : len = 1 := by simp only [ziln] at hlen; omega
  simp only [zac0] at ha
  split at ha
  · rename_i hr
    cases Sum.inl.inj ha
    exact zs_push (v := vI a) ⟨rfl, show zRI a from ⟨by omega, by omega⟩⟩ K (fun ad H locs ls _ _ rest _ _ k => lv_iconst cx.1 cx.2.1 hd rfl k)
  · cases ha
theorem zs_bipush {a : Int} (cx : zCx p R s mi args meth c D cs A sv m n0 nf) (hd : decode (zb m) pc = .ok (.bipush a, len)) (hlen : ziln (.bipush a) = 0 ∨ ziln (.bipush a) = len) (ha : zac0 m (.bipush a) pc len L st h = .inl q) (K : zG p l e R s mi args below meth c Q D cs A sv m n0 ad0 q.1 q.2.1 q.2.2.1 q.2.2.2) : zG p l e R s mi args below meth c Q D cs A sv m n0 ad0 pc L st h := by
  obtain rfl : len = 2 := by simp only [ziln] at hlen; omega
  simp only [zac0] at ha
  split at ha
  · rename_i hr
    cases Sum.inl.inj ha
    exact zs_push (v := vI a) ⟨rfl, show zRI a from ⟨by omega, by omega⟩⟩ K (fun ad H locs ls _ _ rest _ _ k => lv_bipush cx.1 cx.2.1 hd (Int8.toInt32_ofInt (by show (-128 : Int) ≤ a; omega) (by show a ≤ (127 : Int); omega)) k)
  · cases ha
theorem zs_sipush {a : Int} (cx : zCx p R s mi args meth c D cs A sv m n0 nf) (hd : decode (zb m) pc = .ok (.sipush a, len)) (hlen : ziln (.sipush a) = 0 ∨ ziln (.sipush a) = len) (ha : zac0 m (.sipush a) pc len L st h = .inl q) (K : zG p l e R s mi args below meth c Q D cs A sv m n0 ad0 q.1 q.2.1 q.2.2.1 q.2.2.2) : zG p l e R s mi args below meth c Q D cs A sv m n0 ad0 pc L st h := by
  obtain rfl : len = 3 := by simp only [ziln] at hlen; omega
  simp only [zac0] at ha
  split at ha
  · rename_i hr
    cases Sum.inl.inj ha
    exact zs_push (v := vI a) ⟨rfl, show zRI a from ⟨by omega, by omega⟩⟩ K (fun ad H locs ls _ _ rest _ _ k => lv_sipush cx.1 cx.2.1 hd (Int16.toInt32_ofInt (by show (-32768 : Int) ≤ a; omega) (by show a ≤ (32767 : Int); omega)) k)
  · cases ha
theorem zs_lconst {a : Fin 2} (cx : zCx p R s mi args meth c D cs A sv m n0 nf) (hd : decode (zb m) pc = .ok (.lconst a, len)) (hlen : ziln (.lconst a) = 0 ∨ ziln (.lconst a) = len) (ha : zac0 m (.lconst a) pc len L st h = .inl q) (K : zG p l e R s mi args below meth c Q D cs A sv m n0 ad0 q.1 q.2.1 q.2.2.1 q.2.2.2) : zG p l e R s mi args below meth c Q D cs A sv m n0 ad0 pc L st h := by
  obtain rfl : len = 1 := by simp only [ziln] at hlen; omega
  simp only [zac0] at ha
  cases Sum.inl.inj ha
  exact zs_push (v := vL ((a : Nat) : Int)) ⟨rfl, show zRL ((a : Nat) : Int) from ⟨by omega, by omega⟩⟩ K (fun ad H locs ls _ _ rest _ _ k => lv_lconst cx.1 cx.2.1 hd (Int64.ofInt_eq_ofNat).symm k)
theorem zs_null (cx : zCx p R s mi args meth c D cs A sv m n0 nf) (hd : decode (zb m) pc = .ok (.aconst_null, len)) (hlen : ziln .aconst_null = 0 ∨ ziln .aconst_null = len) (ha : zac0 m .aconst_null pc len L st h = .inl q) (K : zG p l e R s mi args below meth c Q D cs A sv m n0 ad0 q.1 q.2.1 q.2.2.1 q.2.2.2) : zG p l e R s mi args below meth c Q D cs A sv m n0 ad0 pc L st h := by
  obtain rfl : len = 1 := by simp only [ziln] at hlen; omega
  simp only [zac0] at ha
  cases Sum.inl.inj ha
  exact zs_push (v := vR 0) ⟨rfl, Or.inl (Nat.zero_le _)⟩ K (fun ad H locs ls _ _ rest _ _ k => lv_null cx.1 cx.2.1 hd k)
theorem zct_ok {o i : Nat} {a : Int} (hc : zct o i = some a) : Cond.constant (zon o) i (Int32.ofInt a) ∈ zgt := by
  have h1 := zfind hc
  rw [← zctQ_eq] at h1
  obtain ⟨x, hx, e⟩ := List.mem_map.mp h1
  have h2 := List.all_eq_true.mp zctQ_ok x hx
  rw [e] at h2
  exact zwq_in h2
theorem zcl_ok {o i : Nat} {a : Int} (hc : zcl o i = some a) : Cond.constantLong (zon o) i (Int64.ofInt a) ∈ zgt := by
  have h1 := zfind hc
  rw [← zclQ_eq] at h1
  obtain ⟨x, hx, e⟩ := List.mem_map.mp h1
  have h2 := List.all_eq_true.mp zclQ_ok x hx
  rw [e] at h2
  exact zwq_in h2
theorem zst_ok {o i k : Nat} (hc : zst o i = some k) : o = 7 ∧ k < 6 ∧ i = zsX k := by
  have h1 := zfind hc
  have hz : zstL.all (fun x => (x.1 == 7) && decide (x.2.2 < 6) && (x.2.1 == zsX x.2.2)) = true := by decide +kernel
  have h2 := List.all_eq_true.mp hz _ h1
  simp only [Bool.and_eq_true, beq_iff_eq, decide_eq_true_eq] at h2
  exact ⟨h2.1.1, h2.1.2, h2.2⟩
theorem zs_ldc {a : Nat} (cx : zCx p R s mi args meth c D cs A sv m n0 nf) (hd : decode (zb m) pc = .ok (.ldc a, len)) (hlen : ziln (.ldc a) = 0 ∨ ziln (.ldc a) = len) (ha : zac0 m (.ldc a) pc len L st h = .inl q) (K : zG p l e R s mi args below meth c Q D cs A sv m n0 ad0 q.1 q.2.1 q.2.2.1 q.2.2.2) : zG p l e R s mi args below meth c Q D cs A sv m n0 ad0 pc L st h := by
  obtain rfl : len = 2 := by simp only [ziln] at hlen; omega
  simp only [zac0] at ha
  split at ha
  · rename_i x hx
    split at ha
    · rename_i hr
      cases Sum.inl.inj ha
      exact zs_push (v := vI x) ⟨rfl, show zRI x from hr⟩ K (fun ad H locs ls _ _ rest _ _ k => lv_ldc cx.1 cx.2.1 cx.2.2.2.1 (cx.2.2.2.2.1 _ (zct_ok hx)) hd k)
    · cases ha
  · split at ha
    · rename_i j hj
      cases Sum.inl.inj ha
      obtain ⟨e1, e2, e3⟩ := zst_ok hj
      refine zs_push (v := vR (1000 + j)) ⟨rfl, Or.inr (by omega)⟩ K (fun ad H locs ls _ _ rest _ hro k => ?_)
      have hw := (hro.2.2.2.2.1 j e2).2.2.2.2.2
      rw [← e3] at hw
      have ho := cx.2.2.2.1
      rw [e1] at ho
      refine va_ldcS cx.1 cx.2.1 (own := "PooledWaves$Reader") ho hw hd ?_
      have e4 : zcv ad sv (vR (1000 + j)) = .ref (ad (1000 + j)) := by
        unfold zcv zrfo
        simp only
        rw [if_neg (by omega), if_neg (by omega)]
        rfl
      rw [e4] at k
      exact k
    · cases ha
theorem zs_ldcw {a : Nat} (cx : zCx p R s mi args meth c D cs A sv m n0 nf) (hd : decode (zb m) pc = .ok (.ldc_w a, len)) (hlen : ziln (.ldc_w a) = 0 ∨ ziln (.ldc_w a) = len) (ha : zac0 m (.ldc_w a) pc len L st h = .inl q) (K : zG p l e R s mi args below meth c Q D cs A sv m n0 ad0 q.1 q.2.1 q.2.2.1 q.2.2.2) : zG p l e R s mi args below meth c Q D cs A sv m n0 ad0 pc L st h := by
  obtain rfl : len = 3 := by simp only [ziln] at hlen; omega
  simp only [zac0] at ha
  split at ha
  · rename_i x hx
    split at ha
    · rename_i hr
      cases Sum.inl.inj ha
      exact zs_push (v := vI x) ⟨rfl, show zRI x from hr⟩ K (fun ad H locs ls _ _ rest _ _ k => lv_ldcw cx.1 cx.2.1 cx.2.2.2.1 (cx.2.2.2.2.1 _ (zct_ok hx)) hd k)
    · cases ha
  · cases ha
theorem zs_ldc2 {a : Nat} (cx : zCx p R s mi args meth c D cs A sv m n0 nf) (hd : decode (zb m) pc = .ok (.ldc2_w a, len)) (hlen : ziln (.ldc2_w a) = 0 ∨ ziln (.ldc2_w a) = len) (ha : zac0 m (.ldc2_w a) pc len L st h = .inl q) (K : zG p l e R s mi args below meth c Q D cs A sv m n0 ad0 q.1 q.2.1 q.2.2.1 q.2.2.2) : zG p l e R s mi args below meth c Q D cs A sv m n0 ad0 pc L st h := by
  obtain rfl : len = 3 := by simp only [ziln] at hlen; omega
  simp only [zac0] at ha
  split at ha
  · rename_i x hx
    split at ha
    · rename_i hr
      cases Sum.inl.inj ha
      exact zs_push (v := vL x) ⟨rfl, show zRL x from ⟨by omega, by omega⟩⟩ K (fun ad H locs ls _ _ rest _ _ k => lv_ldc2 cx.1 cx.2.1 cx.2.2.2.1 (cx.2.2.2.2.1 _ (zcl_ok hx)) hd k)
    · cases ha
  · cases ha
theorem zgs_ok {o i : Nat} {a : Int} (hc : zgs o i = some a) : (a = 900 ∨ a = 901 ∨ a = 902 ∨ a = -1 ∨ a = 1200) ∧ (Cond.fieldLink (zon o) i (zsN a).1 (zsN a).2.1 (zsN a).2.2 ∈ zgt ∨ Cond.fieldLinkNest (zon o) i (zsN a).1 (zsN a).2.1 (zsN a).2.2 "PooledWaves" ∈ znws) := by
  have h1 := zfind hc
  rw [← zgsQ_eq] at h1
  obtain ⟨x, hx, e⟩ := List.mem_map.mp h1
  have h2 := List.all_eq_true.mp zgsQ_ok x hx
  rw [e] at h2
  simp only [Bool.and_eq_true, Bool.or_eq_true, beq_iff_eq] at h2
  rcases h2 with ⟨⟨_, h4⟩, h5⟩ | ⟨⟨_, h5⟩, h4⟩
  · unfold znw at h5
    rw [Bool.and_eq_true, decide_eq_true_eq] at h5
    exact ⟨Or.inl h4, Or.inr (List.mem_filter.mpr ⟨List.mem_of_getElem? h5.1, rfl⟩)⟩
  · exact ⟨by omega, Or.inl (zwq_in h5)⟩
theorem zs_getstatic {a : Nat} (cx : zCx p R s mi args meth c D cs A sv m n0 nf) (hd : decode (zb m) pc = .ok (.getstatic a, len)) (hlen : ziln (.getstatic a) = 0 ∨ ziln (.getstatic a) = len) (ha : zac0 m (.getstatic a) pc len L st h = .inl q) (K : zG p l e R s mi args below meth c Q D cs A sv m n0 ad0 q.1 q.2.1 q.2.2.1 q.2.2.2) : zG p l e R s mi args below meth c Q D cs A sv m n0 ad0 pc L st h := by
  obtain rfl : len = 3 := by simp only [ziln] at hlen; omega
  simp only [zac0, zgst] at ha
  split at ha
  · rename_i x hx
    obtain ⟨hxs, hlk⟩ := zgs_ok hx
    have row : ∀ (v : Value) (H : Heap) (locs : List Loc) (ls : Array Slot) (cells slots : Nat) (rest : List Value), va_S A s.heap H locs → (∀ w ∈ znws, va_Nw w s) → va_Z (zsN x).1 (zsN x).2.1 (zsN x).2.2 v A s s.heap → W p l e R s mi args below meth c H locs cells slots Q (F0 mi (pc + 3) ls (v :: rest)) → W p l e R s mi args below meth c H locs cells slots Q (F0 mi pc ls rest) := by
      intro v H locs ls cells slots rest hS hN hZ k
      rcases hlk with hk | hk
      · exact va_gets cx.1 cx.2.1 hZ hS cx.2.2.2.1 (cx.2.2.2.2.1 _ hk) (fun _ z => z) hd k
      · exact va_getsN cx.1 cx.2.1 hZ hS cx.2.2.2.1 (va_Nw.use rfl (hN _ hk)) (fun _ z => z) hd k
    split at ha
    · rename_i h1
      cases Sum.inl.inj ha
      refine zs_push (v := vI 1) ⟨rfl, show zRI 1 from ⟨by omega, by omega⟩⟩ K (fun ad H locs ls _ _ rest hS hro k => row (.int 1) H locs ls _ _ rest hS hro.2.2.2.2.2.1 ?_ k)
      rw [h1]; exact hro.2.2.1
    · split at ha
      · rename_i h1 h2
        cases Sum.inl.inj ha
        refine zs_push (v := vR x.toNat) ⟨rfl, Or.inr (by omega)⟩ K (fun ad H locs ls _ _ rest hS hro k => row (zcv ad sv (vR x.toNat)) H locs ls _ _ rest hS hro.2.2.2.2.2.1 ?_ k)
        rcases hxs with rfl | rfl | rfl | rfl | rfl
        · exact (hro.2.1 900 (Or.inl rfl)).2
        · exact (hro.2.1 901 (Or.inr (Or.inl rfl))).2
        · exact (hro.2.1 902 (Or.inr (Or.inr rfl))).2
        · exact absurd rfl h1
        · exact hro.2.2.2.1
      · cases ha
  · cases ha
/-- a local -/
theorem zs_load {v : zV} {k pc' : Nat} (hk : L[k]? = some v) (hv : v.isSome = true) (K : zG p l e R s mi args below meth c Q D cs A sv m n0 ad0 pc' L (v :: st) h)
    (row : ∀ (ad : Nat → Nat) (H : Heap) (locs : List Loc) (ls : Array Slot) (cells slots : Nat) (rest : List Value), ls[k]? = some (.val (zcv ad sv v)) → W p l e R s mi args below meth c H locs cells slots Q (F0 mi pc' ls (zcv ad sv v :: rest)) → W p l e R s mi args below meth c H locs cells slots Q (F0 mi pc ls rest)) : zG p l e R s mi args below meth c Q D cs A sv m n0 ad0 pc L st h := by
  refine zG_st K (fun _ _ hL hs => zcons ⟨hv, hL v (List.mem_of_getElem? hk)⟩ hs) (fun ad H locs ls hw hl _ _ k => row ad H locs ls _ _ _ ?_ k)
  cases v with
  | none => cases hv
  | some w => exact hl.2.2 _ w hk
theorem zs_iload {a : Nat} (cx : zCx p R s mi args meth c D cs A sv m n0 nf) (hd : decode (zb m) pc = .ok (.iload a, len)) (hlen : ziln (.iload a) = 0 ∨ ziln (.iload a) = len) (ha : zac0 m (.iload a) pc len L st h = .inl q) (K : zG p l e R s mi args below meth c Q D cs A sv m n0 ad0 q.1 q.2.1 q.2.2.1 q.2.2.2) : zG p l e R s mi args below meth c Q D cs A sv m n0 ad0 pc L st h := by
  obtain rfl : len = 2 := by simp only [ziln] at hlen; omega
  simp only [zac0] at ha
  obtain ⟨x, hx, rfl⟩ := zldI_inv ha
  exact zs_load hx rfl K (fun ad H locs ls _ _ rest hk k => lv_iload cx.1 cx.2.1 hd hk k)
theorem zs_iload_n {a : Fin 4} (cx : zCx p R s mi args meth c D cs A sv m n0 nf) (hd : decode (zb m) pc = .ok (.iload_n a, len)) (hlen : ziln (.iload_n a) = 0 ∨ ziln (.iload_n a) = len) (ha : zac0 m (.iload_n a) pc len L st h = .inl q) (K : zG p l e R s mi args below meth c Q D cs A sv m n0 ad0 q.1 q.2.1 q.2.2.1 q.2.2.2) : zG p l e R s mi args below meth c Q D cs A sv m n0 ad0 pc L st h := by
  obtain rfl : len = 1 := by simp only [ziln] at hlen; omega
  simp only [zac0] at ha
  obtain ⟨x, hx, rfl⟩ := zldI_inv ha
  exact zs_load hx rfl K (fun ad H locs ls _ _ rest hk k => lv_iload_n cx.1 cx.2.1 hd rfl hk k)
theorem zs_lload {a : Nat} (cx : zCx p R s mi args meth c D cs A sv m n0 nf) (hd : decode (zb m) pc = .ok (.lload a, len)) (hlen : ziln (.lload a) = 0 ∨ ziln (.lload a) = len) (ha : zac0 m (.lload a) pc len L st h = .inl q) (K : zG p l e R s mi args below meth c Q D cs A sv m n0 ad0 q.1 q.2.1 q.2.2.1 q.2.2.2) : zG p l e R s mi args below meth c Q D cs A sv m n0 ad0 pc L st h := by
  obtain rfl : len = 2 := by simp only [ziln] at hlen; omega
  simp only [zac0] at ha
  obtain ⟨x, hx, rfl⟩ := zldL_inv ha
  exact zs_load hx rfl K (fun ad H locs ls _ _ rest hk k => lv_lload cx.1 cx.2.1 hd hk k)
theorem zs_lload_n {a : Fin 4} (cx : zCx p R s mi args meth c D cs A sv m n0 nf) (hd : decode (zb m) pc = .ok (.lload_n a, len)) (hlen : ziln (.lload_n a) = 0 ∨ ziln (.lload_n a) = len) (ha : zac0 m (.lload_n a) pc len L st h = .inl q) (K : zG p l e R s mi args below meth c Q D cs A sv m n0 ad0 q.1 q.2.1 q.2.2.1 q.2.2.2) : zG p l e R s mi args below meth c Q D cs A sv m n0 ad0 pc L st h := by
  obtain rfl : len = 1 := by simp only [ziln] at hlen; omega
  simp only [zac0] at ha
  obtain ⟨x, hx, rfl⟩ := zldL_inv ha
  exact zs_load hx rfl K (fun ad H locs ls _ _ rest hk k => lv_lload_n cx.1 cx.2.1 hd rfl hk k)
theorem zcv_ref (hsv : sv = .null ∨ ∃ x, sv = .ref x) (ad : Nat → Nat) (x : Nat) : zcv ad sv (vR x) = .null ∨ ∃ a, zcv ad sv (vR x) = .ref a := by
  show (if x = 1200 then sv else va_rf (zrfo ad x)) = .null ∨ ∃ a, (if x = 1200 then sv else va_rf (zrfo ad x)) = .ref a
  by_cases h1 : x = 1200
  · rw [if_pos h1]; exact hsv
  · rw [if_neg h1]
    unfold zrfo
    by_cases h0 : x = 0
    · rw [if_pos h0]; exact Or.inl rfl
    · rw [if_neg h0]; exact Or.inr ⟨_, rfl⟩
theorem zr_aload {cc : ByteArray} {ls : Array Slot} {rest : List Value} {H : Heap} {locs : List Loc} {cells slots : Nat} (hexec : p.tables.exec = Jvm.exec) (hb : c.code = cc) {i : Nat} {v : Value} (hv : v = .null ∨ ∃ a, v = .ref a) (hdg : decode cc pc = .ok (.aload i, 2)) (hl : ls[i]? = some (.val v)) (k : W p l e R s mi args below meth c H locs cells slots Q (F0 mi (pc + 2) ls (v :: rest))) : W p l e R s mi args below meth c H locs cells slots Q (F0 mi pc ls rest) := by
  intro T hT X
  obtain ⟨t, a, b⟩ := k T hT X
  refine ⟨t, ?_, b⟩
  rcases hv with rfl | ⟨x, rfl⟩ <;>
  · jvm_step X.here [X.here.top, hexec, hb, hdg, hl, Value.isRef]
    exact a
theorem zr_aload_n {cc : ByteArray} {ls : Array Slot} {rest : List Value} {H : Heap} {locs : List Loc} {cells slots : Nat} (hexec : p.tables.exec = Jvm.exec) (hb : c.code = cc) {i : Fin 4} {v : Value} (hv : v = .null ∨ ∃ a, v = .ref a) (hdg : decode cc pc = .ok (.aload_n i, 1)) (hl : ls[(i : Nat)]? = some (.val v)) (k : W p l e R s mi args below meth c H locs cells slots Q (F0 mi (pc + 1) ls (v :: rest))) : W p l e R s mi args below meth c H locs cells slots Q (F0 mi pc ls rest) := by
  intro T hT X
  obtain ⟨t, a, b⟩ := k T hT X
  refine ⟨t, ?_, b⟩
  rcases hv with rfl | ⟨x, rfl⟩ <;>
  · jvm_step X.here [X.here.top, hexec, hb, hdg, hl, Value.isRef]
    exact a
theorem zs_aload {a : Nat} (cx : zCx p R s mi args meth c D cs A sv m n0 nf) (hd : decode (zb m) pc = .ok (.aload a, len)) (hlen : ziln (.aload a) = 0 ∨ ziln (.aload a) = len) (ha : zac0 m (.aload a) pc len L st h = .inl q) (K : zG p l e R s mi args below meth c Q D cs A sv m n0 ad0 q.1 q.2.1 q.2.2.1 q.2.2.2) : zG p l e R s mi args below meth c Q D cs A sv m n0 ad0 pc L st h := by
  obtain rfl : len = 2 := by simp only [ziln] at hlen; omega
  simp only [zac0] at ha
  obtain ⟨x, hx, rfl⟩ := zldR_inv ha
  exact zs_load hx rfl K (fun ad H locs ls _ _ rest hk k => zr_aload cx.1 cx.2.1 (zcv_ref cx.2.2.2.2.2.2.2.2.2.2.2.2.1 ad x) hd hk k)
theorem zs_aload_n {a : Fin 4} (cx : zCx p R s mi args meth c D cs A sv m n0 nf) (hd : decode (zb m) pc = .ok (.aload_n a, len)) (hlen : ziln (.aload_n a) = 0 ∨ ziln (.aload_n a) = len) (ha : zac0 m (.aload_n a) pc len L st h = .inl q) (K : zG p l e R s mi args below meth c Q D cs A sv m n0 ad0 q.1 q.2.1 q.2.2.1 q.2.2.2) : zG p l e R s mi args below meth c Q D cs A sv m n0 ad0 pc L st h := by
  obtain rfl : len = 1 := by simp only [ziln] at hlen; omega
  simp only [zac0] at ha
  obtain ⟨x, hx, rfl⟩ := zldR_inv ha
  exact zs_load hx rfl K (fun ad H locs ls _ _ rest hk k => zr_aload_n cx.1 cx.2.1 (zcv_ref cx.2.2.2.2.2.2.2.2.2.2.2.2.1 ad x) hd hk k)
end ZS1
