/-! ===== writes ===== -/
theorem zRO.wr {A : Nat → Prop} {ad : Nat → Nat} {sv : Value} {U : State} {H : Heap} {h : zH} {p : Nat} {k x : Int} (hp : p < 899) (r : zRO A ad sv U H h) : zRO A ad sv U H (sI h.1 p k x, h.2) :=
  zRO.same (h := h) (ad := ad) (r := r) (fun q hq => by funext j; show sI h.1 p k x q j = h.1 q j; unfold sI; rw [if_neg (by omega)]) (fun _ _ => rfl) rfl (fun _ _ => rfl)
theorem zRO.wR {A : Nat → Prop} {ad : Nat → Nat} {sv : Value} {U : State} {H : Heap} {h : zH} {p : Nat} {k : Int} {x : Nat} (hp : p < 899) (r : zRO A ad sv U H h) : zRO A ad sv U H (h.1, sR h.2.1 p k x, h.2.2) :=
  zRO.same (h := h) (ad := ad) (r := r) (fun _ _ => rfl) (fun q hq => by funext j; show sR h.2.1 p k x q j = h.2.1 q j; unfold sR; rw [if_neg (by omega)]) rfl (fun _ _ => rfl)
theorem zRO.cp {A : Nat → Prop} {ad : Nat → Nat} {sv : Value} {U : State} {H : Heap} {h : zH} {a p : Nat} {sp dp n : Int} (hp : p < 899) (r : zRO A ad sv U H h) : zRO A ad sv U H (zcpy h.1 a sp p dp n, h.2) :=
  zRO.same (h := h) (ad := ad) (r := r) (fun q hq => by funext j; show zcpy h.1 a sp p dp n q j = h.1 q j; unfold zcpy; rw [if_neg (by omega)]) (fun _ _ => rfl) rfl (fun _ _ => rfl)
theorem zokI.wr {h : zH} (i : zokI h) {p : Nat} {k x : Int} (hx : zRI x) : zokI (sI h.1 p k x, h.2) := fun q j => by
  show zRI (sI h.1 p k x q j)
  unfold sI
  split
  · exact hx
  · exact i q j
theorem zokI.cp {h : zH} (i : zokI h) {a p : Nat} {sp dp n : Int} : zokI (zcpy h.1 a sp p dp n, h.2) := fun q j => by
  show zRI (zcpy h.1 a sp p dp n q j)
  unfold zcpy
  split
  · exact i _ _
  · exact i q j
theorem zokR.wR {h : zH} (i : zokR h) {p : Nat} {k : Int} {x : Nat} (hp : p < 899) (hx : x ≤ h.2.2.1) : zokR (h.1, sR h.2.1 p k x, h.2.2) := by
  refine ⟨fun q j hq => ?_, fun j hj => ?_⟩
  · show sR h.2.1 p k x q j ≤ h.2.2.1
    unfold sR
    split
    · exact hx
    · exact i.1 q j hq
  · show sR h.2.1 p k x (1000 + j) 0 = 1100 + j
    unfold sR
    rw [if_neg (by omega)]
    exact i.2 j hj
theorem zmap_set {N k : Nat} {f g : Nat → Value} {v : Value} (hk : k < N) (h1 : g k = v) (h2 : ∀ j, j ≠ k → g j = f j) : ((List.range N).map f).set k v = (List.range N).map g := by
  apply List.ext_getElem?
  intro j
  rw [List.getElem?_set]
  by_cases hj : j < N
  · rw [List.getElem?_map, List.getElem?_range hj, List.getElem?_map, List.getElem?_range hj]
    by_cases e : k = j
    · subst e
      rw [if_pos rfl, if_pos (by simpa using hj)]
      simp [h1]
    · rw [if_neg e]
      simp [h2 j (fun z => e z.symm)]
  · have e1 : ((List.range N).map g)[j]? = none := List.getElem?_eq_none (by simp; omega)
    have e2 : ((List.range N).map f)[j]? = none := List.getElem?_eq_none (by simp; omega)
    rw [e1, e2, if_neg (by omega)]
theorem zobj_I {cs : Nat → ClassId} {ad : Nat → Nat} {h : zH} {p ci k : Nat} {x : Int} (e : zkd p = (0, ci)) (hk : k < znF ci) (ht : zft ci k ≠ 2) : (.inr (ci, ((List.range (znF ci)).map (fun k => zfv ad h p ci k)).set k (.int (Int32.ofInt x))) : va_E) = zcell cs ad (sI h.1 p k x, h.2) p := by
  rw [zcell_o e]
  congr 2
  refine zmap_set hk ?_ ?_
  · show zfv ad (sI h.1 p k x, h.2) p ci k = _
    unfold zfv sI
    rw [if_neg ht]
    simp
  · intro j hj
    show zfv ad (sI h.1 p k x, h.2) p ci j = zfv ad h p ci j
    unfold zfv sI
    simp only
    rw [if_neg (show ¬ (True ∧ (j : Int) = (k : Int)) from fun z => hj (by omega))]
theorem zobj_R {cs : Nat → ClassId} {ad : Nat → Nat} {h : zH} {p ci k x : Nat} (e : zkd p = (0, ci)) (hk : k < znF ci) (ht : zft ci k = 2) : (.inr (ci, ((List.range (znF ci)).map (fun k => zfv ad h p ci k)).set k (va_rf (zrfo ad x))) : va_E) = zcell cs ad (h.1, sR h.2.1 p k x, h.2.2) p := by
  rw [zcell_o e]
  congr 2
  refine zmap_set hk ?_ ?_
  · show zfv ad (h.1, sR h.2.1 p k x, h.2.2) p ci k = _
    unfold zfv sR
    rw [if_pos ht]
    simp
  · intro j hj
    show zfv ad (h.1, sR h.2.1 p k x, h.2.2) p ci j = zfv ad h p ci j
    unfold zfv sR
    simp only
    rw [if_neg (show ¬ (True ∧ (j : Int) = (k : Int)) from fun z => hj (by omega))]
section ZS4
variable {p : Program} {l : Launch} {e : Env} {R : Room} {s : State} {mi : MethodId} {args : Array Value} {below : List Frame} {meth : Method} {c : Code} {Q : State → Prop} {D : va_G} {cs : Nat → ClassId} {A : Nat → Prop} {sv : Value} {m n0 nf : Nat} {ad0 : Nat → Nat}
variable {pc len : Nat} {L st : List zV} {h : zH} {q : Nat × List zV × List zV × zH}
theorem zG_np (k : h.2.2.1 ≤ zNP → zG p l e R s mi args below meth c Q D cs A sv m n0 ad0 pc L st h) : zG p l e R s mi args below meth c Q D cs A sv m n0 ad0 pc L st h := fun ad H locs ls hw => k hw.2.2.2.2.2.1 ad H locs ls hw
/-- a step that writes -/
theorem zG_wr {pc' : Nat} {st' : List zV} {h' : zH} (K : zG p l e R s mi args below meth c Q D cs A sv m n0 ad0 pc' L st' h') (hn : h'.2.2.1 = h.2.2.1) (hI : (∀ v ∈ st, v.isSome = true ∧ zvo h.2.2.1 v) → zokI h → zokI h') (hR : zokR h → zokR h') (hro : ∀ ad, zRO A ad sv s s.heap h → zRO A ad sv s s.heap h')
    (hst : (∀ v ∈ st, v.isSome = true ∧ zvo h.2.2.1 v) → ∀ v ∈ st', v.isSome = true ∧ zvo h.2.2.1 v)
    (T : ∀ (ad : Nat → Nat) (H : Heap) (locs : List Loc) (ls : Array Slot) (cells slots : Nat), zWd D cs A s sv H locs ad h → (∀ v ∈ st, v.isSome = true ∧ zvo h.2.2.1 v) → (∀ (H1 : Heap) (locs1 : List Loc), va_P D vwCl (zws cs ad h') H1 → va_D A (zws cs ad h') → va_S A s.heap H1 locs1 → W p l e R s mi args below meth c H1 locs1 cells slots Q (F0 mi pc' ls (st'.map (zcv ad sv)))) → W p l e R s mi args below meth c H locs cells slots Q (F0 mi pc ls (st.map (zcv ad sv)))) : zG p l e R s mi args below meth c Q D cs A sv m n0 ad0 pc L st h := by
  intro ad H locs ls hw hl hL hvo hnl hso hn0 had
  refine T ad H locs ls _ _ hw hso (fun H1 locs1 hP hD hS => ?_)
  have k := K ad H1 locs1 ls ⟨hP, hD, hS, hI hso hw.2.2.2.1, hR hw.2.2.2.2.1, by rw [hn]; exact hw.2.2.2.2.2.1, hro ad hw.2.2.2.2.2.2⟩ hl hL (by rw [hn]; exact hvo) hnl (by rw [hn]; exact hst hso) (by rw [hn]; exact hn0) had
  rw [hn] at k
  exact k
theorem zs_putfield {a : Nat} (cx : zCx p R s mi args meth c D cs A sv m n0 nf) (hd : decode (zb m) pc = .ok (.putfield a, len)) (hlen : ziln (.putfield a) = 0 ∨ ziln (.putfield a) = len) (ha : zac0 m (.putfield a) pc len L st h = .inl q) (K : zG p l e R s mi args below meth c Q D cs A sv m n0 ad0 q.1 q.2.1 q.2.2.1 q.2.2.2) : zG p l e R s mi args below meth c Q D cs A sv m n0 ad0 pc L st h := by
  obtain rfl := zl3 rfl hlen
  have base : ∀ {ci k t x : Nat}, zfl (zo m) a = some (ci, k, t) → zkd x = (0, ci) → x ≤ h.2.2.1 → h.2.2.1 ≤ zNP → ci < 12 ∧ k < znF ci ∧ t = zft ci k ∧ x ≠ 0 ∧ x ≤ 103 ∧ (Cond.fieldLink (zon (zo m)) a (zT ci k).1 (zT ci k).2.1 (zT ci k).2.2.1).before args s = true := by
    intro ci k t x hf hk hxh hn
    obtain ⟨hin, hcase⟩ := zfl_ok hf
    have hNP : zNP = 103 := rfl
    have hx0 : x ≠ 0 := fun z => by rw [z, zkd_0] at hk; cases hk
    have hc12 := zkd_lo x (by omega) (by rw [hk])
    rw [hk] at hc12
    rcases hcase with ⟨rfl, _⟩ | ⟨h1, h2, h3⟩
    · exact absurd hc12 (by decide)
    · refine ⟨h1, h2, h3, hx0, by omega, ?_⟩
      have hlk := cx.2.2.2.2.1 _ hin
      have hne : ci ≠ 20 := by omega
      have e1 : zflC (zo m, a, ci, k, t) = Cond.fieldLink (zon (zo m)) a (zT ci k).1 (zT ci k).2.1 (zT ci k).2.2.1 := by unfold zflC; simp only; rw [if_neg hne]
      rw [← e1]; exact hlk
  simp only [zac0, zput] at ha
  split at ha
  · rename_i ci k t x y s1 hf
    split at ha
    · rename_i hc
      obtain ⟨hk, hxh, ht, hfin⟩ := hc
      cases Sum.inl.inj ha
      refine zG_np (fun hnp => ?_)
      obtain ⟨hci, hkN, htt, hx0, hx1, hlk⟩ := base hf hk hxh hnp
      obtain ⟨hvc, hu⟩ := zcls hci
      obtain ⟨ty, hty, htc⟩ := zty hci
      obtain ⟨f1, f2, f3⟩ := zfn hci hkN
      have ht2 : zft ci k ≠ 2 := by omega
      refine zG_wr K rfl (fun hs i => i.wr (List.forall_mem_cons.mp hs).1.2) (fun r => r) (fun ad r => r.wr (by omega)) (fun hs => (List.forall_mem_cons.mp (List.forall_mem_cons.mp hs).2).2) (fun ad H locs ls cells slots hw hs kk => ?_)
      have he := zws_at cs ad (h := h) (p := y) (by omega) hxh
      rw [zcell_o hk] at he
      have hset : (zws cs ad h).set (y - 1) (ad y, .inr (ci, ((List.range (znF ci)).map (fun k => zfv ad h y ci k)).set k (.int (Int32.ofInt x)))) = zws cs ad (sI h.1 y k x, h.2) := zws_set (h' := (sI h.1 y k x, h.2)) (by omega) hxh rfl (fun q hq => zcell_sI hq) (zobj_I hk hkN ht2)
      have hcv : (vI x :: vR y :: s1).map (zcv ad sv) = .int (Int32.ofInt x) :: .ref (ad y) :: s1.map (zcv ad sv) := by
        show _ :: zcv ad sv (vR y) :: _ = _
        rw [zcv_p hx0 (by omega)]
        rfl
      have hnar : narrow (ty k) (.int (Int32.ofInt x)) = .int (Int32.ofInt x) ∧ fits (ty k) (.int (Int32.ofInt x)) = true := by
        rcases htc k hkN with ⟨_, e1⟩ | ⟨e0, e1⟩ | ⟨e0, _⟩
        · rw [e1]; exact ⟨rfl, rfl⟩
        · rw [e1]
          have hx01 : x = 0 ∨ x = 1 := by omega
          rcases hx01 with rfl | rfl
          · exact ⟨by decide, by decide⟩
          · exact ⟨by decide, by decide⟩
        · exact absurd e0 ht2
      rw [hcv]
      by_cases hfi : zfin ci k = true
      · have hin2 : zin m = true ∧ zo m = ci := hfin.resolve_left (by rw [hfi]; decide)
        refine va_putF cx.1 cx.2.1 cx.2.2.2.2.1 hu ty hty (znm hci) cx.2.2.2.1 cx.2.2.2.2.2.2.2.2.2.2.2.1 hw.1 hw.2.1 hw.2.2.1 (y - 1) he hvc k hkN hlk (fun _ z => z) (by rw [f1]; exact hfi) (cx.2.2.2.2.2.2.1 hin2.1) (by rw [f2, hin2.2, f3]) (hty k hkN) hnar.1 hnar.2 (by simpa using hkN) hd (fun H1 locs1 hP hD hS => ?_)
        rw [hset] at hP hD
        exact kk H1 locs1 hP hD hS
      · refine va_put cx.1 cx.2.1 cx.2.2.2.2.1 hu ty hty (znm hci) cx.2.2.2.1 cx.2.2.2.2.2.2.2.2.2.2.2.1 hw.1 hw.2.1 hw.2.2.1 (y - 1) he hvc k hkN hlk (fun _ z => z) (by rw [f1]; simpa using hfi) (hty k hkN) hnar.1 hnar.2 (by simpa using hkN) hd (fun H1 locs1 hP hD hS => ?_)
        rw [hset] at hP hD
        exact kk H1 locs1 hP hD hS
    · cases ha
  · rename_i ci k t x y s1 hf
    split at ha
    · rename_i hc
      obtain ⟨hk, hxh, ht, hq, hfin⟩ := hc
      cases Sum.inl.inj ha
      refine zG_np (fun hnp => ?_)
      have hNP : zNP = 103 := rfl
      obtain ⟨hci, hkN, htt, hx0, hx1, hlk⟩ := base hf hk hxh hnp
      obtain ⟨hvc, hu⟩ := zcls hci
      obtain ⟨ty, hty, htc⟩ := zty hci
      obtain ⟨f1, f2, f3⟩ := zfn hci hkN
      have ht2 : zft ci k = 2 := by omega
      refine zG_wr K rfl (fun hs i => i) (fun r => r.wR (by omega) hq) (fun ad r => r.wR (by omega)) (fun hs => (List.forall_mem_cons.mp (List.forall_mem_cons.mp hs).2).2) (fun ad H locs ls cells slots hw hs kk => ?_)
      have he := zws_at cs ad (h := h) (p := y) (by omega) hxh
      rw [zcell_o hk] at he
      have hset : (zws cs ad h).set (y - 1) (ad y, .inr (ci, ((List.range (znF ci)).map (fun k => zfv ad h y ci k)).set k (va_rf (zrfo ad x)))) = zws cs ad (h.1, sR h.2.1 y k x, h.2.2) := zws_set (h' := (h.1, sR h.2.1 y k x, h.2.2)) (by omega) hxh rfl (fun q hq => zcell_sR hq) (zobj_R hk hkN ht2)
      have hcv : (vR x :: vR y :: s1).map (zcv ad sv) = va_rf (zrfo ad x) :: .ref (ad y) :: s1.map (zcv ad sv) := by
        show zcv ad sv (vR x) :: zcv ad sv (vR y) :: _ = _
        rw [zcv_p hx0 (by omega), zcv_rf (by omega)]
      have hnar : narrow (ty k) (va_rf (zrfo ad x)) = va_rf (zrfo ad x) ∧ fits (ty k) (va_rf (zrfo ad x)) = true := by
        rcases htc k hkN with ⟨e0, _⟩ | ⟨e0, _⟩ | ⟨_, ⟨n, e1⟩ | ⟨n, e1⟩⟩
        · omega
        · omega
        · rw [e1]
          cases zrfo ad x <;> exact ⟨rfl, rfl⟩
        · rw [e1]
          cases zrfo ad x <;> exact ⟨rfl, rfl⟩
      rw [hcv]
      by_cases hfi : zfin ci k = true
      · have hin2 : zin m = true ∧ zo m = ci := hfin.resolve_left (by rw [hfi]; decide)
        refine va_putF cx.1 cx.2.1 cx.2.2.2.2.1 hu ty hty (znm hci) cx.2.2.2.1 cx.2.2.2.2.2.2.2.2.2.2.2.1 hw.1 hw.2.1 hw.2.2.1 (y - 1) he hvc k hkN hlk (fun _ z => z) (by rw [f1]; exact hfi) (cx.2.2.2.2.2.2.1 hin2.1) (by rw [f2, hin2.2, f3]) (hty k hkN) hnar.1 hnar.2 (by simpa using hkN) hd (fun H1 locs1 hP hD hS => ?_)
        rw [hset] at hP hD
        exact kk H1 locs1 hP hD hS
      · refine va_put cx.1 cx.2.1 cx.2.2.2.2.1 hu ty hty (znm hci) cx.2.2.2.1 cx.2.2.2.2.2.2.2.2.2.2.2.1 hw.1 hw.2.1 hw.2.2.1 (y - 1) he hvc k hkN hlk (fun _ z => z) (by rw [f1]; simpa using hfi) (hty k hkN) hnar.1 hnar.2 (by simpa using hkN) hd (fun H1 locs1 hP hD hS => ?_)
        rw [hset] at hP hD
        exact kk H1 locs1 hP hD hS
    · cases ha
  · cases ha
theorem zarr_I {cs : Nat → ClassId} {ad : Nat → Nat} {h : zH} {x : Nat} {i y : Int} (e0 : (zkd x).1 ≠ 0) (e : (zkd x).1 ≤ 3) (ri : zRI i) (h0 : 0 ≤ i) {z : Int32} (hz : z = Int32.ofInt y) : (.inl (cs (zkd x).1, (zkd x).2, .inl (upd (fun j => Int32.ofInt (h.1 x j)) (Int32.ofInt i).toNatClampNeg z)) : va_E) = zcell cs ad (sI h.1 x i y, h.2) x := by
  rw [zcell_i e0 e]
  congr 4
  funext j
  subst hz
  show (if j = (Int32.ofInt i).toNatClampNeg then Int32.ofInt y else Int32.ofInt (h.1 x j)) = Int32.ofInt (sI h.1 x i y x j)
  rw [zi_nat ri h0]
  unfold sI
  by_cases hj : j = i.toNat
  · rw [if_pos hj, if_pos ⟨rfl, by omega⟩]
  · rw [if_neg hj, if_neg (by omega)]
theorem zs_iastore (cx : zCx p R s mi args meth c D cs A sv m n0 nf) (hd : decode (zb m) pc = .ok (.iastore, len)) (hlen : ziln .iastore = 0 ∨ ziln .iastore = len) (ha : zac0 m .iastore pc len L st h = .inl q) (K : zG p l e R s mi args below meth c Q D cs A sv m n0 ad0 q.1 q.2.1 q.2.2.1 q.2.2.2) : zG p l e R s mi args below meth c Q D cs A sv m n0 ad0 pc L st h := by
  obtain rfl := zl1 rfl hlen
  simp only [zac0, zast] at ha
  split at ha
  · rename_i y i x s1
    split at ha
    · rename_i hc
      obtain ⟨hk, hxh, hi0, hi1⟩ := hc
      cases Sum.inl.inj ha
      refine zG_np (fun hnp => ?_)
      have hNP : zNP = 103 := rfl
      have hx0 : x ≠ 0 := fun z => by rw [z, zkd_0] at hk; cases hk
      refine zG_wr K rfl (fun hs i => i.wr (List.forall_mem_cons.mp hs).1.2) (fun r => r) (fun ad r => r.wr (by omega)) (fun hs => (List.forall_mem_cons.mp (List.forall_mem_cons.mp (List.forall_mem_cons.mp hs).2).2).2) (fun ad H locs ls cells slots hw hs kk => ?_)
      have ri : zRI i := (List.forall_mem_cons.mp (List.forall_mem_cons.mp hs).2).1.2
      have he := zws_at cs ad (h := h) (p := x) (by omega) hxh
      rw [zcell_i (by omega) (by omega)] at he
      have hset := zws_set (cs := cs) (ad := ad) (h := h) (h' := (sI h.1 x i y, h.2)) (p := x) (by omega) hxh rfl (fun q hq => zcell_sI hq) (zarr_I (cs := cs) (ad := ad) (h := h) (x := x) (i := i) (y := y) (by omega) (by omega) ri hi0 rfl)
      have hcv : (vI y :: vI i :: vR x :: s1).map (zcv ad sv) = .int (Int32.ofInt y) :: .int (Int32.ofInt i) :: .ref (ad x) :: s1.map (zcv ad sv) := by
        show _ :: _ :: zcv ad sv (vR x) :: _ = _
        rw [zcv_p hx0 (by omega)]
        rfl
      rw [hcv]
      refine va_iast cx.1 cx.2.1 cx.2.2.2.2.2.2.2.2.2.2.2.1 hw.1 hw.2.1 hw.2.2.1 (x - 1) 0 he (by rw [hk]; rfl) (zi_in ri hi0 hi1) hd (fun H1 locs1 hP hD hS => ?_)
      rw [hset] at hP hD
      exact kk H1 locs1 hP hD hS
    · cases ha
  · cases ha
theorem wb_RI (a : Int) : zRI (wb a) := zt_RI _
theorem zs_bastore (cx : zCx p R s mi args meth c D cs A sv m n0 nf) (hd : decode (zb m) pc = .ok (.bastore, len)) (hlen : ziln .bastore = 0 ∨ ziln .bastore = len) (ha : zac0 m .bastore pc len L st h = .inl q) (K : zG p l e R s mi args below meth c Q D cs A sv m n0 ad0 q.1 q.2.1 q.2.2.1 q.2.2.2) : zG p l e R s mi args below meth c Q D cs A sv m n0 ad0 pc L st h := by
  obtain rfl := zl1 rfl hlen
  simp only [zac0, zbast] at ha
  split at ha
  · rename_i y i x s1
    split at ha
    · rename_i hc
      obtain ⟨hxh, hi0, hi1⟩ := hc
      refine zG_np (fun hnp => ?_)
      have hNP : zNP = 103 := rfl
      by_cases k2 : (zkd x).1 = 2
      · rw [if_pos k2] at ha
        cases Sum.inl.inj ha
        have hx0 : x ≠ 0 := fun z => by rw [z, zkd_0] at k2; cases k2
        refine zG_wr K rfl (fun hs i => i.wr (wb_RI _)) (fun r => r) (fun ad r => r.wr (by omega)) (fun hs => (List.forall_mem_cons.mp (List.forall_mem_cons.mp (List.forall_mem_cons.mp hs).2).2).2) (fun ad H locs ls cells slots hw hs kk => ?_)
        have ri : zRI i := (List.forall_mem_cons.mp (List.forall_mem_cons.mp hs).2).1.2
        have he := zws_at cs ad (h := h) (p := x) (by omega) hxh
        rw [zcell_i (by omega) (by omega)] at he
        have hset := zws_set (cs := cs) (ad := ad) (h := h) (h' := (sI h.1 x i (wb y), h.2)) (p := x) (by omega) hxh rfl (fun q hq => zcell_sI hq) (zarr_I (cs := cs) (ad := ad) (h := h) (x := x) (i := i) (y := wb y) (z := vp_nar .byte (Int32.ofInt y)) (by omega) (by omega) ri hi0 (by rw [vp_nar_byte]; unfold wb; rw [Int32.ofInt_toInt]))
        have hcv : (vI y :: vI i :: vR x :: s1).map (zcv ad sv) = .int (Int32.ofInt y) :: .int (Int32.ofInt i) :: .ref (ad x) :: s1.map (zcv ad sv) := by
          show _ :: _ :: zcv ad sv (vR x) :: _ = _
          rw [zcv_p hx0 (by omega)]
          rfl
        rw [hcv]
        refine va_bast cx.1 cx.2.1 cx.2.2.2.2.2.2.2.2.2.2.2.1 hw.1 hw.2.1 hw.2.2.1 (x - 1) 1 he (by rw [k2]; rfl) (zi_in ri hi0 hi1) hd (fun H1 locs1 hP hD hS => ?_)
        rw [hset] at hP hD
        exact kk H1 locs1 hP hD hS
      · rw [if_neg k2] at ha
        split at ha
        · rename_i hc3
          cases Sum.inl.inj ha
          have hx0 : x ≠ 0 := fun z => by rw [z, zkd_0] at hc3; exact absurd hc3.1 (by decide)
          have hy : zRI y := by rcases hc3.2 with rfl | rfl <;> exact ⟨by omega, by omega⟩
          refine zG_wr K rfl (fun hs i => i.wr hy) (fun r => r) (fun ad r => r.wr (by omega)) (fun hs => (List.forall_mem_cons.mp (List.forall_mem_cons.mp (List.forall_mem_cons.mp hs).2).2).2) (fun ad H locs ls cells slots hw hs kk => ?_)
          have ri : zRI i := (List.forall_mem_cons.mp (List.forall_mem_cons.mp hs).2).1.2
          have he := zws_at cs ad (h := h) (p := x) (by omega) hxh
          rw [zcell_i (by omega) (by omega)] at he
          have hset := zws_set (cs := cs) (ad := ad) (h := h) (h' := (sI h.1 x i y, h.2)) (p := x) (by omega) hxh rfl (fun q hq => zcell_sI hq) (zarr_I (cs := cs) (ad := ad) (h := h) (x := x) (i := i) (y := y) (z := vp_nar .boolean (Int32.ofInt y)) (by omega) (by omega) ri hi0 (by rcases hc3.2 with rfl | rfl <;> decide))
          have hcv : (vI y :: vI i :: vR x :: s1).map (zcv ad sv) = .int (Int32.ofInt y) :: .int (Int32.ofInt i) :: .ref (ad x) :: s1.map (zcv ad sv) := by
            show _ :: _ :: zcv ad sv (vR x) :: _ = _
            rw [zcv_p hx0 (by omega)]
            rfl
          rw [hcv]
          refine va_zast cx.1 cx.2.1 cx.2.2.2.2.2.2.2.2.2.2.2.1 hw.1 hw.2.1 hw.2.2.1 (x - 1) 2 he (by rw [hc3.1]; rfl) (zi_in ri hi0 hi1) hd (fun H1 locs1 hP hD hS => ?_)
          rw [hset] at hP hD
          exact kk H1 locs1 hP hD hS
        · cases ha
    · cases ha
  · cases ha
theorem zs_lastore (cx : zCx p R s mi args meth c D cs A sv m n0 nf) (hd : decode (zb m) pc = .ok (.lastore, len)) (hlen : ziln .lastore = 0 ∨ ziln .lastore = len) (ha : zac0 m .lastore pc len L st h = .inl q) (K : zG p l e R s mi args below meth c Q D cs A sv m n0 ad0 q.1 q.2.1 q.2.2.1 q.2.2.2) : zG p l e R s mi args below meth c Q D cs A sv m n0 ad0 pc L st h := by
  obtain rfl := zl1 rfl hlen
  simp only [zac0, zlast] at ha
  split at ha
  · rename_i y i x s1
    split at ha
    · rename_i hc
      obtain ⟨hk, hxh, hi0, hi1, hy1, hy2⟩ := hc
      cases Sum.inl.inj ha
      refine zG_np (fun hnp => ?_)
      have hNP : zNP = 103 := rfl
      have hx0 : x ≠ 0 := fun z => by rw [z, zkd_0] at hk; cases hk
      refine zG_wr K rfl (fun hs i => i.wr ⟨hy1, hy2⟩) (fun r => r) (fun ad r => r.wr (by omega)) (fun hs => (List.forall_mem_cons.mp (List.forall_mem_cons.mp (List.forall_mem_cons.mp hs).2).2).2) (fun ad H locs ls cells slots hw hs kk => ?_)
      have ri : zRI i := (List.forall_mem_cons.mp (List.forall_mem_cons.mp hs).2).1.2
      have he := zws_at cs ad (h := h) (p := x) (by omega) hxh
      rw [zcell_l hk] at he
      have hcell : (.inl (cs 4, (zkd x).2, .inr (.inl (vp_updL (fun j => Int64.ofInt (h.1 x j)) (Int32.ofInt i).toNatClampNeg (Int64.ofInt y)))) : va_E) = zcell cs ad (sI h.1 x i y, h.2) x := by
        rw [zcell_l hk]
        congr 5
        funext j
        show (if j = (Int32.ofInt i).toNatClampNeg then Int64.ofInt y else Int64.ofInt (h.1 x j)) = Int64.ofInt (sI h.1 x i y x j)
        rw [zi_nat ri hi0]
        unfold sI
        by_cases hj : j = i.toNat
        · rw [if_pos hj, if_pos ⟨rfl, by omega⟩]
        · rw [if_neg hj, if_neg (by omega)]
      have hset := zws_set (cs := cs) (ad := ad) (h := h) (h' := (sI h.1 x i y, h.2)) (p := x) (by omega) hxh rfl (fun q hq => zcell_sI hq) hcell
      have hcv : (vL y :: vI i :: vR x :: s1).map (zcv ad sv) = .long (Int64.ofInt y) :: .int (Int32.ofInt i) :: .ref (ad x) :: s1.map (zcv ad sv) := by
        show _ :: _ :: zcv ad sv (vR x) :: _ = _
        rw [zcv_p hx0 (by omega)]
        rfl
      rw [hcv]
      refine va_last cx.1 cx.2.1 cx.2.2.2.2.2.2.2.2.2.2.2.1 hw.1 hw.2.1 hw.2.2.1 (x - 1) 3 he rfl (zi_in ri hi0 hi1) hd (fun H1 locs1 hP hD hS => ?_)
      rw [hset] at hP hD
      exact kk H1 locs1 hP hD hS
    · cases ha
  · cases ha
theorem zs_aastore (cx : zCx p R s mi args meth c D cs A sv m n0 nf) (hd : decode (zb m) pc = .ok (.aastore, len)) (hlen : ziln .aastore = 0 ∨ ziln .aastore = len) (ha : zac0 m .aastore pc len L st h = .inl q) (K : zG p l e R s mi args below meth c Q D cs A sv m n0 ad0 q.1 q.2.1 q.2.2.1 q.2.2.2) : zG p l e R s mi args below meth c Q D cs A sv m n0 ad0 pc L st h := by
  obtain rfl := zl1 rfl hlen
  simp only [zac0, zaast] at ha
  split at ha
  · rename_i y i x s1
    split at ha
    · rename_i hc
      obtain ⟨hk, hyh, hxh, hi0, hi1⟩ := hc
      cases Sum.inl.inj ha
      refine zG_np (fun hnp => ?_)
      have hNP : zNP = 103 := rfl
      have hx0 : x ≠ 0 := fun z => by rw [z, zkd_0] at hk; rcases hk with ⟨w, _⟩ | ⟨w, _⟩ <;> cases w
      have hy0 : y ≠ 0 := fun z => by rw [z, zkd_0] at hk; rcases hk with ⟨_, w⟩ | ⟨_, w⟩ <;> cases w
      refine zG_wr K rfl (fun hs i => i) (fun r => r.wR (by omega) hyh) (fun ad r => r.wR (by omega)) (fun hs => (List.forall_mem_cons.mp (List.forall_mem_cons.mp (List.forall_mem_cons.mp hs).2).2).2) (fun ad H locs ls cells slots hw hs kk => ?_)
      have ri : zRI i := (List.forall_mem_cons.mp (List.forall_mem_cons.mp hs).2).1.2
      have he := zws_at cs ad (h := h) (p := x) (by omega) hxh
      rw [zcell_r (by omega)] at he
      have hey := zws_at cs ad (h := h) (p := y) (by omega) hyh
      have hcell : (.inl (cs (zkd x).1, (zkd x).2, .inr (.inr (.inr (.inr (va_up (fun j : Nat => zrfo ad (h.2.1 x j)) (Int32.ofInt i).toNatClampNeg (some (ad y))))))) : va_E) = zcell cs ad (h.1, sR h.2.1 x i y, h.2.2) x := by
        rw [zcell_r (by omega)]
        congr 7
        funext j
        show (if j = (Int32.ofInt i).toNatClampNeg then some (ad y) else zrfo ad (h.2.1 x j)) = zrfo ad (sR h.2.1 x i y x j)
        rw [zi_nat ri hi0]
        unfold sR
        by_cases hj : j = i.toNat
        · rw [if_pos hj, if_pos ⟨rfl, by omega⟩]
          unfold zrfo
          rw [if_neg hy0]
        · rw [if_neg hj, if_neg (by omega)]
      have hset := zws_set (cs := cs) (ad := ad) (h := h) (h' := (h.1, sR h.2.1 x i y, h.2.2)) (p := x) (by omega) hxh rfl (fun q hq => zcell_sR hq) hcell
      have hcv : (vR y :: vI i :: vR x :: s1).map (zcv ad sv) = .ref (ad y) :: .int (Int32.ofInt i) :: .ref (ad x) :: s1.map (zcv ad sv) := by
        show zcv ad sv (vR y) :: _ :: zcv ad sv (vR x) :: _ = _
        rw [zcv_p hx0 (by omega), zcv_p hy0 (by omega)]
        rfl
      rw [hcv]
      rcases hk with ⟨hk, hky⟩ | ⟨hk, hky⟩
      · rw [zcell_o hky] at hey
        refine va_astq cx.1 cx.2.1 cx.2.2.2.2.2.2.2.2.2.2.2.1 hw.1 hw.2.1 hw.2.2.1 (x - 1) 4 (y - 1) 4 (r := (RX4, TX4, 10)) he (by rw [hk]; rfl) hey rfl (zi_in ri hi0 hi1) hd (fun H1 locs1 hP hD hS => ?_)
        rw [hset] at hP hD
        exact kk H1 locs1 hP hD hS
      · rw [zcell_o hky] at hey
        refine va_astq cx.1 cx.2.1 cx.2.2.2.2.2.2.2.2.2.2.2.1 hw.1 hw.2.1 hw.2.2.1 (x - 1) 5 (y - 1) 8 (r := (RX8, TX8, 3)) he (by rw [hk]; rfl) hey rfl (zi_in ri hi0 hi1) hd (fun H1 locs1 hP hD hS => ?_)
        rw [hset] at hP hD
        exact kk H1 locs1 hP hD hS
    · cases ha
  · cases ha
end ZS4
